/-! own rows: a contract of some blocks of cells, seen over all blocks -/
abbrev jzB3 : Type := Bool × va_W × va_W
def jzOl : List jzB3 → va_W
  | [] => []
  | (_, o, _) :: bs => o ++ jzOl bs
def jzNw : List jzB3 → va_W
  | [] => []
  | (_, _, w) :: bs => w ++ jzNw bs
def jzSo : List jzB3 → va_W
  | [] => []
  | (true, o, _) :: bs => o ++ jzSo bs
  | (false, _, _) :: bs => jzSo bs
def jzSn : List jzB3 → va_W
  | [] => []
  | (true, _, w) :: bs => w ++ jzSn bs
  | (false, _, _) :: bs => jzSn bs
def jzRo : List jzB3 → va_W
  | [] => []
  | (true, _, _) :: bs => jzRo bs
  | (false, o, _) :: bs => o ++ jzRo bs
/-- blocks that the contract doesn't name are as they were -/
def jzKp : List jzB3 → Prop
  | [] => True
  | (true, _, _) :: bs => jzKp bs
  | (false, o, w) :: bs => w = o ∧ jzKp bs
theorem jzB_perm : ∀ bs, List.Perm (jzOl bs) (jzSo bs ++ jzRo bs)
  | [] => List.Perm.refl _
  | (true, o, w) :: bs => by
    show List.Perm (o ++ jzOl bs) ((o ++ jzSo bs) ++ jzRo bs)
    rw [List.append_assoc]
    exact List.Perm.append_left o (jzB_perm bs)
  | (false, o, w) :: bs => by
    show List.Perm (o ++ jzOl bs) (jzSo bs ++ (o ++ jzRo bs))
    exact (List.Perm.append_left o (jzB_perm bs)).trans (List.perm_append_comm_assoc o (jzSo bs) (jzRo bs))
theorem jzB_new : ∀ bs, jzKp bs → ∀ q, q ∈ jzNw bs → q ∈ jzSn bs ∨ q ∈ jzRo bs
  | [], _, q, h => absurd h List.not_mem_nil
  | (true, o, w) :: bs, hk, q, h => by
    have h : q ∈ w ++ jzNw bs := h
    show q ∈ w ++ jzSn bs ∨ q ∈ jzRo bs
    rw [List.mem_append] at h ⊢
    rcases h with h | h
    · exact Or.inl (Or.inl h)
    · rcases jzB_new bs hk q h with z | z
      · exact Or.inl (Or.inr z)
      · exact Or.inr z
  | (false, o, w) :: bs, hk, q, h => by
    have h : q ∈ w ++ jzNw bs := h
    show q ∈ jzSn bs ∨ q ∈ o ++ jzRo bs
    rw [List.mem_append] at h ⊢
    rcases h with h | h
    · exact Or.inr (Or.inl (hk.1 ▸ h))
    · rcases jzB_new bs hk.2 q h with z | z
      · exact Or.inl z
      · exact Or.inr (Or.inr z)
theorem jz_Pmem {D : va_G} {ws : va_W} {H : Heap} : va_P D vwCl ws H ↔ ∀ q, q ∈ ws → va_at D vwCl q H := ⟨fun h q hq => by
  obtain ⟨i, hi⟩ := List.getElem?_of_mem hq
  exact h i q hi, fun h k q hk => h q (List.mem_of_getElem? hk)⟩
theorem jz_Amem {ws : va_W} {sz q : Nat} : va_A ws sz q ↔ (∃ e, (q, e) ∈ ws) ∨ sz ≤ q := by
  constructor
  · rintro (⟨k, e, h⟩ | h)
    · exact Or.inl ⟨e, List.mem_of_getElem? h⟩
    · exact Or.inr h
  · rintro (⟨e, h⟩ | h)
    · obtain ⟨i, hi⟩ := List.getElem?_of_mem h
      exact Or.inl ⟨i, e, hi⟩
    · exact Or.inr h
theorem jz_Dnd {A : Nat → Prop} {ws : va_W} : va_D A ws ↔ (ws.map Prod.fst).Nodup ∧ ∀ q, q ∈ ws → A q.1 := by
  constructor
  · intro h
    refine ⟨?_, fun q hq => ?_⟩
    · show List.Pairwise (fun a b => a ≠ b) (ws.map Prod.fst)
      rw [List.pairwise_map, List.pairwise_iff_getElem]
      intro i j hi hj hij z
      have := h.1 i j _ _ (List.getElem?_eq_getElem hi) (List.getElem?_eq_getElem hj) z
      omega
    · obtain ⟨i, hi⟩ := List.getElem?_of_mem hq
      exact h.2 i q hi
  · rintro ⟨h1, h2⟩
    refine ⟨fun i j p q hi hj e => ?_, fun k q hk => h2 q (List.mem_of_getElem? hk)⟩
    have h1 : List.Pairwise (fun a b => a ≠ b) (ws.map Prod.fst) := h1
    rw [List.pairwise_map, List.pairwise_iff_getElem] at h1
    obtain ⟨hi1, hi2⟩ := List.getElem?_eq_some_iff.mp hi
    obtain ⟨hj1, hj2⟩ := List.getElem?_eq_some_iff.mp hj
    rcases Nat.lt_trichotomy i j with c | c | c
    · exact absurd (by rw [hi2, hj2]; exact e) (h1 i j hi1 hj1 c)
    · exact c
    · exact absurd (by rw [hi2, hj2]; exact e.symm) (h1 j i hj1 hi1 c)
/-- the world behind a call that wrote some blocks -/
theorem jzB_join {D : va_G} {bs : List jzB3} {H H1 : Heap} (hP : va_P D vwCl (jzOl bs) H) (hD : va_D (fun _ => True) (jzOl bs)) (hk : jzKp bs) (hF : ∀ q : Nat, q < H.size → ¬ va_A (jzSo bs) H.size q → H1[q]? = H[q]?) (hB : va_P D vwCl (jzSn bs) H1) : va_P D vwCl (jzNw bs) H1 := by
  rw [jz_Pmem] at hP hB ⊢
  intro q hq
  rcases jzB_new bs hk q hq with h | h
  · exact hB q h
  · have hm : q ∈ jzOl bs := (jzB_perm bs).mem_iff.mpr (List.mem_append_right _ h)
    have hat := hP q hm
    refine hat.kept (hF q.1 hat.lt ?_)
    rw [jz_Amem]
    rintro (⟨e, z⟩ | z)
    · have nd := ((jz_Dnd.mp hD).1)
      have nd2 : ((jzSo bs ++ jzRo bs).map Prod.fst).Nodup := ((jzB_perm bs).map Prod.fst).nodup nd
      rw [List.map_append, List.nodup_append] at nd2
      exact nd2.2.2 q.1 (List.mem_map.mpr ⟨(q.1, e), z, rfl⟩) q.1 (List.mem_map.mpr ⟨q, h, rfl⟩) rfl
    · have := hat.lt
      omega
theorem jzB_subD {bs : List jzB3} {A : Nat → Prop} (hD : va_D A (jzOl bs)) : va_D A (jzSo bs) := by
  rw [jz_Dnd] at hD ⊢
  have nd2 : ((jzSo bs ++ jzRo bs).map Prod.fst).Nodup := ((jzB_perm bs).map Prod.fst).nodup hD.1
  rw [List.map_append, List.nodup_append] at nd2
  exact ⟨nd2.1, fun q hq => hD.2 q ((jzB_perm bs).mem_iff.mpr (List.mem_append_left _ hq))⟩
theorem jzB_subP {D : va_G} {bs : List jzB3} {H : Heap} (hP : va_P D vwCl (jzOl bs) H) : va_P D vwCl (jzSo bs) H := by
  rw [jz_Pmem] at hP ⊢
  exact fun q hq => hP q ((jzB_perm bs).mem_iff.mpr (List.mem_append_left _ hq))
theorem jzB_subA {bs : List jzB3} {sz q : Nat} (h : va_A (jzSo bs) sz q) : va_A (jzOl bs) sz q := by
  rw [jz_Amem] at h ⊢
  rcases h with ⟨e, h⟩ | h
  · exact Or.inl ⟨e, (jzB_perm bs).mem_iff.mpr (List.mem_append_left _ h)⟩
  · exact Or.inr h
section JZM
variable {l : Launch} {y : MethodName} {wy : List Cond} {rm : Room} {D : va_G} {tc tys : List (ClassId × FieldType)} {wc wc' X : va_W} {av : List Value} {sz : Nat} {post : Int32 → Prop} {postl : Int64 → Prop} {U : Type} {XX : U → va_W}
theorem jz_blkI {post' : Int32 → U → Prop} (u : U) (bs : List jzB3) (hM : jxWi l y wy rm D tc wc av sz post wc') (hX : X = jzOl bs) (hc : wc = jzSo bs) (hc' : wc' = jzSn bs) (hXX : XX u = jzNw bs) (hkp : jzKp bs) (hKs : ∀ s, va_K D vwCl tys s → va_K D vwCl tc s) (hp : ∀ r, post r → post' r u) : jzCi l y wy rm D tys X av sz XX post' 0 0 := by
  subst hX hc hc'
  intro p e ha hc hk s m args below hf happ hPc hK0
  obtain ⟨hargs, hN, hsz, hP, hK, hD⟩ := hPc
  subst hsz
  obtain ⟨n, o, h1, h2, h3, ⟨⟨r, -, ho, hpost, hB⟩, hz, hF⟩, L, hFr, hL⟩ := hM p e ha hc hk s m args below hf happ ⟨hargs, hN, rfl, jzB_subP hP, hKs s hK, jzB_subD hD⟩ hK0
  refine ⟨n, o, h1, h2, h3, ⟨⟨r, u, ho, hp r hpost, ?_⟩, hz, fun q hq hA => hF q hq (fun z => hA (jzB_subA z))⟩, L, hFr, fun q hq => jzB_subA (hL q hq)⟩
  show va_P D vwCl (XX u) _
  rw [hXX]
  exact jzB_join hP hD hkp hF hB
theorem jz_blkL {post' : Int64 → U → Prop} (u : U) (bs : List jzB3) (hM : jxWl l y wy rm D tc wc av sz postl wc') (hX : X = jzOl bs) (hc : wc = jzSo bs) (hc' : wc' = jzSn bs) (hXX : XX u = jzNw bs) (hkp : jzKp bs) (hKs : ∀ s, va_K D vwCl tys s → va_K D vwCl tc s) (hp : ∀ r, postl r → post' r u) : jzCl l y wy rm D tys X av sz XX post' 0 0 := by
  subst hX hc hc'
  intro p e ha hc hk s m args below hf happ hPc hK0
  obtain ⟨hargs, hN, hsz, hP, hK, hD⟩ := hPc
  subst hsz
  obtain ⟨n, o, h1, h2, h3, ⟨⟨r, -, ho, hpost, hB⟩, hz, hF⟩, L, hFr, hL⟩ := hM p e ha hc hk s m args below hf happ ⟨hargs, hN, rfl, jzB_subP hP, hKs s hK, jzB_subD hD⟩ hK0
  refine ⟨n, o, h1, h2, h3, ⟨⟨r, u, ho, hp r hpost, ?_⟩, hz, fun q hq hA => hF q hq (fun z => hA (jzB_subA z))⟩, L, hFr, fun q hq => jzB_subA (hL q hq)⟩
  show va_P D vwCl (XX u) _
  rw [hXX]
  exact jzB_join hP hD hkp hF hB
end JZM
