/-! own rows: canonical cells; rows of long numbers; what Ways, Forest, Palette and Drawing make -/
theorem jx_arr_cong {c : ClassId} {N : Nat} {f g : Nat → Value} (h : ∀ j, j < N → f j = g j) : arrV c N f = arrV c N g := by
  have e : (fun j : Fin N => f j.val) = fun j : Fin N => g j.val := funext fun j => h j.val j.isLt
  unfold arrV
  rw [e]
theorem jx_cellI {c : ClassId} {N : Nat} {f g : Nat → Int32} (h : ∀ j, j < N → f j = g j) : vp_cell c (N, .inl f) = vp_cell c (N, .inl g) := by
  rw [vp_cell_i, vp_cell_i]
  exact jx_arr_cong (fun j hj => by rw [h j hj])
theorem jx_cellL {c : ClassId} {N : Nat} {f g : Nat → Int64} (h : ∀ j, j < N → f j = g j) : vp_cell c (N, .inr (.inl f)) = vp_cell c (N, .inr (.inl g)) := by
  rw [vp_cell_l, vp_cell_l]
  exact jx_arr_cong (fun j hj => by rw [h j hj])
/-- an array's cell written another way -/
theorem jx_canonS {D : va_G} {cl : List vw_C} {ws : va_W} {H : Heap} {k a : Nat} {c : ClassId} {x x' : vp_A} (hP : va_P D cl ws H) (hk : ws[k]? = some (a, .inl (c, x))) (e : vp_cell c x = vp_cell c x') : va_P D cl (ws.set k (a, .inl (c, x'))) H := by
  intro j q hj
  rw [List.getElem?_set] at hj
  by_cases h : k = j
  · subst h
    rw [if_pos rfl] at hj
    have hl : k < ws.length := (List.getElem?_eq_some_iff.mp hk).1
    rw [if_pos hl] at hj
    have h1 : va_at D cl (a, .inl (c, x)) H := hP k _ hk
    cases hj
    show H[a]? = some (vp_cell c x')
    rw [← e]
    exact h1
  · rw [if_neg h] at hj
    exact hP j q hj
/-- rows at the world's end, written another way -/
theorem jx_canonR {D : va_G} {cl : List vw_C} {X : va_W} {H : Heap} {N : Nat} {r : Nat → Nat} {c : ClassId} {f f' : Nat → vp_A} (hP : va_P D cl (X ++ (List.range N).map (fun i => (r i, .inl (c, f i)))) H) (e : ∀ i, i < N → vp_cell c (f i) = vp_cell c (f' i)) : va_P D cl (X ++ (List.range N).map (fun i => (r i, .inl (c, f' i)))) H := by
  intro j q hj
  by_cases h : j < X.length
  · rw [List.getElem?_append_left h] at hj
    exact hP j q (by rw [List.getElem?_append_left h]; exact hj)
  · obtain ⟨d, rfl⟩ := Nat.exists_eq_add_of_le (Nat.not_lt.mp h)
    by_cases hd : d < N
    · have h1 := hP (X.length + d) _ (jx_rows_get (f := fun i => (r i, .inl (c, f i))) hd)
      rw [jx_rows_get (f := fun i => (r i, .inl (c, f' i))) hd] at hj
      cases hj
      show H[r d]? = some (vp_cell c (f' d))
      rw [← e d hd]
      exact h1
    · rw [List.getElem?_append_right (by omega), Nat.add_sub_cancel_left, List.getElem?_map, List.getElem?_eq_none (by simp; omega)] at hj
      cases hj
section JXL
variable {p : Program} {l : Launch} {e : Env} {R : Room} {s : State} {m : MethodId} {args : Array Value} {below : List Frame} {meth : Method} {c : Code} {H H0 : Heap} {locs : List Loc} {cells slots : Nat} {Q : State → Prop} {A : Nat → Prop}
variable {cc : ByteArray} {pc : Nat} {ls : Array Slot} {rest : List Value} {D : va_G} {tys : List (ClassId × FieldType)} {ws X : va_W} {cA : ClassId} {N K : Nat} {r : Nat → Nat}
theorem jx_lval {x z : Int64} (h : x = z) (k : W p l e R s m args below meth c H locs cells slots Q (F0 m pc ls (.long z :: rest))) : W p l e R s m args below meth c H locs cells slots Q (F0 m pc ls (.long x :: rest)) := h ▸ k
theorem jx_lald2 (hexec : p.tables.exec = Jvm.exec) (hb : c.code = cc) (hK : va_K D vwCl tys s) {F : Nat → Nat → Int64} (hP : va_P D vwCl (X ++ jRL cA N K r F) H) (t0 : Nat) (ht : tys[t0]? = some (cA, .long)) {i j : Nat} (hi : i < N) (hj : j < K) (hKb : K < 2 ^ 31) (hdg : decode cc pc = .ok (.laload, 1))
    (kk : W p l e R s m args below meth c H locs cells slots Q (F0 m (pc + 1) ls (.long (F i j) :: rest))) : W p l e R s m args below meth c H locs cells slots Q (F0 m pc ls (.int (nI j) :: .ref (r i) :: rest)) := by
  refine va_lald hexec hb hK hP (X.length + i) t0 (jx_rows_get (f := fun i => (r i, .inl (cA, K, .inr (.inl (F i))))) hi) ht (vp_in_nI hj hKb) hdg ?_
  rw [nI_clamp (Nat.lt_trans hj hKb)]
  exact kk
theorem jx_last2 (hexec : p.tables.exec = Jvm.exec) (hb : c.code = cc) (hK : va_K D vwCl tys s) {F : Nat → Nat → Int64} (hP : va_P D vwCl (X ++ jRL cA N K r F) H) (hD : va_D A (X ++ jRL cA N K r F)) (hS : va_S A H0 H locs) (t0 : Nat) (ht : tys[t0]? = some (cA, .long)) {i j : Nat} {x : Int64} (hi : i < N) (hj : j < K) (hKb : K < 2 ^ 31) (hdg : decode cc pc = .ok (.lastore, 1))
    (kk : ∀ (H1 : Heap) (locs1 : List Loc), va_P D vwCl (X ++ jRL cA N K r (jxUp2 F i j x)) H1 → va_D A (X ++ jRL cA N K r (jxUp2 F i j x)) → va_S A H0 H1 locs1 → W p l e R s m args below meth c H1 locs1 cells slots Q (F0 m (pc + 1) ls rest)) : W p l e R s m args below meth c H locs cells slots Q (F0 m pc ls (.long x :: .int (nI j) :: .ref (r i) :: rest)) := by
  refine va_last hexec hb hK hP hD hS (X.length + i) t0 (jx_rows_get (f := fun i => (r i, .inl (cA, K, .inr (.inl (F i))))) hi) ht (vp_in_nI hj hKb) hdg (fun H1 l1 h1 h2 h3 => ?_)
  have e0 : vp_updL (F i) (nI j).toNatClampNeg x = jxUp (F i) j x := by rw [nI_clamp (Nat.lt_trans hj hKb)]; rfl
  have e : (X ++ jRL cA N K r F).set (X.length + i) (r i, .inl (cA, K, .inr (.inl (vp_updL (F i) (nI j).toNatClampNeg x)))) = X ++ jRL cA N K r (jxUp2 F i j x) := by
    have h := jx_rows_set (X := X) (f := fun i => (r i, .inl (cA, K, .inr (.inl (F i))))) (f' := fun a => (r a, .inl (cA, K, .inr (.inl (jxUp2 F i j x a))))) hi (fun k hk => by rw [show jxUp2 F i j x k = F k from funext fun b => by simp [jxUp2, hk]])
    have ef : jxUp (F i) j x = jxUp2 F i j x i := by
      funext b
      simp [jxUp, jxUp2]
    rw [← h, ← ef, e0]
  rw [e] at h1 h2
  exact kk H1 l1 h1 h2 h3
end JXL
/-- a value, closed: nothing unfolds it but its row -/
noncomputable def jxSeal {α : Type} (a : α) : α := Classical.choose (⟨a, rfl⟩ : ∃ b, b = a)
theorem jxSeal_eq {α : Type} (a : α) : jxSeal a = a := Classical.choose_spec (⟨a, rfl⟩ : ∃ b, b = a)
/-- a table cleared up to the place (i, j) -/
def jmCl {α : Type} (z : α) (K : Nat) (rm : Nat → Nat → α) (i j : Nat) : Nat → Nat → α := fun a b => if (a < i ∧ b < K) ∨ (a = i ∧ b < j) then z else rm a b
theorem jmCl_0 {α : Type} (z : α) (K : Nat) (rm : Nat → Nat → α) : rm = jmCl z K rm 0 0 := by
  funext a b
  unfold jmCl
  rw [if_neg (by omega)]
theorem jmCl_up {α : Type} (z : α) {K : Nat} (rm : Nat → Nat → α) (i j : Nat) : jxUp2 (jmCl z K rm i j) i j z = jmCl z K rm i (j + 1) := by
  funext a b
  unfold jxUp2 jmCl
  by_cases h : a = i ∧ b = j
  · rw [if_pos h, if_pos (by omega)]
  · rw [if_neg h]
    by_cases h2 : (a < i ∧ b < K) ∨ (a = i ∧ b < j)
    · rw [if_pos h2, if_pos (by omega)]
    · rw [if_neg h2, if_neg (by omega)]
theorem jmCl_row {α : Type} (z : α) (K : Nat) (rm : Nat → Nat → α) (i : Nat) : jmCl z K rm i K = jmCl z K rm (i + 1) 0 := by
  funext a b
  unfold jmCl
  by_cases h2 : (a < i ∧ b < K) ∨ (a = i ∧ b < K)
  · rw [if_pos h2, if_pos (by omega)]
  · rw [if_neg h2, if_neg (by omega)]
theorem jmCl_end {α : Type} (z : α) {K N : Nat} (rm : Nat → Nat → α) {a b : Nat} (ha : a < N) (hb : b < K) : jmCl z K rm N 0 a b = z := if_pos (Or.inl ⟨ha, hb⟩)
/-- an array cleared up to the place k -/
def jmFl1 {α : Type} (z : α) (f : Nat → α) (k : Nat) : Nat → α := fun j => if j < k then z else f j
theorem jmFl1_0 {α : Type} (z : α) (f : Nat → α) : f = jmFl1 z f 0 := by
  funext j
  simp [jmFl1]
theorem jmFl1_up {α : Type} (z : α) (f : Nat → α) (k : Nat) : jxUp (jmFl1 z f k) k z = jmFl1 z f (k + 1) := by
  funext j
  unfold jxUp jmFl1
  by_cases e : j = k
  · rw [if_pos e, if_pos (by omega)]
  · rw [if_neg e]
    by_cases hj : j < k
    · rw [if_pos hj, if_pos (by omega)]
    · rw [if_neg hj, if_neg (by omega)]
theorem jmFl1_end {α : Type} (z : α) (f : Nat → α) {k j : Nat} (h : j < k) : jmFl1 z f k j = z := if_pos h
/-! Ways: the room, the search, the filling -/
abbrev jmM : Type := Nat → Nat → Int32
def jmC1 (a o : Nat) : Nat → jmM
  | 0 => fun _ _ => 0
  | k + 1 => jxUp2 (jmC1 a o k) k (k + 8) (if k = a ∨ k = o then nI 17 else nI 1)
theorem jmC1_p {a o k : Nat} (h : k = a ∨ k = o) : jxUp2 (jmC1 a o k) k (k + 8) (nI 17) = jmC1 a o (k + 1) := by
  show _ = jxUp2 (jmC1 a o k) k (k + 8) (if k = a ∨ k = o then nI 17 else nI 1)
  rw [if_pos h]
theorem jmC1_n {a o k : Nat} (h1 : k ≠ a) (h2 : k ≠ o) : jxUp2 (jmC1 a o k) k (k + 8) (nI 1) = jmC1 a o (k + 1) := by
  show _ = jxUp2 (jmC1 a o k) k (k + 8) (if k = a ∨ k = o then nI 17 else nI 1)
  rw [if_neg (fun z => z.elim h1 h2)]
def jmAddW (sm gr : Nat → Nat) (F : jmM) (k : Nat) : jmM := jxUp2 (jxUp2 F (sm k + 8) (gr k) (F (sm k + 8) (gr k) + nI 1)) (gr k + 8) (sm k) (jxUp2 F (sm k + 8) (gr k) (F (sm k + 8) (gr k) + nI 1) (gr k + 8) (sm k) + nI 1)
def jmAddL (sm gr : Nat → Nat) (F : jmM) (k : Nat) : jmM := jxUp2 (jxUp2 F (sm k) (gr k) (F (sm k) (gr k) + nI 1)) (gr k) (sm k) (jxUp2 F (sm k) (gr k) (F (sm k) (gr k) + nI 1) (gr k) (sm k) + nI 1)
def jmC2 (sm gr : Nat → Nat) (st : Nat) (F : jmM) : Nat → jmM
  | 0 => F
  | k + 1 => if st.testBit k = true then jmAddW sm gr (jmC2 sm gr st F k) k else jmC2 sm gr st F k
def jmC3 (sm gr : Nat → Nat) (st : Nat) (F : jmM) : Nat → jmM
  | 0 => F
  | k + 1 => if st.testBit k = true then jmAddL sm gr (jmC3 sm gr st F k) k else jmC3 sm gr st F k
theorem jmC2_y {sm gr : Nat → Nat} {st k : Nat} {F : jmM} (h : st.testBit k = true) : jmAddW sm gr (jmC2 sm gr st F k) k = jmC2 sm gr st F (k + 1) := by
  show _ = if st.testBit k = true then jmAddW sm gr (jmC2 sm gr st F k) k else jmC2 sm gr st F k
  rw [if_pos h]
theorem jmC2_n {sm gr : Nat → Nat} {st k : Nat} {F : jmM} (h : st.testBit k = false) : jmC2 sm gr st F k = jmC2 sm gr st F (k + 1) := by
  show _ = if st.testBit k = true then jmAddW sm gr (jmC2 sm gr st F k) k else jmC2 sm gr st F k
  rw [if_neg (by rw [h]; exact Bool.false_ne_true)]
theorem jmC3_y {sm gr : Nat → Nat} {st k : Nat} {F : jmM} (h : st.testBit k = true) : jmAddL sm gr (jmC3 sm gr st F k) k = jmC3 sm gr st F (k + 1) := by
  show _ = if st.testBit k = true then jmAddL sm gr (jmC3 sm gr st F k) k else jmC3 sm gr st F k
  rw [if_pos h]
theorem jmC3_n {sm gr : Nat → Nat} {st k : Nat} {F : jmM} (h : st.testBit k = false) : jmC3 sm gr st F k = jmC3 sm gr st F (k + 1) := by
  show _ = if st.testBit k = true then jmAddL sm gr (jmC3 sm gr st F k) k else jmC3 sm gr st F k
  rw [if_neg (by rw [h]; exact Bool.false_ne_true)]
/-- a search: how many are in the queue, from where each was met, the queue -/
abbrev jmT : Type := Nat × (Nat → Int32) × (Nat → Nat)
def jmFI (rm : jmM) (f : Nat) (t : jmT) : Nat → jmT
  | 0 => t
  | k + 1 => if ¬ rm f k ≤ 0 ∧ (jmFI rm f t k).2.1 k = -1 ∧ (jmFI rm f t k).1 < 16 then ((jmFI rm f t k).1 + 1, jxUp (jmFI rm f t k).2.1 k (nI f), jxUp (jmFI rm f t k).2.2 (jmFI rm f t k).1 k) else jmFI rm f t k
def jmFO (rm : jmM) (t : jmT) : Nat → jmT
  | 0 => t
  | k + 1 => if k < (jmFO rm t k).1 then jmFI rm ((jmFO rm t k).2.2 k) (jmFO rm t k) 16 else jmFO rm t k
def jmTok (t : jmT) : Prop := t.1 ≤ 16 ∧ (∀ j, j < 16 → t.2.2 j < 16) ∧ ∀ j, j < 16 → t.2.1 j = -1 ∨ ∃ b, b < 16 ∧ t.2.1 j = nI b
theorem jmFI_ok {rm : jmM} {f : Nat} {t : jmT} (h : jmTok t) (hf : f < 16) : ∀ k, k ≤ 16 → jmTok (jmFI rm f t k)
  | 0, _ => h
  | k + 1, hk => by
    have ih := jmFI_ok (rm := rm) h hf k (by omega)
    unfold jmFI
    split
    · next q =>
      refine ⟨by show (jmFI rm f t k).1 + 1 ≤ 16; omega, fun j hj => ?_, fun j hj => ?_⟩
      · show jxUp (jmFI rm f t k).2.2 (jmFI rm f t k).1 k j < 16
        unfold jxUp
        split
        · omega
        · exact ih.2.1 j hj
      · show jxUp (jmFI rm f t k).2.1 k (nI f) j = -1 ∨ ∃ b, b < 16 ∧ jxUp (jmFI rm f t k).2.1 k (nI f) j = nI b
        unfold jxUp
        split
        · exact Or.inr ⟨f, hf, rfl⟩
        · exact ih.2.2 j hj
    · exact ih
theorem jmFO_ok {rm : jmM} {t : jmT} (h : jmTok t) : ∀ k, k ≤ 16 → jmTok (jmFO rm t k)
  | 0, _ => h
  | k + 1, hk => by
    have ih := jmFO_ok (rm := rm) h k (by omega)
    unfold jmFO
    split
    · exact jmFI_ok ih (ih.2.1 k (by omega)) 16 (Nat.le_refl _)
    · exact ih
theorem jmFO_y {rm : jmM} {t : jmT} {k : Nat} (h : k < (jmFO rm t k).1) : jmFO rm t (k + 1) = jmFI rm ((jmFO rm t k).2.2 k) (jmFO rm t k) 16 := if_pos h
theorem jmFO_stay {rm : jmM} {t : jmT} {k : Nat} (h : (jmFO rm t k).1 ≤ k) : ∀ d, jmFO rm t (k + d) = jmFO rm t k
  | 0 => rfl
  | d + 1 => by
    have ih := jmFO_stay h d
    show (if k + d < (jmFO rm t (k + d)).1 then _ else jmFO rm t (k + d)) = _
    rw [ih, if_neg (by omega)]
theorem jmFO_stop {rm : jmM} {t : jmT} {k : Nat} (h : (jmFO rm t k).1 ≤ k) (hk : k ≤ 16) : jmFO rm t k = jmFO rm t 16 := by
  obtain ⟨d, hd⟩ := Nat.exists_eq_add_of_le hk
  rw [hd, jmFO_stay h d]
def jmF0 (s : Nat) (qu : Nat → Nat) : jmT := (1, jxUp (fun _ => (-1 : Int32)) s (nI s), jxUp qu 0 s)
theorem jmF0_ok {s : Nat} {qu : Nat → Nat} (hs : s < 16) (hq : ∀ j, j < 16 → qu j < 16) : jmTok (jmF0 s qu) := by
  refine ⟨by show (1 : Nat) ≤ 16; decide, fun j hj => ?_, fun j hj => ?_⟩
  · show jxUp qu 0 s j < 16
    unfold jxUp
    split
    · exact hs
    · exact hq j hj
  · show jxUp (fun _ => (-1 : Int32)) s (nI s) j = -1 ∨ ∃ b, b < 16 ∧ jxUp (fun _ => (-1 : Int32)) s (nI s) j = nI b
    unfold jxUp
    split
    · exact Or.inr ⟨s, hs, rfl⟩
    · exact Or.inl rfl
/-- the whole search from s -/
noncomputable def jmFW (rm : jmM) (s : Nat) (qu : Nat → Nat) : jmT := jxSeal (jmFO rm (jmF0 s qu) 16)
theorem jmFW_eq (rm : jmM) (s : Nat) (qu : Nat → Nat) : jmFW rm s qu = jmFO rm (jmF0 s qu) 16 := jxSeal_eq _
theorem jmFW_ok {rm : jmM} {s : Nat} {qu : Nat → Nat} (hs : s < 16) (hq : ∀ j, j < 16 → qu j < 16) : jmTok (jmFW rm s qu) := by
  rw [jmFW_eq]
  exact jmFO_ok (jmF0_ok hs hq) 16 (Nat.le_refl _)
/-- a way that was found is filled, from its end t on, at most k lines -/
def jmFl (ca : Nat → Int32) (s : Nat) : Nat → Nat → jmM → jmM
  | 0, _, rm => rm
  | k + 1, t, rm => if t = s ∨ ca t = -1 then rm else jmFl ca s k (ca t).toNatClampNeg (jxUp2 (jxUp2 rm (ca t).toNatClampNeg t (rm (ca t).toNatClampNeg t - nI 1)) t (ca t).toNatClampNeg (jxUp2 rm (ca t).toNatClampNeg t (rm (ca t).toNatClampNeg t - nI 1) t (ca t).toNatClampNeg + nI 1))
noncomputable def jmFlS (ca : Nat → Int32) (s t : Nat) (rm : jmM) : jmM := jxSeal (jmFl ca s 16 t rm)
theorem jmFlS_eq (ca : Nat → Int32) (s t : Nat) (rm : jmM) : jmFlS ca s t rm = jmFl ca s 16 t rm := jxSeal_eq _
/-- the flow: how much, the room, the last search's marks and queue; k rounds -/
noncomputable def jmCF (s t : Nat) : Nat → Nat → jmM → (Nat → Int32) → (Nat → Nat) → Nat × jmM × (Nat → Int32) × (Nat → Nat)
  | 0, fl, rm, ca, qu => (fl, rm, ca, qu)
  | k + 1, fl, rm, _, qu => if (jmFW rm s qu).2.1 t = -1 then (fl, rm, (jmFW rm s qu).2.1, (jmFW rm s qu).2.2) else jmCF s t k (fl + 1) (jmFlS (jmFW rm s qu).2.1 s t rm) (jmFW rm s qu).2.1 (jmFW rm s qu).2.2
theorem jmFl_go {ca : Nat → Int32} {s k t : Nat} {rm : jmM} (h1 : t ≠ s) (h2 : ¬ ca t = -1) : jmFl ca s (k + 1) t rm = jmFl ca s k (ca t).toNatClampNeg (jxUp2 (jxUp2 rm (ca t).toNatClampNeg t (rm (ca t).toNatClampNeg t - nI 1)) t (ca t).toNatClampNeg (jxUp2 rm (ca t).toNatClampNeg t (rm (ca t).toNatClampNeg t - nI 1) t (ca t).toNatClampNeg + nI 1)) := if_neg (fun z => z.elim h1 h2)
theorem jmFl_st {ca : Nat → Int32} {s t : Nat} {rm : jmM} (h : t = s ∨ ca t = -1) : ∀ {k : Nat}, jmFl ca s k t rm = rm
  | 0 => rfl
  | _ + 1 => if_pos h
noncomputable def jmFound (rm : jmM) (s : Nat) (qu : Nat → Nat) (t : Nat) : Bool := decide (¬ (jmFW rm s qu).2.1 t = -1)
theorem jmCF_go {s t k fl : Nat} {rm : jmM} {ca : Nat → Int32} {qu : Nat → Nat} (h : jmFound rm s qu t = true) : jmCF s t (k + 1) fl rm ca qu = jmCF s t k (fl + 1) (jmFlS (jmFW rm s qu).2.1 s t rm) (jmFW rm s qu).2.1 (jmFW rm s qu).2.2 := by
  exact if_neg (of_decide_eq_true h)
theorem jmCF_st {s t k fl : Nat} {rm : jmM} {ca : Nat → Int32} {qu : Nat → Nat} (h : jmFound rm s qu t = false) : jmCF s t (k + 1) fl rm ca qu = (fl, rm, (jmFW rm s qu).2.1, (jmFW rm s qu).2.2) := by
  exact if_pos (Classical.byContradiction (of_decide_eq_false h))
theorem jmCF_qu {s t : Nat} (hs : s < 16) : ∀ (k fl : Nat) (rm : jmM) (ca : Nat → Int32) (qu : Nat → Nat), (∀ j, j < 16 → qu j < 16) → ∀ j, j < 16 → (jmCF s t k fl rm ca qu).2.2.2 j < 16 := by
  intro k
  induction k with
  | zero => exact fun _ _ _ _ h => h
  | succ k ih =>
    intro fl rm ca qu h
    have h2 : ∀ j, j < 16 → (jmFW rm s qu).2.2 j < 16 := (jmFW_ok hs h).2.1
    cases hf : jmFound rm s qu t with
    | true => rw [jmCF_go hf]; exact ih _ _ _ _ h2
    | false =>
      rw [jmCF_st hf]
      dsimp only
      exact h2
theorem jmCF_le {s t : Nat} : ∀ (k fl : Nat) (rm : jmM) (ca : Nat → Int32) (qu : Nat → Nat), (jmCF s t k fl rm ca qu).1 ≤ fl + k
  | 0, _, _, _, _ => Nat.le_refl _
  | k + 1, fl, rm, ca, qu => by
    unfold jmCF
    split
    · exact Nat.le_add_right _ _
    · have := jmCF_le (s := s) (t := t) k (fl + 1) (jmFlS (jmFW rm s qu).2.1 s t rm) (jmFW rm s qu).2.1 (jmFW rm s qu).2.2
      omega
noncomputable def jmCFS (s t : Nat) (rm : jmM) (ca : Nat → Int32) (qu : Nat → Nat) : Nat × jmM × (Nat → Int32) × (Nat → Nat) := jxSeal (jmCF s t 16 0 rm ca qu)
theorem jmCFS_eq (s t : Nat) (rm : jmM) (ca : Nat → Int32) (qu : Nat → Nat) : jmCFS s t rm ca qu = jmCF s t 16 0 rm ca qu := jxSeal_eq _
theorem jmCFS_qu {s t : Nat} {rm : jmM} {ca : Nat → Int32} {qu : Nat → Nat} (hs : s < 16) (h : ∀ j, j < 16 → qu j < 16) : ∀ j, j < 16 → (jmCFS s t rm ca qu).2.2.2 j < 16 := by
  rw [jmCFS_eq]
  exact jmCF_qu hs 16 0 rm ca qu h
theorem jmCFS_le {s t : Nat} {rm : jmM} {ca : Nat → Int32} {qu : Nat → Nat} : (jmCFS s t rm ca qu).1 ≤ 16 := by
  rw [jmCFS_eq]
  have := jmCF_le (s := s) (t := t) 16 0 rm ca qu
  omega
/-! Forest -/
abbrev jmL : Type := Nat → Nat → Int64
def jmAddT (F : jmL) (a o : Nat) : jmL :=
  jxUp2 (jxUp2 (jxUp2 (jxUp2 F a a (F a a + 1)) o o (jxUp2 F a a (F a a + 1) o o + 1)) a o (jxUp2 (jxUp2 F a a (F a a + 1)) o o (jxUp2 F a a (F a a + 1) o o + 1) a o - 1)) o a (jxUp2 (jxUp2 (jxUp2 F a a (F a a + 1)) o o (jxUp2 F a a (F a a + 1) o o + 1)) a o (jxUp2 (jxUp2 F a a (F a a + 1)) o o (jxUp2 F a a (F a a + 1) o o + 1) a o - 1) o a - 1)
def jmFT (sm gr : Nat → Nat) (st : Nat) : Nat → jmL
  | 0 => fun _ _ => 0
  | k + 1 => if st.testBit k = true then jmAddT (jmFT sm gr st k) (sm k) (gr k) else jmFT sm gr st k
/-- Bareiss' step: a row, k columns; the rows, k of them; the steps, k of them from i on -/
def jmBC (i row : Nat) (b pv : Int64) (F : jmL) : Nat → jmL
  | 0 => F
  | k + 1 => jxUp2 (jmBC i row b pv F k) row (i + 1 + k) ((jmBC i row b pv F k row (i + 1 + k) * pv - jmBC i row b pv F k row i * jmBC i row b pv F k i (i + 1 + k)) / b)
def jmBR (i P : Nat) (b pv : Int64) (F : jmL) : Nat → jmL
  | 0 => F
  | k + 1 => jmBC i (i + 1 + k) b pv (jmBR i P b pv F k) (P - 1 - (i + 1))
def jmBa (P : Nat) : Nat → Nat → Int64 → jmL → Int64 × jmL
  | 0, _, b, F => (b, F)
  | k + 1, i, b, F => if F i i = 0 ∨ b = 0 then (0, F) else jmBa P k (i + 1) (F i i) (jmBR i P b (F i i) F (P - 1 - (i + 1)))
theorem jmFT_y {sm gr : Nat → Nat} {st k : Nat} (h : st.testBit k = true) : jmAddT (jmFT sm gr st k) (sm k) (gr k) = jmFT sm gr st (k + 1) := (if_pos h).symm
theorem jmFT_n {sm gr : Nat → Nat} {st k : Nat} (h : st.testBit k = false) : jmFT sm gr st k = jmFT sm gr st (k + 1) := (if_neg (by rw [h]; exact Bool.false_ne_true)).symm
theorem jmBa_st {P k i : Nat} {b : Int64} {F : jmL} (h : F i i = 0 ∨ b = 0) : jmBa P (k + 1) i b F = (0, F) := if_pos h
theorem jmBa_go {P k i : Nat} {b : Int64} {F : jmL} (h1 : ¬ F i i = 0) (h2 : ¬ b = 0) : jmBa P (k + 1) i b F = jmBa P k (i + 1) (F i i) (jmBR i P b (F i i) F (P - 1 - (i + 1))) := if_neg (fun z => z.elim h1 h2)
def jmCnt (P : Nat) (F : jmL) : Int64 × jmL := if P = 0 then (0, F) else jmBa P (P - 1) 0 1 F
abbrev jmTrees (sm gr : Nat → Nat) (P n st : Nat) : Int64 × jmL := jmCnt P (jmFT sm gr st n)
/-- the cheapest tree, as it grows: its lines, its cost, what hangs together -/
abbrev jmK : Type := Nat × Int32 × (Nat → Nat)
def jmTk (sm gr co : Nat → Nat) (P : Nat) (t : jmK) (i : Nat) : jmK :=
  if t.2.2 (sm i) = t.2.2 (gr i) then t else (t.1 ||| 2 ^ i, t.2.1 + nI (co i), jmPut t.2.2 (t.2.2 (sm i) ||| t.2.2 (gr i)) (t.2.2 (sm i) ||| t.2.2 (gr i)) P)
def jmTC (sm gr co : Nat → Nat) (P st c : Nat) (t : jmK) : Nat → jmK
  | 0 => t
  | k + 1 => if st.testBit k = true ∧ co k = c then jmTk sm gr co P (jmTC sm gr co P st c t k) k else jmTC sm gr co P st c t k
theorem jmTC_y {sm gr co : Nat → Nat} {P st c k : Nat} {t : jmK} (h1 : st.testBit k = true) (h2 : co k = c) : jmTk sm gr co P (jmTC sm gr co P st c t k) k = jmTC sm gr co P st c t (k + 1) := (if_pos ⟨h1, h2⟩).symm
theorem jmTC_n1 {sm gr co : Nat → Nat} {P st c k : Nat} {t : jmK} (h1 : st.testBit k = false) : jmTC sm gr co P st c t k = jmTC sm gr co P st c t (k + 1) := (if_neg (fun z => by rw [h1] at z; exact Bool.false_ne_true z.1)).symm
theorem jmTC_n2 {sm gr co : Nat → Nat} {P st c k : Nat} {t : jmK} (h2 : co k ≠ c) : jmTC sm gr co P st c t k = jmTC sm gr co P st c t (k + 1) := (if_neg (fun z => h2 z.2)).symm
def jmTCo (sm gr co : Nat → Nat) (P n st : Nat) (t : jmK) : Nat → jmK
  | 0 => t
  | k + 1 => jmTC sm gr co P st (k + 1) (jmTCo sm gr co P n st t k) n
def jmPw (jo : Nat → Nat) (k : Nat) : Nat → Nat := fun j => if j < k then 2 ^ j else jo j
theorem jmPw_0 (f : Nat → Nat) : f = jmPw f 0 := by
  funext j
  simp [jmPw]
theorem jmPw_up (f : Nat → Nat) (k : Nat) : jxUp (jmPw f k) k (2 ^ k) = jmPw f (k + 1) := by
  funext j
  unfold jxUp jmPw
  by_cases e : j = k
  · subst e
    rw [if_pos rfl, if_pos (by omega)]
  · rw [if_neg e]
    by_cases hj : j < k
    · rw [if_pos hj, if_pos (by omega)]
    · rw [if_neg hj, if_neg (by omega)]
def jmKok (t : jmK) : Prop := t.1 < 65536 ∧ ∀ j, j < 8 → t.2.2 j < 256
theorem jmTk_ok {sm gr co : Nat → Nat} {P i : Nat} {t : jmK} (h : jmKok t) (hi : i < 16) (hs : sm i < 8) (hg : gr i < 8) : jmKok (jmTk sm gr co P t i) := by
  unfold jmTk
  split
  · exact h
  · have hv : t.2.2 (sm i) ||| t.2.2 (gr i) < 256 := Nat.or_lt_two_pow (n := 8) (h.2 _ hs) (h.2 _ hg)
    exact ⟨Nat.or_lt_two_pow (n := 16) h.1 (jx_pow16 hi), jmPut_lt hv h.2⟩
theorem jmTC_ok {sm gr co : Nat → Nat} {P st c n : Nat} {t : jmK} (h : jmKok t) (hn : n ≤ 16) (hg : ∀ j, j < n → sm j < 8 ∧ gr j < 8) : ∀ k, k ≤ n → jmKok (jmTC sm gr co P st c t k)
  | 0, _ => h
  | k + 1, hk => by
    have ih := jmTC_ok (co := co) (P := P) (st := st) (c := c) h hn hg k (by omega)
    unfold jmTC
    split
    · exact jmTk_ok ih (by omega) (hg k (by omega)).1 (hg k (by omega)).2
    · exact ih
theorem jmTCo_ok {sm gr co : Nat → Nat} {P st n : Nat} {t : jmK} (h : jmKok t) (hn : n ≤ 16) (hg : ∀ j, j < n → sm j < 8 ∧ gr j < 8) : ∀ k, jmKok (jmTCo sm gr co P n st t k)
  | 0 => h
  | k + 1 => jmTC_ok (jmTCo_ok h hn hg k) hn hg n (Nat.le_refl _)
theorem jmPw_lt {f : Nat → Nat} {k : Nat} (hf : ∀ j, j < 8 → f j < 256) : ∀ j, j < 8 → jmPw f k j < 256 := fun j hj => by
  unfold jmPw
  split
  · exact jx_pow8 hj
  · exact hf j hj
/-- what Forest learns -/
def jmFo (en sm gr co : Nat → Nat) (P n st : Nat) (jo : Nat → Nat) : jmK :=
  if jmCPc en (2 ^ P - 1) st n P = 1 then jmTCo sm gr co P n st (0, nI 0, jmPw jo P) 20 else (0, -1, jo)
theorem jmFo_ok {en sm gr co : Nat → Nat} {P st n : Nat} {jo : Nat → Nat} (hj : ∀ j, j < 8 → jo j < 256) (hn : n ≤ 16) (hg : ∀ j, j < n → sm j < 8 ∧ gr j < 8) : jmKok (jmFo en sm gr co P n st jo) := by
  unfold jmFo
  split
  · exact jmTCo_ok ⟨by show (0 : Nat) < 65536; decide, jmPw_lt hj⟩ hn hg 20
  · exact ⟨by show (0 : Nat) < 65536; decide, hj⟩
/-! Palette -/
/-- the numbers from nu on, k of them, at the point q, whose linked points are lk -/
def jmPL (rec : Nat → (Nat → Nat) → Bool × (Nat → Nat)) (q lk used : Nat) : Nat → Nat → (Nat → Nat) → Bool × (Nat → Nat)
  | 0, _, cl => (false, cl)
  | k + 1, nu, cl => if jmAll (fun j => !(lk.testBit j && cl j == nu)) q 0 = true then (if (rec (max used (nu + 1)) (jxUp cl q nu)).1 = true then rec (max used (nu + 1)) (jxUp cl q nu) else jmPL rec q lk used k (nu + 1) (rec (max used (nu + 1)) (jxUp cl q nu)).2) else jmPL rec q lk used k (nu + 1) cl
/-- painting the last d of P points, with used numbers, of at most mo -/
def jmPa (en la : Nat → Nat) (P n st mo : Nat) : Nat → Nat → (Nat → Nat) → Bool × (Nat → Nat)
  | 0, _, cl => (true, cl)
  | d + 1, used, cl => jmPL (jmPa en la P n st mo d) (P - (d + 1)) (jmLinked en la st n (P - (d + 1))) used (min (used + 1) mo) 0 cl
section PL
variable {rec : Nat → (Nat → Nat) → Bool × (Nat → Nat)} {q lk used k nu : Nat} {cl : Nat → Nat}
theorem jmPL_1 (h1 : jmAll (fun j => !(lk.testBit j && cl j == nu)) q 0 = true) (h2 : (rec (max used (nu + 1)) (jxUp cl q nu)).1 = true) : jmPL rec q lk used (k + 1) nu cl = rec (max used (nu + 1)) (jxUp cl q nu) := (if_pos h1).trans (if_pos h2)
theorem jmPL_2 (h1 : jmAll (fun j => !(lk.testBit j && cl j == nu)) q 0 = true) (h2 : (rec (max used (nu + 1)) (jxUp cl q nu)).1 = false) : jmPL rec q lk used (k + 1) nu cl = jmPL rec q lk used k (nu + 1) (rec (max used (nu + 1)) (jxUp cl q nu)).2 := (if_pos h1).trans (if_neg (by rw [h2]; exact Bool.false_ne_true))
theorem jmPL_3 (h1 : jmAll (fun j => !(lk.testBit j && cl j == nu)) q 0 = false) : jmPL rec q lk used (k + 1) nu cl = jmPL rec q lk used k (nu + 1) cl := if_neg (by rw [h1]; exact Bool.false_ne_true)
end PL
theorem jmPL_lt {rec : Nat → (Nat → Nat) → Bool × (Nat → Nat)} {q lk used N : Nat} (hr : ∀ u cl, u < N → (∀ j, j < 8 → cl j < N) → ∀ j, j < 8 → (rec u cl).2 j < N) : ∀ (k nu : Nat) (cl : Nat → Nat), used < N → nu + k < N → (∀ j, j < 8 → cl j < N) → ∀ j, j < 8 → (jmPL rec q lk used k nu cl).2 j < N
  | 0, _, _, _, _, h => h
  | k + 1, nu, cl, hu, hk, h => by
    have h2 : ∀ j, j < 8 → jxUp cl q nu j < N := fun j hj => by
      unfold jxUp
      split
      · omega
      · exact h j hj
    have h3 := hr (max used (nu + 1)) (jxUp cl q nu) (by omega) h2
    unfold jmPL
    split
    · split
      · exact h3
      · exact jmPL_lt hr k (nu + 1) _ hu (by omega) h3
    · exact jmPL_lt hr k (nu + 1) _ hu (by omega) h
theorem jmPa_lt {en la : Nat → Nat} {P n st mo : Nat} (hmo : mo < 255) : ∀ (d used : Nat) (cl : Nat → Nat), used < 256 → (∀ j, j < 8 → cl j < 256) → ∀ j, j < 8 → (jmPa en la P n st mo d used cl).2 j < 256
  | 0, _, _, _, h => h
  | d + 1, used, cl, hu, h => jmPL_lt (fun u cl hu h => jmPa_lt hmo d u cl hu h) (min (used + 1) mo) 0 cl hu (by omega) h
/-- Palette learns: k numbers left, from mo on -/
def jmPe (en la : Nat → Nat) (P n st : Nat) (pk : Nat) : Nat → Nat → (Nat → Nat) → Nat × (Nat → Nat)
  | 0, _, cl => (pk, cl)
  | k + 1, mo, cl => if (jmPa en la P n st mo P 0 cl).1 = true then (mo, (jmPa en la P n st mo P 0 cl).2) else jmPe en la P n st pk k (mo + 1) (jmPa en la P n st mo P 0 cl).2
theorem jmPe_y {en la : Nat → Nat} {P n st pk k mo : Nat} {cl : Nat → Nat} (h : (jmPa en la P n st mo P 0 cl).1 = true) : jmPe en la P n st pk (k + 1) mo cl = (mo, (jmPa en la P n st mo P 0 cl).2) := if_pos h
theorem jmPe_n {en la : Nat → Nat} {P n st pk k mo : Nat} {cl : Nat → Nat} (h : (jmPa en la P n st mo P 0 cl).1 = false) : jmPe en la P n st pk (k + 1) mo cl = jmPe en la P n st pk k (mo + 1) (jmPa en la P n st mo P 0 cl).2 := if_neg (by rw [h]; exact Bool.false_ne_true)
theorem jmPe_lt {en la : Nat → Nat} {P n st pk : Nat} : ∀ (k mo : Nat) (cl : Nat → Nat), mo + k < 255 → (∀ j, j < 8 → cl j < 256) → ∀ j, j < 8 → (jmPe en la P n st pk k mo cl).2 j < 256
  | 0, _, _, _, h => h
  | k + 1, mo, cl, hk, h => by
    have h2 := jmPa_lt (en := en) (la := la) (P := P) (n := n) (st := st) (mo := mo) (by omega) P 0 cl (by omega) h
    unfold jmPe
    split
    · exact h2
    · exact jmPe_lt k (mo + 1) _ (by omega) h2
theorem jmPe_le {en la : Nat → Nat} {P n st pk : Nat} (hpk : pk < 255) : ∀ (k mo : Nat) (cl : Nat → Nat), mo + k < 255 → (jmPe en la P n st pk k mo cl).1 < 255
  | 0, _, _, _ => hpk
  | k + 1, mo, cl, hk => by
    unfold jmPe
    split
    · show mo < 255
      omega
    · exact jmPe_le hpk k (mo + 1) _ (by omega)
/-! Drawing -/
def jmSw (l : Nat) (od : Nat → Nat → Nat) (q k : Nat) : Nat → Nat → Nat := jxUp2 (jxUp2 od q k (od q (jmBehind l k))) q (jmBehind l k) (od q k)
theorem jmSw_sw {l q k : Nat} {od : Nat → Nat → Nat} : jmSw l (jmSw l od q k) q k = od := by
  funext a b
  unfold jmSw
  simp only [jxUp2]
  by_cases ha : a = q
  · subst ha
    by_cases h1 : b = jmBehind l k
    · subst h1
      by_cases h2 : k = jmBehind l k
      · simp [← h2]
      · simp [h2]
    · by_cases h2 : b = k
      · subst h2
        simp [h1]
      · simp [h1, h2]
  · simp [ha]
theorem jmSw_ok {P n q k : Nat} {le : Nat → Nat} {od : Nat → Nat → Nat} (h : jmDW P n le od) (hq : q < P) (hk : k < le q) : jmDW P n le (jmSw (le q) od q k) := by
  refine ⟨h.1, fun a ha b hb => ?_⟩
  have hb2 : jmBehind (le q) k < le q := jmBehind_lt (by omega)
  unfold jmSw jxUp2
  split
  · exact h.2 q hq k hk
  · split
    · exact h.2 q hq _ hb2
    · exact h.2 a ha b hb
/-- a face is walked, at most k lines -/
def jmFc (f : Nat → Nat) (v : Int32) : Nat → Nat → (Nat → Int32) → (Nat → Int32)
  | 0, _, fa => fa
  | k + 1, w, fa => if fa w = -1 then jmFc f v k (f w) (jxUp fa w v) else fa
def jmLe (f : Nat → Nat) (st : Nat) : Nat → Nat × (Nat → Int32)
  | 0 => (0, fun _ => -1)
  | k + 1 => if st.testBit (k / 2) = true ∧ (jmLe f st k).2 k = -1 then ((jmLe f st k).1 + 1, jmFc f (nI (jmLe f st k).1) 32 k (jmLe f st k).2) else jmLe f st k
theorem jmFc_go {f : Nat → Nat} {v : Int32} {k w : Nat} {fa : Nat → Int32} (h : fa w = -1) : jmFc f v (k + 1) w fa = jmFc f v k (f w) (jxUp fa w v) := if_pos h
theorem jmFc_st {f : Nat → Nat} {v : Int32} {w : Nat} {fa : Nat → Int32} (h : ¬ fa w = -1) : ∀ {k : Nat}, jmFc f v k w fa = fa
  | 0 => rfl
  | _ + 1 => if_neg h
theorem jmLe_y {f : Nat → Nat} {st k : Nat} (h1 : st.testBit (k / 2) = true) (h2 : (jmLe f st k).2 k = -1) : jmLe f st (k + 1) = ((jmLe f st k).1 + 1, jmFc f (nI (jmLe f st k).1) 32 k (jmLe f st k).2) := if_pos ⟨h1, h2⟩
theorem jmLe_n1 {f : Nat → Nat} {st k : Nat} (h1 : st.testBit (k / 2) = false) : jmLe f st (k + 1) = jmLe f st k := if_neg (fun z => by rw [h1] at z; exact Bool.false_ne_true z.1)
theorem jmLe_n2 {f : Nat → Nat} {st k : Nat} (h2 : ¬ (jmLe f st k).2 k = -1) : jmLe f st (k + 1) = jmLe f st k := if_neg (fun z => h2 z.2)
theorem jmLe_le (f : Nat → Nat) (st : Nat) : ∀ k, (jmLe f st k).1 ≤ k
  | 0 => Nat.le_refl 0
  | k + 1 => by
    have := jmLe_le f st k
    unfold jmLe
    split
    · show (jmLe f st k).1 + 1 ≤ k + 1
      omega
    · omega
theorem jmWB_lt {sm : Nat → Nat} {st n l q w : Nat} {od : Nat → Nat} (hw : w < 2 * n) (hod : ∀ j, j < l → od j < n) (hl : 0 < l) : ∀ k p, jmWB sm st od l q w k p < 2 * n
  | 0, _ => hw
  | k + 1, p => by
    have h1 := hod _ (jmBehind_lt (k := p) hl)
    unfold jmWB
    split
    · split <;> omega
    · exact jmWB_lt hw hod hl k _
theorem jmWalk_lt {P n st w : Nat} {sm gr co en la le : Nat → Nat} {od : Nat → Nat → Nat} (hw : jmWF P n st sm gr co en la) (hd : jmDW P n le od) (h : w < 2 * n) : jmWalk sm gr st le od w < 2 * n := by
  have hq := jmWalkAt_lt hw h rfl
  unfold jmWalk
  by_cases hl : 0 < le (jmWalkAt sm gr w)
  · exact jmWB_lt h (hd.2 _ hq) hl _ _
  · rw [show le (jmWalkAt sm gr w) = 0 by omega]
    exact h
abbrev jmLn (sm gr : Nat → Nat) (n st : Nat) (le : Nat → Nat) (od : Nat → Nat → Nat) : Nat × (Nat → Int32) := jmLe (jmWalk sm gr st le od) st (2 * n)
/-- the best place of k -/
def jmBP (sm gr la : Nat → Nat) (P n st : Nat) (le : Nat → Nat) (od : Nat → Nat → Nat) (q m0 : Nat) : Nat → Int32 × Nat
  | 0 => (-1, m0)
  | k + 1 => if (jmBP sm gr la P n st le od q m0 k).2 < (jmLn sm gr n st le (jmSw (le q) od q k)).1 + jmIso la st P then (nI k, (jmLn sm gr n st le (jmSw (le q) od q k)).1 + jmIso la st P) else jmBP sm gr la P n st le od q m0 k
theorem jmBP_y {sm gr la : Nat → Nat} {P n st : Nat} {le : Nat → Nat} {od : Nat → Nat → Nat} {q m0 k : Nat} (h : (jmBP sm gr la P n st le od q m0 k).2 < (jmLn sm gr n st le (jmSw (le q) od q k)).1 + jmIso la st P) : jmBP sm gr la P n st le od q m0 (k + 1) = (nI k, (jmLn sm gr n st le (jmSw (le q) od q k)).1 + jmIso la st P) := if_pos h
theorem jmBP_n {sm gr la : Nat → Nat} {P n st : Nat} {le : Nat → Nat} {od : Nat → Nat → Nat} {q m0 k : Nat} (h : (jmLn sm gr n st le (jmSw (le q) od q k)).1 + jmIso la st P ≤ (jmBP sm gr la P n st le od q m0 k).2) : jmBP sm gr la P n st le od q m0 (k + 1) = jmBP sm gr la P n st le od q m0 k := if_neg (Nat.not_lt.mpr h)
theorem jmBP_le {sm gr la : Nat → Nat} {P n st : Nat} {le : Nat → Nat} {od : Nat → Nat → Nat} {q m0 N : Nat} (hn : n ≤ 16) (hP : P ≤ 8) (h : m0 ≤ N) (hN : 40 ≤ N) : ∀ k, (jmBP sm gr la P n st le od q m0 k).2 ≤ N
  | 0 => h
  | k + 1 => by
    have ih := jmBP_le (sm := sm) (gr := gr) (la := la) (P := P) (n := n) (st := st) (le := le) (od := od) (q := q) hn hP h hN k
    have h1 := jmLe_le (jmWalk sm gr st le (jmSw (le q) od q k)) st (2 * n)
    have h2 := jmIso_le la st P
    unfold jmBP
    split
    · show (jmLn sm gr n st le (jmSw (le q) od q k)).1 + jmIso la st P ≤ N
      unfold jmLn
      omega
    · exact ih
def jmRm (d : Nat) : Room := { frames := 2 + d, cells := 0, slots := 0, locals := 46 + d * 25 }
