/-! own rows: walks along lines are one to one; faces are their orbits -/
theorem mf_Fc {N : Nat} {X : Nat → Prop} {f : Nat → Nat} (hP : ma_P N X f) {v : Int32} (hv : v ≠ -1) : ∀ (k w : Nat) (fa : Nat → Int32), X w → ma_S (fun x => ma_pc (X x ∧ fa x = -1)) N ≤ k →
    (∀ x, fa x ≠ -1 → jmFc f v k w fa x ≠ -1) ∧ jmFc f v k w fa w ≠ -1 ∧ (∀ x, fa x = -1 → jmFc f v k w fa x ≠ -1 → jmFc f v k w fa (f x) ≠ -1) ∧ (∀ S : Nat → Prop, ma_I X f S → S w → ∀ x, fa x = -1 → jmFc f v k w fa x ≠ -1 → S x) := by
  intro k
  induction k with
  | zero =>
    intro w fa hw hU
    have h1 : fa w ≠ -1 := by
      intro e
      have := ma_S_term (f := fun x => ma_pc (X x ∧ fa x = -1)) (hP.1 w hw)
      rw [ma_pc_t ⟨hw, e⟩] at this
      omega
    exact ⟨fun x h => h, h1, fun x e h => absurd e h, fun S _ _ x e h => absurd e h⟩
  | succ k ih =>
    intro w fa hw hU
    by_cases e : fa w = -1
    · rw [jmFc_go e]
      have hU2 : ma_S (fun x => ma_pc (X x ∧ jxUp fa w v x = -1)) N ≤ k := by
        have key : ∀ x, x < N → ma_pc (X x ∧ fa x = -1) = ma_pc (X x ∧ jxUp fa w v x = -1) + ma_pc (x = w) := by
          intro x _
          by_cases q : x = w
          · subst q
            rw [ma_pc_t ⟨hw, e⟩, ma_pc_t rfl, ma_pc_f]
            rw [jxUp_s]
            exact fun z => hv z.2
          · rw [ma_pc_f q, jxUp_n _ _ q, Nat.add_zero]
        have hs : ma_S (fun x => ma_pc (x = w)) N = 1 := ma_S_one (hP.1 w hw) rfl (fun _ _ q => q)
        rw [ma_S_congr key, ma_S_add, hs] at hU
        omega
      obtain ⟨h1, h2, h3, h4⟩ := ih (f w) (jxUp fa w v) (hP.2.1 w hw) hU2
      refine ⟨fun x hx => ?_, ?_, fun x hx hx' => ?_, fun S hS hSw x hx hx' => ?_⟩
      · refine h1 x ?_
        by_cases q : x = w
        · rw [q, jxUp_s]; exact hv
        · rw [jxUp_n _ _ q]; exact hx
      · exact h1 w (by rw [jxUp_s]; exact hv)
      · by_cases q : x = w
        · rw [q]; exact h2
        · exact h3 x (by rw [jxUp_n _ _ q]; exact hx) hx'
      · by_cases q : x = w
        · rw [q]; exact hSw
        · exact h4 S hS ((hS w hw).mp hSw) x (by rw [jxUp_n _ _ q]; exact hx) hx'
    · rw [jmFc_st e]
      exact ⟨fun x h => h, e, fun x e h => absurd e h, fun S _ _ x e h => absurd e h⟩
def mf_X (st n w : Nat) : Prop := w < 2 * n ∧ st.testBit (w / 2) = true
theorem mf_nI {m : Nat} (h : m < 2 ^ 31) : nI m ≠ -1 := fun e => nI_pos h (by rw [e]; decide)
theorem mf_Le {st n : Nat} {f : Nat → Nat} (hn : n ≤ 16) (hP : ma_P (2 * n) (mf_X st n) f) : ∀ k, k ≤ 2 * n → (jmLe f st k).1 = ma_S (fun j => ma_pc (ma_rp (mf_X st n) (ma_O (mf_X st n) f) j)) k ∧ ∀ w, mf_X st n w → ((jmLe f st k).2 w ≠ -1 ↔ ∃ j, j < k ∧ mf_X st n j ∧ ma_O (mf_X st n) f j w) := by
  have hE := ma_O_E (mf_X st n) f
  intro k
  induction k with
  | zero => exact fun _ => ⟨rfl, fun w _ => ⟨fun h => absurd rfl h, fun ⟨j, hj, _⟩ => absurd hj (Nat.not_lt_zero j)⟩⟩
  | succ k ih =>
    intro hk
    obtain ⟨h1, h2⟩ := ih (by omega)
    have hle := jmLe_le f st k
    show _ = ma_S _ k + ma_pc _ ∧ _
    cases c : st.testBit (k / 2) with
    | false =>
      have nX : ¬ mf_X st n k := fun z => by rw [z.2] at c; cases c
      rw [jmLe_n1 c, ma_pc_f (fun z => nX z.1), Nat.add_zero]
      refine ⟨h1, fun w hw => (h2 w hw).trans ⟨fun ⟨j, hj, z⟩ => ⟨j, by omega, z⟩, fun ⟨j, hj, z⟩ => ⟨j, ?_, z⟩⟩⟩
      have : j ≠ k := fun e => nX (e ▸ z.1)
      omega
    | true =>
      have hX : mf_X st n k := ⟨by omega, c⟩
      by_cases d : (jmLe f st k).2 k = -1
      · have nex : ¬ ∃ j, j < k ∧ mf_X st n j ∧ ma_O (mf_X st n) f j k := fun z => (h2 k hX).mpr z d
        rw [jmLe_y c d]
        dsimp only
        rw [ma_pc_t ⟨hX, fun j hj hx hR => nex ⟨j, hj, hx, hR⟩⟩, h1]
        refine ⟨rfl, ?_⟩
        have hv : nI (jmLe f st k).1 ≠ -1 := mf_nI (by omega)
        rw [← h1]
        obtain ⟨a1, a2, a3, a4⟩ := mf_Fc hP hv 32 k (jmLe f st k).2 hX (by
          have := ma_S_le (f := fun x => ma_pc (mf_X st n x ∧ (jmLe f st k).2 x = -1)) (g := fun _ => 1) (N := 2 * n) (fun x _ => ma_pc_le _)
          rw [ma_S_const] at this
          omega)
        have hinv : ma_I (mf_X st n) f (fun x => jmFc f (nI (jmLe f st k).1) 32 k (jmLe f st k).2 x ≠ -1) := ma_P_inv hP (fun x hx hm => by
          by_cases q : (jmLe f st k).2 x = -1
          · exact a3 x q hm
          · obtain ⟨j, hj, hXj, hR⟩ := (h2 x hx).mp q
            exact a1 _ ((h2 (f x) (hP.2.1 x hx)).mpr ⟨j, hj, hXj, hE.2.2 _ _ _ hR (ma_O_st hx)⟩))
        refine fun w hw => ⟨fun hm => ?_, fun ⟨j, hj, hXj, hR⟩ => ?_⟩
        · by_cases q : (jmLe f st k).2 w = -1
          · refine ⟨k, Nat.lt_succ_self k, hX, a4 (fun x => ma_O (mf_X st n) f k x) (fun z hz => ⟨fun t => hE.2.2 _ _ _ t (ma_O_st hz), fun t => hE.2.2 _ _ _ t (hE.2.1 _ _ (ma_O_st hz))⟩) (hE.1 k hX) w q hm⟩
          · obtain ⟨j, hj, z⟩ := (h2 w hw).mp q
            exact ⟨j, by omega, z⟩
        · by_cases q : j = k
          · subst q
            exact (hR _ hinv).mp a2
          · exact a1 w ((h2 w hw).mpr ⟨j, by omega, hXj, hR⟩)
      · obtain ⟨i, hi, hXi, hRi⟩ := (h2 k hX).mp d
        rw [jmLe_n2 d, ma_pc_f (fun z => z.2 i hi hXi hRi), Nat.add_zero]
        refine ⟨h1, fun w hw => (h2 w hw).trans ⟨fun ⟨j, hj, z⟩ => ⟨j, by omega, z⟩, fun ⟨j, hj, z⟩ => ?_⟩⟩
        by_cases q : j = k
        · subst q
          exact ⟨i, hi, hXi, hE.2.2 _ _ _ hRi z.2⟩
        · exact ⟨j, by omega, z⟩
/-- the faces that are walked: orbits -/
theorem mf_faces {st n : Nat} {f : Nat → Nat} (hn : n ≤ 16) (hP : ma_P (2 * n) (mf_X st n) f) : (jmLe f st (2 * n)).1 = ma_K (2 * n) (mf_X st n) (ma_O (mf_X st n) f) := (mf_Le hn hP (2 * n) (Nat.le_refl _)).1
/-! the next line about a point -/
theorem mf_bh_inj {l a b : Nat} (ha : a < l) (hb : b < l) (h : jmBehind l a = jmBehind l b) : a = b := by
  unfold jmBehind at h
  split at h <;> split at h <;> omega
theorem mf_it_lt {l p : Nat} (hp : p < l) : ∀ t, ma_it (jmBehind l) p t < l
  | 0 => hp
  | t + 1 => jmBehind_lt (by omega)
theorem mf_it_val {l p : Nat} (hp : p < l) : ∀ t, t ≤ l → ma_it (jmBehind l) p t = if p + t < l then p + t else p + t - l
  | 0, _ => by rw [if_pos (by omega)]; rfl
  | t + 1, ht => by
    show jmBehind l (ma_it (jmBehind l) p t) = _
    rw [mf_it_val hp t (by omega)]
    unfold jmBehind
    split <;> split <;> split <;> omega
theorem mf_it_add {f : Nat → Nat} {p : Nat} (s : Nat) : ∀ t, ma_it f p (s + t) = ma_it f (ma_it f p s) t
  | 0 => rfl
  | t + 1 => congrArg f (mf_it_add s t)
theorem mf_it_inj {l a b : Nat} (ha : a < l) (hb : b < l) : ∀ t, ma_it (jmBehind l) a t = ma_it (jmBehind l) b t → a = b
  | 0, h => h
  | t + 1, h => mf_it_inj ha hb t (mf_bh_inj (mf_it_lt ha t) (mf_it_lt hb t) h)
theorem mf_it_sh {f : Nat → Nat} {p : Nat} : ∀ t, ma_it f (f p) t = ma_it f p (t + 1)
  | 0 => rfl
  | t + 1 => congrArg f (mf_it_sh t)
/-- t steps on from the place p stands the next line that stands -/
def mf_N (st : Nat) (o : Nat → Nat) (l p t : Nat) : Prop := 1 ≤ t ∧ st.testBit (o (ma_it (jmBehind l) p t)) = true ∧ ∀ s, 1 ≤ s → s < t → st.testBit (o (ma_it (jmBehind l) p s)) = false
theorem mf_N_ex {st l p : Nat} {o : Nat → Nat} (hp : p < l) (hs : st.testBit (o p) = true) : ∃ t, t ≤ l ∧ mf_N st o l p t := by
  have hl : ma_it (jmBehind l) p l = p := by
    rw [mf_it_val hp l (Nat.le_refl l), if_neg (by omega)]
    omega
  obtain ⟨t, ⟨h1, h2⟩, h3, h4⟩ := ma_least (p := fun t => 1 ≤ t ∧ st.testBit (o (ma_it (jmBehind l) p t)) = true) l ⟨by omega, by rw [hl]; exact hs⟩
  refine ⟨t, h3, h1, h2, fun s hs1 hs2 => ?_⟩
  cases hh : st.testBit (o (ma_it (jmBehind l) p s)) with
  | false => rfl
  | true => exact absurd ⟨hs1, hh⟩ (h4 s hs2)
theorem mf_N_uq {st l p t t' : Nat} {o : Nat → Nat} (h : mf_N st o l p t) (h' : mf_N st o l p t') : t = t' := by
  rcases Nat.lt_trichotomy t t' with q | q | q
  · have := h'.2.2 t h.1 q
    rw [h.2.1] at this
    cases this
  · exact q
  · have := h.2.2 t' h'.1 q
    rw [h'.2.1] at this
    cases this
def mf_d (sm : Nat → Nat) (q i : Nat) : Nat := 2 * i + (if sm i = q then 0 else 1)
theorem mf_WB {sm : Nat → Nat} {st l q w : Nat} {o : Nat → Nat} : ∀ (k p t : Nat), t ≤ k → mf_N st o l p t → jmWB sm st o l q w k p = mf_d sm q (o (ma_it (jmBehind l) p t))
  | 0, p, t, ht, h => absurd h.1 (by omega)
  | k + 1, p, t, ht, h => by
    by_cases c : st.testBit (o (jmBehind l p)) = true
    · have e1 : t = 1 := mf_N_uq h ⟨Nat.le_refl 1, c, fun s h1 h2 => by omega⟩
      subst e1
      exact if_pos c
    · have e : jmWB sm st o l q w (k + 1) p = jmWB sm st o l q w k (jmBehind l p) := if_neg c
      have ht1 : t ≠ 1 := fun z => c (by have := h.2.1; rw [z] at this; exact this)
      have h1 := h.1
      have hN : mf_N st o l (jmBehind l p) (t - 1) := by
        refine ⟨by omega, ?_, fun s hs1 hs2 => ?_⟩
        · rw [mf_it_sh, show t - 1 + 1 = t by omega]
          exact h.2.1
        · rw [mf_it_sh]
          exact h.2.2 (s + 1) (by omega) (by omega)
      rw [e, mf_WB k (jmBehind l p) (t - 1) (by omega) hN, mf_it_sh, show t - 1 + 1 = t by omega]
theorem mf_find {g : Nat → Bool} {p : Nat} (hg : g p = true) : ∀ (k s : Nat), s ≤ p → p < s + k → (∀ j, s ≤ j → j < p → g j = false) → jmFind g k s = p
  | 0, s, h1, h2, _ => by omega
  | k + 1, s, h1, h2, h3 => by
    by_cases e : s = p
    · subst e
      exact if_pos hg
    · have : jmFind g (k + 1) s = jmFind g k (s + 1) := if_neg (by rw [h3 s (Nat.le_refl s) (by omega)]; exact Bool.false_ne_true)
      rw [this]
      exact mf_find hg k (s + 1) (by omega) (by omega) (fun j hj => h3 j (by omega))
section MF
variable {P n : Nat} {sm gr le : Nat → Nat} {od : Nat → Nat → Nat}
/-- ends of lines: two, apart, of points that there are -/
def mf_G (P n : Nat) (sm gr : Nat → Nat) : Prop := n ≤ 16 ∧ ∀ i, i < n → sm i < gr i ∧ gr i < P
theorem mf_at (hG : mf_G P n sm gr) {w : Nat} (hw : w < 2 * n) : jmWalkAt sm gr w < P ∧ (sm (w / 2) = jmWalkAt sm gr w ∨ gr (w / 2) = jmWalkAt sm gr w) := by
  have := hG.2 (w / 2) (by omega)
  unfold jmWalkAt
  split
  · exact ⟨this.2, Or.inr rfl⟩
  · exact ⟨by omega, Or.inl rfl⟩
/-- the place at which a walk comes to its point -/
theorem mf_place (hG : mf_G P n sm gr) (hox : jmOX P n sm gr le od) {w : Nat} (hw : w < 2 * n) : ∃ p, p < le (jmWalkAt sm gr w) ∧ od (jmWalkAt sm gr w) p = w / 2 ∧ jmFind (fun k => od (jmWalkAt sm gr w) k == w / 2) (le (jmWalkAt sm gr w)) 0 = p := by
  have h1 := mf_at hG hw
  obtain ⟨p, hp, e⟩ := hox.2.2.2.1 _ h1.1 (w / 2) (by omega) h1.2
  refine ⟨p, hp, e, mf_find (by simp [e]) _ 0 (Nat.zero_le p) (by omega) (fun j _ hj => ?_)⟩
  have : od (jmWalkAt sm gr w) j ≠ w / 2 := fun z => by
    have := hox.2.2.1 _ h1.1 j p (by omega) hp (z.trans e.symm)
    omega
  simp [this]
theorem mf_val (hG : mf_G P n sm gr) (hox : jmOX P n sm gr le od) {st w p t : Nat} (hw : w < 2 * n) (hp : p < le (jmWalkAt sm gr w)) (ep : od (jmWalkAt sm gr w) p = w / 2) (ht : t ≤ le (jmWalkAt sm gr w)) (hN : mf_N st (od (jmWalkAt sm gr w)) (le (jmWalkAt sm gr w)) p t) :
    jmWalk sm gr st le od w = mf_d sm (jmWalkAt sm gr w) (od (jmWalkAt sm gr w) (ma_it (jmBehind (le (jmWalkAt sm gr w))) p t)) := by
  obtain ⟨p', hp', e', hf⟩ := mf_place hG hox hw
  have epp : p' = p := hox.2.2.1 _ (mf_at hG hw).1 p' p hp' hp (e'.trans ep.symm)
  unfold jmWalk
  rw [hf, epp]
  exact mf_WB _ p t ht hN
theorem mf_d2 {q i : Nat} : mf_d sm q i / 2 = i := by
  unfold mf_d
  split <;> omega
/-- from where a walk comes -/
def mf_tl (sm gr : Nat → Nat) (w : Nat) : Nat := if w % 2 = 0 then sm (w / 2) else gr (w / 2)
theorem mf_tl_d (hG : mf_G P n sm gr) {q i : Nat} (hi : i < n) (h : sm i = q ∨ gr i = q) : mf_tl sm gr (mf_d sm q i) = q := by
  have := hG.2 i hi
  unfold mf_tl
  rw [mf_d2]
  unfold mf_d
  by_cases c : sm i = q
  · rw [if_pos c, if_pos (by omega)]
    exact c
  · rw [if_neg c, if_neg (by omega)]
    exact h.resolve_left c
theorem mf_eq (hG : mf_G P n sm gr) {w w' : Nat} (hw : w < 2 * n) (h1 : w / 2 = w' / 2) (h2 : jmWalkAt sm gr w = jmWalkAt sm gr w') : w = w' := by
  have := hG.2 (w / 2) (by omega)
  unfold jmWalkAt at h2
  rw [← h1] at h2
  split at h2 <;> split at h2 <;> omega
theorem mf_eq_tl (hG : mf_G P n sm gr) {w w' : Nat} (hw : w < 2 * n) (h1 : w / 2 = w' / 2) (h2 : mf_tl sm gr w = mf_tl sm gr w') : w = w' := by
  have := hG.2 (w / 2) (by omega)
  unfold mf_tl at h2
  rw [← h1] at h2
  split at h2 <;> split at h2 <;> omega
/-- a walk's next one: its place, its steps, what it is -/
theorem mf_nx (hG : mf_G P n sm gr) (hox : jmOX P n sm gr le od) {st w : Nat} (hw : mf_X st n w) : ∃ p t, p < le (jmWalkAt sm gr w) ∧ od (jmWalkAt sm gr w) p = w / 2 ∧ t ≤ le (jmWalkAt sm gr w) ∧ mf_N st (od (jmWalkAt sm gr w)) (le (jmWalkAt sm gr w)) p t ∧ jmWalk sm gr st le od w = mf_d sm (jmWalkAt sm gr w) (od (jmWalkAt sm gr w) (ma_it (jmBehind (le (jmWalkAt sm gr w))) p t)) := by
  obtain ⟨p, hp, ep, -⟩ := mf_place hG hox hw.1
  obtain ⟨t, ht, hN⟩ := mf_N_ex (st := st) (o := od (jmWalkAt sm gr w)) hp (by rw [ep]; exact hw.2)
  exact ⟨p, t, hp, ep, ht, hN, mf_val hG hox hw.1 hp ep ht hN⟩
theorem mf_nx_tl (hG : mf_G P n sm gr) (hox : jmOX P n sm gr le od) {st w : Nat} (hw : mf_X st n w) : mf_X st n (jmWalk sm gr st le od w) ∧ mf_tl sm gr (jmWalk sm gr st le od w) = jmWalkAt sm gr w := by
  obtain ⟨p, t, hp, ep, ht, hN, e⟩ := mf_nx hG hox hw
  have hq := (mf_at hG hw.1).1
  have h2 := hox.2.1 _ hq _ (mf_it_lt hp t)
  rw [e]
  refine ⟨⟨?_, ?_⟩, mf_tl_d hG h2.1 h2.2⟩
  · have := h2.1
    unfold mf_d
    split <;> omega
  · rw [mf_d2]
    exact hN.2.1
theorem mf_perm (hG : mf_G P n sm gr) (hox : jmOX P n sm gr le od) (st : Nat) : ma_P (2 * n) (mf_X st n) (jmWalk sm gr st le od) := by
  refine ⟨fun x hx => hx.1, fun x hx => (mf_nx_tl hG hox hx).1, ?_⟩
  have half : ∀ x y, mf_X st n x → mf_X st n y → jmWalkAt sm gr x = jmWalkAt sm gr y → ∀ p t p' t', p < le (jmWalkAt sm gr x) → od (jmWalkAt sm gr x) p = x / 2 → mf_N st (od (jmWalkAt sm gr x)) (le (jmWalkAt sm gr x)) p t → p' < le (jmWalkAt sm gr x) → od (jmWalkAt sm gr x) p' = y / 2 → mf_N st (od (jmWalkAt sm gr x)) (le (jmWalkAt sm gr x)) p' t' → ma_it (jmBehind (le (jmWalkAt sm gr x))) p t = ma_it (jmBehind (le (jmWalkAt sm gr x))) p' t' → t ≤ t' → x = y := by
    intro x y hx hy hq p t p' t' hp ep hN hp' ep' hN' he hle
    obtain ⟨d, rfl⟩ := Nat.exists_eq_add_of_le hle
    rw [Nat.add_comm t d, mf_it_add] at he
    have e1 := mf_it_inj hp (mf_it_lt hp' d) t he
    by_cases q : d = 0
    · subst q
      have e2 : p = p' := e1
      exact mf_eq hG hx.1 (by rw [← ep, ← ep', e2]) hq
    · have hst := hN'.2.2 d (by omega) (by have := hN.1; omega)
      rw [← e1, ep, hx.2] at hst
      cases hst
  intro x y hx hy he
  obtain ⟨p, t, hp, ep, ht, hN, e⟩ := mf_nx hG hox hx
  obtain ⟨p', t', hp', ep', ht', hN', e'⟩ := mf_nx hG hox hy
  have hq : jmWalkAt sm gr x = jmWalkAt sm gr y := by
    rw [← (mf_nx_tl hG hox hx).2, ← (mf_nx_tl hG hox hy).2, he]
  rw [← hq] at hp' ep' hN' e'
  have hl : od (jmWalkAt sm gr x) (ma_it (jmBehind (le (jmWalkAt sm gr x))) p t) = od (jmWalkAt sm gr x) (ma_it (jmBehind (le (jmWalkAt sm gr x))) p' t') := by
    rw [e, e'] at he
    have h9 : mf_d sm (jmWalkAt sm gr x) (od (jmWalkAt sm gr x) (ma_it (jmBehind (le (jmWalkAt sm gr x))) p t)) / 2 = mf_d sm (jmWalkAt sm gr x) (od (jmWalkAt sm gr x) (ma_it (jmBehind (le (jmWalkAt sm gr x))) p' t')) / 2 := by rw [he]
    rwa [mf_d2, mf_d2] at h9
  have hpl := hox.2.2.1 _ (mf_at hG hx.1).1 _ _ (mf_it_lt hp t) (mf_it_lt hp' t') hl
  rcases Nat.le_total t t' with q | q
  · exact half x y hx hy hq p t p' t' hp ep hN hp' ep' hN' hpl q
  · exact (half y x hy hx hq.symm p' t' p t (hq ▸ hp') (hq ▸ ep') (hq ▸ hN') (hq ▸ hp) (hq ▸ ep) (hq ▸ hN) (hq ▸ hpl.symm) q).symm
end MF
