/-! own rows: distances; parts without lines and points; what two points are asked -/
theorem md_first {f : Nat → Nat} {o : Nat} : ∀ (k s : Nat), (jmFirst f o k s = -1 ∧ ∀ j, s ≤ j → j < s + k → (f j).testBit o = false) ∨ ∃ j, s ≤ j ∧ j < s + k ∧ (f j).testBit o = true ∧ jmFirst f o k s = nI j ∧ ∀ i, s ≤ i → i < j → (f i).testBit o = false
  | 0, s => Or.inl ⟨rfl, fun j h1 h2 => by omega⟩
  | k + 1, s => by
    cases c : (f s).testBit o with
    | true =>
      have e : jmFirst f o (k + 1) s = nI s := if_pos c
      exact Or.inr ⟨s, Nat.le_refl s, by omega, c, e, fun i h1 h2 => by omega⟩
    | false =>
      have e : jmFirst f o (k + 1) s = jmFirst f o k (s + 1) := if_neg (by rw [c]; exact Bool.false_ne_true)
      rw [e]
      rcases md_first k (s + 1) (f := f) (o := o) with ⟨h1, h2⟩ | ⟨j, h1, h2, h3, h4, h5⟩
      · left
        refine ⟨h1, fun j g1 g2 => ?_⟩
        by_cases q : j = s
        · rw [q]
          exact c
        · exact h2 j (by omega) (by omega)
      · right
        refine ⟨j, by omega, by omega, h3, h4, fun i g1 g2 => ?_⟩
        by_cases q : i = s
        · rw [q]
          exact c
        · exact h5 i (by omega) (by omega)
theorem md_LA {en la : Nat → Nat} {st n M y : Nat} : ∀ k, (jmLA en la st n M k).testBit y = true ↔ ∃ q, q < k ∧ M.testBit q = true ∧ (jmLinked en la st n q).testBit y = true
  | 0 => ⟨fun z => (by rw [show jmLA en la st n M 0 = 0 from rfl, Nat.zero_testBit] at z; cases z), fun ⟨i, hi, _⟩ => absurd hi (Nat.not_lt_zero i)⟩
  | k + 1 => by
    have ih := md_LA (en := en) (la := la) (st := st) (n := n) (M := M) (y := y) k
    by_cases c : M.testBit k = true
    · have e : jmLA en la st n M (k + 1) = jmLA en la st n M k ||| jmLinked en la st n k := if_pos c
      rw [e, Nat.testBit_or, Bool.or_eq_true, ih]
      constructor
      · rintro (⟨i, hi, z⟩ | z)
        · exact ⟨i, by omega, z⟩
        · exact ⟨k, by omega, c, z⟩
      · rintro ⟨i, hi, z⟩
        by_cases q : i = k
        · exact Or.inr (q ▸ z.2)
        · exact Or.inl ⟨i, by omega, z⟩
    · have e : jmLA en la st n M (k + 1) = jmLA en la st n M k := if_neg c
      rw [e, ih]
      constructor
      · rintro ⟨i, hi, z⟩
        exact ⟨i, by omega, z⟩
      · rintro ⟨i, hi, z⟩
        by_cases q : i = k
        · exact absurd (q ▸ z.1) c
        · exact ⟨i, by omega, z⟩
theorem md_fix7 {f : Nat → Nat} (hlt : ∀ y, y < 256 → f y < 256) (hup : ∀ M y, M.testBit y = true → (f M).testBit y = true) {x : Nat} (hx : x < 256) (h1 : 1 ≤ mc_cnt x) : f (jmIt f 7 x) = jmIt f 7 x := by
  have key : ∀ r, (∃ q, q < r ∧ f (jmIt f q x) = jmIt f q x) ∨ r + 1 ≤ mc_cnt (jmIt f r x) := by
    intro r
    induction r with
    | zero => exact Or.inr h1
    | succ r ih =>
      rcases ih with ⟨q, hq, e⟩ | ih
      · exact Or.inl ⟨q, by omega, e⟩
      · by_cases e : f (jmIt f r x) = jmIt f r x
        · exact Or.inl ⟨r, by omega, e⟩
        · right
          have := mc_cnt_lt (M := jmIt f r x) (M' := f (jmIt f r x)) (jmIt_lt hx hlt r) (hlt _ (jmIt_lt hx hlt r)) (hup _) e
          show r + 1 + 1 ≤ mc_cnt (f (jmIt f r x))
          omega
  rcases key 8 with ⟨q, hq, e⟩ | h
  · have h2 := jmIt_stay e (7 - q)
    rw [show q + (7 - q) = 7 by omega] at h2
    rw [h2, e]
  · have := mc_cnt_le (jmIt f 8 x)
    omega
theorem md_K_le {N : Nat} {X : Nat → Prop} {R R' : Nat → Nat → Prop} (h : ∀ x y, R' x y → R x y) : ma_K N X R ≤ ma_K N X R' := ma_S_le (fun k _ => ma_pc_mono (fun z => ⟨z.1, fun j hj hx hr => z.2 j hj hx (h _ _ hr)⟩))
theorem md_K_lt {N : Nat} {X : Nat → Prop} {R R' : Nat → Nat → Prop} (hE : ma_E X R) (hE' : ma_E X R') (h : ∀ x y, R' x y → R x y) (hX : ∀ x, X x → x < N) {a o : Nat} (ha : X a) (ho : X o) (hR : R a o) (hR' : ¬ R' a o) : ma_K N X R + 1 ≤ ma_K N X R' := by
  obtain ⟨m1, p1, q1, -⟩ := ma_rep hE' ha
  obtain ⟨m2, p2, q2, -⟩ := ma_rep hE' ho
  have hne : m1 ≠ m2 := fun z => hR' (hE'.2.2 _ _ _ (hE'.2.1 _ _ q1) (z ▸ q2))
  have h12 : R m1 m2 := hE.2.2 _ _ _ (h _ _ q1) (hE.2.2 _ _ _ hR (hE.2.1 _ _ (h _ _ q2)))
  have key : ∃ m, m < N ∧ ma_rp X R' m ∧ ¬ ma_rp X R m := by
    rcases Nat.lt_or_gt_of_ne hne with l | l
    · exact ⟨m2, hX _ p2.1, p2, fun z => z.2 m1 l p1.1 h12⟩
    · exact ⟨m1, hX _ p1.1, p1, fun z => z.2 m2 l p2.1 (hE.2.1 _ _ h12)⟩
  obtain ⟨m, mN, mp, mn⟩ := key
  have h1 := ma_S_le (f := fun k => ma_pc (ma_rp X R k) + ma_pc (k = m)) (g := fun k => ma_pc (ma_rp X R' k)) (N := N) (fun k _ => by
    by_cases c : k = m
    · rw [c, ma_pc_f mn, ma_pc_t mp, ma_pc_t rfl]
      exact Nat.le_refl 1
    · rw [ma_pc_f (p := k = m) c]
      exact ma_pc_mono (fun z => ⟨z.1, fun j hj hx hr => z.2 j hj hx (h _ _ hr)⟩))
  rw [ma_S_add, ma_S_one (p := fun k => k = m) mN rfl (fun j _ hj => hj)] at h1
  exact h1
theorem md_K2 {N : Nat} {X : Nat → Prop} {R : Nat → Nat → Prop} (hE : ma_E X R) (hX : ∀ x, X x → x < N) {a o : Nat} (ha : X a) (ho : X o) (hR : ¬ R a o) : 2 ≤ ma_K N X R := by
  obtain ⟨m1, p1, q1, -⟩ := ma_rep hE ha
  obtain ⟨m2, p2, q2, -⟩ := ma_rep hE ho
  have hne : m1 ≠ m2 := fun z => hR (hE.2.2 _ _ _ (hE.2.1 _ _ q1) (z ▸ q2))
  have h1 := ma_S_le (f := fun k => ma_pc (k = m1) + ma_pc (k = m2)) (g := fun k => ma_pc (ma_rp X R k)) (N := N) (fun k _ => by
    by_cases c : k = m1
    · rw [c, ma_pc_t p1, ma_pc_t rfl, ma_pc_f hne]
      exact Nat.le_refl 1
    · rw [ma_pc_f (p := k = m1) c, Nat.zero_add]
      exact ma_pc_mono (fun z => z ▸ p2))
  rw [ma_S_add, ma_S_one (p := fun k => k = m1) (hX _ p1.1) rfl (fun j _ hj => hj), ma_S_one (p := fun k => k = m2) (hX _ p2.1) rfl (fun j _ hj => hj)] at h1
  exact h1
section MDS
variable {P n st : Nat} {sm gr co en la : Nat → Nat}
theorem md_lkC (hw : jmWF P n st sm gr co en la) {x y : Nat} (h : mx_lk sm gr st n x y) : mc_C sm gr (2 ^ P - 1) st n x y ∧ x < P ∧ y < P ∧ x ≠ y := by
  have hE := mc_E (fun _ => True) sm gr (2 ^ P - 1) st n
  obtain ⟨i, hi, hb, e⟩ := h
  have h4 := hw.2.2.2.1 i hi
  have hl := mc_line hi hb (sm := sm) (gr := gr) (wi := 2 ^ P - 1) (mc_all.mpr (by omega)) (mc_all.mpr (by omega))
  rcases e with ⟨e1, e2⟩ | ⟨e1, e2⟩
  · rw [e1, e2] at hl
    exact ⟨hl, by omega, by omega, by omega⟩
  · rw [e1, e2] at hl
    exact ⟨hE.2.1 _ _ hl, by omega, by omega, by omega⟩
theorem md_dist (hw : jmWF P n st sm gr co en la) {a o : Nat} (ha : a < P) (ho : o < P) (hne : a ≠ o) :
    (mx_lk sm gr st n a o → jmDist en la P st n a o = nI 1) ∧ (¬ mx_lk sm gr st n a o → (jmDist en la P st n a o = -1 ∧ ¬ mc_C sm gr (2 ^ P - 1) st n a o) ∨ ∃ s, 2 ≤ s ∧ s < 8 ∧ jmDist en la P st n a o = nI s ∧ mc_C sm gr (2 ^ P - 1) st n a o) := by
  have hP := hw.1
  have hE := mc_E (fun _ => True) sm gr (2 ^ P - 1) st n
  have f0 : (jmWithin en la P st n a 0).testBit o = false := by
    show (2 ^ a).testBit o = false
    rw [Nat.testBit_two_pow]
    simp [hne]
  have f1 : (jmWithin en la P st n a 1).testBit o = true ↔ mx_lk sm gr st n a o := by
    show (2 ^ a ||| jmLA en la st n (2 ^ a) P).testBit o = true ↔ _
    rw [Nat.testBit_or, Bool.or_eq_true, md_LA, Nat.testBit_two_pow, decide_eq_true_eq]
    constructor
    · rintro (z | ⟨q, hq, h1, h2⟩)
      · exact absurd z hne
      · rw [Nat.testBit_two_pow, decide_eq_true_eq] at h1
        rw [← h1] at h2
        exact (mx_linked hw ha).mp h2
    · intro z
      exact Or.inr ⟨a, ha, by rw [Nat.testBit_two_pow]; simp, (mx_linked hw ha).mpr z⟩
  have sound : ∀ s y, (jmWithin en la P st n a s).testBit y = true → mc_C sm gr (2 ^ P - 1) st n a y := by
    intro s
    induction s with
    | zero =>
      intro y hy
      have hy : (2 ^ a).testBit y = true := hy
      rw [Nat.testBit_two_pow, decide_eq_true_eq] at hy
      rw [← hy]
      exact hE.1 a trivial
    | succ s ih =>
      intro y hy
      have hy : (jmWithin en la P st n a s ||| jmLA en la st n (jmWithin en la P st n a s) P).testBit y = true := hy
      rw [Nat.testBit_or, Bool.or_eq_true, md_LA] at hy
      rcases hy with z | ⟨q, hq, h1, h2⟩
      · exact ih y z
      · exact hE.2.2 _ _ _ (ih q h1) (md_lkC hw ((mx_linked hw hq).mp h2)).1
  have he := jmWF_en hw
  have hfix : jmWithin en la P st n a 7 ||| jmLA en la st n (jmWithin en la P st n a 7) P = jmWithin en la P st n a 7 := md_fix7 (f := fun M => M ||| jmLA en la st n M P) (fun y hy => Nat.or_lt_two_pow (n := 8) hy (jmLA_lt he)) (fun M y hy => by rw [Nat.testBit_or, hy]; rfl) (jx_pow8 (by omega)) (mc_cnt1 (by omega))
  have hcl : mc_I sm gr (2 ^ P - 1) st n (fun y => (jmWithin en la P st n a 7).testBit y = true) := by
    have step : ∀ x y, mx_lk sm gr st n x y → (jmWithin en la P st n a 7).testBit x = true → (jmWithin en la P st n a 7).testBit y = true := by
      intro x y hxy hx
      have hb := md_lkC hw hxy
      rw [← hfix, Nat.testBit_or, Bool.or_eq_true, md_LA]
      exact Or.inr ⟨x, hb.2.1, hx, (mx_linked hw hb.2.1).mpr hxy⟩
    intro i hi hb _ _
    exact ⟨step _ _ ⟨i, hi, hb, Or.inl ⟨rfl, rfl⟩⟩, step _ _ ⟨i, hi, hb, Or.inr ⟨rfl, rfl⟩⟩⟩
  have a7 : ∀ s, (jmWithin en la P st n a s).testBit a = true := by
    intro s
    induction s with
    | zero =>
      show (2 ^ a).testBit a = true
      rw [Nat.testBit_two_pow]
      simp
    | succ s ih =>
      show (jmWithin en la P st n a s ||| jmLA en la st n (jmWithin en la P st n a s) P).testBit a = true
      rw [Nat.testBit_or, ih]
      rfl
  have key := md_first (f := jmWithin en la P st n a) (o := o) 8 0
  constructor
  · intro hlk
    rcases key with ⟨-, h2⟩ | ⟨j, h1, h2, h3, h4, h5⟩
    · have := h2 1 (by omega) (by omega)
      rw [f1.mpr hlk] at this
      cases this
    · have hj0 : j ≠ 0 := fun z => by rw [z, f0] at h3; cases h3
      have hj1 : ¬ 1 < j := fun z => by
        have := h5 1 (by omega) z
        rw [f1.mpr hlk] at this
        cases this
      have e : j = 1 := by omega
      rw [e] at h4
      exact h4
  · intro hlk
    rcases key with ⟨h1, h2⟩ | ⟨j, h1, h2, h3, h4, h5⟩
    · refine Or.inl ⟨h1, fun z => ?_⟩
      have h6 := (z _ hcl).mp (a7 7)
      have h7 := h2 7 (by omega) (by omega)
      rw [h7] at h6
      cases h6
    · have hj0 : j ≠ 0 := fun z => by rw [z, f0] at h3; cases h3
      have hj1 : j ≠ 1 := fun z => by rw [z] at h3; exact hlk (f1.mp h3)
      exact Or.inr ⟨j, by omega, by omega, h4, sound j o h3⟩
theorem md_XL0 (hw : jmWF P n st sm gr co en la) (a : Nat) : mx_XL sm gr st n (fun z => mc_C sm gr (2 ^ P - 1) st n a z) = 0 := by
  have hE := mc_E (fun _ => True) sm gr (2 ^ P - 1) st n
  refine ma_S_zero (fun i hi => ?_)
  have h4 := hw.2.2.2.1 i hi
  have hl : st.testBit i = true → mc_C sm gr (2 ^ P - 1) st n (sm i) (gr i) := fun hb => mc_line hi hb (mc_all.mpr (by omega)) (mc_all.mpr (by omega))
  rw [ma_pc_f (fun z => z.2.2 (hE.2.2 _ _ _ z.2.1 (hl z.1))), ma_pc_f (fun z => z.2.2 (hE.2.2 _ _ _ z.2.1 (hE.2.1 _ _ (hl z.1))))]
theorem md_L_pos (hw : jmWF P n st sm gr co en la) {a o : Nat} (ha : a < P) (ho : o < P) (hne : a ≠ o) (h : 0 < jmLy sm gr st n a o) : mc_C sm gr (2 ^ P - 1) st n a o := by
  refine Classical.byContradiction (fun q => ?_)
  have h1 := (mx_Ly hw ha ho hne).1 (fun z => mc_C sm gr (2 ^ P - 1) st n a z) ((mc_E (fun _ => True) sm gr (2 ^ P - 1) st n).1 a trivial) q
  rw [md_XL0 hw] at h1
  omega
theorem md_W_pos (hw : jmWF P n st sm gr co en la) {a o : Nat} (ha : a < P) (ho : o < P) (hne : a ≠ o) : 0 < jmWy sm gr st P n a o ↔ mc_C sm gr (2 ^ P - 1) st n a o := by
  have hP := hw.1
  constructor
  · intro h
    refine Classical.byContradiction (fun q => ?_)
    have h1 := mx_WL hw ha ho hne (T := fun z => mc_C sm gr (2 ^ P - 1) st n a z) ((mc_E (fun _ => True) sm gr (2 ^ P - 1) st n).1 a trivial) q
    rw [md_XL0 hw] at h1
    omega
  · intro hC
    refine Nat.pos_of_ne_zero (fun z => ?_)
    obtain ⟨S, s1, s2, s3⟩ := (mx_Wy hw ha ho hne).2
    rw [z] at s3
    have up : ∀ q, q < P → S q → S (q + 8) := by
      intro q hq hS
      refine Classical.byContradiction (fun y => ?_)
      have h := ma_S_term (f := fun q => (if q = a ∨ q = o then 17 else 1) * ma_pc (S q ∧ ¬ S (q + 8))) (N := P) hq
      rw [ma_pc_t ⟨hS, y⟩, Nat.mul_one] at h
      have e : mx_ZW P a o S = ma_S (fun q => (if q = a ∨ q = o then 17 else 1) * ma_pc (S q ∧ ¬ S (q + 8))) P := rfl
      have : 1 ≤ (if q = a ∨ q = o then 17 else 1) := by split <;> omega
      omega
    have ov : ∀ i, i < n → st.testBit i = true → (S (sm i + 8) → S (gr i)) ∧ (S (gr i + 8) → S (sm i)) := by
      intro i hi hb
      have h := ma_S_term (f := fun i => ma_pc (st.testBit i = true ∧ S (sm i + 8) ∧ ¬ S (gr i)) + ma_pc (st.testBit i = true ∧ S (gr i + 8) ∧ ¬ S (sm i))) (N := n) hi
      have e : mx_YW sm gr st n S = ma_S (fun i => ma_pc (st.testBit i = true ∧ S (sm i + 8) ∧ ¬ S (gr i)) + ma_pc (st.testBit i = true ∧ S (gr i + 8) ∧ ¬ S (sm i))) n := rfl
      constructor
      · intro h1
        refine Classical.byContradiction (fun y => ?_)
        rw [ma_pc_t (p := st.testBit i = true ∧ S (sm i + 8) ∧ ¬ S (gr i)) ⟨hb, h1, y⟩] at h
        omega
      · intro h1
        refine Classical.byContradiction (fun y => ?_)
        rw [ma_pc_t (p := st.testBit i = true ∧ S (gr i + 8) ∧ ¬ S (sm i)) ⟨hb, h1, y⟩] at h
        omega
    refine s2 ((hC S (fun i hi hb _ _ => ?_)).mp s1)
    have h4 := hw.2.2.2.1 i hi
    exact ⟨fun h => (ov i hi hb).1 (up _ (by omega) h), fun h => (ov i hi hb).2 (up _ (by omega) h)⟩
theorem md_and (hw : jmWF P n st sm gr co en la) {q i : Nat} (hq : q < P) : (la q &&& st).testBit i = true ↔ i < n ∧ (sm i = q ∨ gr i = q) ∧ st.testBit i = true := by
  rw [Nat.testBit_and, Bool.and_eq_true, hw.2.2.2.2 q hq i, and_assoc]
theorem md_deg (hw : jmWF P n st sm gr co en la) {q : Nat} (hq : q < P) : mx_XL sm gr st n (fun z => z = q) ≤ jmPop (la q &&& st) ∧ mx_XL sm gr st n (fun z => z ≠ q) ≤ jmPop (la q &&& st) := by
  rw [mx_pop_S]
  have hn := hw.2.1
  have key : ∀ f : Nat → Nat, (∀ i, i < n → f i ≤ jB ((la q &&& st).testBit i)) → ma_S f n ≤ ma_S (fun i => jB ((la q &&& st).testBit i)) 16 := fun f hf => Nat.le_trans (ma_S_le hf) (mx_S_mono hn)
  refine ⟨key _ (fun i hi => ?_), key _ (fun i hi => ?_)⟩
  · rw [mx_jB, ma_pc_congr (md_and hw hq)]
    have h4 := (hw.2.2.2.1 i hi).1
    by_cases c : sm i = q
    · rw [ma_pc_f (p := st.testBit i = true ∧ gr i = q ∧ ¬ sm i = q) (fun z => z.2.2 c)]
      exact ma_pc_mono (fun z => ⟨hi, Or.inl c, z.1⟩)
    · rw [ma_pc_f (p := st.testBit i = true ∧ sm i = q ∧ ¬ gr i = q) (fun z => c z.2.1), Nat.zero_add]
      exact ma_pc_mono (fun z => ⟨hi, Or.inr z.2.1, z.1⟩)
  · rw [mx_jB, ma_pc_congr (md_and hw hq)]
    have h4 := (hw.2.2.2.1 i hi).1
    by_cases c : sm i = q
    · rw [ma_pc_f (p := st.testBit i = true ∧ sm i ≠ q ∧ ¬ gr i ≠ q) (fun z => z.2.1 c), Nat.zero_add]
      exact ma_pc_mono (fun z => ⟨hi, Or.inl c, z.1⟩)
    · rw [ma_pc_f (p := st.testBit i = true ∧ gr i ≠ q ∧ ¬ sm i ≠ q) (fun z => z.2.2 c), Nat.add_zero]
      exact ma_pc_mono (fun z => ⟨hi, Or.inr (Classical.byContradiction z.2.2), z.1⟩)
theorem md_L_deg (hw : jmWF P n st sm gr co en la) {a o : Nat} (ha : a < P) (ho : o < P) (hne : a ≠ o) : jmLy sm gr st n a o ≤ jmPop (la a &&& st) ∧ jmLy sm gr st n a o ≤ jmPop (la o &&& st) := by
  have h := (mx_Ly hw ha ho hne).1
  exact ⟨Nat.le_trans (h (fun z => z = a) rfl (fun z => hne z.symm)) (md_deg hw ha).1, Nat.le_trans (h (fun z => z ≠ o) hne (fun z => z rfl)) (md_deg hw ho).2⟩
/-- without the lines of the side: a part more, if there are some -/
theorem md_out (hw : jmWF P n st sm gr co en la) {a o : Nat} (ha : a < P) (ho : o < P) (hne : a ≠ o) : jmCPc en (2 ^ P - 1) st n P + (if 0 < jmLy sm gr st n a o then 1 else 0) ≤ jmCPc en (2 ^ P - 1) (jxAN st (jmOut la st (jmSide la P st a o) P)) n P := by
  rw [mc_parts hw, mc_parts hw]
  obtain ⟨h1, h2, h3⟩ := mx_side hw ha ho hne
  have hE := mc_E (fun x => (2 ^ P - 1).testBit x = true) sm gr (2 ^ P - 1) st n
  have hE' := mc_E (fun x => (2 ^ P - 1).testBit x = true) sm gr (2 ^ P - 1) (jxAN st (jmOut la st (jmSide la P st a o) P)) n
  have hX : ∀ x, (2 ^ P - 1).testBit x = true → x < P := fun x h => mc_all.mp h
  have hsub : ∀ u v, mc_C sm gr (2 ^ P - 1) (jxAN st (jmOut la st (jmSide la P st a o) P)) n u v → mc_C sm gr (2 ^ P - 1) st n u v := fun u v h S hS => h S (fun i hi hb => hS i hi (mc_an.mp hb).1)
  by_cases c : 0 < jmLy sm gr st n a o
  · rw [if_pos c]
    refine md_K_lt hE hE' hsub hX (mc_all.mpr ha) (mc_all.mpr ho) (md_L_pos hw ha ho hne c) (fun q => ?_)
    have h5 := (q (fun z => (jmSide la P st a o).testBit z = true) (fun i hi hb _ _ => by
      rw [mc_an] at hb
      have h6 : ¬ (jmOut la st (jmSide la P st a o) P).testBit i = true := by rw [hb.2]; exact Bool.false_ne_true
      rw [mx_out hw] at h6
      constructor
      · exact fun z => Classical.byContradiction (fun y => h6 ⟨hi, hb.1, Or.inl ⟨z, y⟩⟩)
      · exact fun z => Classical.byContradiction (fun y => h6 ⟨hi, hb.1, Or.inr ⟨z, y⟩⟩))).mp h1
    rw [h2] at h5
    cases h5
  · rw [if_neg c]
    exact md_K_le hsub
/-- without the points of a gap: two parts at least -/
theorem md_gap2 (hw : jmWF P n st sm gr co en la) {a o G : Nat} (ha : a < P) (ho : o < P) (h1 : G.testBit a = false) (h2 : G.testBit o = false) (h3 : ¬ mc_C sm gr (jxAN (2 ^ P - 1) G) st n a o) : 2 ≤ jmCPc en (jxAN (2 ^ P - 1) G) st n P := by
  rw [mc_parts hw]
  exact md_K2 (mc_E _ sm gr _ st n) (fun x h => mc_all.mp (mc_an.mp h).1) (mc_an.mpr ⟨mc_all.mpr ha, h1⟩) (mc_an.mpr ⟨mc_all.mpr ho, h2⟩) h3
end MDS
