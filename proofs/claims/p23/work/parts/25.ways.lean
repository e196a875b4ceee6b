/-! own rows: ways, gaps and sides: as many ways as part -/
theorem mx_S_ext {f : Nat → Nat} {n : Nat} (h : ∀ k, n ≤ k → f k = 0) : ∀ d, ma_S f (n + d) = ma_S f n
  | 0 => rfl
  | d + 1 => by
    show ma_S f (n + d) + f (n + d) = _
    rw [mx_S_ext h d, h _ (by omega)]
    rfl
theorem mx_S_mono {f : Nat → Nat} {n N : Nat} (h : n ≤ N) : ma_S f n ≤ ma_S f N := by
  obtain ⟨d, rfl⟩ := Nat.exists_eq_add_of_le h
  clear h
  induction d with
  | zero => exact Nat.le_refl _
  | succ d ih => exact Nat.le_trans ih (Nat.le_add_right _ _)
def mx_Q (rm : jmM) (r : Nat → Nat → Nat) (B : Nat) : Prop := ∀ i j, i < 16 → j < 16 → rm i j = nI (r i j) ∧ r i j ≤ B
theorem mx_QR {rm : jmM} {r : Nat → Nat → Nat} {B : Nat} (h : mx_Q rm r B) (hB : B < 500) : mw_R rm r := fun i j hi hj => by
  have h1 := h i j hi hj
  have h2 := h j i hj hi
  exact ⟨h1.1, by omega⟩
theorem mx_inc {rm : jmM} {r : Nat → Nat → Nat} {B a b : Nat} (h : mx_Q rm r B) (ha : a < 16) (hb : b < 16) : mx_Q (jxUp2 rm a b (rm a b + nI 1)) (jxUp2 r a b (r a b + 1)) (B + 1) ∧ ∀ S : Nat → Prop, mw_cut (jxUp2 r a b (r a b + 1)) S = mw_cut r S + ma_pc (S a ∧ ¬ S b) := by
  refine ⟨fun i j hi hj => ?_, fun S => ?_⟩
  · have h1 := h i j hi hj
    unfold jxUp2
    by_cases c : i = a ∧ j = b
    · rw [if_pos c, if_pos c, ← c.1, ← c.2, h1.1, nI_add]
      exact ⟨rfl, by omega⟩
    · rw [if_neg c, if_neg c]
      exact ⟨h1.1, by omega⟩
  · have h1 := mw_cut_up (c := r) (x := r a b + 1) ha hb S
    rw [Nat.mul_add, Nat.mul_one] at h1
    omega
noncomputable def mx_XL (sm gr : Nat → Nat) (st n : Nat) (T : Nat → Prop) : Nat := ma_S (fun i => ma_pc (st.testBit i = true ∧ T (sm i) ∧ ¬ T (gr i)) + ma_pc (st.testBit i = true ∧ T (gr i) ∧ ¬ T (sm i))) n
noncomputable def mx_YW (sm gr : Nat → Nat) (st n : Nat) (S : Nat → Prop) : Nat := ma_S (fun i => ma_pc (st.testBit i = true ∧ S (sm i + 8) ∧ ¬ S (gr i)) + ma_pc (st.testBit i = true ∧ S (gr i + 8) ∧ ¬ S (sm i))) n
noncomputable def mx_ZW (P a o : Nat) (S : Nat → Prop) : Nat := ma_S (fun q => (if q = a ∨ q = o then 17 else 1) * ma_pc (S q ∧ ¬ S (q + 8))) P
theorem mx_C3 {sm gr : Nat → Nat} {st n : Nat} (hg : ∀ j, j < n → sm j < 8 ∧ gr j < 8) : ∀ k, k ≤ n → ∃ r, mx_Q (jmC3 sm gr st (fun _ _ => 0) k) r (2 * k) ∧ ∀ S, mw_cut r S = mx_XL sm gr st k S
  | 0, _ => ⟨fun _ _ => 0, fun _ _ _ _ => ⟨nI_0.symm, Nat.le_refl 0⟩, fun S => mw_cut_0 (fun _ _ _ _ _ _ => rfl)⟩
  | k + 1, hk => by
    obtain ⟨r, h1, h2⟩ := mx_C3 (st := st) hg k (by omega)
    have hb := hg k (by omega)
    have e0 : ∀ S, mx_XL sm gr st (k + 1) S = mx_XL sm gr st k S + (ma_pc (st.testBit k = true ∧ S (sm k) ∧ ¬ S (gr k)) + ma_pc (st.testBit k = true ∧ S (gr k) ∧ ¬ S (sm k))) := fun _ => rfl
    cases c : st.testBit k with
    | true =>
      rw [← jmC3_y c]
      have i1 := mx_inc h1 (a := sm k) (b := gr k) (by omega) (by omega)
      have i2 := mx_inc i1.1 (a := gr k) (b := sm k) (by omega) (by omega)
      refine ⟨_, fun i j hi hj => ⟨(i2.1 i j hi hj).1, Nat.le_trans (i2.1 i j hi hj).2 (by omega)⟩, fun S => ?_⟩
      rw [i2.2 S, i1.2 S, h2 S, e0, ma_pc_congr (p := st.testBit k = true ∧ S (sm k) ∧ ¬ S (gr k)) (q := S (sm k) ∧ ¬ S (gr k)) ⟨fun z => z.2, fun z => ⟨c, z⟩⟩, ma_pc_congr (p := st.testBit k = true ∧ S (gr k) ∧ ¬ S (sm k)) (q := S (gr k) ∧ ¬ S (sm k)) ⟨fun z => z.2, fun z => ⟨c, z⟩⟩]
      omega
    | false =>
      rw [← jmC3_n c]
      have nc : ¬ st.testBit k = true := by rw [c]; exact Bool.false_ne_true
      refine ⟨r, fun i j hi hj => ⟨(h1 i j hi hj).1, Nat.le_trans (h1 i j hi hj).2 (by omega)⟩, fun S => ?_⟩
      rw [h2 S, e0, ma_pc_f (p := st.testBit k = true ∧ S (sm k) ∧ ¬ S (gr k)) (fun z => nc z.1), ma_pc_f (p := st.testBit k = true ∧ S (gr k) ∧ ¬ S (sm k)) (fun z => nc z.1)]
      rfl
theorem mx_C2 {sm gr : Nat → Nat} {st n B : Nat} {F : jmM} {r0 : Nat → Nat → Nat} (hF : mx_Q F r0 B) (hg : ∀ j, j < n → sm j < 8 ∧ gr j < 8) : ∀ k, k ≤ n → ∃ r, mx_Q (jmC2 sm gr st F k) r (B + 2 * k) ∧ ∀ S, mw_cut r S = mw_cut r0 S + mx_YW sm gr st k S
  | 0, _ => ⟨r0, hF, fun S => rfl⟩
  | k + 1, hk => by
    obtain ⟨r, h1, h2⟩ := mx_C2 (st := st) hF hg k (by omega)
    have hb := hg k (by omega)
    have e0 : ∀ S, mx_YW sm gr st (k + 1) S = mx_YW sm gr st k S + (ma_pc (st.testBit k = true ∧ S (sm k + 8) ∧ ¬ S (gr k)) + ma_pc (st.testBit k = true ∧ S (gr k + 8) ∧ ¬ S (sm k))) := fun _ => rfl
    cases c : st.testBit k with
    | true =>
      rw [← jmC2_y c]
      have i1 := mx_inc h1 (a := sm k + 8) (b := gr k) (by omega) (by omega)
      have i2 := mx_inc i1.1 (a := gr k + 8) (b := sm k) (by omega) (by omega)
      refine ⟨_, fun i j hi hj => ⟨(i2.1 i j hi hj).1, Nat.le_trans (i2.1 i j hi hj).2 (by omega)⟩, fun S => ?_⟩
      rw [i2.2 S, i1.2 S, h2 S, e0, ma_pc_congr (p := st.testBit k = true ∧ S (sm k + 8) ∧ ¬ S (gr k)) (q := S (sm k + 8) ∧ ¬ S (gr k)) ⟨fun z => z.2, fun z => ⟨c, z⟩⟩, ma_pc_congr (p := st.testBit k = true ∧ S (gr k + 8) ∧ ¬ S (sm k)) (q := S (gr k + 8) ∧ ¬ S (sm k)) ⟨fun z => z.2, fun z => ⟨c, z⟩⟩]
      omega
    | false =>
      rw [← jmC2_n c]
      have nc : ¬ st.testBit k = true := by rw [c]; exact Bool.false_ne_true
      refine ⟨r, fun i j hi hj => ⟨(h1 i j hi hj).1, Nat.le_trans (h1 i j hi hj).2 (by omega)⟩, fun S => ?_⟩
      rw [h2 S, e0, ma_pc_f (p := st.testBit k = true ∧ S (sm k + 8) ∧ ¬ S (gr k)) (fun z => nc z.1), ma_pc_f (p := st.testBit k = true ∧ S (gr k + 8) ∧ ¬ S (sm k)) (fun z => nc z.1)]
      rfl
def mx_r1 (a o k : Nat) : Nat → Nat → Nat := fun i j => if i < k ∧ j = i + 8 then (if i = a ∨ i = o then 17 else 1) else 0
theorem mx_r1_up (a o k : Nat) : mx_r1 a o (k + 1) = jxUp2 (mx_r1 a o k) k (k + 8) (if k = a ∨ k = o then 17 else 1) := by
  funext i j
  unfold mx_r1 jxUp2
  dsimp only
  by_cases c : i = k ∧ j = k + 8
  · rw [if_pos c, if_pos ⟨by omega, by omega⟩, c.1]
  · rw [if_neg c]
    by_cases d : i < k ∧ j = i + 8
    · rw [if_pos d, if_pos ⟨by omega, d.2⟩]
    · rw [if_neg d, if_neg (by omega)]
theorem mx_C1 (a o : Nat) : ∀ k i j, jmC1 a o k i j = nI (mx_r1 a o k i j)
  | 0, i, j => by
    show (0 : Int32) = _
    unfold mx_r1
    rw [if_neg (by omega)]
    exact nI_0.symm
  | k + 1, i, j => by
    rw [mx_r1_up]
    show jxUp2 (jmC1 a o k) k (k + 8) (if k = a ∨ k = o then nI 17 else nI 1) i j = _
    unfold jxUp2
    by_cases c : i = k ∧ j = k + 8
    · rw [if_pos c, if_pos c]
      split <;> rfl
    · rw [if_neg c, if_neg c]
      exact mx_C1 a o k i j
theorem mx_cut1 (a o : Nat) (S : Nat → Prop) : ∀ k, k ≤ 8 → mw_cut (mx_r1 a o k) S = mx_ZW k a o S
  | 0, _ => mw_cut_0 (fun i j _ _ _ _ => by unfold mx_r1; rw [if_neg (by omega)])
  | k + 1, hk => by
    rw [mx_r1_up]
    have h1 := mw_cut_up (c := mx_r1 a o k) (a := k) (b := k + 8) (x := if k = a ∨ k = o then 17 else 1) (by omega) (by omega) S
    rw [show mx_r1 a o k k (k + 8) = 0 by unfold mx_r1; rw [if_neg (by omega)], Nat.mul_zero, Nat.add_zero, mx_cut1 a o S k (by omega)] at h1
    rw [h1]
    show mx_ZW k a o S + _ = mx_ZW k a o S + _
    rw [Nat.mul_comm]
theorem mx_Q1 (a o k : Nat) : mx_Q (jmC1 a o k) (mx_r1 a o k) 17 := fun i j _ _ => ⟨mx_C1 a o k i j, by unfold mx_r1; split <;> (try split) <;> omega⟩
theorem mx_XL_le (sm gr : Nat → Nat) (st n : Nat) (T : Nat → Prop) : mx_XL sm gr st n T ≤ n := by
  have h := ma_S_le (f := fun i => ma_pc (st.testBit i = true ∧ T (sm i) ∧ ¬ T (gr i)) + ma_pc (st.testBit i = true ∧ T (gr i) ∧ ¬ T (sm i))) (g := fun _ => 1) (N := n) (fun i _ => by
    by_cases c : T (sm i)
    · rw [ma_pc_f (p := st.testBit i = true ∧ T (gr i) ∧ ¬ T (sm i)) (fun z => z.2.2 c)]
      exact ma_pc_le _
    · rw [ma_pc_f (p := st.testBit i = true ∧ T (sm i) ∧ ¬ T (gr i)) (fun z => c z.2.1), Nat.zero_add]
      exact ma_pc_le _)
  rw [ma_S_const, Nat.mul_one] at h
  exact h
theorem mx_XL_congr {sm gr : Nat → Nat} {st n : Nat} {T T' : Nat → Prop} (h : ∀ i, i < n → (T (sm i) ↔ T' (sm i)) ∧ (T (gr i) ↔ T' (gr i))) : mx_XL sm gr st n T = mx_XL sm gr st n T' := ma_S_congr (fun i hi => by
  rw [ma_pc_congr (p := st.testBit i = true ∧ T (sm i) ∧ ¬ T (gr i)) (and_congr Iff.rfl (and_congr (h i hi).1 (not_congr (h i hi).2))), ma_pc_congr (p := st.testBit i = true ∧ T (gr i) ∧ ¬ T (sm i)) (and_congr Iff.rfl (and_congr (h i hi).2 (not_congr (h i hi).1)))])
/-- a kind of points, for both nodes of each -/
def mx_dbl (T : Nat → Prop) : Nat → Prop := fun z => if z < 8 then T z else T (z - 8)
theorem mx_dbl_lo {T : Nat → Prop} {z : Nat} (h : z < 8) : mx_dbl T z = T z := if_pos h
theorem mx_dbl_hi {T : Nat → Prop} {z : Nat} : mx_dbl T (z + 8) = T z := by
  unfold mx_dbl
  rw [if_neg (by omega), Nat.add_sub_cancel]
theorem mx_dbl_YW {sm gr : Nat → Nat} {st n : Nat} (hg : ∀ j, j < n → sm j < 8 ∧ gr j < 8) (T : Nat → Prop) : mx_YW sm gr st n (mx_dbl T) = mx_XL sm gr st n T := ma_S_congr (fun i hi => by
  rw [mx_dbl_hi, mx_dbl_hi, mx_dbl_lo (hg i hi).1, mx_dbl_lo (hg i hi).2])
theorem mx_dbl_ZW {P a o : Nat} (hP : P ≤ 8) (T : Nat → Prop) : mx_ZW P a o (mx_dbl T) = 0 := ma_S_zero (fun q hq => by
  rw [mx_dbl_hi, mx_dbl_lo (by omega), ma_pc_f (fun z => z.2 z.1), Nat.mul_zero])
section MX
variable {P n st : Nat} {sm gr co en la : Nat → Nat}
theorem mx_Ly (hw : jmWF P n st sm gr co en la) {a o : Nat} (ha : a < P) (ho : o < P) (hne : a ≠ o) : (∀ T : Nat → Prop, T a → ¬ T o → jmLy sm gr st n a o ≤ mx_XL sm gr st n T) ∧ ∃ T : Nat → Prop, T a ∧ ¬ T o ∧ mx_XL sm gr st n T = jmLy sm gr st n a o := by
  have hP := hw.1
  have hn := hw.2.1
  obtain ⟨r, h1, h2⟩ := mx_C3 (st := st) (jmWF_gr hw) n (Nat.le_refl n)
  have h3 := mx_XL_le sm gr st n (fun z => z = a)
  have h4 := mw_min (s := a) (t := o) (by omega) (by omega) (mx_QR h1 (by omega)) (fun _ => 0) (fun _ => 0) (fun z => z = a) rfl (fun z => hne z.symm) (by rw [h2]; omega)
  refine ⟨fun T t1 t2 => ?_, ?_⟩
  · rw [← h2 T]
    exact h4.1 T t1 t2
  · obtain ⟨S, s1, s2, s3⟩ := h4.2
    exact ⟨S, s1, s2, by rw [← h2 S]; exact s3⟩
theorem mx_Wy (hw : jmWF P n st sm gr co en la) {a o : Nat} (ha : a < P) (ho : o < P) (hne : a ≠ o) : (∀ S : Nat → Prop, S a → ¬ S o → jmWy sm gr st P n a o ≤ mx_ZW P a o S + mx_YW sm gr st n S) ∧ ∃ S : Nat → Prop, S a ∧ ¬ S o ∧ mx_ZW P a o S + mx_YW sm gr st n S = jmWy sm gr st P n a o := by
  have hP := hw.1
  have hn := hw.2.1
  obtain ⟨r, h1, h2⟩ := mx_C2 (st := st) (mx_Q1 a o P) (jmWF_gr hw) n (Nat.le_refl n)
  have h3 := mx_XL_le sm gr st n (fun z => z = a)
  have hc : ∀ S, mw_cut r S = mx_ZW P a o S + mx_YW sm gr st n S := fun S => by rw [h2 S, mx_cut1 a o S P hP]
  have h4 := mw_min (s := a) (t := o) (by omega) (by omega) (mx_QR h1 (by omega)) (fun _ => 0) (fun _ => 0) (mx_dbl (fun z => z = a)) (by rw [mx_dbl_lo (by omega)]) (by rw [mx_dbl_lo (by omega)]; exact fun z => hne z.symm) (by rw [hc, mx_dbl_ZW hP, mx_dbl_YW (jmWF_gr hw)]; omega)
  refine ⟨fun T t1 t2 => ?_, ?_⟩
  · rw [← hc T]
    exact h4.1 T t1 t2
  · obtain ⟨S, s1, s2, s3⟩ := h4.2
    exact ⟨S, s1, s2, by rw [← hc S]; exact s3⟩
theorem mx_WL (hw : jmWF P n st sm gr co en la) {a o : Nat} (ha : a < P) (ho : o < P) (hne : a ≠ o) {T : Nat → Prop} (t1 : T a) (t2 : ¬ T o) : jmWy sm gr st P n a o ≤ mx_XL sm gr st n T := by
  have hP := hw.1
  have h := (mx_Wy hw ha ho hne).1 (mx_dbl T) (by rw [mx_dbl_lo (by omega)]; exact t1) (by rw [mx_dbl_lo (by omega)]; exact t2)
  rw [mx_dbl_ZW hP, mx_dbl_YW (jmWF_gr hw), Nat.zero_add] at h
  exact h
/-- the bits of what goes out of a set -/
theorem mx_out_k (hw : jmWF P n st sm gr co en la) {T i : Nat} (hi : i < n) : ∀ k, k ≤ P → (jmOut la st T k).testBit i = (st.testBit i && ((decide (sm i < k) && T.testBit (sm i)) ^^ (decide (gr i < k) && T.testBit (gr i))))
  | 0, _ => by
    show (0 : Nat).testBit i = _
    rw [Nat.zero_testBit, show decide (sm i < 0) = false from rfl, show decide (gr i < 0) = false from rfl]
    simp
  | k + 1, hk => by
    have ih := mx_out_k hw (T := T) hi k (by omega)
    have hsg := (hw.2.2.2.1 i hi).1
    have hla : (la k).testBit i = decide (sm i = k ∨ gr i = k) := by
      have h := hw.2.2.2.2 k (by omega) i
      by_cases c : sm i = k ∨ gr i = k
      · rw [decide_eq_true c]
        exact h.mpr ⟨hi, c⟩
      · rw [decide_eq_false c]
        cases hh : (la k).testBit i
        · rfl
        · exact absurd (h.mp hh).2 c
    have es : decide (sm i < k + 1) = (decide (sm i < k) || decide (sm i = k)) := by
      rw [← Bool.decide_or]
      exact decide_eq_decide.mpr (by omega)
    have eg : decide (gr i < k + 1) = (decide (gr i < k) || decide (gr i = k)) := by
      rw [← Bool.decide_or]
      exact decide_eq_decide.mpr (by omega)
    by_cases c : T.testBit k = true
    · have e : jmOut la st T (k + 1) = jmOut la st T k ^^^ (la k &&& st) := if_pos c
      rw [e, Nat.testBit_xor, Nat.testBit_and, ih, hla, es, eg]
      by_cases c1 : sm i = k
      · have n1 : ¬ gr i = k := by omega
        have n2 : ¬ gr i < k := by omega
        rw [decide_eq_true (Or.inl c1 : sm i = k ∨ gr i = k), decide_eq_true c1, decide_eq_false n1, decide_eq_false n2, decide_eq_false (show ¬ sm i < k by omega), c1, c]
        cases st.testBit i <;> rfl
      · by_cases c2 : gr i = k
        · rw [decide_eq_true (Or.inr c2 : sm i = k ∨ gr i = k), decide_eq_false c1, decide_eq_true c2, decide_eq_false (show ¬ gr i < k by omega), c2, c]
          cases st.testBit i <;> cases decide (sm i < k) <;> cases T.testBit (sm i) <;> rfl
        · rw [decide_eq_false (fun z => z.elim c1 c2 : ¬ (sm i = k ∨ gr i = k)), decide_eq_false c1, decide_eq_false c2]
          cases st.testBit i <;> cases decide (sm i < k) <;> cases T.testBit (sm i) <;> cases decide (gr i < k) <;> cases T.testBit (gr i) <;> rfl
    · have e : jmOut la st T (k + 1) = jmOut la st T k := if_neg c
      have c : T.testBit k = false := by
        cases hh : T.testBit k
        · rfl
        · exact absurd hh c
      rw [e, ih, es, eg]
      by_cases c1 : sm i = k
      · rw [decide_eq_true c1, decide_eq_false (show ¬ sm i < k by omega), decide_eq_false (show ¬ gr i < k by omega), decide_eq_false (show ¬ gr i = k by omega), c1, c]
        cases st.testBit i <;> rfl
      · by_cases c2 : gr i = k
        · rw [decide_eq_false c1, decide_eq_true c2, decide_eq_false (show ¬ gr i < k by omega), c2, c]
          cases st.testBit i <;> cases decide (sm i < k) <;> cases T.testBit (sm i) <;> rfl
        · rw [decide_eq_false c1, decide_eq_false c2]
          cases st.testBit i <;> cases decide (sm i < k) <;> cases T.testBit (sm i) <;> cases decide (gr i < k) <;> cases T.testBit (gr i) <;> rfl
theorem mx_out_hi (hw : jmWF P n st sm gr co en la) {T i : Nat} (hi : ¬ i < n) : ∀ k, k ≤ P → (jmOut la st T k).testBit i = false
  | 0, _ => Nat.zero_testBit i
  | k + 1, hk => by
    have ih := mx_out_hi hw (T := T) hi k (by omega)
    by_cases c : T.testBit k = true
    · have e : jmOut la st T (k + 1) = jmOut la st T k ^^^ (la k &&& st) := if_pos c
      have hst : st.testBit i = false := Nat.testBit_lt_two_pow (Nat.lt_of_lt_of_le hw.2.2.1 (Nat.pow_le_pow_right (by decide) (by omega)))
      rw [e, Nat.testBit_xor, Nat.testBit_and, ih, hst, Bool.and_false]
      rfl
    · have e : jmOut la st T (k + 1) = jmOut la st T k := if_neg c
      rw [e]
      exact ih
theorem mx_out (hw : jmWF P n st sm gr co en la) (T i : Nat) : (jmOut la st T P).testBit i = true ↔ i < n ∧ st.testBit i = true ∧ (T.testBit (sm i) = true ∧ ¬ T.testBit (gr i) = true ∨ T.testBit (gr i) = true ∧ ¬ T.testBit (sm i) = true) := by
  by_cases hi : i < n
  · have h4 := hw.2.2.2.1 i hi
    rw [mx_out_k hw hi P (Nat.le_refl P), decide_eq_true (show sm i < P by omega), decide_eq_true h4.2.1]
    cases st.testBit i <;> cases T.testBit (sm i) <;> cases T.testBit (gr i) <;> simp [hi]
  · rw [mx_out_hi hw hi P (Nat.le_refl P)]
    exact ⟨fun z => (by cases z), fun z => absurd z.1 hi⟩
theorem mx_pop_S (x : Nat) : jmPop x = ma_S (fun i => jB (x.testBit i)) 16 := me_popK x 16
theorem mx_jB {b : Bool} : jB b = ma_pc (b = true) := by
  cases b with
  | true => rw [ma_pc_t rfl]; rfl
  | false => rw [ma_pc_f Bool.false_ne_true]; rfl
theorem mx_outN (hw : jmWF P n st sm gr co en la) (T : Nat) : jmOutN la P st T = mx_XL sm gr st n (fun q => T.testBit q = true) := by
  show jmPop (jmOut la st T P) = _
  rw [mx_pop_S]
  have hn := hw.2.1
  have e := mx_S_ext (f := fun i => jB ((jmOut la st T P).testBit i)) (n := n) (fun k hk => by rw [mx_out_hi hw (by omega) P (Nat.le_refl P)]; rfl) (16 - n)
  rw [show n + (16 - n) = 16 by omega] at e
  rw [e]
  refine ma_S_congr (fun i hi => ?_)
  rw [mx_jB, ma_pc_congr (mx_out hw T i)]
  by_cases c : st.testBit i = true ∧ T.testBit (sm i) = true ∧ ¬ T.testBit (gr i) = true
  · rw [ma_pc_t c, ma_pc_t (show _ from ⟨hi, c.1, Or.inl c.2⟩), ma_pc_f (fun z => z.2.2 c.2.1)]
  · by_cases d : st.testBit i = true ∧ T.testBit (gr i) = true ∧ ¬ T.testBit (sm i) = true
    · rw [ma_pc_f c, ma_pc_t d, ma_pc_t (show _ from ⟨hi, d.1, Or.inr d.2⟩)]
    · rw [ma_pc_f c, ma_pc_f d, ma_pc_f (fun z => z.2.2.elim (fun y => c ⟨z.2.1, y⟩) (fun y => d ⟨z.2.1, y⟩))]
/-- a kind of points as a set -/
theorem mx_set (T : Nat → Prop) : ∀ P, ∃ X, X < 2 ^ P ∧ ∀ i, X.testBit i = true ↔ i < P ∧ T i
  | 0 => ⟨0, Nat.one_pos, fun i => ⟨fun z => (by rw [Nat.zero_testBit] at z; cases z), fun z => absurd z.1 (Nat.not_lt_zero i)⟩⟩
  | P + 1 => by
    obtain ⟨X, h1, h2⟩ := mx_set T P
    have h3 : X < 2 ^ (P + 1) := Nat.lt_trans h1 (Nat.pow_lt_pow_right (by decide) (Nat.lt_succ_self P))
    by_cases c : T P
    · refine ⟨X ||| 2 ^ P, Nat.or_lt_two_pow h3 (Nat.pow_lt_pow_right (by decide) (Nat.lt_succ_self P)), fun i => ?_⟩
      rw [Nat.testBit_or, Nat.testBit_two_pow, Bool.or_eq_true, h2 i, decide_eq_true_eq]
      constructor
      · rintro (z | z)
        · exact ⟨by omega, z.2⟩
        · exact ⟨by omega, z ▸ c⟩
      · rintro ⟨z1, z2⟩
        by_cases e : i = P
        · exact Or.inr e.symm
        · exact Or.inl ⟨by omega, z2⟩
    · refine ⟨X, h3, fun i => ?_⟩
      rw [h2 i]
      constructor
      · exact fun z => ⟨by omega, z.2⟩
      · rintro ⟨z1, z2⟩
        by_cases e : i = P
        · exact absurd (e ▸ z2) c
        · exact ⟨by omega, z2⟩
theorem mx_SideF {a o : Nat} (hao : a ≠ o) : ∀ K, (jmSideF la P st a o K).testBit a = true ∧ (jmSideF la P st a o K).testBit o = false ∧ (∀ k, k < K → k.testBit a = true → k.testBit o = false → jmOutN la P st (jmSideF la P st a o K) ≤ jmOutN la P st k)
  | 0 => by
    refine ⟨?_, ?_, fun k hk => absurd hk (Nat.not_lt_zero k)⟩
    · show (2 ^ a).testBit a = true
      rw [Nat.testBit_two_pow]
      simp
    · show (2 ^ a).testBit o = false
      rw [Nat.testBit_two_pow]
      simp [hao]
  | K + 1 => by
    obtain ⟨h1, h2, h3⟩ := mx_SideF hao K
    by_cases c : K.testBit a = true ∧ K.testBit o = false ∧ (jmOutN la P st K < jmOutN la P st (jmSideF la P st a o K) ∨ jmOutN la P st K = jmOutN la P st (jmSideF la P st a o K) ∧ jmPop K < jmPop (jmSideF la P st a o K))
    · have e : jmSideF la P st a o (K + 1) = K := if_pos c
      rw [e]
      refine ⟨c.1, c.2.1, fun k hk k1 k2 => ?_⟩
      by_cases ek : k = K
      · rw [ek]
        exact Nat.le_refl _
      · have := h3 k (by omega) k1 k2
        have := c.2.2
        omega
    · have e : jmSideF la P st a o (K + 1) = jmSideF la P st a o K := if_neg c
      rw [e]
      refine ⟨h1, h2, fun k hk k1 k2 => ?_⟩
      by_cases ek : k = K
      · subst ek
        refine Nat.not_lt.mp (fun z => c ⟨k1, k2, Or.inl z⟩)
      · exact h3 k (by omega) k1 k2
theorem mx_side (hw : jmWF P n st sm gr co en la) {a o : Nat} (ha : a < P) (ho : o < P) (hne : a ≠ o) : (jmSide la P st a o).testBit a = true ∧ (jmSide la P st a o).testBit o = false ∧ jmLy sm gr st n a o = jmPop (jmOut la st (jmSide la P st a o) P) := by
  obtain ⟨h1, h2, h3⟩ := mx_SideF (la := la) (P := P) (st := st) hne (2 ^ P)
  refine ⟨h1, h2, ?_⟩
  obtain ⟨l1, T, t1, t2, t3⟩ := mx_Ly hw ha ho hne
  have e1 : jmPop (jmOut la st (jmSide la P st a o) P) = mx_XL sm gr st n (fun q => (jmSide la P st a o).testBit q = true) := mx_outN hw _
  have g1 := l1 (fun q => (jmSide la P st a o).testBit q = true) h1 (by
    show ¬ (jmSide la P st a o).testBit o = true
    rw [show (jmSide la P st a o).testBit o = false from h2]
    exact Bool.false_ne_true)
  obtain ⟨X, x1, x2⟩ := mx_set T P
  have xo : X.testBit o = false := by
    cases hh : X.testBit o
    · rfl
    · exact absurd ((x2 o).mp hh).2 t2
  have g2 : jmOutN la P st (jmSide la P st a o) ≤ jmOutN la P st X := h3 X x1 ((x2 a).mpr ⟨ha, t1⟩) xo
  rw [mx_outN hw X, mx_XL_congr (T' := T) (fun i hi => by
    have h4 := hw.2.2.2.1 i hi
    exact ⟨⟨fun z => ((x2 _).mp z).2, fun z => (x2 _).mpr ⟨by omega, z⟩⟩, ⟨fun z => ((x2 _).mp z).2, fun z => (x2 _).mpr ⟨h4.2.1, z⟩⟩⟩), t3] at g2
  have g2 : jmPop (jmOut la st (jmSide la P st a o) P) ≤ jmLy sm gr st n a o := g2
  omega
/-- linked points -/
def mx_lk (sm gr : Nat → Nat) (st n x y : Nat) : Prop := ∃ i, i < n ∧ st.testBit i = true ∧ (sm i = x ∧ gr i = y ∨ sm i = y ∧ gr i = x)
theorem mx_LW {en : Nat → Nat} {t y : Nat} : ∀ k, (jmLW en t k).testBit y = true ↔ ∃ i, i < k ∧ t.testBit i = true ∧ (en i).testBit y = true
  | 0 => ⟨fun z => (by rw [show jmLW en t 0 = 0 from rfl, Nat.zero_testBit] at z; cases z), fun ⟨i, hi, _⟩ => absurd hi (Nat.not_lt_zero i)⟩
  | k + 1 => by
    have ih := mx_LW (en := en) (t := t) (y := y) k
    by_cases c : t.testBit k = true
    · have e : jmLW en t (k + 1) = jmLW en t k ||| en k := if_pos c
      rw [e, Nat.testBit_or, Bool.or_eq_true, ih]
      constructor
      · rintro (⟨i, hi, z⟩ | z)
        · exact ⟨i, by omega, z⟩
        · exact ⟨k, by omega, c, z⟩
      · rintro ⟨i, hi, z⟩
        by_cases q : i = k
        · exact Or.inr (q ▸ z.2)
        · exact Or.inl ⟨i, by omega, z⟩
    · have e : jmLW en t (k + 1) = jmLW en t k := if_neg c
      rw [e, ih]
      constructor
      · rintro ⟨i, hi, z⟩
        exact ⟨i, by omega, z⟩
      · rintro ⟨i, hi, z⟩
        by_cases q : i = k
        · exact absurd (q ▸ z.1) c
        · exact ⟨i, by omega, z⟩
theorem mx_linked (hw : jmWF P n st sm gr co en la) {x y : Nat} (hx : x < P) : (jmLinked en la st n x).testBit y = true ↔ mx_lk sm gr st n x y := by
  show (jxAN (jmLW en (la x &&& st) n) (2 ^ x)).testBit y = true ↔ _
  rw [mc_an, mx_LW, Nat.testBit_two_pow, decide_eq_false_iff_not]
  constructor
  · rintro ⟨⟨i, hi, h1, h2⟩, h3⟩
    rw [Nat.testBit_and, Bool.and_eq_true] at h1
    have h4 := hw.2.2.2.1 i hi
    have h5 := ((hw.2.2.2.2 x hx i).mp h1.1).2
    rw [h4.2.2.1, mc_bit2] at h2
    exact ⟨i, hi, h1.2, by omega⟩
  · rintro ⟨i, hi, h1, h2⟩
    have h4 := hw.2.2.2.1 i hi
    refine ⟨⟨i, hi, ?_, ?_⟩, by omega⟩
    · rw [Nat.testBit_and, Bool.and_eq_true]
      exact ⟨(hw.2.2.2.2 x hx i).mpr ⟨hi, by omega⟩, h1⟩
    · rw [h4.2.2.1, mc_bit2]
      omega
theorem mx_bits0 {x y : Nat} : x &&& y = 0 ↔ ∀ i, x.testBit i = true → y.testBit i = false := by
  constructor
  · intro h i hi
    cases hy : y.testBit i with
    | false => rfl
    | true =>
      have : (x &&& y).testBit i = true := by rw [Nat.testBit_and, hi, hy]; rfl
      rw [h, Nat.zero_testBit] at this
      cases this
  · intro h
    refine mc_ext (fun i => ?_)
    rw [Nat.testBit_and, Nat.zero_testBit, Bool.and_eq_true]
    exact ⟨fun z => (by rw [h i z.1] at z; cases z.2), fun z => (by cases z)⟩
theorem mx_ends {S a o : Nat} : S &&& (2 ^ a ||| 2 ^ o) = 0 ↔ S.testBit a = false ∧ S.testBit o = false := by
  rw [mx_bits0]
  constructor
  · intro h
    constructor
    · cases c : S.testBit a with
      | false => rfl
      | true =>
        have := h a c
        rw [mc_bit2.mpr (Or.inl rfl)] at this
        cases this
    · cases c : S.testBit o with
      | false => rfl
      | true =>
        have := h o c
        rw [mc_bit2.mpr (Or.inr rfl)] at this
        cases this
  · rintro ⟨h1, h2⟩ i hi
    cases c : (2 ^ a ||| 2 ^ o).testBit i with
    | false => rfl
    | true =>
      rcases mc_bit2.mp c with e | e
      · rw [e, h1] at hi
        cases hi
      · rw [e, h2] at hi
        cases hi
theorem mx_apart (hw : jmWF P n st sm gr co en la) {a o : Nat} (ha : a < P) (S : Nat) : jmApart en P n st a o S = true ↔ ¬ mc_C sm gr (jxAN (2 ^ P - 1) S) st n a o := by
  have hP := hw.1
  unfold jmApart
  rw [Bool.not_eq_true', ← Bool.not_eq_true, mc_reach hw (by omega)]
theorem mx_GapF (hw : jmWF P n st sm gr co en la) {a o : Nat} (ha : a < P) (ho : o < P) (hne : a ≠ o) (hlk : ¬ mx_lk sm gr st n a o) : ∀ K,
    jmGapF en P n st a o K &&& (2 ^ a ||| 2 ^ o) = 0 ∧ jmApart en P n st a o (jmGapF en P n st a o K) = true ∧ ∀ k, k < K → k &&& (2 ^ a ||| 2 ^ o) = 0 → jmApart en P n st a o k = true → jmPop (jmGapF en P n st a o K) ≤ jmPop k
  | 0 => by
    refine ⟨?_, ?_, fun k hk => absurd hk (Nat.not_lt_zero k)⟩
    · show jxAN (2 ^ P - 1) (2 ^ a ||| 2 ^ o) &&& (2 ^ a ||| 2 ^ o) = 0
      rw [mx_bits0]
      intro i hi
      exact (mc_an.mp hi).2
    · show jmApart en P n st a o (jxAN (2 ^ P - 1) (2 ^ a ||| 2 ^ o)) = true
      rw [mx_apart hw ha]
      intro h
      have hb : ∀ z, (jxAN (2 ^ P - 1) (jxAN (2 ^ P - 1) (2 ^ a ||| 2 ^ o))).testBit z = true → z = a ∨ z = o := by
        intro z hz
        rw [mc_an] at hz
        refine Classical.byContradiction (fun q => ?_)
        have : (jxAN (2 ^ P - 1) (2 ^ a ||| 2 ^ o)).testBit z = true := by
          rw [mc_an]
          refine ⟨hz.1, ?_⟩
          cases c : (2 ^ a ||| 2 ^ o).testBit z with
          | false => rfl
          | true => exact absurd (mc_bit2.mp c) q
        rw [this] at hz
        cases hz.2
      have h5 := (h (fun z => z = a) (fun i hi hst h1 h2 => by
        exfalso
        have h4 := hw.2.2.2.1 i hi
        have e1 := hb _ h1
        have e2 := hb _ h2
        exact hlk ⟨i, hi, hst, by omega⟩)).mp rfl
      exact hne h5.symm
  | K + 1 => by
    obtain ⟨h1, h2, h3⟩ := mx_GapF hw ha ho hne hlk K
    by_cases c : K &&& (2 ^ a ||| 2 ^ o) = 0 ∧ jmPop K < jmPop (jmGapF en P n st a o K) ∧ jmApart en P n st a o K = true
    · have e : jmGapF en P n st a o (K + 1) = K := if_pos c
      rw [e]
      refine ⟨c.1, c.2.2, fun k hk k1 k2 => ?_⟩
      by_cases ek : k = K
      · rw [ek]
        exact Nat.le_refl _
      · have := h3 k (by omega) k1 k2
        have := c.2.1
        omega
    · have e : jmGapF en P n st a o (K + 1) = jmGapF en P n st a o K := if_neg c
      rw [e]
      refine ⟨h1, h2, fun k hk k1 k2 => ?_⟩
      by_cases ek : k = K
      · subst ek
        exact Nat.not_lt.mp (fun z => c ⟨k1, z, k2⟩)
      · exact h3 k (by omega) k1 k2
/-- no more ways than points that part -/
theorem mx_W_le (hw : jmWF P n st sm gr co en la) {a o G : Nat} (ha : a < P) (ho : o < P) (hne : a ≠ o) (h1 : G.testBit a = false) (h2 : G.testBit o = false) (h3 : ¬ mc_C sm gr (jxAN (2 ^ P - 1) G) st n a o) : jmWy sm gr st P n a o ≤ jmPop G := by
  have hP := hw.1
  have hg := jmWF_gr hw
  have hE := mc_E (fun _ => True) sm gr (jxAN (2 ^ P - 1) G) st n
  have hRG : ∀ z, mc_C sm gr (jxAN (2 ^ P - 1) G) st n a z → G.testBit z = false := by
    intro z hz
    cases c : G.testBit z with
    | false => rfl
    | true =>
      have e := (hz (fun y => y = a ∨ G.testBit y = false) (fun i hi hst q1 q2 => by
        rw [mc_an] at q1 q2
        exact ⟨fun _ => Or.inr q2.2, fun _ => Or.inr q1.2⟩)).mp (Or.inl rfl)
      rcases e with e | e
      · rw [e, h1] at c
        cases c
      · rw [e] at c
        cases c
  have h := (mx_Wy hw ha ho hne).1 (fun z => if z < 8 then mc_C sm gr (jxAN (2 ^ P - 1) G) st n a z ∨ G.testBit z = true else mc_C sm gr (jxAN (2 ^ P - 1) G) st n a (z - 8)) (by
      show if a < 8 then _ else _
      rw [if_pos (by omega)]
      exact Or.inl (hE.1 a trivial)) (by
      show ¬ if o < 8 then _ else _
      rw [if_pos (by omega)]
      rintro (z | z)
      · exact h3 z
      · rw [h2] at z
        cases z)
  refine Nat.le_trans h ?_
  have eY : mx_YW sm gr st n (fun z => if z < 8 then mc_C sm gr (jxAN (2 ^ P - 1) G) st n a z ∨ G.testBit z = true else mc_C sm gr (jxAN (2 ^ P - 1) G) st n a (z - 8)) = 0 := by
    have key : ∀ i, i < n → ∀ x y, (sm i = x ∧ gr i = y ∨ sm i = y ∧ gr i = x) → ¬ (st.testBit i = true ∧ (if x + 8 < 8 then mc_C sm gr (jxAN (2 ^ P - 1) G) st n a (x + 8) ∨ G.testBit (x + 8) = true else mc_C sm gr (jxAN (2 ^ P - 1) G) st n a (x + 8 - 8)) ∧ ¬ if y < 8 then mc_C sm gr (jxAN (2 ^ P - 1) G) st n a y ∨ G.testBit y = true else mc_C sm gr (jxAN (2 ^ P - 1) G) st n a (y - 8)) := by
      intro i hi x y hxy
      have h4 := hw.2.2.2.1 i hi
      rw [if_neg (by omega), Nat.add_sub_cancel, if_pos (by omega)]
      rintro ⟨q1, q2, q3⟩
      have gx := hRG x q2
      have gy : G.testBit y = false := by
        cases c : G.testBit y with
        | false => rfl
        | true => exact absurd (Or.inr c) q3
      have bx : (jxAN (2 ^ P - 1) G).testBit x = true := mc_an.mpr ⟨mc_all.mpr (by omega), gx⟩
      have hy : (jxAN (2 ^ P - 1) G).testBit y = true := mc_an.mpr ⟨mc_all.mpr (by omega), gy⟩
      refine q3 (Or.inl ?_)
      rcases hxy with ⟨e1, e2⟩ | ⟨e1, e2⟩
      · have hl := mc_line hi q1 (sm := sm) (gr := gr) (wi := jxAN (2 ^ P - 1) G) (by rw [e1]; exact bx) (by rw [e2]; exact hy)
        rw [e1, e2] at hl
        exact hE.2.2 _ _ _ q2 hl
      · have hl := mc_line hi q1 (sm := sm) (gr := gr) (wi := jxAN (2 ^ P - 1) G) (by rw [e1]; exact hy) (by rw [e2]; exact bx)
        rw [e1, e2] at hl
        exact hE.2.2 _ _ _ q2 (hE.2.1 _ _ hl)
    refine ma_S_zero (fun i hi => ?_)
    have k1 := key i hi (sm i) (gr i) (Or.inl ⟨rfl, rfl⟩)
    have k2 := key i hi (gr i) (sm i) (Or.inr ⟨rfl, rfl⟩)
    rw [ma_pc_f k1, ma_pc_f k2]
  rw [eY, Nat.add_zero, mx_pop_S]
  refine Nat.le_trans (ma_S_le (g := fun q => jB (G.testBit q)) (fun q hq => ?_)) (mx_S_mono (by omega))
  have hq8 : q < 8 := by omega
  dsimp only
  rw [if_pos hq8, if_neg (show ¬ q + 8 < 8 by omega), Nat.add_sub_cancel, mx_jB]
  by_cases c : G.testBit q = true
  · rw [ma_pc_t c, if_neg (fun z => by
      rcases z with e | e
      · rw [e, h1] at c; cases c
      · rw [e, h2] at c; cases c), Nat.one_mul]
    exact ma_pc_le _
  · rw [ma_pc_f (p := (mc_C sm gr (jxAN (2 ^ P - 1) G) st n a q ∨ G.testBit q = true) ∧ ¬ mc_C sm gr (jxAN (2 ^ P - 1) G) st n a q) (fun z => z.1.elim z.2 c), Nat.mul_zero]
    exact Nat.zero_le _
theorem mx_S_le1 {B : Prop} {x : Nat} : ∀ N, ma_S (fun q => ma_pc (B ∧ x = q)) N ≤ ma_pc B
  | 0 => Nat.zero_le _
  | N + 1 => by
    show ma_S (fun q => ma_pc (B ∧ x = q)) N + ma_pc (B ∧ x = N) ≤ _
    by_cases c : x = N
    · rw [ma_S_zero (fun q hq => ma_pc_f (fun z => by have := z.2; omega)), Nat.zero_add]
      exact ma_pc_mono (fun z => z.1)
    · rw [ma_pc_f (p := B ∧ x = N) (fun z => c z.2)]
      exact mx_S_le1 N
/-- so many points part, as there are ways -/
theorem mx_W_ge (hw : jmWF P n st sm gr co en la) {a o : Nat} (ha : a < P) (ho : o < P) (hne : a ≠ o) (hlk : ¬ mx_lk sm gr st n a o) : ∃ X, X < 2 ^ P ∧ X.testBit a = false ∧ X.testBit o = false ∧ ¬ mc_C sm gr (jxAN (2 ^ P - 1) X) st n a o ∧ jmPop X ≤ jmWy sm gr st P n a o := by
  have hP := hw.1
  obtain ⟨S, s1, s2, s3⟩ := (mx_Wy hw ha ho hne).2
  have hle := jmWy_le sm gr st P n a o
  have s8 : S (a + 8) := by
    refine Classical.byContradiction (fun q => ?_)
    have h := ma_S_term (f := fun q => (if q = a ∨ q = o then 17 else 1) * ma_pc (S q ∧ ¬ S (q + 8))) (N := P) ha
    rw [if_pos (Or.inl rfl), ma_pc_t ⟨s1, q⟩] at h
    have e : mx_ZW P a o S = ma_S (fun q => (if q = a ∨ q = o then 17 else 1) * ma_pc (S q ∧ ¬ S (q + 8))) P := rfl
    omega
  obtain ⟨X, x1, x2⟩ := mx_set (fun q => q ≠ a ∧ q ≠ o ∧ ((S q ∧ ¬ S (q + 8)) ∨ ∃ i, i < n ∧ ((st.testBit i = true ∧ S (sm i + 8) ∧ ¬ S (gr i)) ∧ (if gr i = o then sm i else gr i) = q ∨ (st.testBit i = true ∧ S (gr i + 8) ∧ ¬ S (sm i)) ∧ (if sm i = o then gr i else sm i) = q))) P
  have xf : ∀ z, X.testBit z = false → z < P → z ≠ a → z ≠ o → ¬ ((S z ∧ ¬ S (z + 8)) ∨ ∃ i, i < n ∧ ((st.testBit i = true ∧ S (sm i + 8) ∧ ¬ S (gr i)) ∧ (if gr i = o then sm i else gr i) = z ∨ (st.testBit i = true ∧ S (gr i + 8) ∧ ¬ S (sm i)) ∧ (if sm i = o then gr i else sm i) = z)) := by
    intro z hz h1 h2 h3 h4
    have := (x2 z).mpr ⟨h1, h2, h3, h4⟩
    rw [hz] at this
    cases this
  have off : ∀ z, (¬ X.testBit z = true) → X.testBit z = false := fun z hz => by
    cases c : X.testBit z
    · rfl
    · exact absurd c hz
  refine ⟨X, x1, off a (fun z => ((x2 a).mp z).2.1 rfl), off o (fun z => ((x2 o).mp z).2.2.1 rfl), fun hC => ?_, ?_⟩
  · have step : ∀ i, i < n → st.testBit i = true → ∀ x y, (sm i = x ∧ gr i = y ∨ sm i = y ∧ gr i = x) → X.testBit x = false → X.testBit y = false → (S (x + 8) ∧ x ≠ o) → (S (y + 8) ∧ y ≠ o) := by
      intro i hi hst x y hxy hx hy ⟨q1, q2⟩
      have h4 := hw.2.2.2.1 i hi
      by_cases cy : S y
      · have yo : y ≠ o := fun z => s2 (z ▸ cy)
        refine ⟨?_, yo⟩
        by_cases ya : y = a
        · rw [ya]
          exact s8
        · exact Classical.byContradiction (fun z => xf y hy (by omega) ya yo (Or.inl ⟨cy, z⟩))
      · by_cases ya : y = a
        · exact ⟨ya ▸ s8, fun z => hne (ya.symm.trans z)⟩
        · exfalso
          by_cases yo : y = o
          · by_cases xa : x = a
            · exact hlk ⟨i, hi, hst, by rw [xa, yo] at hxy; exact hxy⟩
            · refine xf x hx (by omega) xa q2 (Or.inr ⟨i, hi, ?_⟩)
              rcases hxy with ⟨e1, e2⟩ | ⟨e1, e2⟩
              · left
                rw [e1, e2, if_pos yo]
                exact ⟨⟨hst, q1, cy⟩, rfl⟩
              · right
                rw [e1, e2, if_pos yo]
                exact ⟨⟨hst, q1, cy⟩, rfl⟩
          · refine xf y hy (by omega) ya yo (Or.inr ⟨i, hi, ?_⟩)
            rcases hxy with ⟨e1, e2⟩ | ⟨e1, e2⟩
            · left
              rw [e1, e2, if_neg yo]
              exact ⟨⟨hst, q1, cy⟩, rfl⟩
            · right
              rw [e1, e2, if_neg yo]
              exact ⟨⟨hst, q1, cy⟩, rfl⟩
    have h5 := (hC (fun z => S (z + 8) ∧ z ≠ o) (fun i hi hst h1 h2 => by
      rw [mc_an] at h1 h2
      exact ⟨step i hi hst _ _ (Or.inl ⟨rfl, rfl⟩) h1.2 h2.2, step i hi hst _ _ (Or.inr ⟨rfl, rfl⟩) h2.2 h1.2⟩)).mp ⟨s8, hne⟩
    exact h5.2 rfl
  · rw [← s3, mx_pop_S]
    have e := mx_S_ext (f := fun i => jB (X.testBit i)) (n := P) (fun k hk => by rw [off k (fun z => absurd ((x2 k).mp z).1 (by omega))]; rfl) (16 - P)
    rw [show P + (16 - P) = 16 by omega] at e
    rw [e]
    have h6 : ∀ q, q < P → jB (X.testBit q) ≤ (if q = a ∨ q = o then 17 else 1) * ma_pc (S q ∧ ¬ S (q + 8)) + ma_S (fun i => ma_pc ((st.testBit i = true ∧ S (sm i + 8) ∧ ¬ S (gr i)) ∧ (if gr i = o then sm i else gr i) = q) + ma_pc ((st.testBit i = true ∧ S (gr i + 8) ∧ ¬ S (sm i)) ∧ (if sm i = o then gr i else sm i) = q)) n := by
      intro q hq
      rw [mx_jB]
      by_cases c : X.testBit q = true
      · rw [ma_pc_t c]
        obtain ⟨-, y1, y2, y3⟩ := (x2 q).mp c
        rcases y3 with y3 | ⟨i, hi, y3⟩
        · rw [ma_pc_t y3, if_neg (fun z => z.elim y1 y2)]
          omega
        · have h7 := ma_S_term (f := fun i => ma_pc ((st.testBit i = true ∧ S (sm i + 8) ∧ ¬ S (gr i)) ∧ (if gr i = o then sm i else gr i) = q) + ma_pc ((st.testBit i = true ∧ S (gr i + 8) ∧ ¬ S (sm i)) ∧ (if sm i = o then gr i else sm i) = q)) (N := n) hi
          rcases y3 with y3 | y3
          · rw [ma_pc_t y3] at h7
            omega
          · rw [ma_pc_t y3] at h7
            omega
      · rw [ma_pc_f c]
        exact Nat.zero_le _
    refine Nat.le_trans (ma_S_le h6) ?_
    rw [ma_S_add, ma_S_swap]
    refine Nat.add_le_add_left (ma_S_le (fun i hi => ?_)) _
    rw [ma_S_add]
    exact Nat.add_le_add (mx_S_le1 P) (mx_S_le1 P)
theorem mx_gap (hw : jmWF P n st sm gr co en la) {a o : Nat} (ha : a < P) (ho : o < P) (hne : a ≠ o) (hlk : ¬ mx_lk sm gr st n a o) : ∃ g, g < 2 ^ P ∧ jmGap en la P n st a o = nI g ∧ jmPop g = jmWy sm gr st P n a o ∧ g.testBit a = false ∧ g.testBit o = false ∧ ¬ mc_C sm gr (jxAN (2 ^ P - 1) g) st n a o := by
  obtain ⟨h1, h2, h3⟩ := mx_GapF hw ha ho hne hlk (2 ^ P)
  have hb := mx_ends.mp h1
  rw [mx_apart hw ha] at h2
  refine ⟨jmGapF en P n st a o (2 ^ P), jmGapF_lt (Nat.le_refl _), ?_, ?_, hb.1, hb.2, h2⟩
  · unfold jmGap
    rw [if_neg (fun z => hlk ((mx_linked hw ha).mp z))]
  · have u := mx_W_le hw ha ho hne hb.1 hb.2 h2
    obtain ⟨X, x1, x2, x3, x4, x5⟩ := mx_W_ge hw ha ho hne hlk
    have v := h3 X x1 (mx_ends.mpr ⟨x2, x3⟩) ((mx_apart hw ha X).mpr x4)
    omega
theorem mx_gap1 (hw : jmWF P n st sm gr co en la) {a o : Nat} (ha : a < P) (hlk : mx_lk sm gr st n a o) : jmGap en la P n st a o = -1 := by
  unfold jmGap
  rw [if_pos ((mx_linked hw ha).mpr hlk)]
/-- what isSound asks of two points -/
theorem mx_Wok (hw : jmWF P n st sm gr co en la) {a o : Nat} (ha : a < P) (ho : o < P) (hne : a ≠ o) : jmWok sm gr en la P n st a o := by
  obtain ⟨h1, h2, h3⟩ := mx_side hw ha ho hne
  refine ⟨?_, h3, ?_⟩
  · by_cases c : mx_lk sm gr st n a o
    · exact Or.inl (mx_gap1 hw ha c)
    · obtain ⟨g, g1, g2, g3, -⟩ := mx_gap hw ha ho hne c
      have := jx_pow256 hw.1
      exact Or.inr ⟨g, by omega, g2, g3⟩
  · obtain ⟨-, T, t1, t2, t3⟩ := mx_Ly hw ha ho hne
    rw [← t3]
    exact mx_WL hw ha ho hne t1 t2
end MX
