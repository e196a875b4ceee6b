/-! own rows: a web's table: minors that tell of its parts -/
theorem mt_S_le {f g : Nat → Int} : ∀ {N : Nat}, (∀ k, k < N → f k ≤ g k) → mt_S f N ≤ mt_S g N
  | 0, _ => Int.le_refl 0
  | N + 1, h => by
    show mt_S f N + f N ≤ mt_S g N + g N
    have h1 := mt_S_le (f := f) (g := g) (N := N) (fun k hk => h k (Nat.lt_succ_of_lt hk))
    have h2 := h N (Nat.lt_succ_self N)
    omega
theorem mt_S_at {x : Int} {i : Nat} : ∀ {N : Nat}, i < N → mt_S (fun j => if j = i then x else 0) N = x
  | 0, h => absurd h (Nat.not_lt_zero i)
  | N + 1, h => by
    show mt_S (fun j => if j = i then x else 0) N + (if N = i then x else 0) = x
    by_cases e : N = i
    · rw [if_pos e, mt_S_zero (fun k hk => if_neg (by omega)), Int.zero_add]
    · rw [if_neg e, mt_S_at (by omega), Int.add_zero]
theorem mt_S_add (p q : Nat → Int) (N : Nat) : mt_S (fun i => p i + q i) N = mt_S p N + mt_S q N := by
  have h := mt_S_lin 1 1 p q N
  rw [Int.one_mul, Int.one_mul] at h
  rw [← h]
  exact mt_S_congr (fun k _ => by rw [Int.one_mul, Int.one_mul])
/-- a row whose sum is 0, of which one place alone may be above 0 -/
theorem mt_row {f : Nat → Int} {N i : Nat} (hi : i < N) (h0 : mt_S f N = 0) (hf : ∀ j, j < N → j ≠ i → f j ≤ 0) : 0 ≤ f i ∧ ∀ j, j < N → j ≠ i → - f j ≤ f i := by
  have key : ∀ j, j < N → j ≠ i → 0 ≤ f i + f j := by
    intro j hj hji
    have h1 := mt_S_le (f := f) (g := fun a => (if a = i then f i else 0) + (if a = j then f j else 0)) (N := N) (fun a ha => by
      by_cases c : a = i
      · rw [if_pos c, if_neg (by omega), c]
        omega
      · by_cases d : a = j
        · rw [if_neg c, if_pos d, d]
          omega
        · rw [if_neg c, if_neg d]
          have := hf a ha c
          omega)
    rw [mt_S_add, mt_S_at hi, mt_S_at hj, h0] at h1
    exact h1
  refine ⟨?_, fun j hj hji => by have := key j hj hji; omega⟩
  have h1 := mt_S_le (f := f) (g := fun a => if a = i then f i else 0) (N := N) (fun a ha => by
    by_cases c : a = i
    · rw [if_pos c, c]
      exact Int.le_refl _
    · rw [if_neg c]
      exact hf a ha c)
  rw [mt_S_at hi, h0] at h1
  exact h1
def mt_de (a i : Nat) : Int := if i = a then 1 else 0
def mt_A (sm gr : Nat → Nat) (st : Nat) : Nat → Nat → Nat → Int
  | 0, _, _ => 0
  | k + 1, i, j => mt_A sm gr st k i j + (if st.testBit k = true then (mt_de (sm k) i - mt_de (gr k) i) * (mt_de (sm k) j - mt_de (gr k) j) else 0)
theorem mt_d3 (a o i : Nat) : mt_de a i - mt_de o i = 0 ∨ mt_de a i - mt_de o i = 1 ∨ mt_de a i - mt_de o i = -1 := by
  unfold mt_de
  split <;> split <;> decide
theorem mt_dl_le (a o i j : Nat) : (mt_de a i - mt_de o i) * (mt_de a j - mt_de o j) ≤ 1 ∧ -1 ≤ (mt_de a i - mt_de o i) * (mt_de a j - mt_de o j) := by
  rcases mt_d3 a o i with e | e | e <;> rcases mt_d3 a o j with e' | e' | e' <;> rw [e, e'] <;> decide
theorem mt_A_b (sm gr : Nat → Nat) (st : Nat) : ∀ (k i j : Nat), mt_A sm gr st k i j ≤ k ∧ -(k : Int) ≤ mt_A sm gr st k i j
  | 0, _, _ => ⟨Int.le_refl 0, Int.le_refl 0⟩
  | k + 1, i, j => by
    have ih := mt_A_b sm gr st k i j
    have h := mt_dl_le (sm k) (gr k) i j
    show mt_A sm gr st k i j + _ ≤ _ ∧ _ ≤ mt_A sm gr st k i j + _
    generalize (mt_de (sm k) i - mt_de (gr k) i) * (mt_de (sm k) j - mt_de (gr k) j) = d at *
    split <;> omega
theorem mt_A_sym (sm gr : Nat → Nat) (st : Nat) : ∀ (k i j : Nat), mt_A sm gr st k i j = mt_A sm gr st k j i
  | 0, _, _ => rfl
  | k + 1, i, j => by
    show mt_A sm gr st k i j + _ = mt_A sm gr st k j i + _
    rw [mt_A_sym sm gr st k i j, Int.mul_comm]
theorem mt_dl_off {a o i j : Nat} (hao : a ≠ o) (hij : i ≠ j) : (a = i ∧ o = j ∨ a = j ∧ o = i) ∧ (mt_de a i - mt_de o i) * (mt_de a j - mt_de o j) = -1 ∨ ¬ (a = i ∧ o = j ∨ a = j ∧ o = i) ∧ (mt_de a i - mt_de o i) * (mt_de a j - mt_de o j) = 0 := by
  unfold mt_de
  by_cases c1 : i = a
  · by_cases c2 : j = o
    · left
      refine ⟨Or.inl ⟨c1.symm, c2.symm⟩, ?_⟩
      rw [if_pos c1, if_neg (by omega), if_neg (by omega), if_pos c2]
      decide
    · right
      refine ⟨by omega, ?_⟩
      rw [if_neg (show ¬ j = a by omega), if_neg c2, Int.sub_zero, Int.mul_zero]
  · by_cases c2 : i = o
    · by_cases c3 : j = a
      · left
        refine ⟨Or.inr ⟨c3.symm, c2.symm⟩, ?_⟩
        rw [if_neg c1, if_pos c2, if_pos c3, if_neg (by omega)]
        decide
      · right
        refine ⟨by omega, ?_⟩
        rw [if_neg c3, if_neg (show ¬ j = o by omega), Int.sub_zero, Int.mul_zero]
    · right
      refine ⟨by omega, ?_⟩
      rw [if_neg c1, if_neg c2, Int.sub_zero, Int.zero_mul]
theorem mt_A_off {sm gr : Nat → Nat} {st n : Nat} (hg : ∀ l, l < n → sm l ≠ gr l) {i j : Nat} (hij : i ≠ j) : ∀ k, k ≤ n → mt_A sm gr st k i j ≤ 0 ∧ (mt_A sm gr st k i j ≠ 0 ↔ mx_lk sm gr st k i j)
  | 0, _ => ⟨Int.le_refl 0, fun z => absurd rfl z, fun ⟨l, hl, _⟩ => absurd hl (Nat.not_lt_zero l)⟩
  | k + 1, hk => by
    obtain ⟨h1, h2⟩ := mt_A_off (st := st) hg hij k (by omega)
    have e : mt_A sm gr st (k + 1) i j = mt_A sm gr st k i j + (if st.testBit k = true then (mt_de (sm k) i - mt_de (gr k) i) * (mt_de (sm k) j - mt_de (gr k) j) else 0) := rfl
    have up : mx_lk sm gr st k i j → mx_lk sm gr st (k + 1) i j := fun ⟨l, hl, z⟩ => ⟨l, by omega, z⟩
    have dn : ¬ (st.testBit k = true ∧ (sm k = i ∧ gr k = j ∨ sm k = j ∧ gr k = i)) → mx_lk sm gr st (k + 1) i j → mx_lk sm gr st k i j := by
      rintro q ⟨l, hl, z⟩
      by_cases el : l = k
      · exact absurd (el ▸ z) q
      · exact ⟨l, by omega, z⟩
    rw [e]
    by_cases c : st.testBit k = true
    · rw [if_pos c]
      rcases mt_dl_off (hg k (by omega)) hij with ⟨q1, q2⟩ | ⟨q1, q2⟩
      · rw [q2]
        exact ⟨by omega, fun _ => ⟨k, by omega, c, q1⟩, fun _ => by omega⟩
      · rw [q2, Int.add_zero]
        exact ⟨h1, fun z => up (h2.mp z), fun z => h2.mpr (dn (fun y => q1 y.2) z)⟩
    · rw [if_neg c, Int.add_zero]
      exact ⟨h1, fun z => up (h2.mp z), fun z => h2.mpr (dn (fun y => c y.1) z)⟩
theorem mt_A_sum {sm gr : Nat → Nat} {st n P : Nat} (hg : ∀ l, l < n → sm l < P ∧ gr l < P) (i : Nat) : ∀ k, k ≤ n → mt_S (fun j => mt_A sm gr st k i j) P = 0
  | 0, _ => mt_S_zero (fun _ _ => rfl)
  | k + 1, hk => by
    have ih := mt_A_sum (st := st) hg i k (by omega)
    have hb := hg k (by omega)
    show mt_S (fun j => mt_A sm gr st k i j + (if st.testBit k = true then (mt_de (sm k) i - mt_de (gr k) i) * (mt_de (sm k) j - mt_de (gr k) j) else 0)) P = 0
    rw [mt_S_add, ih, Int.zero_add]
    by_cases c : st.testBit k = true
    · have e := mt_S_lin (mt_de (sm k) i - mt_de (gr k) i) (-(mt_de (sm k) i - mt_de (gr k) i)) (fun j => mt_de (sm k) j) (fun j => mt_de (gr k) j) P
      rw [show mt_S (fun j => mt_de (sm k) j) P = 1 from mt_S_at hb.1, show mt_S (fun j => mt_de (gr k) j) P = 1 from mt_S_at hb.2] at e
      rw [mt_S_congr (g := fun j => (mt_de (sm k) i - mt_de (gr k) i) * mt_de (sm k) j + -(mt_de (sm k) i - mt_de (gr k) i) * mt_de (gr k) j) (fun j _ => by
        rw [if_pos c]
        grind), e]
      omega
    · exact mt_S_zero (fun j _ => if_neg c)
/-- the minors of level k are such a table again -/
def mt_L (A : Nat → Nat → Int) (P k : Nat) : Prop := 0 < mt_D k A ∧ mt_D k A ≤ 16 ^ k ∧ mt_I1 A k ∧ mt_I3 A k ∧ (∀ i j, k ≤ i → i < P → k ≤ j → j < P → mt_T A k i j = mt_T A k j i) ∧ (∀ i j, k ≤ i → i < P → k ≤ j → j < P → i ≠ j → mt_T A k i j ≤ 0) ∧ (∀ i, k ≤ i → i < P → mt_S (fun j => mt_T A k i j) P = 0) ∧ ∀ i, k ≤ i → i < P → mt_T A k i i ≤ 16 * mt_D k A
theorem mt_L_row {A : Nat → Nat → Int} {P k i : Nat} (h : mt_L A P k) (hk : k ≤ i) (hi : i < P) : 0 ≤ mt_T A k i i ∧ ∀ j, j < P → j ≠ i → - mt_T A k i j ≤ mt_T A k i i := by
  obtain ⟨-, -, h1, -, -, h5, h6, -⟩ := h
  exact mt_row (f := fun j => mt_T A k i j) hi (h6 i hk hi) (fun j hj hji => by
    by_cases c : k ≤ j
    · exact h5 i j hk hi c hj (fun z => hji z.symm)
    · show mt_T A k i j ≤ 0
      rw [h1 i j hk (by omega)]
      exact Int.le_refl 0)
theorem mt_alg3 (d t x y z w : Int) (hd : 0 < d) (h : d * t = x * y - z * w) (hx : 0 ≤ x) (hy : y ≤ 0) (hz : z ≤ 0) (hw : w ≤ 0) : t ≤ 0 := by
  have h1 := Int.mul_nonpos_of_nonneg_of_nonpos hx hy
  have h2 := Int.mul_nonneg_of_nonpos_of_nonpos hz hw
  refine Int.not_lt.mp (fun q => ?_)
  have := Int.mul_pos hd q
  omega
theorem mt_alg4 (d t x y z : Int) (hd : 0 < d) (h : d * t = x * y - z * z) (hx : 0 ≤ x) (hy : y ≤ 16 * d) : t ≤ 16 * x := by
  have h1 : 0 ≤ z * z := by
    rcases Int.le_total 0 z with q | q
    · exact Int.mul_nonneg q q
    · exact Int.mul_nonneg_of_nonpos_of_nonpos q q
  have h2 : x * y ≤ x * (16 * d) := Int.mul_le_mul_of_nonneg_left hy hx
  have h3 : x * (16 * d) = d * (16 * x) := by grind
  refine Int.le_of_mul_le_mul_left (a := d) ?_ hd
  omega
theorem mt_L_s {A : Nat → Nat → Int} {P k : Nat} (h : mt_L A P k) (hk : k < P) (hp : 0 < mt_T A k k k) : mt_L A P (k + 1) := by
  have h0 := h
  obtain ⟨hd, hd2, h1, h3, h4, h5, h6, h7⟩ := h
  have hne : mt_D k A ≠ 0 := by omega
  have hm := fun i (hi : k < i) j => mt_main hne h1 h3 hi j
  refine ⟨?_, ?_, mt_I1_s hne h1 h3, mt_I3_s hne h1 h3, fun i j hi hiP hj hjP => ?_, fun i j hi hiP hj hjP hij => ?_, fun i hi hiP => ?_, fun i hi hiP => ?_⟩
  · rw [← mt_T_k]
    exact hp
  · rw [← mt_T_k]
    have h8 := h7 k (Nat.le_refl k) hk
    have e : (16 : Int) ^ (k + 1) = 16 * 16 ^ k := by rw [Int.pow_succ, Int.mul_comm]
    omega
  · have e1 := hm i (by omega) j
    have e2 := hm j (by omega) i
    rw [h4 j i (by omega) hjP (by omega) hiP, h4 k i (Nat.le_refl k) hk (by omega) hiP, h4 j k (by omega) hjP (Nat.le_refl k) hk, Int.mul_comm (mt_T A k i k)] at e2
    exact Int.eq_of_mul_eq_mul_left hne (e1.trans e2.symm)
  · exact mt_alg3 _ _ _ _ _ _ hd (hm i (by omega) j) (by omega) (h5 i j (by omega) hiP (by omega) hjP hij) (h5 k j (Nat.le_refl k) hk (by omega) hjP (by omega)) (h5 i k (by omega) hiP (Nat.le_refl k) hk (by omega))
  · have e1 := mt_S_lin (mt_T A k k k) (-(mt_T A k i k)) (fun j => mt_T A k i j) (fun j => mt_T A k k j) P
    rw [h6 i (by omega) hiP, h6 k (Nat.le_refl k) hk, Int.mul_zero, Int.mul_zero, Int.add_zero] at e1
    have e2 := mt_S_lin (mt_D k A) 0 (fun j => mt_T A (k + 1) i j) (fun _ => 0) P
    rw [Int.zero_mul (mt_S (fun _ => 0) P), Int.add_zero] at e2
    have e3 : mt_S (fun j => mt_D k A * mt_T A (k + 1) i j + 0 * 0) P = mt_S (fun j => mt_T A k k k * mt_T A k i j + -(mt_T A k i k) * mt_T A k k j) P := mt_S_congr (fun j _ => by
      rw [hm i (by omega) j]
      grind)
    rw [e3, e1] at e2
    exact (Int.mul_eq_zero.mp e2.symm).resolve_left hne
  · have e1 := hm i (by omega) i
    rw [h4 k i (Nat.le_refl k) hk (by omega) hiP] at e1
    rw [← mt_T_k]
    exact mt_alg4 _ _ _ _ _ hd e1 (by omega) (h7 i (by omega) hiP)
def mt_Cn (A : Nat → Nat → Int) (P k : Nat) : Prop := ∀ S : Nat → Prop, (∃ i, k ≤ i ∧ i < P ∧ S i) → (∃ j, k ≤ j ∧ j < P ∧ ¬ S j) → ∃ i j, k ≤ i ∧ i < P ∧ k ≤ j ∧ j < P ∧ S i ∧ ¬ S j ∧ mt_T A k i j ≠ 0
def mt_Ds (A : Nat → Nat → Int) (P k : Nat) : Prop := ∃ S : Nat → Prop, (∃ i, k ≤ i ∧ i < P ∧ S i) ∧ (∃ j, k ≤ j ∧ j < P ∧ ¬ S j) ∧ ∀ i j, k ≤ i → i < P → k ≤ j → j < P → S i → ¬ S j → mt_T A k i j = 0
theorem mt_alg5 (x y z w : Int) (h : x * y - z * w = 0) (hx : 0 < x) (hy : y ≤ 0) (hz : z ≤ 0) (hw : w ≤ 0) : y = 0 ∧ (z = 0 ∨ w = 0) := by
  have h1 := Int.mul_nonpos_of_nonneg_of_nonpos (Int.le_of_lt hx) hy
  have h2 := Int.mul_nonneg_of_nonpos_of_nonpos hz hw
  have e1 : x * y = 0 := by omega
  have e2 : z * w = 0 := by omega
  exact ⟨(Int.mul_eq_zero.mp e1).resolve_left (by omega), Int.mul_eq_zero.mp e2⟩
theorem mt_Cn_s {A : Nat → Nat → Int} {P k : Nat} (h : mt_L A P k) (hk : k < P) (hp : 0 < mt_T A k k k) (hc : mt_Cn A P k) : mt_Cn A P (k + 1) := by
  obtain ⟨hd, hd2, h1, h3, h4, h5, h6, h7⟩ := h
  have hne : mt_D k A ≠ 0 := by omega
  rintro S ⟨i0, i1, i2, i3⟩ ⟨j0, j1, j2, j3⟩
  refine Classical.byContradiction (fun q => ?_)
  have z : ∀ i j, k + 1 ≤ i → i < P → k + 1 ≤ j → j < P → S i → ¬ S j → mt_T A k i j = 0 ∧ (mt_T A k k j = 0 ∨ mt_T A k i k = 0) := by
    intro i j hi hiP hj hjP hSi hSj
    have e := mt_main hne h1 h3 (show k < i by omega) j
    have e0 : mt_T A (k + 1) i j = 0 := Classical.byContradiction (fun y => q ⟨i, j, hi, hiP, hj, hjP, hSi, hSj, y⟩)
    rw [e0, Int.mul_zero] at e
    exact mt_alg5 _ _ _ _ e.symm hp (h5 i j (by omega) hiP (by omega) hjP (fun y => hSj (y ▸ hSi))) (h5 k j (Nat.le_refl k) hk (by omega) hjP (by omega)) (h5 i k (by omega) hiP (Nat.le_refl k) hk (by omega))
  by_cases c : ∃ i, k + 1 ≤ i ∧ i < P ∧ S i ∧ mt_T A k i k ≠ 0
  · obtain ⟨i4, a1, a2, a3, a4⟩ := c
    obtain ⟨i, j, b1, b2, b3, b4, b5, b6, b7⟩ := hc (fun y => y = k ∨ S y) ⟨k, Nat.le_refl k, hk, Or.inl rfl⟩ ⟨j0, by omega, j2, fun y => y.elim (by omega) j3⟩
    have hjk : j ≠ k := fun y => b6 (Or.inl y)
    have hSj : ¬ S j := fun y => b6 (Or.inr y)
    by_cases d : i = k
    · rw [d] at b7
      exact ((z i4 j a1 a2 (by omega) b4 a3 hSj).2.elim b7 a4)
    · exact b7 (z i j (by omega) b2 (by omega) b4 (b5.resolve_left d) hSj).1
  · obtain ⟨i, j, b1, b2, b3, b4, b5, b6, b7⟩ := hc (fun y => y ≠ k ∧ S y) ⟨i0, by omega, i2, by omega, i3⟩ ⟨k, Nat.le_refl k, hk, fun y => y.1 rfl⟩
    have b5a := b5.1
    by_cases d : j = k
    · rw [d] at b7
      exact c ⟨i, by omega, b2, b5.2, b7⟩
    · exact b7 (z i j (by omega) b2 (by omega) b4 b5.2 (fun y => b6 ⟨d, y⟩)).1
theorem mt_Cn_p {A : Nat → Nat → Int} {P k : Nat} (h : mt_L A P k) (hk : k + 1 < P) (hc : mt_Cn A P k) : 0 < mt_T A k k k := by
  obtain ⟨i, j, b1, b2, b3, b4, b5, b6, b7⟩ := hc (fun z => z = k) ⟨k, Nat.le_refl k, by omega, rfl⟩ ⟨k + 1, by omega, hk, by omega⟩
  have hr := mt_L_row h (Nat.le_refl k) (show k < P by omega)
  have h8 := hr.2 j b4 b6
  have b5 : i = k := b5
  rw [b5] at b7
  have h9 := h.2.2.2.2.2.1 k j (Nat.le_refl k) (by omega) b3 b4 (fun z => b6 z.symm)
  omega
theorem mt_Ds_s {A : Nat → Nat → Int} {P k : Nat} (h : mt_L A P k) (hk : k < P) (hp : 0 < mt_T A k k k) (hc : mt_Ds A P k) : mt_Ds A P (k + 1) := by
  have h0 := h
  obtain ⟨hd, hd2, h1, h3, h4, h5, h6, h7⟩ := h
  have hne : mt_D k A ≠ 0 := by omega
  -- the one side that holds k
  have key : ∃ S : Nat → Prop, S k ∧ (∃ j, k ≤ j ∧ j < P ∧ ¬ S j) ∧ ∀ i j, k ≤ i → i < P → k ≤ j → j < P → S i → ¬ S j → mt_T A k i j = 0 := by
    obtain ⟨S, s1, s2, s3⟩ := hc
    by_cases c : S k
    · exact ⟨S, c, s2, s3⟩
    · obtain ⟨i, i1, i2, i3⟩ := s1
      refine ⟨fun z => ¬ S z, c, ⟨i, i1, i2, fun z => z i3⟩, fun a b ha haP hb hbP hSa hSb => ?_⟩
      rw [h4 a b ha haP hb hbP]
      exact s3 b a hb hbP ha haP (Classical.byContradiction hSb) hSa
  obtain ⟨S, s1, ⟨j, j1, j2, j3⟩, s3⟩ := key
  have hjk : j ≠ k := fun z => j3 (z ▸ s1)
  by_cases c : ∃ i, k + 1 ≤ i ∧ i < P ∧ S i
  · refine ⟨S, c, ⟨j, by omega, j2, j3⟩, fun a b ha haP hb hbP hSa hSb => ?_⟩
    have e := mt_main hne h1 h3 (show k < a by omega) b
    rw [s3 a b (by omega) haP (by omega) hbP hSa hSb, s3 k b (Nat.le_refl k) hk (by omega) hbP s1 hSb, Int.mul_zero, Int.zero_mul] at e
    exact (Int.mul_eq_zero.mp e).resolve_left hne
  · exfalso
    have hz := h6 k (Nat.le_refl k) hk
    have e : mt_S (fun b => mt_T A k k b) P = mt_S (fun b => if b = k then mt_T A k k k else 0) P := mt_S_congr (fun b hb => by
      by_cases d : b = k
      · rw [if_pos d, d]
      · rw [if_neg d]
        by_cases d2 : k ≤ b
        · exact s3 k b (Nat.le_refl k) hk d2 hb s1 (fun z => c ⟨b, by omega, hb, z⟩)
        · exact h1 k b (Nat.le_refl k) (by omega))
    rw [e, mt_S_at hk] at hz
    omega
/-- long numbers -/
theorem mt_bm {x : Int} (h1 : -4611686018427387904 ≤ x) (h2 : x ≤ 4611686018427387904) : x.bmod (2 ^ 64) = x := by
  have e : ((2 ^ 64 : Nat) : Int) = 18446744073709551616 := by decide
  refine Int.bmod_eq_of_le ?_ ?_
  · rw [e]; omega
  · rw [e]; omega
theorem mt_mul {x y : Int} (hx : x.natAbs ≤ 16777216) (hy : y.natAbs ≤ 16777216) : (x * y).natAbs ≤ 281474976710656 := by
  rw [Int.natAbs_mul]
  exact Nat.le_trans (Nat.mul_le_mul hx hy) (by decide)
theorem mt_val {x p y z b : Int64} {t : Int} (hx : x.toInt.natAbs ≤ 16777216) (hp : p.toInt.natAbs ≤ 16777216) (hy : y.toInt.natAbs ≤ 16777216) (hz : z.toInt.natAbs ≤ 16777216) (hb : 0 < b.toInt) (e : b.toInt * t = p.toInt * x.toInt - z.toInt * y.toInt) : ((x * p - y * z) / b).toInt = t := by
  have h1 := mt_mul hx hp
  have h2 := mt_mul hy hz
  have e1 : (x * p).toInt = x.toInt * p.toInt := by
    rw [Int64.toInt_mul]
    exact mt_bm (by omega) (by omega)
  have e2 : (y * z).toInt = y.toInt * z.toInt := by
    rw [Int64.toInt_mul]
    exact mt_bm (by omega) (by omega)
  have e3 : (x * p - y * z).toInt = b.toInt * t := by
    rw [Int64.toInt_sub, e1, e2, e, Int.mul_comm p.toInt, Int.mul_comm z.toInt]
    exact mt_bm (by omega) (by omega)
  have hb1 : b ≠ -1 := by
    intro q
    rw [q] at hb
    exact absurd hb (by decide)
  rw [Int64.toInt_div_of_ne_right _ _ hb1, e3]
  exact Int.mul_tdiv_cancel_left _ (by omega)
theorem mt_BC {i row : Nat} {b pv : Int64} {F : jmL} (h : row ≠ i) : ∀ k r c, jmBC i row b pv F k r c = if r = row ∧ i + 1 ≤ c ∧ c < i + 1 + k then (F row c * pv - F row i * F i c) / b else F r c
  | 0, r, c => (if_neg (by omega)).symm
  | k + 1, r, c => by
    show jxUp2 (jmBC i row b pv F k) row (i + 1 + k) ((jmBC i row b pv F k row (i + 1 + k) * pv - jmBC i row b pv F k row i * jmBC i row b pv F k i (i + 1 + k)) / b) r c = _
    rw [mt_BC h k row (i + 1 + k), mt_BC h k row i, mt_BC h k i (i + 1 + k), if_neg (by omega), if_neg (by omega), if_neg (fun z => h z.1.symm)]
    by_cases q : r = row ∧ c = i + 1 + k
    · rw [q.1, q.2, mw_up2_s, if_pos ⟨rfl, by omega, by omega⟩]
    · rw [mw_up2_n _ _ q, mt_BC h k r c]
      by_cases q2 : r = row ∧ i + 1 ≤ c ∧ c < i + 1 + k
      · rw [if_pos q2, if_pos ⟨q2.1, q2.2.1, by omega⟩]
      · rw [if_neg q2, if_neg (fun z => q2 ⟨z.1, z.2.1, by have h3 := z.2.2; have h4 : c ≠ i + 1 + k := fun y => q ⟨z.1, y⟩; omega⟩)]
theorem mt_BR {i P : Nat} {b pv : Int64} {F : jmL} : ∀ k r c, jmBR i P b pv F k r c = if (i + 1 ≤ r ∧ r < i + 1 + k) ∧ i + 1 ≤ c ∧ c < i + 1 + (P - 1 - (i + 1)) then (F r c * pv - F r i * F i c) / b else F r c
  | 0, r, c => (if_neg (by omega)).symm
  | k + 1, r, c => by
    show jmBC i (i + 1 + k) b pv (jmBR i P b pv F k) (P - 1 - (i + 1)) r c = _
    rw [mt_BC (by omega), mt_BR k (i + 1 + k) c, mt_BR k (i + 1 + k) i, mt_BR k i c, mt_BR k r c, if_neg (c := (i + 1 ≤ i + 1 + k ∧ i + 1 + k < i + 1 + k) ∧ _) (by omega), if_neg (c := (i + 1 ≤ i + 1 + k ∧ i + 1 + k < i + 1 + k) ∧ _) (by omega), if_neg (c := (i + 1 ≤ i ∧ i < i + 1 + k) ∧ _) (by omega)]
    by_cases q : r = i + 1 + k ∧ i + 1 ≤ c ∧ c < i + 1 + (P - 1 - (i + 1))
    · rw [if_pos q, if_pos ⟨by omega, q.2⟩, q.1]
    · rw [if_neg q]
      by_cases q2 : (i + 1 ≤ r ∧ r < i + 1 + k) ∧ i + 1 ≤ c ∧ c < i + 1 + (P - 1 - (i + 1))
      · rw [if_pos q2, if_pos ⟨by omega, q2.2⟩]
      · rw [if_neg q2, if_neg (by omega)]
theorem mt_64_0 {x : Int64} (h : x.toInt = 0) : x = 0 := Int64.toInt_inj.mp (h.trans (by decide))
theorem mt_pow (k : Nat) : k ≤ 5 → (16 : Int) * 16 ^ k ≤ 16777216 := by
  intro h
  have : k = 0 ∨ k = 1 ∨ k = 2 ∨ k = 3 ∨ k = 4 ∨ k = 5 := by omega
  rcases this with rfl | rfl | rfl | rfl | rfl | rfl <;> decide
theorem mt_Ba {A : Nat → Nat → Int} {P : Nat} (hP : 1 ≤ P) (hP8 : P ≤ 8) : ∀ (v i : Nat) (b : Int64) (F : jmL), i + v = P - 1 → mt_L A P i → b.toInt = mt_D i A → (∀ r c, i ≤ r → r < P - 1 → i ≤ c → c < P - 1 → (F r c).toInt = mt_T A i r c) →
    (mt_Cn A P i → 0 < (jmBa P v i b F).1.toInt) ∧ (mt_Ds A P i → (jmBa P v i b F).1 = 0) := by
  intro v
  induction v with
  | zero =>
    intro i b F hv hL hb hF
    refine ⟨fun _ => ?_, fun hD => ?_⟩
    · show 0 < b.toInt
      rw [hb]
      exact hL.1
    · obtain ⟨S, ⟨i1, a1, a2, a3⟩, ⟨j1, b1, b2, b3⟩, -⟩ := hD
      exact absurd (show S j1 by rw [show j1 = i1 by omega]; exact a3) b3
  | succ v ih =>
    intro i b F hv hL hb hF
    have hFi := hF i i (Nat.le_refl i) (by omega) (Nat.le_refl i) (by omega)
    have hrow := mt_L_row hL (Nat.le_refl i) (show i < P by omega)
    have hbne : ¬ b = 0 := by
      intro z
      rw [z] at hb
      have h0 : (0 : Int64).toInt = 0 := by decide
      have := hL.1
      omega
    by_cases c : F i i = 0
    · rw [jmBa_st (Or.inl c)]
      refine ⟨fun hC => ?_, fun _ => rfl⟩
      exfalso
      have h1 := mt_Cn_p hL (by omega) hC
      rw [c] at hFi
      have h0 : (0 : Int64).toInt = 0 := by decide
      omega
    · rw [jmBa_go c hbne]
      have hp : 0 < mt_T A i i i := by
        have : mt_T A i i i ≠ 0 := fun z => c (mt_64_0 (hFi.trans z))
        omega
      have hL2 := mt_L_s hL (by omega) hp
      have h2 := ih (i + 1) (F i i) (jmBR i P b (F i i) F (P - 1 - (i + 1))) (by omega) hL2 (by rw [hFi, mt_T_k]) (fun r cc hr hrP hc hcP => by
        rw [mt_BR, if_pos (by omega)]
        have hi5 : i ≤ 5 := by omega
        have hpw := mt_pow i hi5
        have hd2 := hL.2.1
        have hb2 : ∀ r cc, i ≤ r → r < P - 1 → i ≤ cc → cc < P - 1 → (F r cc).toInt.natAbs ≤ 16777216 := by
          intro r cc hr hrP hc hcP
          rw [hF r cc hr hrP hc hcP]
          have h7 := hL.2.2.2.2.2.2.2 r hr (by omega)
          have h8 := mt_L_row hL hr (show r < P by omega)
          by_cases e : cc = r
          · rw [e]
            omega
          · have h9 := h8.2 cc (by omega) e
            have h10 := hL.2.2.2.2.2.1 r cc hr (by omega) hc (by omega) (fun z => e z.symm)
            omega
        refine mt_val (hb2 r cc (by omega) hrP (by omega) hcP) (hb2 i i (by omega) (by omega) (by omega) (by omega)) (hb2 r i (by omega) hrP (by omega) (by omega)) (hb2 i cc (by omega) (by omega) (by omega) hcP) (by rw [hb]; exact hL.1) ?_
        rw [hb, hFi, hF r cc (by omega) hrP (by omega) hcP, hF r i (by omega) hrP (by omega) (by omega), hF i cc (by omega) (by omega) (by omega) hcP]
        exact mt_main (by have := hL.1; omega) hL.2.2.1 hL.2.2.2.1 (by omega) cc)
      exact ⟨fun hC => h2.1 (mt_Cn_s hL (by omega) hp hC), fun hD => h2.2 (mt_Ds_s hL (by omega) hp hD)⟩
theorem mt_addT {F : jmL} {a o : Nat} (hao : a ≠ o) (r c : Nat) : jmAddT F a o r c = if r = o ∧ c = a then F o a - 1 else if r = a ∧ c = o then F a o - 1 else if r = o ∧ c = o then F o o + 1 else if r = a ∧ c = a then F a a + 1 else F r c := by
  unfold jmAddT jxUp2
  have hoa : o ≠ a := fun z => hao z.symm
  simp only [hao, hoa, and_false, false_and, and_true, true_and, if_false, if_true]
theorem mt_FT {sm gr : Nat → Nat} {st n : Nat} (hn : n ≤ 16) (hg : ∀ l, l < n → sm l ≠ gr l) : ∀ k, k ≤ n → ∀ r c, (jmFT sm gr st k r c).toInt = mt_A sm gr st k r c
  | 0, _, r, c => by
    show (0 : Int64).toInt = 0
    decide
  | k + 1, hk, r, c => by
    have ih := mt_FT (st := st) hn hg k (by omega)
    show (jmFT sm gr st (k + 1) r c).toInt = mt_A sm gr st k r c + (if st.testBit k = true then (mt_de (sm k) r - mt_de (gr k) r) * (mt_de (sm k) c - mt_de (gr k) c) else 0)
    cases q : st.testBit k with
    | false =>
      rw [← jmFT_n q, ih r c, if_neg Bool.false_ne_true, Int.add_zero]
    | true =>
      rw [← jmFT_y q, mt_addT (hg k (by omega)), if_pos rfl]
      have hne := hg k (by omega)
      have one : (1 : Int64).toInt = 1 := by decide
      have up : ∀ x y, (jmFT sm gr st k x y + 1).toInt = mt_A sm gr st k x y + 1 := by
        intro x y
        have hb := mt_A_b sm gr st k x y
        rw [Int64.toInt_add, ih x y, one]
        exact mt_bm (by omega) (by omega)
      have dn : ∀ x y, (jmFT sm gr st k x y - 1).toInt = mt_A sm gr st k x y - 1 := by
        intro x y
        have hb := mt_A_b sm gr st k x y
        rw [Int64.toInt_sub, ih x y, one]
        exact mt_bm (by omega) (by omega)
      by_cases c1 : r = gr k ∧ c = sm k
      · rw [if_pos c1, dn, c1.1, c1.2]
        unfold mt_de
        rw [if_neg (fun z => hne z.symm), if_pos rfl, if_pos rfl, if_neg hne]
        omega
      · rw [if_neg c1]
        by_cases c2 : r = sm k ∧ c = gr k
        · rw [if_pos c2, dn, c2.1, c2.2]
          unfold mt_de
          rw [if_pos rfl, if_neg hne, if_neg (fun z => hne z.symm), if_pos rfl]
          omega
        · rw [if_neg c2]
          by_cases c3 : r = gr k ∧ c = gr k
          · rw [if_pos c3, up, c3.1, c3.2]
            unfold mt_de
            rw [if_neg (fun z => hne z.symm), if_pos rfl]
            omega
          · rw [if_neg c3]
            by_cases c4 : r = sm k ∧ c = sm k
            · rw [if_pos c4, up, c4.1, c4.2]
              unfold mt_de
              rw [if_pos rfl, if_neg hne]
              omega
            · rw [if_neg c4, ih r c]
              have z : (mt_de (sm k) r - mt_de (gr k) r) * (mt_de (sm k) c - mt_de (gr k) c) = 0 := by
                by_cases d1 : r = sm k ∨ r = gr k
                · have e : mt_de (sm k) c - mt_de (gr k) c = 0 := by
                    unfold mt_de
                    rw [if_neg (by omega), if_neg (by omega)]
                    rfl
                  rw [e, Int.mul_zero]
                · have e : mt_de (sm k) r - mt_de (gr k) r = 0 := by
                    unfold mt_de
                    rw [if_neg (fun y => d1 (Or.inl y)), if_neg (fun y => d1 (Or.inr y))]
                    rfl
                  rw [e, Int.zero_mul]
              rw [z, Int.add_zero]
/-- trees: some, just if there is one part -/
theorem mt_trees {P n st : Nat} {sm gr co en la : Nat → Nat} (hw : jmWF P n st sm gr co en la) : (jmCPc en (2 ^ P - 1) st n P = 1 → 0 < (jmTrees sm gr P n st).1) ∧ (jmCPc en (2 ^ P - 1) st n P ≠ 1 → jmCPc en (2 ^ P - 1) st n P = 0 ∨ (jmTrees sm gr P n st).1 = 0) := by
  by_cases hP0 : P = 0
  · subst hP0
    exact ⟨fun h => (by cases h), fun _ => Or.inl rfl⟩
  have hP8 := hw.1
  have hn := hw.2.1
  have hsg : ∀ l, l < n → sm l ≠ gr l := fun l hl => Nat.ne_of_lt (hw.2.2.2.1 l hl).1
  have hL : mt_L (mt_A sm gr st n) P 0 := by
    refine ⟨show (0 : Int) < 1 by decide, show (1 : Int) ≤ 16 ^ 0 by decide, mt_I1_0 _, mt_I3_0 _, fun i j _ _ _ _ => ?_, fun i j _ _ _ _ hij => ?_, fun i _ hi => ?_, fun i _ hi => ?_⟩
    · rw [mt_T_0, mt_T_0]
      exact mt_A_sym _ _ _ _ _ _
    · rw [mt_T_0]
      exact (mt_A_off hsg hij n (Nat.le_refl n)).1
    · rw [mt_S_congr (g := fun j => mt_A sm gr st n i j) (fun j _ => mt_T_0 _ _ _)]
      exact mt_A_sum (fun l hl => by have := hw.2.2.2.1 l hl; omega) i n (Nat.le_refl n)
    · rw [mt_T_0]
      have h1 := (mt_A_b sm gr st n i i).1
      show _ ≤ 16 * (1 : Int)
      omega
  have hm := mt_Ba (by omega) hP8 (P - 1) 0 1 (jmFT sm gr st n) (by omega) hL (show (1 : Int64).toInt = 1 by decide) (fun r c _ _ _ _ => by
    rw [mt_T_0]
    exact mt_FT hn hsg n (Nat.le_refl n) r c)
  have et : (jmTrees sm gr P n st).1 = (jmBa P (P - 1) 0 1 (jmFT sm gr st n)).1 := by
    show (jmCnt P (jmFT sm gr st n)).1 = _
    unfold jmCnt
    rw [if_neg hP0]
  rw [et, mc_parts hw]
  have hE := mc_E (fun x => (2 ^ P - 1).testBit x = true) sm gr (2 ^ P - 1) st n
  have hX : ∀ x, (2 ^ P - 1).testBit x = true → x < P := fun x h => mc_all.mp h
  refine ⟨fun hK => ?_, fun hK => Or.inr (hm.2 ?_)⟩
  · rw [Int64.lt_iff_toInt_lt]
    refine hm.1 ?_
    rintro S ⟨i0, -, i2, i3⟩ ⟨j0, -, j2, j3⟩
    have hC : mc_C sm gr (2 ^ P - 1) st n i0 j0 := by
      refine Classical.byContradiction (fun q => ?_)
      have := md_K2 hE hX (mc_all.mpr i2) (mc_all.mpr j2) q
      omega
    refine Classical.byContradiction (fun q => ?_)
    have hS : mc_I sm gr (2 ^ P - 1) st n S := by
      intro l hl hb h1 h2
      have hlP := hw.2.2.2.1 l hl
      constructor
      · intro z
        refine Classical.byContradiction (fun y => q ⟨sm l, gr l, Nat.zero_le _, by omega, Nat.zero_le _, by omega, z, y, ?_⟩)
        rw [mt_T_0]
        exact (mt_A_off hsg (hsg l hl) n (Nat.le_refl n)).2.mpr ⟨l, hl, hb, Or.inl ⟨rfl, rfl⟩⟩
      · intro z
        refine Classical.byContradiction (fun y => q ⟨gr l, sm l, Nat.zero_le _, by omega, Nat.zero_le _, by omega, z, y, ?_⟩)
        rw [mt_T_0]
        exact (mt_A_off hsg (fun w => hsg l hl w.symm) n (Nat.le_refl n)).2.mpr ⟨l, hl, hb, Or.inr ⟨rfl, rfl⟩⟩
    exact j3 ((hC S hS).mp i3)
  · have hu : ∃ x y, x < P ∧ y < P ∧ ¬ mc_C sm gr (2 ^ P - 1) st n x y := by
      refine Classical.byContradiction (fun q => hK ?_)
      have hall : ∀ x y, x < P → y < P → mc_C sm gr (2 ^ P - 1) st n x y := fun x y hx hy => Classical.byContradiction (fun z => q ⟨x, y, hx, hy, z⟩)
      refine ma_S_one (i := 0) (by omega) ⟨mc_all.mpr (by omega), fun j hj => absurd hj (Nat.not_lt_zero j)⟩ (fun j hj hr => ?_)
      refine Classical.byContradiction (fun z => ?_)
      exact hr.2 0 (by omega) (mc_all.mpr (by omega)) (hall 0 j (by omega) hj)
    obtain ⟨x, y, hx, hy, hxy⟩ := hu
    refine ⟨fun z => mc_C sm gr (2 ^ P - 1) st n x z, ⟨x, Nat.zero_le _, hx, hE.1 x (mc_all.mpr hx)⟩, ⟨y, Nat.zero_le _, hy, hxy⟩, fun i j _ hi _ hj hSi hSj => ?_⟩
    rw [mt_T_0]
    have hij : i ≠ j := fun z => hSj (z ▸ hSi)
    refine Classical.byContradiction (fun z => ?_)
    obtain ⟨l, hl, hb, hends⟩ := (mt_A_off hsg hij n (Nat.le_refl n)).2.mp z
    have hlP := hw.2.2.2.1 l hl
    have hln := mc_line hl hb (sm := sm) (gr := gr) (wi := 2 ^ P - 1) (mc_all.mpr (by omega)) (mc_all.mpr (by omega))
    rcases hends with ⟨e1, e2⟩ | ⟨e1, e2⟩
    · rw [e1, e2] at hln
      exact hSj (hE.2.2 _ _ _ hSi hln)
    · rw [e1, e2] at hln
      exact hSj (hE.2.2 _ _ _ hSi (hE.2.1 _ _ hln))
