/-! own rows: reaching and parts, as kinds that lines keep -/
def mc_I (sm gr : Nat → Nat) (wi b n : Nat) (S : Nat → Prop) : Prop := ∀ i, i < n → b.testBit i = true → wi.testBit (sm i) = true → wi.testBit (gr i) = true → (S (sm i) ↔ S (gr i))
def mc_C (sm gr : Nat → Nat) (wi b n x y : Nat) : Prop := ∀ S : Nat → Prop, mc_I sm gr wi b n S → (S x ↔ S y)
theorem mc_E (X : Nat → Prop) (sm gr : Nat → Nat) (wi b n : Nat) : ma_E X (mc_C sm gr wi b n) := ⟨fun _ _ _ _ => Iff.rfl, fun _ _ h S hS => (h S hS).symm, fun _ _ _ h1 h2 S hS => (h1 S hS).trans (h2 S hS)⟩
theorem mc_line {sm gr : Nat → Nat} {wi b n i : Nat} (hi : i < n) (hb : b.testBit i = true) (h1 : wi.testBit (sm i) = true) (h2 : wi.testBit (gr i) = true) : mc_C sm gr wi b n (sm i) (gr i) := fun _ hS => hS i hi hb h1 h2
theorem mc_neg {sm gr : Nat → Nat} {wi b n : Nat} {S : Nat → Prop} (h : mc_I sm gr wi b n S) : mc_I sm gr wi b n (fun z => ¬ S z) := fun i h1 h2 h3 h4 => not_congr (h i h1 h2 h3 h4)
theorem mc_bit2 {a b y : Nat} : (2 ^ a ||| 2 ^ b).testBit y = true ↔ y = a ∨ y = b := by
  rw [Nat.testBit_or, Nat.testBit_two_pow, Nat.testBit_two_pow]
  simp only [Bool.or_eq_true, decide_eq_true_eq]
  omega
theorem mc_ext {a b : Nat} (h : ∀ i, a.testBit i = true ↔ b.testBit i = true) : a = b := Nat.eq_of_testBit_eq (fun i => Bool.eq_iff_iff.mpr (h i))
theorem mc_an {a b i : Nat} : (jxAN a b).testBit i = true ↔ a.testBit i = true ∧ b.testBit i = false := by
  rw [jxAN_bit]
  cases a.testBit i <;> cases b.testBit i <;> simp
theorem mc_an0 {a b c : Nat} : jxAN (2 ^ a ||| 2 ^ b) c = 0 ↔ c.testBit a = true ∧ c.testBit b = true := by
  constructor
  · intro h
    have key : ∀ y, (2 ^ a ||| 2 ^ b).testBit y = true → c.testBit y = true := by
      intro y hy
      cases hc : c.testBit y with
      | true => rfl
      | false =>
        have : (jxAN (2 ^ a ||| 2 ^ b) c).testBit y = true := mc_an.mpr ⟨hy, hc⟩
        rw [h, Nat.zero_testBit] at this
        cases this
    exact ⟨key a (mc_bit2.mpr (Or.inl rfl)), key b (mc_bit2.mpr (Or.inr rfl))⟩
  · rintro ⟨h1, h2⟩
    refine mc_ext (fun i => ?_)
    rw [mc_an, Nat.zero_testBit, mc_bit2]
    refine ⟨fun z => ?_, fun z => (by cases z)⟩
    rcases z.1 with e | e
    · have := z.2
      rw [e, h1] at this
      cases this
    · have := z.2
      rw [e, h2] at this
      cases this
theorem mc_and2 {a b M : Nat} : (2 ^ a ||| 2 ^ b) &&& M ≠ 0 ↔ M.testBit a = true ∨ M.testBit b = true := by
  constructor
  · intro h
    refine Classical.byContradiction (fun q => h (mc_ext (fun i => ?_)))
    rw [Nat.testBit_and, Nat.zero_testBit, Bool.and_eq_true, mc_bit2]
    refine ⟨fun z => ?_, fun z => (by cases z)⟩
    rcases z.1 with e | e
    · exact absurd (Or.inl (e ▸ z.2)) q
    · exact absurd (Or.inr (e ▸ z.2)) q
  · intro h e
    rcases h with h | h
    · have : ((2 ^ a ||| 2 ^ b) &&& M).testBit a = true := by rw [Nat.testBit_and, h, mc_bit2.mpr (Or.inl rfl)]; rfl
      rw [e, Nat.zero_testBit] at this
      cases this
    · have : ((2 ^ a ||| 2 ^ b) &&& M).testBit b = true := by rw [Nat.testBit_and, h, mc_bit2.mpr (Or.inr rfl)]; rfl
      rw [e, Nat.zero_testBit] at this
      cases this
section MC
variable {P n st : Nat} {sm gr co en la : Nat → Nat}
theorem mc_step_mono {wi b : Nat} {M y : Nat} (h : M.testBit y = true) : ∀ k, (jmStep en wi b k M).testBit y = true
  | 0 => h
  | k + 1 => by
    have ih := mc_step_mono (wi := wi) (b := b) h k
    unfold jmStep
    split
    · rw [Nat.testBit_or, ih]; rfl
    · exact ih
theorem mc_step_up {wi b : Nat} {M y k : Nat} (h : (jmStep en wi b k M).testBit y = true) : ∀ d, (jmStep en wi b (k + d) M).testBit y = true
  | 0 => h
  | d + 1 => by
    have ih := mc_step_up h d
    show (jmStep en wi b (k + d + 1) M).testBit y = true
    unfold jmStep
    split
    · rw [Nat.testBit_or, ih]; rfl
    · exact ih
theorem mc_step_sound (hen : ∀ j, j < n → en j = 2 ^ sm j ||| 2 ^ gr j) {wi b M : Nat} {S : Nat → Prop} (hS : mc_I sm gr wi b n S) (hM : ∀ y, M.testBit y = true → S y) : ∀ k, k ≤ n → ∀ y, (jmStep en wi b k M).testBit y = true → S y
  | 0, _ => hM
  | k + 1, hk => by
    have ih := mc_step_sound hen hS hM k (by omega)
    intro y hy
    unfold jmStep at hy
    split at hy
    · next q =>
      obtain ⟨q1, q2, q3⟩ := q
      rw [hen k (by omega)] at q2 q3 hy
      have w := mc_an0.mp q3
      have hiff := hS k (by omega) q1 w.1 w.2
      have both : S (sm k) ∧ S (gr k) := by
        rcases mc_and2.mp q2 with z | z
        · exact ⟨ih _ z, hiff.mp (ih _ z)⟩
        · exact ⟨hiff.mpr (ih _ z), ih _ z⟩
      rw [Nat.testBit_or, Bool.or_eq_true] at hy
      rcases hy with z | z
      · exact ih y z
      · rcases mc_bit2.mp z with e | e
        · rw [e]; exact both.1
        · rw [e]; exact both.2
    · exact ih y hy
theorem mc_closed (hen : ∀ j, j < n → en j = 2 ^ sm j ||| 2 ^ gr j) {wi b M : Nat} (hfix : jmStep en wi b n M = M) : mc_I sm gr wi b n (fun y => M.testBit y = true) := by
  intro i hi hb h1 h2
  have key : M.testBit (sm i) = true ∨ M.testBit (gr i) = true → M.testBit (sm i) = true ∧ M.testBit (gr i) = true := by
    intro h
    have hc : en i &&& jmStep en wi b i M ≠ 0 := by
      rw [hen i hi]
      exact mc_and2.mpr (h.elim (fun z => Or.inl (mc_step_mono z i)) (fun z => Or.inr (mc_step_mono z i)))
    have hz : jxAN (en i) wi = 0 := by
      rw [hen i hi]
      exact mc_an0.mpr ⟨h1, h2⟩
    have e1 : jmStep en wi b (i + 1) M = jmStep en wi b i M ||| en i := if_pos ⟨hb, hc, hz⟩
    have hup : ∀ y, (en i).testBit y = true → M.testBit y = true := by
      intro y hy
      have h3 : (jmStep en wi b (i + 1) M).testBit y = true := by rw [e1, Nat.testBit_or, hy, Bool.or_true]
      have h4 := mc_step_up h3 (n - (i + 1))
      rw [show i + 1 + (n - (i + 1)) = n by omega, hfix] at h4
      exact h4
    rw [hen i hi] at hup
    exact ⟨hup _ (mc_bit2.mpr (Or.inl rfl)), hup _ (mc_bit2.mpr (Or.inr rfl))⟩
  exact ⟨fun z => (key (Or.inl z)).2, fun z => (key (Or.inr z)).1⟩
def mc_cnt (M : Nat) : Nat := ma_S (fun i => jB (M.testBit i)) 8
theorem mc_cnt_le (M : Nat) : mc_cnt M ≤ 8 := by
  have h := ma_S_le (f := fun i => jB (M.testBit i)) (g := fun _ => 1) (N := 8) (fun k _ => by have := jB_lt (M.testBit k); omega)
  rw [ma_S_const] at h
  exact h
theorem mc_hi {M y : Nat} (h : M < 256) (hy : 8 ≤ y) : M.testBit y = false := Nat.testBit_lt_two_pow (Nat.lt_of_lt_of_le h (Nat.pow_le_pow_right (n := 2) (by decide) hy))
theorem mc_cnt_lt {M M' : Nat} (hM : M < 256) (hM' : M' < 256) (hs : ∀ y, M.testBit y = true → M'.testBit y = true) (hne : M' ≠ M) : mc_cnt M + 1 ≤ mc_cnt M' := by
  have hle : ∀ k, k < 8 → jB (M.testBit k) ≤ jB (M'.testBit k) := by
    intro k _
    cases h : M.testBit k with
    | false => exact Nat.zero_le _
    | true => rw [hs k h]; exact Nat.le_refl _
  refine Classical.byContradiction (fun q => hne ?_)
  have heq := ma_S_eqs hle (by
    show mc_cnt M' ≤ mc_cnt M
    omega)
  refine mc_ext (fun i => ?_)
  by_cases hi : i < 8
  · have := heq i hi
    cases h1 : M.testBit i <;> cases h2 : M'.testBit i <;> rw [h1, h2] at this <;> simp [jB] at this ⊢
  · rw [mc_hi hM (by omega), mc_hi hM' (by omega)]
theorem mc_fix {f : Nat → Nat} (hlt : ∀ y, y < 256 → f y < 256) (hup : ∀ M y, M.testBit y = true → (f M).testBit y = true) {x : Nat} (hx : x < 256) (h1 : 1 ≤ mc_cnt x) : f (jmIt f 8 x) = jmIt f 8 x := by
  have key : ∀ r, (∃ q, q < r ∧ f (jmIt f q x) = jmIt f q x) ∨ r + 1 ≤ mc_cnt (jmIt f r x) := by
    intro r
    induction r with
    | zero => exact Or.inr h1
    | succ r ih =>
      rcases ih with ⟨q, hq, e⟩ | ih
      · exact Or.inl ⟨q, by omega, e⟩
      · by_cases e : f (jmIt f r x) = jmIt f r x
        · exact Or.inl ⟨r, by omega, e⟩
        · right
          have := mc_cnt_lt (M := jmIt f r x) (M' := f (jmIt f r x)) (jmIt_lt hx hlt r) (hlt _ (jmIt_lt hx hlt r)) (hup _) e
          show r + 1 + 1 ≤ mc_cnt (f (jmIt f r x))
          omega
  rcases key 8 with ⟨q, hq, e⟩ | h
  · have h2 := jmIt_stay e (8 - q)
    rw [show q + (8 - q) = 8 by omega] at h2
    rw [h2, e]
  · have := mc_cnt_le (jmIt f 8 x)
    omega
theorem mc_cnt1 {a : Nat} (ha : a < 8) : 1 ≤ mc_cnt (2 ^ a) := by
  have h := ma_S_term (f := fun i => jB ((2 ^ a).testBit i)) (N := 8) ha
  have e : (2 ^ a).testBit a = true := by rw [Nat.testBit_two_pow]; simp
  rw [e] at h
  exact h
theorem mc_reach (hw : jmWF P n st sm gr co en la) {wi b a y : Nat} (ha : a < 8) : (jmReach en wi b n a).testBit y = true ↔ mc_C sm gr wi b n a y := by
  have hen : ∀ j, j < n → en j = 2 ^ sm j ||| 2 ^ gr j := fun j hj => (hw.2.2.2.1 j hj).2.2.1
  have he := jmWF_en hw
  have ha2 : 2 ^ a < 256 := jx_pow8 ha
  have sound : ∀ S : Nat → Prop, mc_I sm gr wi b n S → S a → ∀ k y, (jmIt (jmStep en wi b n) k (2 ^ a)).testBit y = true → S y := by
    intro S hS hSa k
    induction k with
    | zero =>
      intro y hy
      have hy : (2 ^ a).testBit y = true := hy
      rw [Nat.testBit_two_pow] at hy
      have : a = y := of_decide_eq_true hy
      exact this ▸ hSa
    | succ k ih => exact mc_step_sound hen hS ih n (Nat.le_refl n)
  constructor
  · intro h S hS
    refine ⟨fun hSa => sound S hS hSa 8 y h, fun hSy => Classical.byContradiction (fun q => ?_)⟩
    exact sound (fun z => ¬ S z) (mc_neg hS) q 8 y h hSy
  · intro h
    have hfix : jmStep en wi b n (jmReach en wi b n a) = jmReach en wi b n a := mc_fix (fun z hz => jmStep_lt hz he) (fun M z hz => mc_step_mono hz n) ha2 (mc_cnt1 ha)
    have hcl := mc_closed hen hfix
    refine (h _ hcl).mp ?_
    have : ∀ k, (jmIt (jmStep en wi b n) k (2 ^ a)).testBit a = true := by
      intro k
      induction k with
      | zero => show (2 ^ a).testBit a = true; rw [Nat.testBit_two_pow]; simp
      | succ k ih => exact mc_step_mono ih n
    exact this 8
theorem mc_CP (hw : jmWF P n st sm gr co en la) {wi b : Nat} : ∀ k, k ≤ 8 → (∀ y, (jmCPm en wi b n k).testBit y = true ↔ ∃ j, j < k ∧ wi.testBit j = true ∧ mc_C sm gr wi b n j y) ∧ jmCPc en wi b n k = ma_S (fun j => ma_pc (ma_rp (fun x => wi.testBit x = true) (mc_C sm gr wi b n) j)) k
  | 0, _ => ⟨fun y => ⟨fun h => (by rw [show jmCPm en wi b n 0 = 0 from rfl, Nat.zero_testBit] at h; cases h), fun ⟨j, hj, _⟩ => absurd hj (Nat.not_lt_zero j)⟩, rfl⟩
  | k + 1, hk => by
    obtain ⟨h1, h2⟩ := mc_CP hw (wi := wi) (b := b) k (by omega)
    have hE := mc_E (fun _ => True) sm gr wi b n
    have hrp : (jxAN wi (jmCPm en wi b n k)).testBit k = true ↔ ma_rp (fun x => wi.testBit x = true) (mc_C sm gr wi b n) k := by
      rw [mc_an]
      constructor
      · rintro ⟨w1, w2⟩
        refine ⟨w1, fun j hj hx hR => ?_⟩
        have := (h1 k).mpr ⟨j, hj, hx, hR⟩
        rw [w2] at this
        cases this
      · rintro ⟨w1, w2⟩
        refine ⟨w1, ?_⟩
        cases hh : (jmCPm en wi b n k).testBit k with
        | false => rfl
        | true =>
          obtain ⟨j, hj, hx, hR⟩ := (h1 k).mp hh
          exact absurd hR (w2 j hj hx)
    by_cases c : (jxAN wi (jmCPm en wi b n k)).testBit k = true
    · have e1 : jmCPm en wi b n (k + 1) = jmCPm en wi b n k ||| jmReach en wi b n k := if_pos c
      have e2 : jmCPc en wi b n (k + 1) = jmCPc en wi b n k + 1 := if_pos c
      refine ⟨fun y => ?_, ?_⟩
      · rw [e1, Nat.testBit_or, Bool.or_eq_true, h1 y, mc_reach hw (by omega)]
        constructor
        · rintro (⟨j, hj, hx, hR⟩ | hR)
          · exact ⟨j, by omega, hx, hR⟩
          · exact ⟨k, by omega, (hrp.mp c).1, hR⟩
        · rintro ⟨j, hj, hx, hR⟩
          by_cases q : j = k
          · exact Or.inr (q ▸ hR)
          · exact Or.inl ⟨j, by omega, hx, hR⟩
      · rw [e2, h2]
        show _ = ma_S _ k + ma_pc _
        rw [ma_pc_t (hrp.mp c)]
    · have e1 : jmCPm en wi b n (k + 1) = jmCPm en wi b n k := if_neg c
      have e2 : jmCPc en wi b n (k + 1) = jmCPc en wi b n k := if_neg c
      refine ⟨fun y => ?_, ?_⟩
      · rw [e1, h1 y]
        constructor
        · rintro ⟨j, hj, hx, hR⟩
          exact ⟨j, by omega, hx, hR⟩
        · rintro ⟨j, hj, hx, hR⟩
          by_cases q : j = k
          · subst q
            have hm : (jmCPm en wi b n j).testBit j = true := by
              cases hh : (jmCPm en wi b n j).testBit j with
              | true => rfl
              | false => exact absurd (mc_an.mpr ⟨hx, hh⟩) c
            obtain ⟨i, hi, hxi, hRi⟩ := (h1 j).mp hm
            exact ⟨i, hi, hxi, hE.2.2 _ _ _ hRi hR⟩
          · exact ⟨j, by omega, hx, hR⟩
      · rw [e2, h2]
        show _ = ma_S _ k + ma_pc _
        rw [ma_pc_f (fun z => c (hrp.mpr z)), Nat.add_zero]
/-- how many parts: classes of reaching -/
theorem mc_parts (hw : jmWF P n st sm gr co en la) (wi b : Nat) : jmCPc en wi b n P = ma_K P (fun x => wi.testBit x = true) (mc_C sm gr wi b n) := (mc_CP hw P hw.1).2
theorem mc_all {x : Nat} : (2 ^ P - 1).testBit x = true ↔ x < P := by
  rw [Nat.testBit_two_pow_sub_one]
  simp
theorem mc_NP : ∀ k, k ≤ P → jmNPm en P n st k = jmCPm en (2 ^ P - 1) st n k ∧ jmNPc en P n st k = jmCPc en (2 ^ P - 1) st n k
  | 0, _ => ⟨rfl, rfl⟩
  | k + 1, hk => by
    obtain ⟨h1, h2⟩ := mc_NP k (by omega)
    have hb : (2 ^ P - 1).testBit k = true := mc_all.mpr (by omega)
    cases c : (jmNPm en P n st k).testBit k with
    | true =>
      have q : ¬ (jxAN (2 ^ P - 1) (jmCPm en (2 ^ P - 1) st n k)).testBit k = true := by
        rw [mc_an, ← h1, c]
        rintro ⟨-, z⟩
        cases z
      have e1 : jmNPm en P n st (k + 1) = jmNPm en P n st k := if_pos c
      have e2 : jmNPc en P n st (k + 1) = jmNPc en P n st k := if_pos c
      have e3 : jmCPm en (2 ^ P - 1) st n (k + 1) = jmCPm en (2 ^ P - 1) st n k := if_neg q
      have e4 : jmCPc en (2 ^ P - 1) st n (k + 1) = jmCPc en (2 ^ P - 1) st n k := if_neg q
      rw [e1, e2, e3, e4]
      exact ⟨h1, h2⟩
    | false =>
      have q : (jxAN (2 ^ P - 1) (jmCPm en (2 ^ P - 1) st n k)).testBit k = true := by
        rw [mc_an, ← h1, c]
        exact ⟨hb, rfl⟩
      have nq : ¬ (jmNPm en P n st k).testBit k = true := by rw [c]; exact Bool.false_ne_true
      have e1 : jmNPm en P n st (k + 1) = jmNPm en P n st k ||| jmReach en (2 ^ P - 1) st n k := if_neg nq
      have e2 : jmNPc en P n st (k + 1) = jmNPc en P n st k + 1 := if_neg nq
      have e3 : jmCPm en (2 ^ P - 1) st n (k + 1) = jmCPm en (2 ^ P - 1) st n k ||| jmReach en (2 ^ P - 1) st n k := if_pos q
      have e4 : jmCPc en (2 ^ P - 1) st n (k + 1) = jmCPc en (2 ^ P - 1) st n k + 1 := if_pos q
      rw [e1, e2, e3, e4, h1, h2]
      exact ⟨rfl, rfl⟩
end MC
/-- a line more: nothing new, or two parts become one -/
theorem mc_add {sm gr : Nat → Nat} {wi b b' n e : Nat} (he : e < n) (hbe : b.testBit e = true) (h1 : wi.testBit (sm e) = true) (h2 : wi.testBit (gr e) = true) (hb' : ∀ i, b'.testBit i = true ↔ b.testBit i = true ∧ i ≠ e) (x y : Nat) :
    mc_C sm gr wi b n x y ↔ mc_C sm gr wi b' n x y ∨ (mc_C sm gr wi b' n x (sm e) ∧ mc_C sm gr wi b' n (gr e) y) ∨ (mc_C sm gr wi b' n x (gr e) ∧ mc_C sm gr wi b' n (sm e) y) := by
  have hE := mc_E (fun _ => True) sm gr wi b' n
  have hF := mc_E (fun _ => True) sm gr wi b n
  have hsub : ∀ u v, mc_C sm gr wi b' n u v → mc_C sm gr wi b n u v := fun u v h S hS => h S (fun i hi hb => hS i hi ((hb' i).mp hb).1)
  have hev : mc_C sm gr wi b n (sm e) (gr e) := mc_line he hbe h1 h2
  constructor
  · intro h
    have hM : ∀ z w, mc_C sm gr wi b' n z w → ((mc_C sm gr wi b' n x z ∨ (mc_C sm gr wi b' n x (sm e) ∧ mc_C sm gr wi b' n (gr e) z) ∨ (mc_C sm gr wi b' n x (gr e) ∧ mc_C sm gr wi b' n (sm e) z)) → (mc_C sm gr wi b' n x w ∨ (mc_C sm gr wi b' n x (sm e) ∧ mc_C sm gr wi b' n (gr e) w) ∨ (mc_C sm gr wi b' n x (gr e) ∧ mc_C sm gr wi b' n (sm e) w))) := by
      intro z w hzw q
      rcases q with q | q | q
      · exact Or.inl (hE.2.2 _ _ _ q hzw)
      · exact Or.inr (Or.inl ⟨q.1, hE.2.2 _ _ _ q.2 hzw⟩)
      · exact Or.inr (Or.inr ⟨q.1, hE.2.2 _ _ _ q.2 hzw⟩)
    have rs := hE.1 (sm e) trivial
    have rg := hE.1 (gr e) trivial
    refine (h (fun z => mc_C sm gr wi b' n x z ∨ (mc_C sm gr wi b' n x (sm e) ∧ mc_C sm gr wi b' n (gr e) z) ∨ (mc_C sm gr wi b' n x (gr e) ∧ mc_C sm gr wi b' n (sm e) z)) (fun i hi hb hs hg => ?_)).mp (Or.inl (hE.1 x trivial))
    by_cases q : i = e
    · subst q
      constructor
      · rintro (z | z | z)
        · exact Or.inr (Or.inl ⟨z, rg⟩)
        · exact Or.inr (Or.inl ⟨z.1, rg⟩)
        · exact Or.inl z.1
      · rintro (z | z | z)
        · exact Or.inr (Or.inr ⟨z, rs⟩)
        · exact Or.inl z.1
        · exact Or.inr (Or.inr ⟨z.1, rs⟩)
    · have hc : mc_C sm gr wi b' n (sm i) (gr i) := mc_line hi ((hb' i).mpr ⟨hb, q⟩) hs hg
      exact ⟨hM _ _ hc, hM _ _ (hE.2.1 _ _ hc)⟩
  · rintro (h | h | h)
    · exact hsub _ _ h
    · exact hF.2.2 _ _ _ (hsub _ _ h.1) (hF.2.2 _ _ _ hev (hsub _ _ h.2))
    · exact hF.2.2 _ _ _ (hsub _ _ h.1) (hF.2.2 _ _ _ (hF.2.1 _ _ hev) (hsub _ _ h.2))
theorem mc_add_parts {P n st : Nat} {sm gr co en la : Nat → Nat} (hw : jmWF P n st sm gr co en la) {b b' e : Nat} (he : e < n) (hbe : b.testBit e = true) (hb' : ∀ i, b'.testBit i = true ↔ b.testBit i = true ∧ i ≠ e) :
    (mc_C sm gr (2 ^ P - 1) b' n (sm e) (gr e) → jmCPc en (2 ^ P - 1) b n P = jmCPc en (2 ^ P - 1) b' n P) ∧ (¬ mc_C sm gr (2 ^ P - 1) b' n (sm e) (gr e) → jmCPc en (2 ^ P - 1) b n P + 1 = jmCPc en (2 ^ P - 1) b' n P) := by
  have hl := hw.2.2.2.1 e he
  have h1 : (2 ^ P - 1).testBit (sm e) = true := mc_all.mpr (by omega)
  have h2 : (2 ^ P - 1).testBit (gr e) = true := mc_all.mpr (by omega)
  have hE := mc_E (fun x => (2 ^ P - 1).testBit x = true) sm gr (2 ^ P - 1) b' n
  rw [mc_parts hw, mc_parts hw]
  refine ⟨fun h => ma_K_congr (fun _ => Iff.rfl) (fun x y _ _ => ?_), fun h => ma_K_merge hE (fun x hx => mc_all.mp hx) h1 h2 h (fun x y _ _ => mc_add he hbe h1 h2 hb' x y)⟩
  rw [mc_add he hbe h1 h2 hb' x y]
  constructor
  · rintro (z | z | z)
    · exact z
    · exact hE.2.2 _ _ _ z.1 (hE.2.2 _ _ _ h z.2)
    · exact hE.2.2 _ _ _ z.1 (hE.2.2 _ _ _ (hE.2.1 _ _ h) z.2)
  · exact fun z => Or.inl z
