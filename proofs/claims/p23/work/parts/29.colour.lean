/-! own rows: colours that are unlike, where points are linked -/
theorem mp_all {f : Nat → Bool} : ∀ (k s : Nat), jmAll f k s = true ↔ ∀ j, s ≤ j → j < s + k → f j = true
  | 0, s => ⟨fun _ j h1 h2 => by omega, fun _ => rfl⟩
  | k + 1, s => by
    by_cases c : f s = true
    · have e : jmAll f (k + 1) s = jmAll f k (s + 1) := if_pos c
      rw [e, mp_all k (s + 1)]
      constructor
      · intro h j h1 h2
        by_cases q : j = s
        · rw [q]
          exact c
        · exact h j (by omega) (by omega)
      · exact fun h j h1 h2 => h j (by omega) (by omega)
    · have e : jmAll f (k + 1) s = false := if_neg c
      rw [e]
      exact ⟨fun z => (by cases z), fun h => absurd (h s (Nat.le_refl s) (by omega)) c⟩
/-- what painting keeps: earlier points stay, and a good painting is right -/
def mp_ok (L : Nat → Nat → Prop) (q : Nat) (cl : Nat → Nat) : Prop := ∀ i j, i < q → j < i → L i j → cl j ≠ cl i
def mp_rc (L : Nat → Nat → Prop) (P q : Nat) (rec : Nat → (Nat → Nat) → Bool × (Nat → Nat)) : Prop := ∀ u cl, (∀ j, j < q → (rec u cl).2 j = cl j) ∧ ((rec u cl).1 = true → mp_ok L q cl → mp_ok L P (rec u cl).2)
theorem mp_PL {L : Nat → Nat → Prop} {P q lk used : Nat} {rec : Nat → (Nat → Nat) → Bool × (Nat → Nat)} (hl : ∀ j, j < q → (lk.testBit j = true ↔ L q j)) (hr : mp_rc L P (q + 1) rec) : ∀ (k nu : Nat) (cl : Nat → Nat), (∀ j, j < q → (jmPL rec q lk used k nu cl).2 j = cl j) ∧ ((jmPL rec q lk used k nu cl).1 = true → mp_ok L q cl → mp_ok L P (jmPL rec q lk used k nu cl).2)
  | 0, nu, cl => ⟨fun _ _ => rfl, fun h => (by cases h)⟩
  | k + 1, nu, cl => by
    cases c1 : jmAll (fun j => !(lk.testBit j && cl j == nu)) q 0 with
    | true =>
      obtain ⟨r1, r2⟩ := hr (max used (nu + 1)) (jxUp cl q nu)
      have st : ∀ j, j < q → (rec (max used (nu + 1)) (jxUp cl q nu)).2 j = cl j := fun j hj => by rw [r1 j (by omega), jxUp_n _ _ (by omega)]
      cases c2 : (rec (max used (nu + 1)) (jxUp cl q nu)).1 with
      | true =>
        rw [jmPL_1 c1 c2]
        refine ⟨st, fun _ hok => r2 c2 (fun i j hi hj hL => ?_)⟩
        by_cases e : i = q
        · subst e
          rw [jxUp_s, jxUp_n _ _ (by omega)]
          intro z
          have h := (mp_all i 0).mp c1 j (Nat.zero_le j) (by omega)
          rw [(hl j hj).mpr hL, z] at h
          simp at h
        · rw [jxUp_n _ _ (show j ≠ q by omega), jxUp_n _ _ e]
          exact hok i j (by omega) hj hL
      | false =>
        rw [jmPL_2 c1 c2]
        obtain ⟨i1, i2⟩ := mp_PL hl hr k (nu + 1) (rec (max used (nu + 1)) (jxUp cl q nu)).2
        refine ⟨fun j hj => by rw [i1 j hj, st j hj], fun h hok => i2 h (fun i j hi hj hL => ?_)⟩
        rw [st i hi, st j (by omega)]
        exact hok i j hi hj hL
    | false =>
      rw [jmPL_3 c1]
      exact mp_PL hl hr k (nu + 1) cl
section MP
variable {P n st : Nat} {sm gr co en la : Nat → Nat}
theorem mp_Pa (hw : jmWF P n st sm gr co en la) (mo : Nat) : ∀ d, d ≤ P → mp_rc (mx_lk sm gr st n) P (P - d) (jmPa en la P n st mo d)
  | 0, _ => fun u cl => ⟨fun _ _ => rfl, fun _ h => h⟩
  | d + 1, hd => fun u cl => by
    have ih := mp_Pa hw mo d (by omega)
    rw [show P - d = P - (d + 1) + 1 by omega] at ih
    exact mp_PL (fun j _ => mx_linked hw (by omega)) ih _ _ _
/-- with as many colours as points, painting goes through -/
theorem mp_PL_y {rec : Nat → (Nat → Nat) → Bool × (Nat → Nat)} {q lk used : Nat} (hr : ∀ cl, (∀ j, j < q + 1 → cl j < used + 1) → (rec (used + 1) cl).1 = true) (hst : ∀ u cl j, j < q → (rec u cl).2 j = cl j) : ∀ (k nu : Nat) (cl : Nat → Nat), (∀ j, j < q → cl j < used) → nu + k = used + 1 → nu ≤ used → (jmPL rec q lk used k nu cl).1 = true := by
  intro k
  induction k with
  | zero => intro nu cl hc hk hn; omega
  | succ k ih =>
    intro nu cl hc hk hn
    by_cases e : nu = used
    · have c1 : jmAll (fun j => !(lk.testBit j && cl j == nu)) q 0 = true := by
        rw [mp_all]
        intro j _ hj
        have := hc j (by omega)
        have hne : ¬ cl j = nu := by omega
        simp [hne]
      have c2 : (rec (max used (nu + 1)) (jxUp cl q nu)).1 = true := by
        rw [e, show max used (used + 1) = used + 1 by omega]
        refine hr _ (fun j hj => ?_)
        unfold jxUp
        split
        · omega
        · have := hc j (by omega)
          omega
      rw [jmPL_1 c1 c2]
      exact c2
    · cases c1 : jmAll (fun j => !(lk.testBit j && cl j == nu)) q 0 with
      | true =>
        cases c2 : (rec (max used (nu + 1)) (jxUp cl q nu)).1 with
        | true =>
          rw [jmPL_1 c1 c2]
          exact c2
        | false =>
          rw [jmPL_2 c1 c2]
          refine ih (nu + 1) _ (fun j hj => ?_) (by omega) (by omega)
          rw [hst _ _ j hj, jxUp_n _ _ (by omega)]
          exact hc j hj
      | false =>
        rw [jmPL_3 c1]
        exact ih (nu + 1) cl hc (by omega) (by omega)
theorem mp_Pa_y (hw : jmWF P n st sm gr co en la) : ∀ d, d ≤ P → ∀ used cl, used ≤ P - d → (∀ j, j < P - d → cl j < used) → (jmPa en la P n st P d used cl).1 = true
  | 0, _ => fun _ _ _ _ => rfl
  | d + 1, hd => fun used cl hu hc => by
    have hrc := mp_Pa hw P d (by omega)
    show (jmPL (jmPa en la P n st P d) (P - (d + 1)) (jmLinked en la st n (P - (d + 1))) used (min (used + 1) P) 0 cl).1 = true
    rw [show min (used + 1) P = used + 1 by omega]
    refine mp_PL_y (fun cl2 h2 => ?_) (fun u cl2 j hj => (hrc u cl2).1 j (by omega)) (used + 1) 0 cl hc (by omega) (Nat.zero_le _)
    exact mp_Pa_y hw d (by omega) (used + 1) cl2 (by omega) (fun j hj => h2 j (by omega))
theorem mp_Pe (hw : jmWF P n st sm gr co en la) (pk : Nat) : ∀ (k mo : Nat) (cl : Nat → Nat), mo + k = P + 1 → mo ≤ P → mp_ok (mx_lk sm gr st n) P (jmPe en la P n st pk k mo cl).2 := by
  intro k
  induction k with
  | zero => intro mo cl h1 h2; omega
  | succ k ih =>
    intro mo cl h1 h2
    cases c : (jmPa en la P n st mo P 0 cl).1 with
    | true =>
      rw [jmPe_y c]
      have h := mp_Pa hw mo P (Nat.le_refl P)
      rw [Nat.sub_self] at h
      exact (h 0 cl).2 c (fun i j hi => absurd hi (Nat.not_lt_zero i))
    | false =>
      rw [jmPe_n c]
      refine ih (mo + 1) _ (by omega) ?_
      refine Classical.byContradiction (fun z => ?_)
      have e : mo = P := by omega
      have h := mp_Pa_y hw P (Nat.le_refl P) 0 cl (Nat.zero_le _) (fun j hj => by omega)
      rw [e, h] at c
      cases c
/-- the ends of each line that stands are unlike -/
theorem mp_col (hw : jmWF P n st sm gr co en la) (pk : Nat) (cl : Nat → Nat) : ∀ i, i < n → st.testBit i = true → (jmPe en la P n st pk (P + 1) 0 cl).2 (sm i) ≠ (jmPe en la P n st pk (P + 1) 0 cl).2 (gr i) := by
  intro i hi hb
  have h4 := hw.2.2.2.1 i hi
  exact mp_Pe hw pk (P + 1) 0 cl (by omega) (Nat.zero_le _) (gr i) (sm i) h4.2.1 h4.1 ⟨i, hi, hb, Or.inr ⟨rfl, rfl⟩⟩
end MP
