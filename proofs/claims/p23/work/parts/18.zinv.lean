/-! own rows: what the mutators keep of the web and of the orders -/
def jmOX (P n : Nat) (sm gr le : Nat → Nat) (od : Nat → Nat → Nat) : Prop :=
  (∀ q, q < P → le q ≤ n) ∧ (∀ q, q < P → ∀ k, k < le q → od q k < n ∧ (sm (od q k) = q ∨ gr (od q k) = q)) ∧ (∀ q, q < P → ∀ k k', k < le q → k' < le q → od q k = od q k' → k = k') ∧ (∀ q, q < P → ∀ i, i < n → (sm i = q ∨ gr i = q) → ∃ k, k < le q ∧ od q k = i) ∧ ∀ q, P ≤ q → q < 8 → le q = 0
theorem jmOX_DW {P n : Nat} {sm gr le : Nat → Nat} {od : Nat → Nat → Nat} (h : jmOX P n sm gr le od) (hn : n ≤ 16) : jmDW P n le od := ⟨fun q hq => Nat.le_trans (h.1 q hq) hn, fun q hq k hk => (h.2.1 q hq k hk).1⟩
theorem jmWF_point {P n st : Nat} {sm gr co en la : Nat → Nat} (hw : jmWF P n st sm gr co en la) (hP : P < 8) (h0 : la P = 0) : jmWF (P + 1) n st sm gr co en la := by
  obtain ⟨h1, h2, h3, h4, h5⟩ := hw
  refine ⟨hP, h2, h3, fun j hj => ?_, fun q hq i => ?_⟩
  · have := h4 j hj
    exact ⟨this.1, by omega, this.2.2⟩
  · by_cases e : q = P
    · subst e
      rw [h0, Nat.zero_testBit]
      refine ⟨fun z => (by cases z), fun z => ?_⟩
      have := h4 i z.1
      omega
    · exact h5 q (by omega) i
theorem jmOX_point {P n : Nat} {sm gr le : Nat → Nat} {od : Nat → Nat → Nat} (h : jmOX P n sm gr le od) (hP : P < 8) (hg : ∀ j, j < n → sm j < P ∧ gr j < P) : jmOX (P + 1) n sm gr le od := by
  obtain ⟨h1, h2, h3, h4, h5⟩ := h
  have h0 : le P = 0 := h5 P (Nat.le_refl P) hP
  refine ⟨fun q hq => ?_, fun q hq k hk => ?_, fun q hq k k' hk => ?_, fun q hq i hi hs => ?_, fun q hq h8 => h5 q (by omega) h8⟩
  · by_cases e : q = P
    · subst e; omega
    · exact h1 q (by omega)
  · by_cases e : q = P
    · subst e; omega
    · exact h2 q (by omega) k hk
  · by_cases e : q = P
    · subst e; omega
    · exact h3 q (by omega) k k' hk
  · by_cases e : q = P
    · have := hg i hi
      omega
    · exact h4 q (by omega) i hi hs
theorem jmWF_cut {P n st i : Nat} {sm gr co en la : Nat → Nat} (hw : jmWF P n st sm gr co en la) (hi : i < n) (b : Bool) : jmWF P n (if b = true then jxAN st (2 ^ i) else st ||| 2 ^ i) sm gr co en la := by
  obtain ⟨h1, h2, h3, h4, h5⟩ := hw
  refine ⟨h1, h2, ?_, h4, h5⟩
  split
  · exact jxAN_lt h3
  · exact Nat.or_lt_two_pow h3 (Nat.pow_lt_pow_right (by decide) hi)
theorem jmWF_price {P n st i x : Nat} {sm gr co en la : Nat → Nat} (hw : jmWF P n st sm gr co en la) (h1 : 1 ≤ x) (h2 : x ≤ 20) : jmWF P n st sm gr (jxUp co i x) en la := by
  obtain ⟨g1, g2, g3, g4, g5⟩ := hw
  refine ⟨g1, g2, g3, fun j hj => ?_, g5⟩
  have := g4 j hj
  refine ⟨this.1, this.2.1, this.2.2.1, ?_⟩
  unfold jxUp
  split
  · exact ⟨h1, h2⟩
  · exact this.2.2.2
theorem jx_bit_or {x k i : Nat} : (x ||| 2 ^ k).testBit i = (x.testBit i || decide (k = i)) := by
  rw [Nat.testBit_or, Nat.testBit_two_pow]
theorem jmWF_line {P n st a o x : Nat} {sm gr co en la : Nat → Nat} (hw : jmWF P n st sm gr co en la) (hn : n < 16) (hao : a < o) (ho : o < P) (h1 : 1 ≤ x) (h2 : x ≤ 20) :
    jmWF P (n + 1) (st ||| 2 ^ n) (jxUp sm n a) (jxUp gr n o) (jxUp co n x) (jxUp en n (2 ^ a ||| 2 ^ o)) (jxUp (jxUp la a (la a ||| 2 ^ n)) o (jxUp la a (la a ||| 2 ^ n) o ||| 2 ^ n)) := by
  obtain ⟨g1, g2, g3, g4, g5⟩ := hw
  refine ⟨g1, hn, ?_, fun j hj => ?_, fun q hq i => ?_⟩
  · exact Nat.or_lt_two_pow (Nat.lt_trans g3 (Nat.pow_lt_pow_right (by decide) (Nat.lt_succ_self n))) (Nat.pow_lt_pow_right (by decide) (Nat.lt_succ_self n))
  · by_cases e : j = n
    · subst e
      rw [jxUp_s, jxUp_s, jxUp_s, jxUp_s]
      exact ⟨hao, ho, rfl, h1, h2⟩
    · rw [jxUp_n _ _ e, jxUp_n _ _ e, jxUp_n _ _ e, jxUp_n _ _ e]
      exact g4 j (by omega)
  · have hb : ∀ q, q < P → ((la q).testBit i = true ↔ i < n ∧ (sm i = q ∨ gr i = q)) := fun q hq => g5 q hq i
    by_cases e : i = n
    · subst e
      rw [jxUp_s, jxUp_s]
      have h0 : (la q).testBit i = false := by
        cases hh : (la q).testBit i
        · rfl
        · have := ((hb q hq).mp hh).1
          omega
      by_cases eo : q = o
      · subst eo
        rw [jxUp_s, jx_bit_or]
        simp
      · rw [jxUp_n _ _ eo]
        by_cases ea : q = a
        · subst ea
          rw [jxUp_s, jx_bit_or]
          simp
        · rw [jxUp_n _ _ ea, h0]
          refine ⟨fun z => (by cases z), fun z => ?_⟩
          rcases z.2 with w | w
          · exact absurd w.symm ea
          · exact absurd w.symm eo
    · rw [jxUp_n _ _ e, jxUp_n _ _ e]
      have key : (jxUp (jxUp la a (la a ||| 2 ^ n)) o (jxUp la a (la a ||| 2 ^ n) o ||| 2 ^ n) q).testBit i = (la q).testBit i := by
        have en : decide (n = i) = false := by simp; omega
        unfold jxUp
        by_cases eo : q = o
        · rw [if_pos eo, jx_bit_or, en, Bool.or_false]
          by_cases ea : o = a
          · rw [if_pos ea, jx_bit_or, en, Bool.or_false, eo, ea]
          · rw [if_neg ea, eo]
        · rw [if_neg eo]
          by_cases ea : q = a
          · rw [if_pos ea, jx_bit_or, en, Bool.or_false, ea]
          · rw [if_neg ea]
      rw [key, hb q hq]
      constructor
      · rintro ⟨z1, z2⟩
        exact ⟨by omega, z2⟩
      · rintro ⟨z1, z2⟩
        exact ⟨by omega, z2⟩
/-- a line more at the end of the order of one point -/
theorem jmOX_swap {P n q k : Nat} {sm gr le : Nat → Nat} {od : Nat → Nat → Nat} (h : jmOX P n sm gr le od) (hq : q < P) (hk : k < le q) : jmOX P n sm gr le (jmSw (le q) od q k) := by
  obtain ⟨h1, h2, h3, h4, h5⟩ := h
  have hb : jmBehind (le q) k < le q := jmBehind_lt (by omega)
  generalize hbe : jmBehind (le q) k = b at hb
  have ev : ∀ a j, jmSw (le q) od q k a j = if a = q then (if j = b then od q k else if j = k then od q b else od q j) else od a j := by
    intro a j
    unfold jmSw jxUp2
    rw [hbe]
    by_cases ea : a = q
    · rw [if_pos ea]
      by_cases ej : j = b
      · rw [if_pos ⟨ea, ej⟩, if_pos ej]
      · rw [if_neg (fun z => ej z.2), if_neg ej]
        by_cases ek : j = k
        · rw [if_pos ⟨ea, ek⟩, if_pos ek]
        · rw [if_neg (fun z => ek z.2), if_neg ek, ea]
    · rw [if_neg (fun z => ea z.1), if_neg (fun z => ea z.1), if_neg ea]
  -- the place that stands at j now
  have tw : ∀ j, j < le q → ∃ j', j' < le q ∧ jmSw (le q) od q k q j = od q j' ∧ j' = (if j = b then k else if j = k then b else j) := by
    intro j hj
    rw [ev q j, if_pos rfl]
    by_cases ej : j = b
    · rw [if_pos ej]
      exact ⟨k, hk, rfl, (if_pos ej).symm⟩
    · rw [if_neg ej]
      by_cases ek : j = k
      · rw [if_pos ek]
        exact ⟨b, hb, rfl, by rw [if_neg ej, if_pos ek]⟩
      · rw [if_neg ek]
        exact ⟨j, hj, rfl, by rw [if_neg ej, if_neg ek]⟩
  refine ⟨h1, fun a ha j hj => ?_, fun a ha j j' hj hj' e => ?_, fun a ha i hi hs => ?_, h5⟩
  · by_cases ea : a = q
    · subst ea
      obtain ⟨j', hj', e, -⟩ := tw j hj
      rw [e]
      exact h2 a ha j' hj'
    · rw [ev a j, if_neg ea]
      exact h2 a ha j hj
  · by_cases ea : a = q
    · subst ea
      obtain ⟨x, hx, e1, e1'⟩ := tw j hj
      obtain ⟨y, hy, e2, e2'⟩ := tw j' hj'
      rw [e1, e2] at e
      have := h3 a ha x y hx hy e
      rw [e1', e2'] at this
      split at this <;> split at this <;> (try split at this) <;> (try split at this) <;> omega
    · rw [ev a j, ev a j', if_neg ea, if_neg ea] at e
      exact h3 a ha j j' hj hj' e
  · obtain ⟨j, hj, e⟩ := h4 a ha i hi hs
    by_cases ea : a = q
    · subst ea
      by_cases ej : j = b
      · refine ⟨k, hk, ?_⟩
        rw [ev a k, if_pos rfl]
        by_cases ekb : k = b
        · rw [if_pos ekb, ekb, ← ej, e]
        · rw [if_neg ekb, if_pos rfl, ← ej, e]
      · by_cases ek : j = k
        · refine ⟨b, hb, ?_⟩
          rw [ev a b, if_pos rfl, if_pos rfl, ← ek, e]
        · refine ⟨j, hj, ?_⟩
          rw [ev a j, if_pos rfl, if_neg ej, if_neg ek, e]
    · exact ⟨j, hj, by rw [ev a j, if_neg ea, e]⟩
/-- the orders behind a new line of a and o -/
theorem jmOX_line {P n a o : Nat} {sm gr le : Nat → Nat} {od : Nat → Nat → Nat} {x y : Nat} (h : jmOX P n sm gr le od) (ha : a < P) (ho : o < P) (hao : a ≠ o) (hxy : (x = a ∧ y = o) ∨ (x = o ∧ y = a)) :
    jmOX P (n + 1) (jxUp sm n x) (jxUp gr n y) (jxUp (jxUp le a (le a + 1)) o (jxUp le a (le a + 1) o + 1)) (jxUp2 (jxUp2 od a (le a) n) o (jxUp le a (le a + 1) o) n) := by
  obtain ⟨h1, h2, h3, h4, h5⟩ := h
  have eo : jxUp le a (le a + 1) o = le o := jxUp_n _ _ (fun z => hao z.symm)
  rw [eo]
  have el : ∀ q, jxUp (jxUp le a (le a + 1)) o (le o + 1) q = if q = a ∨ q = o then le q + 1 else le q := by
    intro q
    unfold jxUp
    by_cases e1 : q = o
    · rw [if_pos e1, if_pos (Or.inr e1), e1]
    · rw [if_neg e1]
      by_cases e2 : q = a
      · rw [if_pos e2, if_pos (Or.inl e2), e2]
      · rw [if_neg e2, if_neg (fun z => z.elim e2 e1)]
  have eod : ∀ q k, jxUp2 (jxUp2 od a (le a) n) o (le o) n q k = if (q = a ∨ q = o) ∧ k = le q then n else od q k := by
    intro q k
    unfold jxUp2
    by_cases e1 : q = o ∧ k = le o
    · rw [if_pos e1, if_pos ⟨Or.inr e1.1, by rw [e1.1]; exact e1.2⟩]
    · rw [if_neg e1]
      by_cases e2 : q = a ∧ k = le a
      · rw [if_pos e2, if_pos ⟨Or.inl e2.1, by rw [e2.1]; exact e2.2⟩]
      · rw [if_neg e2, if_neg]
        rintro ⟨z | z, w⟩
        · exact e2 ⟨z, by rw [← z]; exact w⟩
        · exact e1 ⟨z, by rw [← z]; exact w⟩
  have own : ∀ i, i < n → ∀ q, (jxUp sm n x i = q ∨ jxUp gr n y i = q) ↔ (sm i = q ∨ gr i = q) := by
    intro i hi q
    rw [jxUp_n _ _ (Nat.ne_of_lt hi), jxUp_n _ _ (Nat.ne_of_lt hi)]
  have ownn : ∀ q, (jxUp sm n x n = q ∨ jxUp gr n y n = q) ↔ (q = a ∨ q = o) := by
    intro q
    rw [jxUp_s, jxUp_s]
    omega
  refine ⟨fun q hq => ?_, fun q hq k hk => ?_, fun q hq k k' hk hk' e => ?_, fun q hq i hi hs => ?_, fun q hq h8 => ?_⟩
  · rw [el q]
    have := h1 q hq
    split <;> omega
  · rw [el q] at hk
    rw [eod q k]
    by_cases c : (q = a ∨ q = o) ∧ k = le q
    · rw [if_pos c]
      exact ⟨Nat.lt_succ_self n, (ownn q).mpr c.1⟩
    · rw [if_neg c]
      have hk2 : k < le q := by
        by_cases d : q = a ∨ q = o
        · rw [if_pos d] at hk
          have : k ≠ le q := fun z => c ⟨d, z⟩
          omega
        · rw [if_neg d] at hk
          exact hk
      have := h2 q hq k hk2
      exact ⟨by omega, (own _ this.1 q).mpr this.2⟩
  · rw [el q] at hk hk'
    rw [eod q k, eod q k'] at e
    by_cases d : q = a ∨ q = o
    · rw [if_pos d] at hk hk'
      by_cases c : k = le q
      · rw [if_pos ⟨d, c⟩] at e
        by_cases c' : k' = le q
        · omega
        · rw [if_neg (fun z => c' z.2)] at e
          have := (h2 q hq k' (by omega)).1
          omega
      · rw [if_neg (fun z => c z.2)] at e
        by_cases c' : k' = le q
        · rw [if_pos ⟨d, c'⟩] at e
          have := (h2 q hq k (by omega)).1
          omega
        · rw [if_neg (fun z => c' z.2)] at e
          exact h3 q hq k k' (by omega) (by omega) e
    · rw [if_neg d] at hk hk'
      rw [if_neg (fun z => d z.1), if_neg (fun z => d z.1)] at e
      exact h3 q hq k k' hk hk' e
  · by_cases c : i = n
    · subst c
      have d := (ownn q).mp hs
      refine ⟨le q, ?_, ?_⟩
      · rw [el q, if_pos d]
        exact Nat.lt_succ_self _
      · rw [eod q (le q), if_pos ⟨d, rfl⟩]
    · obtain ⟨k, hk, e⟩ := h4 q hq i (by omega) ((own i (by omega) q).mp hs)
      refine ⟨k, ?_, ?_⟩
      · rw [el q]
        split <;> omega
      · rw [eod q k, if_neg (fun z => by have := z.2; omega), e]
  · rw [el q, if_neg (by omega)]
    exact h5 q hq h8
theorem jmLa0_line {P n a o : Nat} {la : Nat → Nat} (h : ∀ q, P ≤ q → q < 8 → la q = 0) (ha : a < P) (ho : o < P) : ∀ q, P ≤ q → q < 8 → jxUp (jxUp la a (la a ||| 2 ^ n)) o (jxUp la a (la a ||| 2 ^ n) o ||| 2 ^ n) q = 0 := by
  intro q hq h8
  rw [jxUp_n _ _ (by omega), jxUp_n _ _ (by omega)]
  exact h q hq h8
