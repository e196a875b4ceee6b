/-! own rows: blocks: a line that is a bridge is alone -/
section MB
variable {P n st : Nat} {sm gr co en la : Nat → Nat}
/-- a line that stands, and is no bridge -/
def mb_nb (en : Nat → Nat) (P n st fp i : Nat) : Prop := i < n ∧ st.testBit i = true ∧ ¬ fp < jmCPc en (2 ^ P - 1) (jxAN st (2 ^ i)) n P
def mb_J (en : Nat → Nat) (P n st fp : Nat) (f : Nat → Nat) : Prop := ∀ i, i < n → f i ≤ i ∧ f (f i) = f i ∧ (f i ≠ i → mb_nb en P n st fp i ∧ mb_nb en P n st fp (f i))
theorem mb_join {fp : Nat} {f : Nat → Nat} (h : mb_J en P n st fp f) {l o : Nat} (hl : mb_nb en P n st fp l) (ho : mb_nb en P n st fp o) : mb_J en P n st fp (jmJoin f (f l) (f o) n) := by
  have hx := h l hl.1
  have hy := h o ho.1
  have nx : mb_nb en P n st fp (f l) := by
    by_cases c : f l = l
    · rw [c]; exact hl
    · exact (hx.2.2 c).2
  have ny : mb_nb en P n st fp (f o) := by
    by_cases c : f o = o
    · rw [c]; exact ho
    · exact (hy.2.2 c).2
  have nm : mb_nb en P n st fp (min (f l) (f o)) := by
    rcases Nat.le_total (f l) (f o) with q | q
    · rw [Nat.min_eq_left q]; exact nx
    · rw [Nat.min_eq_right q]; exact ny
  have fm : f (min (f l) (f o)) = f l ∨ f (min (f l) (f o)) = f o := by
    rcases Nat.le_total (f l) (f o) with q | q
    · rw [Nat.min_eq_left q]; exact Or.inl hx.2.1
    · rw [Nat.min_eq_right q]; exact Or.inr hy.2.1
  have fy : ∀ j, j < n → (f j = f l ∨ f j = f o) → jmJoin f (f l) (f o) n j = min (f l) (f o) := fun j hj z => if_pos ⟨hj, z⟩
  have fn : ∀ j, j < n → ¬ (f j = f l ∨ f j = f o) → jmJoin f (f l) (f o) n j = f j := fun j hj z => if_neg (fun y => z y.2)
  intro i hi
  have hi2 := h i hi
  by_cases c : f i = f l ∨ f i = f o
  · rw [fy i hi c, fy _ nm.1 fm]
    refine ⟨?_, rfl, fun z => ⟨?_, nm⟩⟩
    · have e1 := Nat.min_le_left (f l) (f o)
      have e2 := Nat.min_le_right (f l) (f o)
      rcases c with e | e <;> omega
    · by_cases d : f i = i
      · rcases c with e | e
        · rw [← d, e]; exact nx
        · rw [← d, e]; exact ny
      · exact (hi2.2.2 d).1
  · rw [fn i hi c, fn (f i) (by omega) (by rw [hi2.2.1]; exact c)]
    exact hi2
theorem mb_end (hw : jmWF P n st sm gr co en la) {i q : Nat} (hq : q < P) (hi : (la q &&& st).testBit i = true) : i < n ∧ st.testBit i = true ∧ (sm i = q ∧ gr i = jmEnd sm gr i q ∨ sm i = jmEnd sm gr i q ∧ gr i = q) ∧ jmEnd sm gr i q < P := by
  obtain ⟨h1, h2, h3⟩ := (md_and hw hq).mp hi
  have h4 := hw.2.2.2.1 i h1
  refine ⟨h1, h3, ?_, ?_⟩
  · unfold jmEnd
    by_cases c : sm i = q
    · rw [if_pos c]; exact Or.inl ⟨c, rfl⟩
    · rw [if_neg c]; exact Or.inr ⟨rfl, h2.resolve_left c⟩
  · unfold jmEnd
    split <;> omega
/-- two lines of a point, hanging together without it: no bridges -/
theorem mb_circle (hw : jmWF P n st sm gr co en la) {q i o : Nat} (hq : q < P) (hi : (la q &&& st).testBit i = true) (ho : (la q &&& st).testBit o = true) (hne : i ≠ o) (hr : mc_C sm gr (jxAN (2 ^ P - 1) (2 ^ q)) st n (jmEnd sm gr i q) (jmEnd sm gr o q)) : mb_nb en P n st (jmCPc en (2 ^ P - 1) st n P) i := by
  obtain ⟨i1, i2, i3, i4⟩ := mb_end hw hq hi
  obtain ⟨o1, o2, o3, o4⟩ := mb_end hw hq ho
  refine ⟨i1, i2, ?_⟩
  have hb' : ∀ j, (jxAN st (2 ^ i)).testBit j = true ↔ st.testBit j = true ∧ j ≠ i := by
    intro j
    rw [mc_an, Nat.testBit_two_pow, decide_eq_false_iff_not]
    exact and_congr Iff.rfl ⟨fun z y => z y.symm, fun z y => z y.symm⟩
  have hE := mc_E (fun _ => True) sm gr (2 ^ P - 1) (jxAN st (2 ^ i)) n
  have h1 : mc_C sm gr (2 ^ P - 1) (jxAN st (2 ^ i)) n (jmEnd sm gr i q) (jmEnd sm gr o q) := by
    intro S hS
    refine hr S (fun l hl hb w1 w2 => ?_)
    have h4 := hw.2.2.2.1 l hl
    refine hS l hl ((hb' l).mpr ⟨hb, fun z => ?_⟩) (mc_an.mp w1).1 (mc_an.mp w2).1
    have e1 := (mc_an.mp w1).2
    have e2 := (mc_an.mp w2).2
    rw [Nat.testBit_two_pow, decide_eq_false_iff_not] at e1 e2
    rw [z] at e1 e2
    rcases i3 with ⟨y, -⟩ | ⟨-, y⟩
    · exact e1 y.symm
    · exact e2 y.symm
  have h2 : mc_C sm gr (2 ^ P - 1) (jxAN st (2 ^ i)) n (jmEnd sm gr o q) q := by
    have h4 := hw.2.2.2.1 o o1
    have hl := mc_line o1 ((hb' o).mpr ⟨o2, fun z => hne z.symm⟩) (sm := sm) (gr := gr) (wi := 2 ^ P - 1) (mc_all.mpr (by omega)) (mc_all.mpr (by omega))
    rcases o3 with ⟨y, z⟩ | ⟨y, z⟩
    · rw [y, z] at hl
      exact hE.2.1 _ _ hl
    · rw [y, z] at hl
      exact hl
  have h3 := hE.2.2 _ _ _ h1 h2
  have h5 : mc_C sm gr (2 ^ P - 1) (jxAN st (2 ^ i)) n (sm i) (gr i) := by
    rcases i3 with ⟨y, z⟩ | ⟨y, z⟩
    · rw [y, z]
      exact hE.2.1 _ _ h3
    · rw [y, z]
      exact h3
  have h6 := (mc_add_parts hw i1 i2 hb').1 h5
  omega
theorem mb_JAP (hw : jmWF P n st sm gr co en la) {q i : Nat} {f : Nat → Nat} (hq : q < P) (hi : (la q &&& st).testBit i = true) (h : mb_J en P n st (jmCPc en (2 ^ P - 1) st n P) f) : ∀ k, i + 1 + k ≤ n → mb_J en P n st (jmCPc en (2 ^ P - 1) st n P) (jmJAP en la sm gr P n st f q i k)
  | 0, _ => h
  | k + 1, hk => by
    have ih := mb_JAP hw hq hi h k (by omega)
    have hP := hw.1
    by_cases c : (la q &&& st).testBit (i + 1 + k) = true ∧ (jmReach en (jxAN (2 ^ P - 1) (2 ^ q)) st n (jmEnd sm gr i q)).testBit (jmEnd sm gr (i + 1 + k) q) = true
    · have e : jmJAP en la sm gr P n st f q i (k + 1) = jmJoin (jmJAP en la sm gr P n st f q i k) (jmJAP en la sm gr P n st f q i k i) (jmJAP en la sm gr P n st f q i k (i + 1 + k)) n := if_pos c
      rw [e]
      have hr := (mc_reach hw (by have := (mb_end hw hq hi).2.2.2; omega)).mp c.2
      have hE := mc_E (fun _ => True) sm gr (jxAN (2 ^ P - 1) (2 ^ q)) st n
      exact mb_join ih (mb_circle hw hq hi c.1 (by omega) hr) (mb_circle hw hq c.1 hi (by omega) (hE.2.1 _ _ hr))
    · have e : jmJAP en la sm gr P n st f q i (k + 1) = jmJAP en la sm gr P n st f q i k := if_neg c
      rw [e]
      exact ih
theorem mb_JBi (hw : jmWF P n st sm gr co en la) {q : Nat} {f : Nat → Nat} (hq : q < P) (h : mb_J en P n st (jmCPc en (2 ^ P - 1) st n P) f) : ∀ k, k ≤ n → mb_J en P n st (jmCPc en (2 ^ P - 1) st n P) (jmJBi en la sm gr P n st f q k)
  | 0, _ => h
  | k + 1, hk => by
    have ih := mb_JBi hw hq h k (by omega)
    by_cases c : (la q &&& st).testBit k = true
    · have e : jmJBi en la sm gr P n st f q (k + 1) = jmJAP en la sm gr P n st (jmJBi en la sm gr P n st f q k) q k (n - (k + 1)) := if_pos c
      rw [e]
      exact mb_JAP hw hq c ih _ (by omega)
    · have e : jmJBi en la sm gr P n st f q (k + 1) = jmJBi en la sm gr P n st f q k := if_neg c
      rw [e]
      exact ih
theorem mb_JBo (hw : jmWF P n st sm gr co en la) (f : Nat → Nat) : ∀ k, k ≤ P → mb_J en P n st (jmCPc en (2 ^ P - 1) st n P) (jmJBo en la sm gr P n st f k)
  | 0, _ => by
    intro i hi
    have e : ∀ j, j < n → jmJBo en la sm gr P n st f 0 j = j := fun j hj => if_pos hj
    rw [e i hi, e i hi]
    exact ⟨Nat.le_refl i, rfl, fun z => absurd rfl z⟩
  | k + 1, hk => mb_JBi hw (by omega) (mb_JBo hw f k (by omega)) n (Nat.le_refl n)
/-- the numbers of blocks -/
theorem mb_NB {fi : Nat → Nat} {bl : Nat → Int32} (hn : n ≤ 16) (hfi : ∀ i, i < n → fi i ≤ i ∧ fi (fi i) = fi i ∧ (st.testBit i = true → st.testBit (fi i) = true)) : ∀ k, k ≤ n →
    (∀ j, j < k → st.testBit j = true → ∃ b, b < (jmNB st fi bl k).1 ∧ (jmNB st fi bl k).2 j = nI b) ∧ (∀ j, j < k → st.testBit j = false → (jmNB st fi bl k).2 j = -1) ∧ ∀ j j', j < k → j' < k → st.testBit j = true → st.testBit j' = true → (jmNB st fi bl k).2 j = (jmNB st fi bl k).2 j' → fi j = fi j'
  | 0, _ => ⟨fun j hj => absurd hj (Nat.not_lt_zero j), fun j hj => absurd hj (Nat.not_lt_zero j), fun j _ hj => absurd hj (Nat.not_lt_zero j)⟩
  | k + 1, hk => by
    obtain ⟨h1, h2, h3⟩ := mb_NB hn hfi k (by omega) (bl := bl)
    have hle := jmNB_le (st := st) (fi := fi) (bl := bl) k
    have hk2 := hfi k (by omega)
    cases c : st.testBit k with
    | false =>
      have e : jmNB st fi bl (k + 1) = ((jmNB st fi bl k).1, jxUp (jmNB st fi bl k).2 k (-1)) := if_pos c
      rw [e]
      refine ⟨fun j hj hs => ?_, fun j hj hs => ?_, fun j j' hj hj' hs hs' => ?_⟩
      · have hjk : j ≠ k := fun z => by rw [z, c] at hs; cases hs
        show ∃ b, b < (jmNB st fi bl k).1 ∧ jxUp (jmNB st fi bl k).2 k (-1) j = nI b
        rw [jxUp_n _ _ hjk]
        exact h1 j (by omega) hs
      · show jxUp (jmNB st fi bl k).2 k (-1) j = -1
        by_cases q : j = k
        · rw [q, jxUp_s]
        · rw [jxUp_n _ _ q]
          exact h2 j (by omega) hs
      · have hjk : j ≠ k := fun z => by rw [z, c] at hs; cases hs
        have hjk' : j' ≠ k := fun z => by rw [z, c] at hs'; cases hs'
        show jxUp (jmNB st fi bl k).2 k (-1) j = jxUp (jmNB st fi bl k).2 k (-1) j' → _
        rw [jxUp_n _ _ hjk, jxUp_n _ _ hjk']
        exact h3 j j' (by omega) (by omega) hs hs'
    | true =>
      have nc : ¬ st.testBit k = false := by rw [c]; exact Bool.noConfusion
      by_cases d : fi k = k
      · have e : jmNB st fi bl (k + 1) = ((jmNB st fi bl k).1 + 1, jxUp (jmNB st fi bl k).2 k (nI (jmNB st fi bl k).1)) := (if_neg nc).trans (if_pos d)
        rw [e]
        have ne : ∀ j, j < k → st.testBit j = true → (jmNB st fi bl k).2 j ≠ nI (jmNB st fi bl k).1 := by
          intro j hj hs z
          obtain ⟨b, b1, b2⟩ := h1 j hj hs
          have := jx_e (by omega) (by omega) (b2.symm.trans z)
          omega
        refine ⟨fun j hj hs => ?_, fun j hj hs => ?_, fun j j' hj hj' hs hs' => ?_⟩
        · show ∃ b, b < (jmNB st fi bl k).1 + 1 ∧ jxUp (jmNB st fi bl k).2 k (nI (jmNB st fi bl k).1) j = nI b
          by_cases q : j = k
          · rw [q, jxUp_s]
            exact ⟨_, Nat.lt_succ_self _, rfl⟩
          · rw [jxUp_n _ _ q]
            obtain ⟨b, b1, b2⟩ := h1 j (by omega) hs
            exact ⟨b, by omega, b2⟩
        · have hjk : j ≠ k := fun z => by rw [z, c] at hs; cases hs
          show jxUp (jmNB st fi bl k).2 k (nI (jmNB st fi bl k).1) j = -1
          rw [jxUp_n _ _ hjk]
          exact h2 j (by omega) hs
        · show jxUp (jmNB st fi bl k).2 k (nI (jmNB st fi bl k).1) j = jxUp (jmNB st fi bl k).2 k (nI (jmNB st fi bl k).1) j' → _
          by_cases q : j = k
          · by_cases q' : j' = k
            · intro _; rw [q, q']
            · rw [q, jxUp_s, jxUp_n _ _ q']
              exact fun z => absurd z.symm (ne j' (by omega) hs')
          · by_cases q' : j' = k
            · rw [q', jxUp_s, jxUp_n _ _ q]
              exact fun z => absurd z (ne j (by omega) hs)
            · rw [jxUp_n _ _ q, jxUp_n _ _ q']
              exact h3 j j' (by omega) (by omega) hs hs'
      · have e : jmNB st fi bl (k + 1) = ((jmNB st fi bl k).1, jxUp (jmNB st fi bl k).2 k ((jmNB st fi bl k).2 (fi k))) := (if_neg nc).trans (if_neg d)
        rw [e]
        have hfk : fi k < k := by omega
        have hsf := hk2.2.2 c
        refine ⟨fun j hj hs => ?_, fun j hj hs => ?_, fun j j' hj hj' hs hs' => ?_⟩
        · show ∃ b, b < (jmNB st fi bl k).1 ∧ jxUp (jmNB st fi bl k).2 k ((jmNB st fi bl k).2 (fi k)) j = nI b
          by_cases q : j = k
          · rw [q, jxUp_s]
            exact h1 (fi k) hfk hsf
          · rw [jxUp_n _ _ q]
            exact h1 j (by omega) hs
        · have hjk : j ≠ k := fun z => by rw [z, c] at hs; cases hs
          show jxUp (jmNB st fi bl k).2 k ((jmNB st fi bl k).2 (fi k)) j = -1
          rw [jxUp_n _ _ hjk]
          exact h2 j (by omega) hs
        · show jxUp (jmNB st fi bl k).2 k ((jmNB st fi bl k).2 (fi k)) j = jxUp (jmNB st fi bl k).2 k ((jmNB st fi bl k).2 (fi k)) j' → _
          by_cases q : j = k
          · by_cases q' : j' = k
            · intro _; rw [q, q']
            · rw [q, jxUp_s, jxUp_n _ _ q']
              intro z
              have := h3 (fi k) j' hfk (by omega) hsf hs' z
              rw [← this, hk2.2.1]
          · by_cases q' : j' = k
            · rw [q', jxUp_s, jxUp_n _ _ q]
              intro z
              have := h3 j (fi k) (by omega) hfk hs hsf z
              rw [this, hk2.2.1]
            · rw [jxUp_n _ _ q, jxUp_n _ _ q']
              exact h3 j j' (by omega) (by omega) hs hs'
theorem mb_Br {fp i : Nat} : ∀ k, (jmBr en P n st fp k).testBit i = true → i < k ∧ st.testBit i = true ∧ fp < jmCPc en (2 ^ P - 1) (jxAN st (2 ^ i)) n P
  | 0, h => by
    have h : (0 : Nat).testBit i = true := h
    rw [Nat.zero_testBit] at h
    cases h
  | k + 1, h => by
    by_cases c : st.testBit k = true ∧ fp < jmCPc en (2 ^ P - 1) (jxAN st (2 ^ k)) n P
    · have e : jmBr en P n st fp (k + 1) = jmBr en P n st fp k ||| 2 ^ k := if_pos c
      rw [e, Nat.testBit_or, Bool.or_eq_true, Nat.testBit_two_pow, decide_eq_true_eq] at h
      rcases h with h | h
      · have := mb_Br k h
        exact ⟨by omega, this.2⟩
      · rw [← h]
        exact ⟨by omega, c⟩
    · have e : jmBr en P n st fp (k + 1) = jmBr en P n st fp k := if_neg c
      rw [e] at h
      have := mb_Br k h
      exact ⟨by omega, this.2⟩
theorem mb_fp (en : Nat → Nat) (P n st : Nat) : jmNPc en P n st P = jmCPc en (2 ^ P - 1) st n P := (mc_NP P (Nat.le_refl P)).2
/-- what isSound asks of a line -/
theorem mb_Bok (hw : jmWF P n st sm gr co en la) (fi : Nat → Nat) (bl : Nat → Int32) : ∀ i, i < n → jmBok n st (jmBr en P n st (jmNPc en P n st P) n) ((jmNB st (jmJBo en la sm gr P n st fi P) bl n).1) ((jmNB st (jmJBo en la sm gr P n st fi P) bl n).2) i := by
  have hJ := mb_JBo hw fi P (Nat.le_refl P)
  have hN := mb_NB (st := st) (bl := bl) hw.2.1 (fi := jmJBo en la sm gr P n st fi P) (fun i hi => ⟨(hJ i hi).1, (hJ i hi).2.1, fun hs => by
    by_cases c : jmJBo en la sm gr P n st fi P i = i
    · rw [c]; exact hs
    · exact ((hJ i hi).2.2 c).2.2.1⟩) n (Nat.le_refl n)
  obtain ⟨h1, h2, h3⟩ := hN
  intro i hi
  refine ⟨fun hs => h1 i hi hs, fun hs => h2 i hi hs, fun hb => ?_⟩
  obtain ⟨-, b2, b3⟩ := mb_Br n hb
  rw [mb_fp] at b3
  rw [mp_all]
  intro j _ hj
  by_cases e : j = i
  · simp [e]
  · have hne : ¬ (jmNB st (jmJBo en la sm gr P n st fi P) bl n).2 j = (jmNB st (jmJBo en la sm gr P n st fi P) bl n).2 i := by
      intro z
      cases hs : st.testBit j with
      | false =>
        rw [h2 j (by omega) hs] at z
        obtain ⟨b, c1, c2⟩ := h1 i hi b2
        have hle := jmNB_le (st := st) (fi := jmJBo en la sm gr P n st fi P) (bl := bl) n
        have hn := hw.2.1
        exact mf_nI (m := b) (by omega) (c2.symm.trans z.symm)
      | true =>
        have hf := h3 j i (by omega) hi hs b2 z
        have fi1 : jmJBo en la sm gr P n st fi P i = i := Classical.byContradiction (fun q => ((hJ i hi).2.2 q).1.2.2 b3)
        rw [fi1] at hf
        have hj2 := (hJ j (by omega)).2.2 (by rw [hf]; exact fun q => e q.symm)
        rw [hf] at hj2
        exact hj2.2.2.2 b3
    simp [e, hne]
end MB
