/-! own rows: what Falls learns, over small numbers -/
/-- f, but v at the points of S below k -/
def jmPut (f : Nat → Nat) (S v k : Nat) : Nat → Nat := fun j => if j < k ∧ S.testBit j = true then v else f j
theorem jmPut_0 (f : Nat → Nat) (S v : Nat) : f = jmPut f S v 0 := by
  funext j
  simp [jmPut]
theorem jmPut_up {f : Nat → Nat} {S v q : Nat} (h : S.testBit q = true) : jxUp (jmPut f S v q) q v = jmPut f S v (q + 1) := by
  funext j
  unfold jxUp jmPut
  by_cases e : j = q
  · subst e
    rw [if_pos rfl, if_pos ⟨Nat.lt_succ_self _, h⟩]
  · rw [if_neg e]
    by_cases hj : j < q
    · simp [hj, Nat.lt_succ_of_lt hj]
    · rw [if_neg (fun z => hj z.1), if_neg (fun z => by have := z.1; omega)]
theorem jmPut_no {f : Nat → Nat} {S v q : Nat} (h : S.testBit q = false) : jmPut f S v q = jmPut f S v (q + 1) := by
  funext j
  unfold jmPut
  by_cases e : j = q
  · subst e
    rw [if_neg (fun z => by have := z.1; omega), if_neg (fun z => by rw [h] at z; cases z.2)]
  · by_cases hj : j < q
    · simp [hj, Nat.lt_succ_of_lt hj]
    · rw [if_neg (fun z => hj z.1), if_neg (fun z => by have := z.1; omega)]
section NP
variable (en : Nat → Nat) (P n st : Nat)
def jmNPm : Nat → Nat
  | 0 => 0
  | k + 1 => if (jmNPm k).testBit k = true then jmNPm k else jmNPm k ||| jmReach en (2 ^ P - 1) st n k
def jmNPc : Nat → Nat
  | 0 => 0
  | k + 1 => if (jmNPm en P n st k).testBit k = true then jmNPc k else jmNPc k + 1
def jmNPa (pa : Nat → Nat) : Nat → Nat → Nat
  | 0 => pa
  | k + 1 => if (jmNPm en P n st k).testBit k = true then jmNPa pa k else jmPut (jmNPa pa k) (jmReach en (2 ^ P - 1) st n k) (jmNPc en P n st k) P
def jmNPs (ps : Nat → Nat) : Nat → Nat → Nat
  | 0 => ps
  | k + 1 => if (jmNPm en P n st k).testBit k = true then jmNPs ps k else jmPut (jmNPs ps k) (jmReach en (2 ^ P - 1) st n k) (jmReach en (2 ^ P - 1) st n k) P
def jmBr (fp : Nat) : Nat → Nat
  | 0 => 0
  | k + 1 => if st.testBit k = true ∧ fp < jmCPc en (2 ^ P - 1) (jxAN st (2 ^ k)) n P then jmBr fp k ||| 2 ^ k else jmBr fp k
def jmCut (ps : Nat → Nat) : Nat → Nat
  | 0 => 0
  | k + 1 => if 1 < jmCPc en (jxAN (ps k) (2 ^ k)) st n P then jmCut ps k ||| 2 ^ k else jmCut ps k
end NP
theorem jmNPm_lt {en : Nat → Nat} {P n st : Nat} (he : ∀ j, j < n → en j < 256) : ∀ {k : Nat}, k ≤ 8 → jmNPm en P n st k < 256
  | 0, _ => Nat.le_of_ble_eq_true rfl
  | k + 1, hk => by
    have ih := jmNPm_lt (P := P) (st := st) he (k := k) (by omega)
    unfold jmNPm
    split
    · exact ih
    · exact Nat.or_lt_two_pow (n := 8) ih (jmReach_lt (by omega) he)
theorem jmNPc_le {en : Nat → Nat} {P n st : Nat} : ∀ k, jmNPc en P n st k ≤ k
  | 0 => Nat.le_refl 0
  | k + 1 => by
    have ih := jmNPc_le (en := en) (P := P) (n := n) (st := st) k
    unfold jmNPc
    split <;> omega
theorem jmPut_lt {f : Nat → Nat} {S v k N : Nat} (hv : v < N) (hf : ∀ j, j < 8 → f j < N) : ∀ j, j < 8 → jmPut f S v k j < N := fun j hj => by
  unfold jmPut
  split
  · exact hv
  · exact hf j hj
theorem jmNPa_lt {en : Nat → Nat} {P n st : Nat} {pa : Nat → Nat} (hf : ∀ j, j < 8 → pa j < 256) : ∀ {k : Nat}, k ≤ 8 → ∀ j, j < 8 → jmNPa en P n st pa k j < 256
  | 0, _ => hf
  | k + 1, hk => by
    have ih := jmNPa_lt (en := en) (P := P) (n := n) (st := st) hf (k := k) (by omega)
    unfold jmNPa
    split
    · exact ih
    · exact jmPut_lt (Nat.lt_of_le_of_lt (jmNPc_le k) (by omega)) ih
theorem jmNPs_lt {en : Nat → Nat} {P n st : Nat} {ps : Nat → Nat} (he : ∀ j, j < n → en j < 256) (hf : ∀ j, j < 8 → ps j < 256) : ∀ {k : Nat}, k ≤ 8 → ∀ j, j < 8 → jmNPs en P n st ps k j < 256
  | 0, _ => hf
  | k + 1, hk => by
    have ih := jmNPs_lt (P := P) (st := st) he hf (k := k) (by omega)
    unfold jmNPs
    split
    · exact ih
    · exact jmPut_lt (jmReach_lt (by omega) he) ih
theorem jmBr_lt {en : Nat → Nat} {P n st fp : Nat} : ∀ {k : Nat}, k ≤ 16 → jmBr en P n st fp k < 65536
  | 0, _ => Nat.le_of_ble_eq_true rfl
  | k + 1, hk => by
    have ih := jmBr_lt (en := en) (P := P) (n := n) (st := st) (fp := fp) (k := k) (by omega)
    unfold jmBr
    split
    · exact Nat.or_lt_two_pow (n := 16) ih (jx_pow16 (by omega))
    · exact ih
theorem jmCut_lt {en : Nat → Nat} {P n st : Nat} {ps : Nat → Nat} : ∀ {k : Nat}, k ≤ 16 → jmCut en P n st ps k < 65536
  | 0, _ => Nat.le_of_ble_eq_true rfl
  | k + 1, hk => by
    have ih := jmCut_lt (en := en) (P := P) (n := n) (st := st) (ps := ps) (k := k) (by omega)
    unfold jmCut
    split
    · exact Nat.or_lt_two_pow (n := 16) ih (jx_pow16 (by omega))
    · exact ih
/-- joining two blocks, of k lines -/
def jmJoin (f : Nat → Nat) (x y k : Nat) : Nat → Nat := fun j => if j < k ∧ (f j = x ∨ f j = y) then min x y else f j
theorem jmJoin_0 (f : Nat → Nat) (x y : Nat) : f = jmJoin f x y 0 := by
  funext j
  simp [jmJoin]
theorem jmJoin_at (f : Nat → Nat) (x y q : Nat) : jmJoin f x y q q = f q := if_neg (fun z => Nat.lt_irrefl _ z.1)
theorem jmJoin_up {f : Nat → Nat} {x y q : Nat} (h : f q = x ∨ f q = y) : jxUp (jmJoin f x y q) q (min x y) = jmJoin f x y (q + 1) := by
  funext j
  unfold jxUp jmJoin
  by_cases e : j = q
  · subst e
    rw [if_pos rfl, if_pos ⟨Nat.lt_succ_self _, h⟩]
  · rw [if_neg e]
    by_cases hj : j < q
    · simp [hj, Nat.lt_succ_of_lt hj]
    · rw [if_neg (fun z => hj z.1), if_neg (fun z => by have := z.1; omega)]
theorem jmJoin_no {f : Nat → Nat} {x y q : Nat} (h1 : f q ≠ x) (h2 : f q ≠ y) : jmJoin f x y q = jmJoin f x y (q + 1) := by
  funext j
  unfold jmJoin
  by_cases e : j = q
  · subst e
    rw [if_neg (fun z => by have := z.1; omega), if_neg (fun z => by rcases z.2 with w | w; exact h1 w; exact h2 w)]
  · by_cases hj : j < q
    · simp [hj, Nat.lt_succ_of_lt hj]
    · rw [if_neg (fun z => hj z.1), if_neg (fun z => by have := z.1; omega)]
theorem jmJoin_lt {f : Nat → Nat} {x y k N : Nat} (hx : x < N) (hf : ∀ j, j < 16 → f j < N) : ∀ j, j < 16 → jmJoin f x y k j < N := fun j hj => by
  unfold jmJoin
  split
  · exact Nat.lt_of_le_of_lt (Nat.min_le_left x y) hx
  · exact hf j hj
section JB
variable (en la sm gr : Nat → Nat) (P n st : Nat)
def jmEnd (i q : Nat) : Nat := if sm i = q then gr i else sm i
/-- the lines behind i at the point q, k of them: joined with i, where they hang together without q -/
def jmJAP (f : Nat → Nat) (q i : Nat) : Nat → Nat → Nat
  | 0 => f
  | k + 1 => if (la q &&& st).testBit (i + 1 + k) = true ∧ (jmReach en (jxAN (2 ^ P - 1) (2 ^ q)) st n (jmEnd sm gr i q)).testBit (jmEnd sm gr (i + 1 + k) q) = true then jmJoin (jmJAP f q i k) (jmJAP f q i k i) (jmJAP f q i k (i + 1 + k)) n else jmJAP f q i k
/-- the lines at q, k of them -/
def jmJBi (f : Nat → Nat) (q : Nat) : Nat → Nat → Nat
  | 0 => f
  | k + 1 => if (la q &&& st).testBit k = true then jmJAP en la sm gr P n st (jmJBi f q k) q k (n - (k + 1)) else jmJBi f q k
def jmIota (f : Nat → Nat) (k : Nat) : Nat → Nat := fun j => if j < k then j else f j
def jmJBo (f : Nat → Nat) : Nat → Nat → Nat
  | 0 => jmIota f n
  | k + 1 => jmJBi en la sm gr P n st (jmJBo f k) k n
end JB
theorem jmIota_0 (f : Nat → Nat) : f = jmIota f 0 := by
  funext j
  simp [jmIota]
theorem jmIota_up (f : Nat → Nat) (q : Nat) : jxUp (jmIota f q) q q = jmIota f (q + 1) := by
  funext j
  unfold jxUp jmIota
  by_cases e : j = q
  · subst e
    simp
  · rw [if_neg e]
    by_cases hj : j < q
    · rw [if_pos hj, if_pos (by omega)]
    · rw [if_neg hj, if_neg (by omega)]
theorem jmJAP_lt {en la sm gr : Nat → Nat} {P n st : Nat} {f : Nat → Nat} {q i : Nat} (hn : n ≤ 16) (hi : i < n) (hf : ∀ j, j < 16 → f j < 16) : ∀ {k : Nat}, i + 1 + k ≤ n → ∀ j, j < 16 → jmJAP en la sm gr P n st f q i k j < 16
  | 0, _ => hf
  | k + 1, hk => by
    have ih := jmJAP_lt (en := en) (la := la) (sm := sm) (gr := gr) (P := P) (st := st) (q := q) hn hi hf (k := k) (by omega)
    unfold jmJAP
    split
    · exact jmJoin_lt (ih i (by omega)) ih
    · exact ih
theorem jmJBi_lt {en la sm gr : Nat → Nat} {P n st : Nat} {f : Nat → Nat} {q : Nat} (hn : n ≤ 16) (hf : ∀ j, j < 16 → f j < 16) : ∀ {k : Nat}, k ≤ n → ∀ j, j < 16 → jmJBi en la sm gr P n st f q k j < 16
  | 0, _ => hf
  | k + 1, hk => by
    have ih := jmJBi_lt (en := en) (la := la) (sm := sm) (gr := gr) (P := P) (st := st) (q := q) hn hf (k := k) (by omega)
    unfold jmJBi
    split
    · exact jmJAP_lt hn (by omega) ih (by omega)
    · exact ih
theorem jmJBo_lt {en la sm gr : Nat → Nat} {P n st : Nat} {f : Nat → Nat} (hn : n ≤ 16) (hf : ∀ j, j < 16 → f j < 16) : ∀ {k : Nat}, ∀ j, j < 16 → jmJBo en la sm gr P n st f k j < 16
  | 0, j, hj => by
    show jmIota f n j < 16
    unfold jmIota
    split
    · exact hj
    · exact hf j hj
  | k + 1, j, hj => jmJBi_lt hn (fun j hj => jmJBo_lt hn hf (k := k) j hj) (Nat.le_refl n) j hj
section NB
variable (st : Nat) (fi : Nat → Nat)
/-- the blocks' numbers: how many, and each line's, of k lines -/
def jmNB (bl : Nat → Int32) : Nat → Nat × (Nat → Int32)
  | 0 => (0, bl)
  | k + 1 => if st.testBit k = false then ((jmNB bl k).1, jxUp (jmNB bl k).2 k (-1)) else if fi k = k then ((jmNB bl k).1 + 1, jxUp (jmNB bl k).2 k (nI (jmNB bl k).1)) else ((jmNB bl k).1, jxUp (jmNB bl k).2 k ((jmNB bl k).2 (fi k)))
end NB
theorem jmNB_le {st : Nat} {fi : Nat → Nat} {bl : Nat → Int32} : ∀ k, (jmNB st fi bl k).1 ≤ k
  | 0 => Nat.le_refl 0
  | k + 1 => by
    have ih := jmNB_le (st := st) (fi := fi) (bl := bl) k
    unfold jmNB
    split
    · show (jmNB st fi bl k).1 ≤ k + 1
      omega
    · split
      · show (jmNB st fi bl k).1 + 1 ≤ k + 1
        omega
      · show (jmNB st fi bl k).1 ≤ k + 1
        omega
/-- a row of pairs that grows, while there is room -/
def jmAdd (N : Nat) (f : Nat → Nat → Bool) (a o : Nat) (t : Nat × (Nat → Nat) × (Nat → Nat)) : Nat × (Nat → Nat) × (Nat → Nat) :=
  if f a o = true ∧ t.1 < N then (t.1 + 1, jxUp t.2.1 t.1 a, jxUp t.2.2 t.1 o) else t
def jmRowI (N : Nat) (f : Nat → Nat → Bool) (a : Nat) (t : Nat × (Nat → Nat) × (Nat → Nat)) : Nat → Nat × (Nat → Nat) × (Nat → Nat)
  | 0 => t
  | k + 1 => jmAdd N f a (a + 1 + k) (jmRowI N f a t k)
def jmRowO (N M : Nat) (f : Nat → Nat → Bool) (t : Nat × (Nat → Nat) × (Nat → Nat)) : Nat → Nat × (Nat → Nat) × (Nat → Nat)
  | 0 => t
  | k + 1 => jmRowI N f k (jmRowO N M f t k) (M - (k + 1))
theorem jmAdd_le {N : Nat} {f : Nat → Nat → Bool} {a o : Nat} {t : Nat × (Nat → Nat) × (Nat → Nat)} (h : t.1 ≤ N) : (jmAdd N f a o t).1 ≤ N := by
  unfold jmAdd
  split
  · next q => exact q.2
  · exact h
theorem jmRowI_le {N : Nat} {f : Nat → Nat → Bool} {a : Nat} {t : Nat × (Nat → Nat) × (Nat → Nat)} (h : t.1 ≤ N) : ∀ k, (jmRowI N f a t k).1 ≤ N
  | 0 => h
  | k + 1 => jmAdd_le (jmRowI_le h k)
theorem jmRowO_le {N M : Nat} {f : Nat → Nat → Bool} {t : Nat × (Nat → Nat) × (Nat → Nat)} (h : t.1 ≤ N) : ∀ k, (jmRowO N M f t k).1 ≤ N
  | 0 => h
  | k + 1 => jmRowI_le (jmRowO_le h k) _
