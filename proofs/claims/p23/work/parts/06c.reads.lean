/-! own rows: what the other reading methods answer -/
/-- all of k from s on -/
def jmAll (f : Nat → Bool) : Nat → Nat → Bool
  | 0, _ => true
  | k + 1, s => if f s = true then jmAll f k (s + 1) else false
/-- the first of k from s on; 0, if none -/
def jmFind (f : Nat → Bool) : Nat → Nat → Nat
  | 0, _ => 0
  | k + 1, s => if f s = true then s else jmFind f k (s + 1)
theorem jmFind_lt {f : Nat → Bool} {N : Nat} : ∀ {k s : Nat}, s + k ≤ N → 0 < N → jmFind f k s < N
  | 0, _, _, h => h
  | k + 1, s, h, h0 => by
    unfold jmFind
    split
    · omega
    · exact jmFind_lt (by omega) h0
/-- the numbers of blocks at a point whose lines that stand are t, of k lines -/
def jmBlk (bl : Nat → Int32) (t : Nat) : Nat → Nat
  | 0 => 0
  | k + 1 => if t.testBit k = true then jmBlk bl t k ||| 2 ^ (bl k).toNatClampNeg else jmBlk bl t k
theorem jx_pow16 {k : Nat} (h : k < 16) : 2 ^ k < 65536 := by
  have := Nat.pow_lt_pow_right (a := 2) (by decide) h
  omega
theorem jx_clampI {x : Int32} {N : Nat} (h : ∃ b, b < N ∧ x = nI b) (hN : N ≤ 2 ^ 31) : x.toNatClampNeg < N ∧ x = nI x.toNatClampNeg := by
  obtain ⟨b, hb, rfl⟩ := h
  rw [nI_clamp (by omega)]
  exact ⟨hb, rfl⟩
theorem jmBlk_lt {bl : Nat → Int32} {t : Nat} : ∀ {k : Nat}, (∀ j, j < k → t.testBit j = true → ∃ b, b < 16 ∧ bl j = nI b) → jmBlk bl t k < 65536
  | 0, _ => Nat.le_of_ble_eq_true rfl
  | k + 1, h => by
    have ih := jmBlk_lt (k := k) (fun j hj => h j (Nat.lt_succ_of_lt hj))
    unfold jmBlk
    split
    · next hb => exact Nat.or_lt_two_pow (n := 16) ih (jx_pow16 (jx_clampI (h k (Nat.lt_succ_self k) hb) (by decide)).1)
    · exact ih
def jmIsPair (en : Nat → Nat) (P n st fc : Nat) (pa ps : Nat → Nat) (a o : Nat) : Bool := decide (pa a = pa o ∧ fc &&& (2 ^ a ||| 2 ^ o) = 0 ∧ 1 < jmCPc en (jxAN (ps a) (2 ^ a ||| 2 ^ o)) st n P)
def jmAreTwins (en : Nat → Nat) (P n st fb fp : Nat) (a o : Nat) : Bool := decide (jxAN st fb &&& (2 ^ a ||| 2 ^ o) = 2 ^ a ||| 2 ^ o ∧ fp < jmCPc en (2 ^ P - 1) (jxAN st (2 ^ a ||| 2 ^ o)) n P)
/-- the place behind -/
def jmBehind (l k : Nat) : Nat := if k + 1 < l then k + 1 else 0
/-- the walk behind w, at the point q, of k steps, from a place -/
def jmWB (sm : Nat → Nat) (st : Nat) (od : Nat → Nat) (l q w : Nat) : Nat → Nat → Nat
  | 0, _ => w
  | k + 1, p => if st.testBit (od (jmBehind l p)) = true then 2 * od (jmBehind l p) + (if sm (od (jmBehind l p)) = q then 0 else 1) else jmWB sm st od l q w k (jmBehind l p)
def jmWalkAt (sm gr : Nat → Nat) (w : Nat) : Nat := if w % 2 = 0 then gr (w / 2) else sm (w / 2)
def jmWalk (sm gr : Nat → Nat) (st : Nat) (le : Nat → Nat) (od : Nat → Nat → Nat) (w : Nat) : Nat :=
  jmWB sm st (od (jmWalkAt sm gr w)) (le (jmWalkAt sm gr w)) (jmWalkAt sm gr w) w (le (jmWalkAt sm gr w)) (jmFind (fun k => od (jmWalkAt sm gr w) k == w / 2) (le (jmWalkAt sm gr w)) 0)
/-- points without lines that stand, of k -/
def jmIso (la : Nat → Nat) (st : Nat) : Nat → Nat
  | 0 => 0
  | k + 1 => if la k &&& st = 0 then jmIso la st k + 1 else jmIso la st k
theorem jmIso_le (la : Nat → Nat) (st : Nat) : ∀ k, jmIso la st k ≤ k
  | 0 => Nat.le_refl 0
  | k + 1 => by
    have := jmIso_le la st k
    unfold jmIso
    split <;> omega
/-- whether one can't come from a to o without the points S -/
def jmApart (en : Nat → Nat) (P n st a o S : Nat) : Bool := !(jmReach en (jxAN (2 ^ P - 1) S) st n a).testBit o
/-- the best set of k -/
def jmGapF (en : Nat → Nat) (P n st a o : Nat) : Nat → Nat
  | 0 => jxAN (2 ^ P - 1) (2 ^ a ||| 2 ^ o)
  | k + 1 => if k &&& (2 ^ a ||| 2 ^ o) = 0 ∧ jmPop k < jmPop (jmGapF en P n st a o k) ∧ jmApart en P n st a o k = true then k else jmGapF en P n st a o k
theorem jmGapF_lt {en : Nat → Nat} {P n st a o : Nat} : ∀ {k : Nat}, k ≤ 2 ^ P → jmGapF en P n st a o k < 2 ^ P
  | 0, _ => by
    have := Nat.one_le_two_pow (n := P)
    exact jxAN_lt (by omega)
  | k + 1, h => by
    have ih := jmGapF_lt (P := P) (en := en) (n := n) (st := st) (a := a) (o := o) (k := k) (by omega)
    unfold jmGapF
    split
    · omega
    · exact ih
def jmGap (en la : Nat → Nat) (P n st a o : Nat) : Int32 := if (jmLinked en la st n a).testBit o = true then -1 else nI (jmGapF en P n st a o (2 ^ P))
def jmOutN (la : Nat → Nat) (P st S : Nat) : Nat := jmPop (jmOut la st S P)
def jmSideF (la : Nat → Nat) (P st a o : Nat) : Nat → Nat
  | 0 => 2 ^ a
  | k + 1 => if k.testBit a = true ∧ k.testBit o = false ∧ (jmOutN la P st k < jmOutN la P st (jmSideF la P st a o k) ∨ jmOutN la P st k = jmOutN la P st (jmSideF la P st a o k) ∧ jmPop k < jmPop (jmSideF la P st a o k)) then k else jmSideF la P st a o k
theorem jmSideF_lt {la : Nat → Nat} {P st a o : Nat} (ha : a < P) : ∀ {k : Nat}, k ≤ 2 ^ P → jmSideF la P st a o k < 2 ^ P
  | 0, _ => Nat.pow_lt_pow_right (by decide) ha
  | k + 1, h => by
    have ih := jmSideF_lt (P := P) (la := la) (st := st) (o := o) ha (k := k) (by omega)
    unfold jmSideF
    split
    · omega
    · exact ih
def jmSide (la : Nat → Nat) (P st a o : Nat) : Nat := jmSideF la P st a o (2 ^ P)
theorem jx_pow256 {P : Nat} (h : P ≤ 8) : 2 ^ P ≤ 256 := Nat.pow_le_pow_right (n := 2) (by decide) h
def jmHandles (la : Nat → Nat) (P st fp wk : Nat) : Int32 := (nI (2 * fp) - nI P + nI (jmPop st) - nI (wk + jmIso la st P)) / nI 2
/-- the cells of the other parts -/
abbrev jF (cI : ClassId) (g : Nat → Nat) (fp fb fc fk fq ft : Nat) (pa ps fi : Nat → Nat) (bl : Nat → Int32) (sp gp sw gw : Nat → Nat) : va_W := [(g 10, .inr (1, [.ref (g 0), .int (nI fp), .int (nI fb), .int (nI fc), .int (nI fk), .int (nI fq), .int (nI ft), .ref (g 11), .ref (g 12), .ref (g 13), .ref (g 14), .ref (g 15), .ref (g 16), .ref (g 17), .ref (g 18)])), (g 11, .inl (cI, 8, .inl (fun j => nI (pa j)))), (g 12, .inl (cI, 8, .inl (fun j => nI (ps j)))), (g 13, .inl (cI, 16, .inl (fun j => nI (fi j)))), (g 14, .inl (cI, 16, .inl bl)), (g 15, .inl (cI, 28, .inl (fun j => nI (sp j)))), (g 16, .inl (cI, 28, .inl (fun j => nI (gp j)))), (g 17, .inl (cI, 120, .inl (fun j => nI (sw j)))), (g 18, .inl (cI, 120, .inl (fun j => nI (gw j))))]
abbrev jY (cI cO : ClassId) (g ro : Nat → Nat) (ca : Nat → Int32) (qu : Nat → Nat) : va_W := [(g 20, .inr (4, [.ref (g 0), .ref (g 21), .ref (g 22), .ref (g 23)])), (g 21, .inl (cO, 16, .inr (.inr (.inr (.inr (fun i => if i < 16 then some (ro i) else none)))))), (g 22, .inl (cI, 16, .inl ca)), (g 23, .inl (cI, 16, .inl (fun j => nI (qu j))))]
abbrev jT (cI cM : ClassId) (g rt : Nat → Nat) (cs : Nat) (ct : Int32) (jo : Nat → Nat) : va_W := [(g 30, .inr (2, [.ref (g 0), .ref (g 31), .int (nI cs), .int ct, .ref (g 32)])), (g 31, .inl (cM, 8, .inr (.inr (.inr (.inr (fun i => if i < 8 then some (rt i) else none)))))), (g 32, .inl (cI, 8, .inl (fun j => nI (jo j))))]
abbrev jP (cI : ClassId) (g : Nat → Nat) (pk : Nat) (cl : Nat → Nat) : va_W := [(g 40, .inr (3, [.ref (g 0), .int (nI pk), .ref (g 41)])), (g 41, .inl (cI, 8, .inl (fun j => nI (cl j))))]
abbrev jD (cI cO : ClassId) (g rd le : Nat → Nat) (wk : Nat) (fa : Nat → Int32) : va_W := [(g 50, .inr (0, [.ref (g 0), .ref (g 51), .ref (g 52), .int (nI wk), .ref (g 53)])), (g 51, .inl (cO, 8, .inr (.inr (.inr (.inr (fun i => if i < 8 then some (rd i) else none)))))), (g 52, .inl (cI, 8, .inl (fun j => nI (le j)))), (g 53, .inl (cI, 32, .inl fa))]
abbrev jC (g : Nat → Nat) (rf : Int32) : va_W := [(g 60, .inr (6, [.ref (g 0), .ref (g 10), .ref (g 20), .ref (g 30), .ref (g 40), .ref (g 50), .int rf]))]
/-- the orders are well: lines that there are, at most 16 at a point -/
def jmDW (P n : Nat) (le : Nat → Nat) (od : Nat → Nat → Nat) : Prop := (∀ q, q < P → le q ≤ 16) ∧ ∀ q, q < P → ∀ k, k < le q → od q k < n
theorem jmBehind_lt {l k : Nat} (h : 0 < l) : jmBehind l k < l := by
  unfold jmBehind
  split <;> omega
theorem jmWalkAt_lt {P n st : Nat} {sm gr co en la : Nat → Nat} {w q : Nat} (hw : jmWF P n st sm gr co en la) (h : w < 2 * n) (hq : q = jmWalkAt sm gr w) : q < P := by
  have h1 := hw.2.2.2.1 (w / 2) (by omega)
  rw [hq]
  unfold jmWalkAt
  split <;> omega
