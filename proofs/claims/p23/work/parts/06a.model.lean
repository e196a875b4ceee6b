/-! own rows: what the class's methods answer, over small numbers; sets are bits of a number -/
theorem jxAN_and (a b : Nat) : jxAN a b = a &&& jxAN a b := by
  apply Nat.eq_of_testBit_eq
  intro i
  rw [Nat.testBit_and, jxAN_bit]
  cases a.testBit i <;> rfl
theorem jxAN_lt {a b N : Nat} (h : a < N) : jxAN a b < N := by
  rw [jxAN_and]
  exact Nat.lt_of_le_of_lt Nat.and_le_left h
theorem jx_pow31 {k : Nat} (h : k < 31) : 2 ^ k < 2 ^ 31 := Nat.pow_lt_pow_right (by decide) h
theorem jx_pow8 {k : Nat} (h : k < 8) : 2 ^ k < 256 := by
  have := Nat.pow_lt_pow_right (a := 2) (by decide) h
  omega
theorem jx_inc (n : Nat) : nI n + Int32.ofInt 1 = nI (n + 1) := (nI_succ n).symm
theorem jx_max {a b : Nat} (ha : a < 2 ^ 31) (hb : b < 2 ^ 31) : (if nI a < nI b then nI b else nI a) = nI (max a b) := by
  by_cases h : a < b
  · rw [if_pos ((nI_ltI ha hb).mpr h), Nat.max_eq_right (Nat.le_of_lt h)]
  · rw [if_neg (fun q => h ((nI_ltI ha hb).mp q)), Nat.max_eq_left (Nat.not_lt.mp h)]
theorem jx_min {a b : Nat} (ha : a < 2 ^ 31) (hb : b < 2 ^ 31) : (if nI b < nI a then nI b else nI a) = nI (min a b) := by
  by_cases h : b < a
  · rw [if_pos ((nI_ltI hb ha).mpr h), Nat.min_eq_right (Nat.le_of_lt h)]
  · rw [if_neg (fun q => h ((nI_ltI hb ha).mp q)), Nat.min_eq_left (Nat.not_lt.mp h)]
/-- n times f -/
def jmIt (f : Nat → Nat) : Nat → Nat → Nat
  | 0, x => x
  | k + 1, x => f (jmIt f k x)
theorem jmIt_stay {f : Nat → Nat} {r x : Nat} (h : f (jmIt f r x) = jmIt f r x) : ∀ d, jmIt f (r + d) x = jmIt f r x
  | 0 => rfl
  | d + 1 => by
    show f (jmIt f (r + d) x) = _
    rw [jmIt_stay h d, h]
theorem jmIt_stop {f : Nat → Nat} {r x k : Nat} (h : f (jmIt f r x) = jmIt f r x) (hr : r ≤ k) : f (jmIt f r x) = jmIt f k x := by
  obtain ⟨d, rfl⟩ := Nat.exists_eq_add_of_le hr
  rw [jmIt_stay h d, h]
theorem jmIt_lt {f : Nat → Nat} {N x : Nat} (hx : x < N) (hf : ∀ y, y < N → f y < N) : ∀ k, jmIt f k x < N
  | 0 => hx
  | k + 1 => hf _ (jmIt_lt hx hf k)
/-- the web is well: at most 8 points and 16 lines, those that stand are lines, ends and costs are in range, a point's lines are those that have it -/
def jmWF (P n st : Nat) (sm gr co en la : Nat → Nat) : Prop :=
  P ≤ 8 ∧ n ≤ 16 ∧ st < 2 ^ n ∧ (∀ j, j < n → sm j < gr j ∧ gr j < P ∧ en j = 2 ^ sm j ||| 2 ^ gr j ∧ 1 ≤ co j ∧ co j ≤ 20) ∧ (∀ q, q < P → ∀ i, (la q).testBit i = true ↔ i < n ∧ (sm i = q ∨ gr i = q))
section WF
variable {P n st : Nat} {sm gr co en la : Nat → Nat}
theorem jmWF_st (h : jmWF P n st sm gr co en la) : st < 65536 := Nat.lt_of_lt_of_le h.2.2.1 (Nat.pow_le_pow_right (by decide) h.2.1)
theorem jmWF_gr (h : jmWF P n st sm gr co en la) : ∀ j, j < n → sm j < 8 ∧ gr j < 8 := fun j hj => by
  obtain ⟨h1, -, -, h4, -⟩ := h
  have := h4 j hj
  omega
theorem jmWF_co (h : jmWF P n st sm gr co en la) : ∀ j, j < n → co j < 21 := fun j hj => by
  have := (h.2.2.2.1 j hj).2.2.2.2
  omega
theorem jmWF_en (h : jmWF P n st sm gr co en la) : ∀ j, j < n → en j < 256 := fun j hj => by
  have hb := jmWF_gr h j hj
  rw [(h.2.2.2.1 j hj).2.2.1]
  exact Nat.or_lt_two_pow (n := 8) (jx_pow8 hb.1) (jx_pow8 hb.2)
theorem jm_lt_of_bits {x k : Nat} (h : ∀ i, x.testBit i = true → i < k) : x < 2 ^ k := by
  apply Nat.lt_pow_two_of_testBit
  intro i hi
  cases hb : x.testBit i
  · rfl
  · exact absurd (h i hb) (Nat.not_lt.mpr hi)
theorem jmWF_la (h : jmWF P n st sm gr co en la) : ∀ q, q < P → la q < 65536 := fun q hq => by
  refine jm_lt_of_bits (k := 16) (fun i hi => ?_)
  have := ((h.2.2.2.2 q hq i).mp hi).1
  have := h.2.1
  omega
end WF
/-- lines' ends met so far: k lines looked at, from M -/
def jmStep (en : Nat → Nat) (wi b : Nat) : Nat → Nat → Nat
  | 0, M => M
  | k + 1, M => if b.testBit k = true ∧ en k &&& jmStep en wi b k M ≠ 0 ∧ jxAN (en k) wi = 0 then jmStep en wi b k M ||| en k else jmStep en wi b k M
theorem jmStep_lt {en : Nat → Nat} {wi b : Nat} : ∀ {k : Nat} {M : Nat}, M < 256 → (∀ j, j < k → en j < 256) → jmStep en wi b k M < 256
  | 0, _, h, _ => h
  | k + 1, M, h, he => by
    have ih := jmStep_lt (wi := wi) (b := b) h (fun j hj => he j (Nat.lt_succ_of_lt hj))
    unfold jmStep
    split
    · exact Nat.or_lt_two_pow (n := 8) ih (he k (Nat.lt_succ_self k))
    · exact ih
/-- where one comes to from a point a, within wi, by the lines b, of n lines -/
def jmReach (en : Nat → Nat) (wi b n a : Nat) : Nat := jmIt (jmStep en wi b n) 8 (2 ^ a)
theorem jmReach_it_lt {en : Nat → Nat} {wi b n a : Nat} (ha : a < 8) (he : ∀ j, j < n → en j < 256) (k : Nat) : jmIt (jmStep en wi b n) k (2 ^ a) < 256 := jmIt_lt (jx_pow8 ha) (fun _ hy => jmStep_lt hy he) k
theorem jmReach_lt {en : Nat → Nat} {wi b n a : Nat} (ha : a < 8) (he : ∀ j, j < n → en j < 256) : jmReach en wi b n a < 256 := jmReach_it_lt ha he 8
/-- points linked with a point whose lines that stand are t, of k lines -/
def jmLW (en : Nat → Nat) (t : Nat) : Nat → Nat
  | 0 => 0
  | k + 1 => if t.testBit k = true then jmLW en t k ||| en k else jmLW en t k
theorem jmLW_lt {en : Nat → Nat} {t : Nat} : ∀ {k : Nat}, (∀ j, j < k → en j < 256) → jmLW en t k < 256
  | 0, _ => Nat.le_of_ble_eq_true rfl
  | k + 1, he => by
    have ih := jmLW_lt (t := t) (k := k) (fun j hj => he j (Nat.lt_succ_of_lt hj))
    unfold jmLW
    split
    · exact Nat.or_lt_two_pow (n := 8) ih (he k (Nat.lt_succ_self k))
    · exact ih
def jmLinked (en la : Nat → Nat) (st n q : Nat) : Nat := jxAN (jmLW en (la q &&& st) n) (2 ^ q)
theorem jmLinked_lt {en la : Nat → Nat} {st n q : Nat} (he : ∀ j, j < n → en j < 256) : jmLinked en la st n q < 256 := jxAN_lt (jmLW_lt he)
/-- parts of the points wi by the lines b: what is met, and how many, of k points -/
def jmCPm (en : Nat → Nat) (wi b n : Nat) : Nat → Nat
  | 0 => 0
  | k + 1 => if (jxAN wi (jmCPm en wi b n k)).testBit k = true then jmCPm en wi b n k ||| jmReach en wi b n k else jmCPm en wi b n k
def jmCPc (en : Nat → Nat) (wi b n : Nat) : Nat → Nat
  | 0 => 0
  | k + 1 => if (jxAN wi (jmCPm en wi b n k)).testBit k = true then jmCPc en wi b n k + 1 else jmCPc en wi b n k
theorem jmCPm_lt {en : Nat → Nat} {wi b n : Nat} (he : ∀ j, j < n → en j < 256) : ∀ {k : Nat}, k ≤ 8 → jmCPm en wi b n k < 256
  | 0, _ => Nat.le_of_ble_eq_true rfl
  | k + 1, hk => by
    have ih := jmCPm_lt (wi := wi) (b := b) he (k := k) (by omega)
    unfold jmCPm
    split
    · exact Nat.or_lt_two_pow (n := 8) ih (jmReach_lt (by omega) he)
    · exact ih
theorem jmCPc_le {en : Nat → Nat} {wi b n : Nat} : ∀ k, jmCPc en wi b n k ≤ k
  | 0 => Nat.le_refl 0
  | k + 1 => by
    have ih := jmCPc_le (en := en) (wi := wi) (b := b) (n := n) k
    unfold jmCPc
    split <;> omega
/-- all that some of a set are linked with, of k points -/
def jmLA (en la : Nat → Nat) (st n S : Nat) : Nat → Nat
  | 0 => 0
  | k + 1 => if S.testBit k = true then jmLA en la st n S k ||| jmLinked en la st n k else jmLA en la st n S k
theorem jmLA_lt {en la : Nat → Nat} {st n S : Nat} (he : ∀ j, j < n → en j < 256) : ∀ {k : Nat}, jmLA en la st n S k < 256
  | 0 => Nat.le_of_ble_eq_true rfl
  | k + 1 => by
    have ih := jmLA_lt (la := la) (st := st) (S := S) he (k := k)
    unfold jmLA
    split
    · exact Nat.or_lt_two_pow (n := 8) ih (jmLinked_lt he)
    · exact ih
/-- those within s lines of a -/
def jmWithin (en la : Nat → Nat) (P st n a : Nat) (s : Nat) : Nat := jmIt (fun M => M ||| jmLA en la st n M P) s (2 ^ a)
theorem jmWithin_lt {en la : Nat → Nat} {P st n a : Nat} (ha : a < 8) (he : ∀ j, j < n → en j < 256) (s : Nat) : jmWithin en la P st n a s < 256 := jmIt_lt (jx_pow8 ha) (fun _ hy => Nat.or_lt_two_pow (n := 8) hy (jmLA_lt he)) s
/-- the first s from s0 on, of k, at which o is met; -1, if none -/
def jmFirst (f : Nat → Nat) (o : Nat) : Nat → Nat → Int32
  | 0, _ => -1
  | k + 1, s => if (f s).testBit o = true then nI s else jmFirst f o k (s + 1)
def jmDist (en la : Nat → Nat) (P st n a o : Nat) : Int32 := jmFirst (jmWithin en la P st n a) o 8 0
def jmMax32 (x y : Int32) : Int32 := if x < y then y else x
/-- the greatest distance of a to a later one, of k later ones, from x on -/
def jmGDi (en la : Nat → Nat) (P st n a : Nat) (x : Int32) : Nat → Int32
  | 0 => x
  | k + 1 => jmMax32 (jmGDi en la P st n a x k) (jmDist en la P st n a (a + 1 + k))
def jmGD (en la : Nat → Nat) (P st n : Nat) : Nat → Int32
  | 0 => 0
  | k + 1 => jmGDi en la P st n k (jmGD en la P st n k) (P - (k + 1))
/-- the lines that go out of a set, of k points -/
def jmOut (la : Nat → Nat) (st S : Nat) : Nat → Nat
  | 0 => 0
  | k + 1 => if S.testBit k = true then jmOut la st S k ^^^ (la k &&& st) else jmOut la st S k
theorem jmOut_lt {la : Nat → Nat} {st S : Nat} (hs : st < 65536) : ∀ {k : Nat}, jmOut la st S k < 65536
  | 0 => Nat.le_of_ble_eq_true rfl
  | k + 1 => by
    have ih := jmOut_lt (la := la) (S := S) hs (k := k)
    unfold jmOut
    split
    · exact Nat.xor_lt_two_pow (n := 16) ih (Nat.lt_of_le_of_lt Nat.and_le_right hs)
    · exact ih
/-- the web's cells -/
abbrev jW (cI : ClassId) (g : Nat → Nat) (P n st : Nat) (sm gr co en la : Nat → Nat) : va_W := [(g 0, .inr (5, [.int (nI P), .int (nI n), .int (nI st), .ref (g 1), .ref (g 2), .ref (g 3), .ref (g 4), .ref (g 5)])), (g 1, .inl (cI, 16, .inl (fun j => nI (sm j)))), (g 2, .inl (cI, 16, .inl (fun j => nI (gr j)))), (g 3, .inl (cI, 16, .inl (fun j => nI (co j)))), (g 4, .inl (cI, 16, .inl (fun j => nI (en j)))), (g 5, .inl (cI, 8, .inl (fun j => nI (la j))))]
