/-! own rows: determinants by rows, and steps that stay in whole numbers -/
def mt_S (f : Nat → Int) : Nat → Int
  | 0 => 0
  | k + 1 => mt_S f k + f k
theorem mt_S_congr {f g : Nat → Int} : ∀ {N : Nat}, (∀ k, k < N → f k = g k) → mt_S f N = mt_S g N
  | 0, _ => rfl
  | N + 1, h => by
    show mt_S f N + f N = mt_S g N + g N
    rw [mt_S_congr (fun k hk => h k (Nat.lt_succ_of_lt hk)), h N (Nat.lt_succ_self N)]
theorem mt_S_zero {f : Nat → Int} : ∀ {N : Nat}, (∀ k, k < N → f k = 0) → mt_S f N = 0
  | 0, _ => rfl
  | N + 1, h => by
    show mt_S f N + f N = 0
    rw [mt_S_zero (fun k hk => h k (Nat.lt_succ_of_lt hk)), h N (Nat.lt_succ_self N)]
    rfl
theorem mt_lin1 (x y a b c d : Int) : x * a + y * b + (x * c + y * d) = x * (a + c) + y * (b + d) := by grind
theorem mt_S_lin (x y : Int) (p q : Nat → Int) : ∀ N, mt_S (fun i => x * p i + y * q i) N = x * mt_S p N + y * mt_S q N
  | 0 => by
    show (0 : Int) = x * 0 + y * 0
    rw [Int.mul_zero, Int.mul_zero]
    rfl
  | N + 1 => by
    show mt_S (fun i => x * p i + y * q i) N + (x * p N + y * q N) = x * (mt_S p N + p N) + y * (mt_S q N + q N)
    rw [mt_S_lin x y p q N]
    exact mt_lin1 _ _ _ _ _ _
theorem mt_S_two {f : Nat → Int} {r : Nat} (h0 : f r + f (r + 1) = 0) (hz : ∀ i, i ≠ r → i ≠ r + 1 → f i = 0) : ∀ N, r + 1 < N → mt_S f N = 0
  | 0, h => absurd h (Nat.not_lt_zero _)
  | N + 1, h => by
    show mt_S f N + f N = 0
    by_cases e : N = r + 1
    · rw [e]
      show mt_S f r + f r + f (r + 1) = 0
      rw [mt_S_zero (fun k hk => hz k (by omega) (by omega))]
      omega
    · rw [mt_S_two h0 hz N (by omega), hz N (by omega) e]
      rfl
def mt_sg (i : Nat) : Int := if i % 2 = 0 then 1 else -1
def mt_sk (i a : Nat) : Nat := if a < i then a else a + 1
def mt_D : Nat → (Nat → Nat → Int) → Int
  | 0, _ => 1
  | n + 1, f => mt_S (fun i => mt_sg i * f i 0 * mt_D n (fun a b => f (mt_sk i a) (b + 1))) (n + 1)
theorem mt_sk_lt {i a n : Nat} (hi : i < n + 1) (ha : a < n) : mt_sk i a < n + 1 := by
  unfold mt_sk
  split <;> omega
theorem mt_D_congr : ∀ {n : Nat} {f g : Nat → Nat → Int}, (∀ a b, a < n → b < n → f a b = g a b) → mt_D n f = mt_D n g
  | 0, _, _, _ => rfl
  | n + 1, f, g, h => by
    show mt_S _ (n + 1) = mt_S _ (n + 1)
    refine mt_S_congr (fun i hi => ?_)
    rw [h i 0 hi (by omega), mt_D_congr (fun a b ha hb => h _ _ (mt_sk_lt hi ha) (by omega))]
def mt_set (f : Nat → Nat → Int) (r : Nat) (u : Nat → Int) : Nat → Nat → Int := fun a b => if a = r then u b else f a b
theorem mt_set_s {f : Nat → Nat → Int} {r : Nat} {u : Nat → Int} {b : Nat} : mt_set f r u r b = u b := if_pos rfl
theorem mt_set_n {f : Nat → Nat → Int} {r a : Nat} {u : Nat → Int} {b : Nat} (h : a ≠ r) : mt_set f r u a b = f a b := if_neg h
theorem mt_sk_ne (i a : Nat) : mt_sk i a ≠ i := by
  unfold mt_sk
  split <;> omega
theorem mt_min_s (f : Nat → Nat → Int) (r : Nat) (u : Nat → Int) : (fun a b => mt_set f r u (mt_sk r a) (b + 1)) = fun a b => f (mt_sk r a) (b + 1) := by
  funext a b
  exact mt_set_n (mt_sk_ne r a)
def mt_pl (i r : Nat) : Nat := if r < i then r else r - 1
theorem mt_sk_eq {i r a : Nat} (h : i ≠ r) : mt_sk i a = r ↔ a = mt_pl i r := by
  unfold mt_sk mt_pl
  split <;> split <;> omega
theorem mt_sk_pl {i r : Nat} (h : i ≠ r) : mt_sk i (mt_pl i r) = r := (mt_sk_eq h).mpr rfl
theorem mt_min_n (f : Nat → Nat → Int) {i r : Nat} (u : Nat → Int) (h : i ≠ r) : (fun a b => mt_set f r u (mt_sk i a) (b + 1)) = mt_set (fun a b => f (mt_sk i a) (b + 1)) (mt_pl i r) (fun b => u (b + 1)) := by
  funext a b
  by_cases c : mt_sk i a = r
  · rw [c, mt_set_s, (mt_sk_eq h).mp c, mt_set_s]
  · rw [mt_set_n c, mt_set_n (fun z => c ((mt_sk_eq h).mpr z))]
theorem mt_lin2 (s x y a b m : Int) : s * (x * a + y * b) * m = x * (s * a * m) + y * (s * b * m) := by grind
theorem mt_lin3 (s a x y p q : Int) : s * a * (x * p + y * q) = x * (s * a * p) + y * (s * a * q) := by grind
/-- a determinant is a sum in each row -/
theorem mt_D_lin : ∀ {n : Nat} (f : Nat → Nat → Int) {r : Nat} (u v : Nat → Int) (x y : Int), r < n → mt_D n (mt_set f r (fun b => x * u b + y * v b)) = x * mt_D n (mt_set f r u) + y * mt_D n (mt_set f r v)
  | 0, _, _, _, _, _, _, h => absurd h (Nat.not_lt_zero _)
  | n + 1, f, r, u, v, x, y, h => by
    show mt_S _ (n + 1) = x * mt_S _ (n + 1) + y * mt_S _ (n + 1)
    rw [← mt_S_lin]
    refine mt_S_congr (fun i hi => ?_)
    by_cases c : i = r
    · subst c
      rw [mt_min_s, mt_min_s, mt_min_s, mt_set_s, mt_set_s, mt_set_s]
      exact mt_lin2 _ _ _ _ _ _
    · rw [mt_min_n f _ c, mt_min_n f _ c, mt_min_n f _ c, mt_set_n c, mt_set_n c, mt_set_n c]
      rw [mt_D_lin (fun a b => f (mt_sk i a) (b + 1)) (fun b => u (b + 1)) (fun b => v (b + 1)) x y (by unfold mt_pl; split <;> omega)]
      exact mt_lin3 _ _ _ _ _ _
theorem mt_sg_s (r : Nat) : mt_sg (r + 1) = - mt_sg r := by
  unfold mt_sg
  by_cases c : r % 2 = 0
  · rw [if_pos c, if_neg (by omega)]
  · rw [if_neg c, if_pos (by omega)]
    rfl
theorem mt_alt1 (s a m : Int) : s * a * m + -s * a * m = 0 := by grind
/-- two rows that are the same, side by side -/
theorem mt_D_adj : ∀ {n : Nat} {f : Nat → Nat → Int} {r : Nat}, r + 1 < n → (∀ b, f r b = f (r + 1) b) → mt_D n f = 0
  | 0, _, _, h, _ => absurd h (Nat.not_lt_zero _)
  | n + 1, f, r, h, he => by
    show mt_S (fun i => mt_sg i * f i 0 * mt_D n (fun a b => f (mt_sk i a) (b + 1))) (n + 1) = 0
    have hz : ∀ i, i ≠ r → i ≠ r + 1 → i < n + 1 → mt_D n (fun a b => f (mt_sk i a) (b + 1)) = 0 := by
      intro i h1 h2 h3
      by_cases c : i < r
      · refine mt_D_adj (r := r - 1) (by omega) (fun b => ?_)
        show f (mt_sk i (r - 1)) (b + 1) = f (mt_sk i (r - 1 + 1)) (b + 1)
        rw [show mt_sk i (r - 1) = r by unfold mt_sk; rw [if_neg (by omega)]; omega, show mt_sk i (r - 1 + 1) = r + 1 by unfold mt_sk; rw [if_neg (by omega)]; omega]
        exact he _
      · refine mt_D_adj (r := r) (by omega) (fun b => ?_)
        show f (mt_sk i r) (b + 1) = f (mt_sk i (r + 1)) (b + 1)
        rw [show mt_sk i r = r by unfold mt_sk; rw [if_pos (by omega)], show mt_sk i (r + 1) = r + 1 by unfold mt_sk; rw [if_pos (by omega)]]
        exact he _
    have e1 : mt_S (fun i => mt_sg i * f i 0 * mt_D n (fun a b => f (mt_sk i a) (b + 1))) (n + 1) = mt_S (fun i => if i = r ∨ i = r + 1 then mt_sg i * f i 0 * mt_D n (fun a b => f (mt_sk i a) (b + 1)) else 0) (n + 1) := by
      refine mt_S_congr (fun i hi => ?_)
      by_cases c : i = r ∨ i = r + 1
      · rw [if_pos c]
      · rw [if_neg c, hz i (fun z => c (Or.inl z)) (fun z => c (Or.inr z)) hi, Int.mul_zero]
    rw [e1]
    refine mt_S_two (r := r) ?_ (fun i h1 h2 => if_neg (fun z => z.elim h1 h2)) (n + 1) (by omega)
    rw [if_pos (Or.inl rfl), if_pos (Or.inr rfl), mt_sg_s, ← he 0]
    have e2 : (fun a b => f (mt_sk (r + 1) a) (b + 1)) = fun a b => f (mt_sk r a) (b + 1) := by
      funext a b
      by_cases c : a < r
      · rw [show mt_sk (r + 1) a = a by unfold mt_sk; rw [if_pos (by omega)], show mt_sk r a = a by unfold mt_sk; rw [if_pos c]]
      · by_cases d : a = r
        · rw [show mt_sk (r + 1) a = r by unfold mt_sk; rw [if_pos (by omega)]; exact d, show mt_sk r a = r + 1 by unfold mt_sk; rw [if_neg c]; omega]
          exact he _
        · rw [show mt_sk (r + 1) a = a + 1 by unfold mt_sk; rw [if_neg (by omega)], show mt_sk r a = a + 1 by unfold mt_sk; rw [if_neg c]]
    rw [e2]
    exact mt_alt1 _ _ _
theorem mt_set_self (f : Nat → Nat → Int) (r : Nat) : mt_set f r (f r) = f := by
  funext a b
  by_cases c : a = r
  · rw [c, mt_set_s]
  · rw [mt_set_n c]
theorem mt_set_comm (f : Nat → Nat → Int) {r q : Nat} (u v : Nat → Int) (h : r ≠ q) : mt_set (mt_set f r u) q v = mt_set (mt_set f q v) r u := by
  funext a b
  by_cases c : a = q
  · rw [c, mt_set_s, mt_set_n (fun z => h z.symm), mt_set_s]
  · rw [mt_set_n c]
    by_cases d : a = r
    · rw [d, mt_set_s, mt_set_s]
    · rw [mt_set_n d, mt_set_n d, mt_set_n c]
theorem mt_set_set (f : Nat → Nat → Int) (r : Nat) (u v : Nat → Int) : mt_set (mt_set f r u) r v = mt_set f r v := by
  funext a b
  by_cases c : a = r
  · rw [c, mt_set_s, mt_set_s]
  · rw [mt_set_n c, mt_set_n c, mt_set_n c]
theorem mt_one (u v : Nat → Int) : (fun b => u b + v b) = fun b => 1 * u b + 1 * v b := by
  funext b
  rw [Int.one_mul, Int.one_mul]
/-- two rows side by side change places -/
theorem mt_D_swap {n : Nat} (f : Nat → Nat → Int) {r : Nat} (u v : Nat → Int) (h : r + 1 < n) : mt_D n (mt_set (mt_set f r u) (r + 1) v) = - mt_D n (mt_set (mt_set f r v) (r + 1) u) := by
  have z : ∀ w, mt_D n (mt_set (mt_set f r w) (r + 1) w) = 0 := fun w => mt_D_adj h (fun b => by rw [mt_set_n (by omega), mt_set_s, mt_set_s])
  have h1 := z (fun b => u b + v b)
  have add2 : ∀ (g : Nat → Nat → Int) (q : Nat), q < n → mt_D n (mt_set g q (fun b => u b + v b)) = mt_D n (mt_set g q u) + mt_D n (mt_set g q v) := by
    intro g q hq
    rw [mt_one, mt_D_lin g u v 1 1 hq, Int.one_mul, Int.one_mul]
  have c1 : ∀ x y, mt_set (mt_set f r x) (r + 1) y = mt_set (mt_set f (r + 1) y) r x := fun x y => mt_set_comm f x y (by omega)
  rw [add2 _ (r + 1) h, c1 _ u, c1 _ v, add2 _ r (by omega), add2 _ r (by omega), ← c1, ← c1, ← c1, ← c1, z u, z v] at h1
  omega
/-- two rows that are the same -/
theorem mt_D_two {n : Nat} : ∀ (d : Nat) (f : Nat → Nat → Int) {a : Nat}, a + 1 + d < n → (∀ b, f a b = f (a + 1 + d) b) → mt_D n f = 0
  | 0, f, a, h, he => mt_D_adj h he
  | d + 1, f, a, h, he => by
    have h1 := mt_D_swap f (r := a + 1 + d) (f (a + 1 + d + 1)) (f (a + 1 + d)) h
    have h2 := mt_D_two (n := n) d (mt_set (mt_set f (a + 1 + d) (f (a + 1 + d + 1))) (a + 1 + d + 1) (f (a + 1 + d))) (a := a) (by omega) (fun b => by
      rw [mt_set_n (by omega), mt_set_n (by omega), mt_set_n (by omega), mt_set_s]
      exact he b)
    have e : mt_set (mt_set f (a + 1 + d) (f (a + 1 + d))) (a + 1 + d + 1) (f (a + 1 + d + 1)) = f := by
      rw [mt_set_self, mt_set_self]
    rw [e] at h1
    omega
theorem mt_D_eq {n : Nat} {f : Nat → Nat → Int} {a b : Nat} (hb : b < n) (hab : a < b) (he : ∀ c, f a c = f b c) : mt_D n f = 0 := by
  obtain ⟨d, rfl⟩ := Nat.exists_eq_add_of_le (show a + 1 ≤ b from hab)
  exact mt_D_two d f hb he
/-- other rows, put to a row, change nothing -/
theorem mt_D_comb {n : Nat} (f : Nat → Nat → Int) {r : Nat} (hr : r < n) (x : Int) (u : Nat → Int) (e : Nat → Int) (g : Nat → Nat → Int) : ∀ k, k ≤ r → (∀ m b, m < k → g m b = f m b) → mt_D n (mt_set f r (fun b => x * u b + mt_S (fun m => e m * g m b) k)) = x * mt_D n (mt_set f r u)
  | 0, _, _ => by
    have h := mt_D_lin f u u x 0 hr
    rw [Int.zero_mul, Int.add_zero] at h
    rw [← h]
    refine mt_D_congr (fun a b _ _ => ?_)
    by_cases c : a = r
    · rw [c, mt_set_s, mt_set_s, Int.zero_mul]
      rfl
    · rw [mt_set_n c, mt_set_n c]
  | k + 1, hk, hg => by
    have ih := mt_D_comb f hr x u e g k (by omega) (fun m b hm => hg m b (by omega))
    have h := mt_D_lin f (fun b => x * u b + mt_S (fun m => e m * g m b) k) (f k) 1 (e k) hr
    rw [ih, mt_D_eq (f := mt_set f r (f k)) (a := k) (b := r) hr (by omega) (fun c => by rw [mt_set_n (by omega), mt_set_s]), Int.mul_zero, Int.add_zero, Int.one_mul] at h
    rw [← h]
    refine mt_D_congr (fun a b _ _ => ?_)
    by_cases c : a = r
    · rw [c, mt_set_s, mt_set_s, Int.one_mul]
      show x * u b + (mt_S (fun m => e m * g m b) k + e k * g k b) = _
      rw [hg k b (by omega), Int.add_assoc]
    · rw [mt_set_n c, mt_set_n c]
theorem mt_blk0 (a b c d : Int) : 1 * a * (0 + 1 * d * 1) + -1 * c * (0 + 1 * b * 1) = 1 * (a * d - b * c) := by grind
theorem mt_blk1 (s a d q : Int) : s * a * (d * q) = q * (s * a * d) + 0 * 0 := by grind
/-- the two last rows vanish in the first columns -/
theorem mt_D_blk : ∀ (k : Nat) (f : Nat → Nat → Int), (∀ b, b < k → f k b = 0 ∧ f (k + 1) b = 0) → mt_D (k + 2) f = mt_D k f * (f k k * f (k + 1) (k + 1) - f k (k + 1) * f (k + 1) k)
  | 0, f, _ => by
    show 0 + mt_sg 0 * f 0 0 * (0 + mt_sg 0 * f (mt_sk 0 0) (0 + 1) * 1) + mt_sg 1 * f 1 0 * (0 + mt_sg 0 * f (mt_sk 1 0) (0 + 1) * 1) = 1 * (f 0 0 * f 1 1 - f 0 1 * f 1 0)
    rw [show mt_sg 0 = 1 from rfl, show mt_sg 1 = -1 from rfl, show mt_sk 0 0 = 1 from rfl, show mt_sk 1 0 = 0 from rfl, Int.zero_add]
    exact mt_blk0 _ _ _ _
  | k + 1, f, h => by
    show mt_S (fun i => mt_sg i * f i 0 * mt_D (k + 2) (fun a b => f (mt_sk i a) (b + 1))) (k + 1) + mt_sg (k + 1) * f (k + 1) 0 * mt_D (k + 2) (fun a b => f (mt_sk (k + 1) a) (b + 1)) + mt_sg (k + 2) * f (k + 2) 0 * mt_D (k + 2) (fun a b => f (mt_sk (k + 2) a) (b + 1)) = mt_S (fun i => mt_sg i * f i 0 * mt_D k (fun a b => f (mt_sk i a) (b + 1))) (k + 1) * (f (k + 1) (k + 1) * f (k + 2) (k + 2) - f (k + 1) (k + 2) * f (k + 2) (k + 1))
    rw [(h 0 (by omega)).1, (h 0 (by omega)).2, Int.mul_zero, Int.zero_mul, Int.mul_zero, Int.zero_mul, Int.add_zero, Int.add_zero]
    have e : mt_S (fun i => mt_sg i * f i 0 * mt_D (k + 2) (fun a b => f (mt_sk i a) (b + 1))) (k + 1) = mt_S (fun i => (f (k + 1) (k + 1) * f (k + 2) (k + 2) - f (k + 1) (k + 2) * f (k + 2) (k + 1)) * (mt_sg i * f i 0 * mt_D k (fun a b => f (mt_sk i a) (b + 1))) + 0 * 0) (k + 1) := by
      refine mt_S_congr (fun i hi => ?_)
      have e1 : mt_sk i k = k + 1 := by unfold mt_sk; rw [if_neg (by omega)]
      have e2 : mt_sk i (k + 1) = k + 2 := by unfold mt_sk; rw [if_neg (by omega)]
      have ih := mt_D_blk k (fun a b => f (mt_sk i a) (b + 1)) (fun b hb => by
        show f (mt_sk i k) (b + 1) = 0 ∧ f (mt_sk i (k + 1)) (b + 1) = 0
        rw [e1, e2]
        exact h (b + 1) (by omega))
      rw [ih, e1, e2]
      exact mt_blk1 _ _ _ _
    rw [e, mt_S_lin _ 0 _ (fun _ => 0), Int.zero_mul, Int.add_zero, Int.mul_comm]
/-- the minors: the first k rows and columns, and the row i, the column j -/
def mt_T (A : Nat → Nat → Int) (k i j : Nat) : Int := mt_D (k + 1) (fun a c => A (if a < k then a else i) (if c < k then c else j))
theorem mt_T_0 (A : Nat → Nat → Int) (i j : Nat) : mt_T A 0 i j = A i j := by
  show 0 + mt_sg 0 * A i j * 1 = A i j
  rw [show mt_sg 0 = 1 from rfl, Int.one_mul, Int.mul_one, Int.zero_add]
theorem mt_T_k (A : Nat → Nat → Int) (k : Nat) : mt_T A k k k = mt_D (k + 1) A := mt_D_congr (fun a b ha hb => by
  have e1 : (if a < k then a else k) = a := by split <;> omega
  have e2 : (if b < k then b else k) = b := by split <;> omega
  rw [e1, e2])
def mt_I1 (A : Nat → Nat → Int) (k : Nat) : Prop := ∀ i j, k ≤ i → j < k → mt_T A k i j = 0
def mt_I3 (A : Nat → Nat → Int) (k : Nat) : Prop := ∀ i, k ≤ i → ∃ (N : Int) (e : Nat → Int), N ≠ 0 ∧ ∀ j, N * mt_T A k i j = N * mt_D k A * A i j + mt_S (fun m => e m * A m j) k
theorem mt_alg1 (N M d x t : Int) (hN : N ≠ 0) (hM : M ≠ 0) (hd : d ≠ 0) (h : N * (M * (d * t)) = N * d * (M * d * x)) : d * x = t := by
  have h2 : N * (M * (d * t)) = N * (M * (d * (d * x))) := by rw [h]; grind
  exact (Int.eq_of_mul_eq_mul_left hd (Int.eq_of_mul_eq_mul_left hM (Int.eq_of_mul_eq_mul_left hN h2))).symm
/-- Bareiss: the next minors -/
theorem mt_main {A : Nat → Nat → Int} {k : Nat} (hd : mt_D k A ≠ 0) (h1 : mt_I1 A k) (h3 : mt_I3 A k) {i : Nat} (hi : k < i) (j : Nat) : mt_D k A * mt_T A (k + 1) i j = mt_T A k k k * mt_T A k i j - mt_T A k k j * mt_T A k i k := by
  obtain ⟨N, e, hN, eN⟩ := h3 k (Nat.le_refl k)
  obtain ⟨M, e', hM, eM⟩ := h3 i (by omega)
  refine mt_alg1 N M (mt_D k A) _ _ hN hM hd ?_
  -- the columns
  have hs : ∀ c, c < k + 2 → ∃ z, z = (if c < k + 1 then c else j) := fun c _ => ⟨_, rfl⟩
  let si : Nat → Nat := fun c => if c < k + 1 then c else j
  let f : Nat → Nat → Int := fun a c => A a (si c)
  have hb := mt_D_blk k (mt_set (mt_set f k (fun c => mt_T A k k (si c))) (k + 1) (fun c => mt_T A k i (si c))) (fun b hb => by
    have es : si b = b := if_pos (by omega)
    rw [mt_set_n (by omega), mt_set_s, mt_set_s, es]
    exact ⟨h1 k b (Nat.le_refl k) hb, h1 i b (by omega) hb⟩)
  have sk : si k = k := if_pos (by omega)
  have sk1 : si (k + 1) = j := if_neg (by omega)
  rw [mt_set_n (by omega), mt_set_s, mt_set_s, mt_set_n (by omega), mt_set_s, mt_set_s, sk, sk1] at hb
  have hdk : mt_D k (mt_set (mt_set f k (fun c => mt_T A k k (si c))) (k + 1) (fun c => mt_T A k i (si c))) = mt_D k A := mt_D_congr (fun a b ha hb => by
    rw [mt_set_n (by omega), mt_set_n (by omega)]
    show A a (si b) = A a b
    rw [show si b = b from if_pos (by omega)])
  rw [hdk] at hb
  -- scale the row k
  have s1 : ∀ g : Nat → Nat → Int, (∀ m b, m < k → A m (si b) = g m b) → mt_D (k + 2) (mt_set g k (fun c => N * mt_T A k k (si c))) = N * mt_D k A * mt_D (k + 2) (mt_set g k (fun c => A k (si c))) := by
    intro g hg
    rw [← mt_D_comb g (r := k) (by omega) (N * mt_D k A) (fun c => A k (si c)) e (fun m b => A m (si b)) k (Nat.le_refl k) (fun m b hm => hg m b hm)]
    refine mt_D_congr (fun a b _ _ => ?_)
    by_cases c : a = k
    · rw [c, mt_set_s, mt_set_s]
      exact eN (si b)
    · rw [mt_set_n c, mt_set_n c]
  have s2 : ∀ g : Nat → Nat → Int, (∀ m b, m < k → A m (si b) = g m b) → mt_D (k + 2) (mt_set g (k + 1) (fun c => M * mt_T A k i (si c))) = M * mt_D k A * mt_D (k + 2) (mt_set g (k + 1) (fun c => A i (si c))) := by
    intro g hg
    rw [← mt_D_comb g (r := k + 1) (by omega) (M * mt_D k A) (fun c => A i (si c)) e' (fun m b => A m (si b)) k (by omega) (fun m b hm => hg m b hm)]
    refine mt_D_congr (fun a b _ _ => ?_)
    by_cases c : a = k + 1
    · rw [c, mt_set_s, mt_set_s]
      exact eM (si b)
    · rw [mt_set_n c, mt_set_n c]
  have sc : ∀ (g : Nat → Nat → Int) (r : Nat) (x : Int) (u : Nat → Int), r < k + 2 → mt_D (k + 2) (mt_set g r (fun c => x * u c)) = x * mt_D (k + 2) (mt_set g r u) := by
    intro g r x u hr
    have h := mt_D_lin g u u x 0 hr
    rw [Int.zero_mul, Int.add_zero] at h
    rw [← h]
    refine mt_D_congr (fun a b _ _ => ?_)
    by_cases c : a = r
    · rw [c, mt_set_s, mt_set_s, Int.zero_mul, Int.add_zero]
    · rw [mt_set_n c, mt_set_n c]
  have hX : mt_D (k + 2) (mt_set (mt_set f k (fun c => A k (si c))) (k + 1) (fun c => A i (si c))) = mt_T A (k + 1) i j := mt_D_congr (fun a b ha hb => by
    by_cases c : a = k + 1
    · rw [c, mt_set_s, if_neg (by omega)]
    · rw [mt_set_n c, if_pos (by omega)]
      by_cases d : a = k
      · rw [d, mt_set_s]
      · rw [mt_set_n d])
  have hgf : ∀ (u : Nat → Int) m b, m < k → A m (si b) = mt_set f k u m b := fun u m b hm => (mt_set_n (f := f) (r := k) (u := u) (a := m) (b := b) (by omega)).symm
  have t1 : mt_D (k + 2) (mt_set (mt_set f k (fun c => N * mt_T A k k (si c))) (k + 1) (fun c => M * mt_T A k i (si c))) = N * (M * (mt_D k A * (mt_T A k k k * mt_T A k i j - mt_T A k k j * mt_T A k i k))) := by
    rw [sc _ (k + 1) M _ (by omega), mt_set_comm f _ _ (by omega), sc _ k N _ (by omega), ← mt_set_comm f _ _ (by omega), hb]
    grind
  have t2 : mt_D (k + 2) (mt_set (mt_set f k (fun c => N * mt_T A k k (si c))) (k + 1) (fun c => M * mt_T A k i (si c))) = N * mt_D k A * (M * mt_D k A * mt_T A (k + 1) i j) := by
    rw [s2 _ (hgf _), mt_set_comm f _ _ (by omega), s1 _ (fun m b hm => (mt_set_n (f := f) (r := k + 1) (u := fun c => A i (si c)) (a := m) (b := b) (by omega)).symm), ← mt_set_comm f _ _ (by omega), hX]
    grind
  rw [← t1, t2]
theorem mt_I1_0 (A : Nat → Nat → Int) : mt_I1 A 0 := fun i j _ hj => absurd hj (Nat.not_lt_zero j)
theorem mt_I3_0 (A : Nat → Nat → Int) : mt_I3 A 0 := fun i _ => ⟨1, fun _ => 0, by decide, fun j => by
  rw [mt_T_0]
  show 1 * A i j = 1 * 1 * A i j + 0
  rw [Int.one_mul, Int.add_zero, Int.one_mul, Int.one_mul]⟩
theorem mt_I1_s {A : Nat → Nat → Int} {k : Nat} (hd : mt_D k A ≠ 0) (h1 : mt_I1 A k) (h3 : mt_I3 A k) : mt_I1 A (k + 1) := by
  intro i j hi hj
  have h := mt_main hd h1 h3 (show k < i by omega) j
  have z : mt_T A k k k * mt_T A k i j - mt_T A k k j * mt_T A k i k = 0 := by
    by_cases c : j = k
    · rw [c]
      omega
    · rw [h1 i j (by omega) (by omega), h1 k j (Nat.le_refl k) (by omega), Int.mul_zero, Int.zero_mul]
      rfl
  rw [z] at h
  exact (Int.mul_eq_zero.mp h).resolve_left hd
theorem mt_alg2 (N M d tk ti x p q a b s1 s2 : Int) (h : d * x = tk * p - q * ti) (hN : N * q = N * d * b + s1) (hM : M * p = M * d * a + s2) : N * M * d * x = N * M * d * tk * a + (tk * N * s2 + (- (ti * M)) * s1 + (-(ti * N * M * d)) * b) := by
  have e : N * M * d * x = tk * N * (M * p) - ti * M * (N * q) := by
    have : N * M * (d * x) = N * M * (tk * p - q * ti) := by rw [h]
    grind
  rw [e, hN, hM]
  grind
theorem mt_I3_s {A : Nat → Nat → Int} {k : Nat} (hd : mt_D k A ≠ 0) (h1 : mt_I1 A k) (h3 : mt_I3 A k) : mt_I3 A (k + 1) := by
  intro i hi
  obtain ⟨N, e, hN, eN⟩ := h3 k (Nat.le_refl k)
  obtain ⟨M, e', hM, eM⟩ := h3 i (by omega)
  refine ⟨N * M * mt_D k A, fun m => if m = k then -(mt_T A k i k * N * M * mt_D k A) else mt_T A k k k * N * e' m + (-(mt_T A k i k * M)) * e m, ?_, fun j => ?_⟩
  · intro z
    rcases Int.mul_eq_zero.mp z with z | z
    · rcases Int.mul_eq_zero.mp z with z | z
      · exact hN z
      · exact hM z
    · exact hd z
  · have h := mt_alg2 N M (mt_D k A) (mt_T A k k k) (mt_T A k i k) (mt_T A (k + 1) i j) (mt_T A k i j) (mt_T A k k j) (A i j) (A k j) _ _ (mt_main hd h1 h3 (by omega) j) (eN j) (eM j)
    rw [h, mt_T_k]
    show _ = _ + (mt_S _ k + _)
    dsimp only
    rw [if_pos rfl]
    have es : mt_S (fun m => (if m = k then -(mt_T A k i k * N * M * mt_D k A) else mt_D (k + 1) A * N * e' m + (-(mt_T A k i k * M)) * e m) * A m j) k = mt_D (k + 1) A * N * mt_S (fun m => e' m * A m j) k + (-(mt_T A k i k * M)) * mt_S (fun m => e m * A m j) k := by
      rw [← mt_S_lin]
      refine mt_S_congr (fun m hm => ?_)
      rw [if_neg (by omega)]
      grind
    rw [es]
