/-! own rows, of numbers alone: sums, counts, classes, turns of classes -/
noncomputable def ma_pc (p : Prop) : Nat := @ite Nat p (Classical.propDecidable p) 1 0
theorem ma_pc_t {p : Prop} (h : p) : ma_pc p = 1 := @if_pos p (Classical.propDecidable p) h Nat 1 0
theorem ma_pc_f {p : Prop} (h : ¬ p) : ma_pc p = 0 := @if_neg p (Classical.propDecidable p) h Nat 1 0
theorem ma_pc_le (p : Prop) : ma_pc p ≤ 1 := by
  rcases Classical.em p with h | h
  · rw [ma_pc_t h]; exact Nat.le_refl 1
  · rw [ma_pc_f h]; exact Nat.zero_le 1
theorem ma_pc_congr {p q : Prop} (h : p ↔ q) : ma_pc p = ma_pc q := by rw [propext h]
theorem ma_pc_mono {p q : Prop} (h : p → q) : ma_pc p ≤ ma_pc q := by
  rcases Classical.em p with hp | hp
  · rw [ma_pc_t hp, ma_pc_t (h hp)]; exact Nat.le_refl 1
  · rw [ma_pc_f hp]; exact Nat.zero_le _
theorem ma_pc_pos {p : Prop} (h : 0 < ma_pc p) : p := by
  rcases Classical.em p with hp | hp
  · exact hp
  · rw [ma_pc_f hp] at h; exact absurd h (Nat.lt_irrefl 0)
def ma_S (f : Nat → Nat) : Nat → Nat
  | 0 => 0
  | k + 1 => ma_S f k + f k
theorem ma_S_congr {f g : Nat → Nat} : ∀ {N : Nat}, (∀ k, k < N → f k = g k) → ma_S f N = ma_S g N
  | 0, _ => rfl
  | N + 1, h => by
    show ma_S f N + f N = ma_S g N + g N
    rw [ma_S_congr (fun k hk => h k (Nat.lt_succ_of_lt hk)), h N (Nat.lt_succ_self N)]
theorem ma_S_le {f g : Nat → Nat} : ∀ {N : Nat}, (∀ k, k < N → f k ≤ g k) → ma_S f N ≤ ma_S g N
  | 0, _ => Nat.le_refl 0
  | N + 1, h => by
    show ma_S f N + f N ≤ ma_S g N + g N
    have h1 := ma_S_le (f := f) (g := g) (N := N) (fun k hk => h k (Nat.lt_succ_of_lt hk))
    have h2 := h N (Nat.lt_succ_self N)
    omega
theorem ma_S_add (f g : Nat → Nat) : ∀ N, ma_S (fun k => f k + g k) N = ma_S f N + ma_S g N
  | 0 => rfl
  | N + 1 => by
    show ma_S (fun k => f k + g k) N + (f N + g N) = ma_S f N + f N + (ma_S g N + g N)
    rw [ma_S_add f g N]
    omega
theorem ma_S_zero {f : Nat → Nat} : ∀ {N : Nat}, (∀ k, k < N → f k = 0) → ma_S f N = 0
  | 0, _ => rfl
  | N + 1, h => by
    show ma_S f N + f N = 0
    rw [ma_S_zero (fun k hk => h k (Nat.lt_succ_of_lt hk)), h N (Nat.lt_succ_self N)]
theorem ma_S_const (c : Nat) : ∀ N, ma_S (fun _ => c) N = N * c
  | 0 => (Nat.zero_mul c).symm
  | N + 1 => by
    show ma_S (fun _ => c) N + c = (N + 1) * c
    rw [ma_S_const c N, Nat.succ_mul]
theorem ma_S_at {f : Nat → Nat} {i : Nat} : ∀ {N : Nat}, i < N → (∀ j, j < N → j ≠ i → f j = 0) → ma_S f N = f i
  | 0, h, _ => absurd h (Nat.not_lt_zero i)
  | N + 1, h, h0 => by
    show ma_S f N + f N = f i
    by_cases e : i = N
    · subst e
      rw [ma_S_zero (fun k hk => h0 k (Nat.lt_succ_of_lt hk) (Nat.ne_of_lt hk)), Nat.zero_add]
    · rw [ma_S_at (N := N) (by omega) (fun j hj hji => h0 j (Nat.lt_succ_of_lt hj) hji), h0 N (Nat.lt_succ_self N) (fun z => e z.symm), Nat.add_zero]
theorem ma_S_one {p : Nat → Prop} {N i : Nat} (hi : i < N) (hp : p i) (hu : ∀ j, j < N → p j → j = i) : ma_S (fun k => ma_pc (p k)) N = 1 := by
  rw [ma_S_at (f := fun k => ma_pc (p k)) hi (fun j hj hji => ma_pc_f (fun z => hji (hu j hj z)))]
  exact ma_pc_t hp
theorem ma_S_swap (f : Nat → Nat → Nat) (M : Nat) : ∀ N, ma_S (fun i => ma_S (fun j => f i j) M) N = ma_S (fun j => ma_S (fun i => f i j) N) M
  | 0 => (ma_S_zero (N := M) (fun _ _ => rfl)).symm
  | N + 1 => by
    show ma_S (fun i => ma_S (fun j => f i j) M) N + ma_S (fun j => f N j) M = ma_S (fun j => ma_S (fun i => f i j) N + f N j) M
    rw [ma_S_swap f M N, ma_S_add]
theorem ma_S_eqs {f g : Nat → Nat} : ∀ {N : Nat}, (∀ k, k < N → f k ≤ g k) → ma_S g N ≤ ma_S f N → ∀ k, k < N → f k = g k
  | 0, _, _, k, hk => absurd hk (Nat.not_lt_zero k)
  | N + 1, h, e, k, hk => by
    have e : ma_S g N + g N ≤ ma_S f N + f N := e
    have h1 := ma_S_le (f := f) (g := g) (N := N) (fun k hk => h k (Nat.lt_succ_of_lt hk))
    have h2 := h N (Nat.lt_succ_self N)
    by_cases q : k = N
    · subst q
      omega
    · exact ma_S_eqs (N := N) (fun k hk => h k (Nat.lt_succ_of_lt hk)) (by omega) k (by omega)
theorem ma_S_term {f : Nat → Nat} {i : Nat} : ∀ {N : Nat}, i < N → f i ≤ ma_S f N
  | 0, h => absurd h (Nat.not_lt_zero i)
  | N + 1, h => by
    show f i ≤ ma_S f N + f N
    by_cases e : i = N
    · subst e
      omega
    · have := ma_S_term (f := f) (N := N) (i := i) (by omega)
      omega
theorem ma_S_pos {f : Nat → Nat} : ∀ {N : Nat}, 0 < ma_S f N → ∃ i, i < N ∧ 0 < f i
  | 0, h => absurd h (Nat.lt_irrefl 0)
  | N + 1, h => by
    have h : 0 < ma_S f N + f N := h
    by_cases q : 0 < f N
    · exact ⟨N, Nat.lt_succ_self N, q⟩
    · obtain ⟨i, hi, h2⟩ := ma_S_pos (f := f) (N := N) (by omega)
      exact ⟨i, Nat.lt_succ_of_lt hi, h2⟩
/-- two kinds of numbers, paired off -/
theorem ma_bij {A B : Nat → Prop} {R : Nat → Nat → Prop} {M N : Nat} (h1 : ∀ i, i < M → A i → ∃ j, j < N ∧ B j ∧ R i j ∧ ∀ j', j' < N → B j' → R i j' → j' = j) (h2 : ∀ j, j < N → B j → ∃ i, i < M ∧ A i ∧ R i j ∧ ∀ i', i' < M → A i' → R i' j → i' = i) : ma_S (fun i => ma_pc (A i)) M = ma_S (fun j => ma_pc (B j)) N := by
  have e1 : ∀ i, i < M → ma_pc (A i) = ma_S (fun j => ma_pc (A i ∧ B j ∧ R i j)) N := by
    intro i hi
    rcases Classical.em (A i) with hA | hA
    · obtain ⟨j, hj, hB, hR, hu⟩ := h1 i hi hA
      rw [ma_pc_t hA, ma_S_one hj (p := fun j => A i ∧ B j ∧ R i j) ⟨hA, hB, hR⟩ (fun j' hj' z => hu j' hj' z.2.1 z.2.2)]
    · rw [ma_pc_f hA, ma_S_zero (fun j _ => ma_pc_f (fun z => hA z.1))]
  have e2 : ∀ j, j < N → ma_pc (B j) = ma_S (fun i => ma_pc (A i ∧ B j ∧ R i j)) M := by
    intro j hj
    rcases Classical.em (B j) with hB | hB
    · obtain ⟨i, hi, hA, hR, hu⟩ := h2 j hj hB
      rw [ma_pc_t hB, ma_S_one hi (p := fun i => A i ∧ B j ∧ R i j) ⟨hA, hB, hR⟩ (fun i' hi' z => hu i' hi' z.1 z.2.2)]
    · rw [ma_pc_f hB, ma_S_zero (fun i _ => ma_pc_f (fun z => hB z.2.1))]
  rw [ma_S_congr e1, ma_S_congr e2]
  exact ma_S_swap (fun i j => ma_pc (A i ∧ B j ∧ R i j)) N M
theorem ma_least {p : Nat → Prop} : ∀ (n : Nat), p n → ∃ m, p m ∧ m ≤ n ∧ ∀ j, j < m → ¬ p j := by
  intro n
  induction n using Nat.strongRecOn with
  | ind n ih =>
    intro h
    rcases Classical.em (∃ j, j < n ∧ p j) with q | q
    · obtain ⟨j, hj, hp⟩ := q
      obtain ⟨m, h1, h2, h3⟩ := ih j hj hp
      exact ⟨m, h1, by omega, h3⟩
    · exact ⟨n, h, Nat.le_refl n, fun j hj hp => q ⟨j, hj, hp⟩⟩
/-- a kind that a one-to-one f keeps: it is left by nothing, so nothing comes into it -/
theorem ma_inv {X : Nat → Prop} {f : Nat → Nat} {N : Nat} (hX : ∀ x, X x → x < N) (hf : ∀ x, X x → X (f x)) (hinj : ∀ x y, X x → X y → f x = f y → x = y) {S : Nat → Prop} (hS : ∀ x, X x → S x → S (f x)) : ∀ x, X x → S (f x) → S x := by
  have hb : ma_S (fun x => ma_pc (X x ∧ S x)) N = ma_S (fun y => ma_pc (X y ∧ ∃ x, X x ∧ S x ∧ f x = y)) N := by
    refine ma_bij (R := fun x y => f x = y) (fun x _ h => ?_) (fun y _ h => ?_)
    · exact ⟨f x, hX _ (hf x h.1), ⟨hf x h.1, x, h.1, h.2, rfl⟩, rfl, fun y' _ _ e => e.symm⟩
    · obtain ⟨_, x, h1, h2, e⟩ := h
      exact ⟨x, hX x h1, ⟨h1, h2⟩, e, fun x' _ h' e' => hinj x' x h'.1 h1 (e'.trans e.symm)⟩
  have hle : ∀ y, y < N → ma_pc (X y ∧ ∃ x, X x ∧ S x ∧ f x = y) ≤ ma_pc (X y ∧ S y) := fun y _ => ma_pc_mono (fun z => by
    obtain ⟨h1, x, h2, h3, e⟩ := z
    exact ⟨h1, e ▸ hS x h2 h3⟩)
  have heq := ma_S_eqs hle (Nat.le_of_eq hb)
  intro x hx hs
  have h1 := heq (f x) (hX _ (hf x hx))
  have h2 : 0 < ma_pc (X (f x) ∧ ∃ x', X x' ∧ S x' ∧ f x' = f x) := by
    rw [h1, ma_pc_t ⟨hf x hx, hs⟩]
    exact Nat.one_pos
  obtain ⟨_, x', h3, h4, e⟩ := ma_pc_pos h2
  exact hinj x' x h3 hx e ▸ h4
/-! classes, and how many -/
def ma_E (X : Nat → Prop) (R : Nat → Nat → Prop) : Prop := (∀ x, X x → R x x) ∧ (∀ x y, R x y → R y x) ∧ ∀ x y z, R x y → R y z → R x z
def ma_rp (X : Nat → Prop) (R : Nat → Nat → Prop) (k : Nat) : Prop := X k ∧ ∀ j, j < k → X j → ¬ R j k
noncomputable def ma_K (N : Nat) (X : Nat → Prop) (R : Nat → Nat → Prop) : Nat := ma_S (fun k => ma_pc (ma_rp X R k)) N
theorem ma_K_congr {N : Nat} {X X' : Nat → Prop} {R R' : Nat → Nat → Prop} (hX : ∀ x, X x ↔ X' x) (hR : ∀ x y, X x → X y → (R x y ↔ R' x y)) : ma_K N X R = ma_K N X' R' := by
  refine ma_S_congr (fun k _ => ma_pc_congr ?_)
  unfold ma_rp
  constructor
  · rintro ⟨h1, h2⟩
    exact ⟨(hX k).mp h1, fun j hj hx z => h2 j hj ((hX j).mpr hx) ((hR j k ((hX j).mpr hx) h1).mpr z)⟩
  · rintro ⟨h1, h2⟩
    exact ⟨(hX k).mpr h1, fun j hj hx z => h2 j hj ((hX j).mp hx) ((hR j k hx ((hX k).mpr h1)).mp z)⟩
theorem ma_rep {X : Nat → Prop} {R : Nat → Nat → Prop} (hE : ma_E X R) {x : Nat} (hx : X x) : ∃ m, ma_rp X R m ∧ R m x ∧ m ≤ x := by
  obtain ⟨m, ⟨h1, h2⟩, h3, h4⟩ := ma_least (p := fun m => X m ∧ R m x) x ⟨hx, hE.1 x hx⟩
  exact ⟨m, ⟨h1, fun j hj hX hR => h4 j hj ⟨hX, hE.2.2 j m x hR h2⟩⟩, h2, h3⟩
theorem ma_rp_eq {X : Nat → Prop} {R : Nat → Nat → Prop} (hE : ma_E X R) {a b : Nat} (ha : ma_rp X R a) (hb : ma_rp X R b) (h : R a b) : a = b := by
  rcases Nat.lt_trichotomy a b with q | q | q
  · exact absurd h (hb.2 a q ha.1)
  · exact q
  · exact absurd (hE.2.1 a b h) (ha.2 b q hb.1)
theorem ma_K_merge0 {N : Nat} {X : Nat → Prop} {R R' : Nat → Nat → Prop} {a b m1 m2 : Nat} (hE : ma_E X R) (hX : ∀ x, X x → x < N) (h1 : ma_rp X R m1) (h1a : R m1 a) (h2 : ma_rp X R m2) (h2b : R m2 b) (hlt : m1 < m2)
    (hR' : ∀ x y, X x → X y → (R' x y ↔ R x y ∨ (R x a ∧ R b y) ∨ (R x b ∧ R a y))) : ma_K N X R' + 1 = ma_K N X R := by
  have key : ∀ k, k < N → ma_pc (ma_rp X R k) = ma_pc (ma_rp X R' k) + ma_pc (k = m2) := by
    intro k _
    by_cases e : k = m2
    · subst e
      rw [ma_pc_t h2, ma_pc_t rfl, ma_pc_f]
      intro z
      exact z.2 m1 hlt h1.1 ((hR' m1 k h1.1 h2.1).mpr (Or.inr (Or.inl ⟨h1a, hE.2.1 _ _ h2b⟩)))
    · rw [ma_pc_f e, Nat.add_zero]
      refine ma_pc_congr ⟨fun z => ⟨z.1, fun j hj hXj hR => ?_⟩, fun z => ⟨z.1, fun j hj hXj hR => z.2 j hj hXj ((hR' j k hXj z.1).mpr (Or.inl hR))⟩⟩
      rcases (hR' j k hXj z.1).mp hR with q | q | q
      · exact z.2 j hj hXj q
      · exact e (ma_rp_eq hE z h2 (hE.2.2 _ _ _ (hE.2.1 _ _ q.2) (hE.2.1 _ _ h2b)))
      · have ek : k = m1 := ma_rp_eq hE z h1 (hE.2.2 _ _ _ (hE.2.1 _ _ q.2) (hE.2.1 _ _ h1a))
        exact h2.2 j (by omega) hXj (hE.2.2 _ _ _ q.1 (hE.2.1 _ _ h2b))
  have hs : ma_S (fun k => ma_pc (k = m2)) N = 1 := ma_S_one (hX m2 h2.1) rfl (fun _ _ e => e)
  show ma_S (fun k => ma_pc (ma_rp X R' k)) N + 1 = ma_S (fun k => ma_pc (ma_rp X R k)) N
  rw [ma_S_congr key, ma_S_add, hs]
/-- two classes become one -/
theorem ma_K_merge {N : Nat} {X : Nat → Prop} {R R' : Nat → Nat → Prop} {a b : Nat} (hE : ma_E X R) (hX : ∀ x, X x → x < N) (ha : X a) (hb : X b) (hab : ¬ R a b)
    (hR' : ∀ x y, X x → X y → (R' x y ↔ R x y ∨ (R x a ∧ R b y) ∨ (R x b ∧ R a y))) : ma_K N X R' + 1 = ma_K N X R := by
  obtain ⟨m1, h1, h1a, -⟩ := ma_rep hE ha
  obtain ⟨m2, h2, h2b, -⟩ := ma_rep hE hb
  rcases Nat.lt_trichotomy m1 m2 with q | q | q
  · exact ma_K_merge0 hE hX h1 h1a h2 h2b q hR'
  · subst q
    exact absurd (hE.2.2 _ _ _ (hE.2.1 _ _ h1a) h2b) hab
  · refine ma_K_merge0 hE hX h2 h2b h1 h1a q (fun x y hx hy => ?_)
    rw [hR' x y hx hy]
    constructor
    · rintro (z | z | z)
      · exact Or.inl z
      · exact Or.inr (Or.inr z)
      · exact Or.inr (Or.inl z)
    · rintro (z | z | z)
      · exact Or.inl z
      · exact Or.inr (Or.inr z)
      · exact Or.inr (Or.inl z)
/-- one is left out that isn't alone -/
theorem ma_K_drop1 {N e : Nat} {X X' : Nat → Prop} {R : Nat → Nat → Prop} (hE : ma_E X R) (hX : ∀ x, X x → x < N) (hX' : ∀ x, X' x ↔ X x ∧ x ≠ e) (h : ∃ x, X' x ∧ R x e) : ma_K N X' R = ma_K N X R := by
  have hE' : ma_E X' R := ⟨fun x hx => hE.1 x ((hX' x).mp hx).1, hE.2.1, hE.2.2⟩
  refine ma_bij (R := R) (fun i _ hi => ?_) (fun j _ hj => ?_)
  · obtain ⟨m, h1, h2, -⟩ := ma_rep hE ((hX' i).mp hi.1).1
    exact ⟨m, hX m h1.1, h1, hE.2.1 _ _ h2, fun j' _ h' hr => ma_rp_eq hE h' h1 (hE.2.2 _ _ _ (hE.2.1 _ _ hr) (hE.2.1 _ _ h2))⟩
  · have hx : ∃ x, X' x ∧ R x j := by
      by_cases q : j = e
      · subst q
        exact h
      · exact ⟨j, (hX' j).mpr ⟨hj.1, q⟩, hE.1 j hj.1⟩
    obtain ⟨x, hx, hR⟩ := hx
    obtain ⟨m, h1, h2, -⟩ := ma_rep hE' hx
    exact ⟨m, hX m ((hX' m).mp h1.1).1, h1, hE.2.2 _ _ _ h2 hR, fun i' _ h' hr => ma_rp_eq hE' h' h1 (hE.2.2 _ _ _ hr (hE.2.1 _ _ (hE.2.2 _ _ _ h2 hR)))⟩
/-- one is left out that is alone -/
theorem ma_K_drop0 {N e : Nat} {X X' : Nat → Prop} {R : Nat → Nat → Prop} (hE : ma_E X R) (he : X e) (heN : e < N) (hX' : ∀ x, X' x ↔ X x ∧ x ≠ e) (h : ∀ x, X' x → ¬ R x e) : ma_K N X' R + 1 = ma_K N X R := by
  have key : ∀ k, k < N → ma_pc (ma_rp X R k) = ma_pc (ma_rp X' R k) + ma_pc (k = e) := by
    intro k _
    by_cases q : k = e
    · subst q
      rw [ma_pc_t rfl, ma_pc_t ⟨he, fun j hj hx => h j ((hX' j).mpr ⟨hx, Nat.ne_of_lt hj⟩)⟩, ma_pc_f (fun z => ((hX' k).mp z.1).2 rfl)]
    · rw [ma_pc_f q, Nat.add_zero]
      refine ma_pc_congr ⟨fun z => ⟨(hX' k).mpr ⟨z.1, q⟩, fun j hj hx => z.2 j hj ((hX' j).mp hx).1⟩, fun z => ⟨((hX' k).mp z.1).1, fun j hj hx hR => ?_⟩⟩
      by_cases w : j = e
      · subst w
        exact h k z.1 (hE.2.1 _ _ hR)
      · exact z.2 j hj ((hX' j).mpr ⟨hx, w⟩) hR
  have hs : ma_S (fun k => ma_pc (k = e)) N = 1 := ma_S_one heN rfl (fun _ _ q => q)
  show ma_S (fun k => ma_pc (ma_rp X' R k)) N + 1 = ma_S (fun k => ma_pc (ma_rp X R k)) N
  rw [ma_S_congr key, ma_S_add, hs]
/-! orbits of a one-to-one f on X -/
def ma_I (X : Nat → Prop) (f : Nat → Nat) (S : Nat → Prop) : Prop := ∀ z, X z → (S z ↔ S (f z))
def ma_O (X : Nat → Prop) (f : Nat → Nat) (x y : Nat) : Prop := ∀ S : Nat → Prop, ma_I X f S → (S x ↔ S y)
theorem ma_O_E (X : Nat → Prop) (f : Nat → Nat) : ma_E X (ma_O X f) := ⟨fun _ _ _ _ => Iff.rfl, fun _ _ h S hS => (h S hS).symm, fun _ _ _ h1 h2 S hS => (h1 S hS).trans (h2 S hS)⟩
theorem ma_O_st {X : Nat → Prop} {f : Nat → Nat} {x : Nat} (h : X x) : ma_O X f x (f x) := fun _ hS => hS x h
def ma_P (N : Nat) (X : Nat → Prop) (f : Nat → Nat) : Prop := (∀ x, X x → x < N) ∧ (∀ x, X x → X (f x)) ∧ ∀ x y, X x → X y → f x = f y → x = y
theorem ma_P_inv {N : Nat} {X : Nat → Prop} {f : Nat → Nat} (h : ma_P N X f) {S : Nat → Prop} (hS : ∀ x, X x → S x → S (f x)) : ma_I X f S := fun z hz => ⟨hS z hz, ma_inv h.1 h.2.1 h.2.2 hS z hz⟩
def ma_T (f : Nat → Nat) (a b : Nat) : Nat → Nat := fun x => if x = a then f b else if x = b then f a else f x
theorem ma_T_a (f : Nat → Nat) (a b : Nat) : ma_T f a b a = f b := if_pos rfl
theorem ma_T_b (f : Nat → Nat) (a b : Nat) : ma_T f a b b = f a := by
  unfold ma_T
  split
  · next e => rw [e]
  · rw [if_pos rfl]
theorem ma_T_n (f : Nat → Nat) {a b x : Nat} (h1 : x ≠ a) (h2 : x ≠ b) : ma_T f a b x = f x := by
  unfold ma_T
  rw [if_neg h1, if_neg h2]
theorem ma_T_P {N : Nat} {X : Nat → Prop} {f : Nat → Nat} {a b : Nat} (h : ma_P N X f) (ha : X a) (hb : X b) : ma_P N X (ma_T f a b) := by
  have cs : ∀ x, X x → (x = a ∧ ma_T f a b x = f b) ∨ (x = b ∧ ma_T f a b x = f a) ∨ (x ≠ a ∧ x ≠ b ∧ ma_T f a b x = f x) := by
    intro x _
    by_cases q : x = a
    · exact Or.inl ⟨q, by rw [q]; exact ma_T_a f a b⟩
    · by_cases w : x = b
      · exact Or.inr (Or.inl ⟨w, by rw [w]; exact ma_T_b f a b⟩)
      · exact Or.inr (Or.inr ⟨q, w, ma_T_n f q w⟩)
  refine ⟨h.1, fun x hx => ?_, fun x y hx hy e => ?_⟩
  · rcases cs x hx with ⟨_, e⟩ | ⟨_, e⟩ | ⟨_, _, e⟩ <;> rw [e]
    · exact h.2.1 b hb
    · exact h.2.1 a ha
    · exact h.2.1 x hx
  · rcases cs x hx with ⟨q, e1⟩ | ⟨q, e1⟩ | ⟨q, q', e1⟩ <;> rcases cs y hy with ⟨w, e2⟩ | ⟨w, e2⟩ | ⟨w, w', e2⟩ <;> rw [e1, e2] at e
    · rw [q, w]
    · have := h.2.2 b a hb ha e
      rw [q, w, this]
    · exact absurd (h.2.2 b y hb hy e).symm w'
    · have := h.2.2 a b ha hb e
      rw [q, w, this]
    · rw [q, w]
    · exact absurd (h.2.2 a y ha hy e).symm w
    · exact absurd (h.2.2 x b hx hb e) q'
    · exact absurd (h.2.2 x a hx ha e) q
    · exact h.2.2 x y hx hy e
theorem ma_T_T (f : Nat → Nat) (a b : Nat) : ma_T (ma_T f a b) a b = f := by
  funext x
  by_cases q : x = a
  · rw [q, ma_T_a, ma_T_b]
  · by_cases w : x = b
    · rw [w, ma_T_b, ma_T_a]
    · rw [ma_T_n _ q w, ma_T_n _ q w]
/-- two orbits, turned into one another: one -/
theorem ma_O_T1 {N : Nat} {X : Nat → Prop} {f : Nat → Nat} {a b : Nat} (h : ma_P N X f) (ha : X a) (hb : X b) (hab : ¬ ma_O X f a b) : ma_K N X (ma_O X (ma_T f a b)) + 1 = ma_K N X (ma_O X f) := by
  have hE := ma_O_E X f
  have hF := ma_O_E X (ma_T f a b)
  have half : ∀ S : Nat → Prop, ma_I X (ma_T f a b) S → S a → S b := by
    intro S hS hsa
    have hTf : ma_I X f (fun z => ma_O X f b z ∧ S z) := by
      refine ma_P_inv h (fun z hz hs => ⟨hE.2.2 _ _ _ hs.1 (ma_O_st hz), ?_⟩)
      by_cases q : z = b
      · subst q
        have := (hS a ha).mp hsa
        rwa [ma_T_a] at this
      · have hza : z ≠ a := fun e => hab (hE.2.1 _ _ (e ▸ hs.1))
        have := (hS z hz).mp hs.2
        rwa [ma_T_n f hza q] at this
    have h1 : ma_O X f b (f b) ∧ S (f b) := ⟨ma_O_st hb, by
      have := (hS a ha).mp hsa
      rwa [ma_T_a] at this⟩
    exact ((hTf b hb).mpr h1).2
  have hgab : ma_O X (ma_T f a b) a b := fun S hS => ⟨half S hS, fun hsb => Classical.byContradiction (fun hna => half (fun z => ¬ S z) (fun z hz => not_congr (hS z hz)) hna hsb)⟩
  have hsub : ∀ x y, ma_O X f x y → ma_O X (ma_T f a b) x y := by
    intro x y hxy S hS
    refine hxy S (fun z hz => ?_)
    by_cases q : z = a
    · subst q
      rw [hgab S hS, hS b hb, ma_T_b]
    · by_cases w : z = b
      · subst w
        rw [← hgab S hS, hS a ha, ma_T_a]
      · rw [hS z hz, ma_T_n f q w]
  refine ma_K_merge hE h.1 ha hb hab (fun x y hx hy => ⟨fun hg => ?_, fun hm => ?_⟩)
  · have hM : ∀ z w, ma_O X f z w → ((ma_O X f x z ∨ (ma_O X f x a ∧ ma_O X f b z) ∨ (ma_O X f x b ∧ ma_O X f a z)) → (ma_O X f x w ∨ (ma_O X f x a ∧ ma_O X f b w) ∨ (ma_O X f x b ∧ ma_O X f a w))) := by
      intro z w hzw q
      rcases q with q | q | q
      · exact Or.inl (hE.2.2 _ _ _ q hzw)
      · exact Or.inr (Or.inl ⟨q.1, hE.2.2 _ _ _ q.2 hzw⟩)
      · exact Or.inr (Or.inr ⟨q.1, hE.2.2 _ _ _ q.2 hzw⟩)
    have ra := hE.1 a ha
    have rb := hE.1 b hb
    have hMab : (ma_O X f x a ∨ (ma_O X f x a ∧ ma_O X f b a) ∨ (ma_O X f x b ∧ ma_O X f a a)) ↔ (ma_O X f x b ∨ (ma_O X f x a ∧ ma_O X f b b) ∨ (ma_O X f x b ∧ ma_O X f a b)) := by
      constructor
      · rintro (q | q | q)
        · exact Or.inr (Or.inl ⟨q, rb⟩)
        · exact Or.inr (Or.inl ⟨q.1, rb⟩)
        · exact Or.inl q.1
      · rintro (q | q | q)
        · exact Or.inr (Or.inr ⟨q, ra⟩)
        · exact Or.inl q.1
        · exact Or.inr (Or.inr ⟨q.1, ra⟩)
    have hI : ma_I X (ma_T f a b) (fun z => ma_O X f x z ∨ (ma_O X f x a ∧ ma_O X f b z) ∨ (ma_O X f x b ∧ ma_O X f a z)) := by
      intro z hz
      by_cases q : z = a
      · subst q
        rw [ma_T_a]
        exact hMab.trans ⟨hM _ _ (ma_O_st hb), hM _ _ (hE.2.1 _ _ (ma_O_st hb))⟩
      · by_cases w : z = b
        · subst w
          rw [ma_T_b]
          exact hMab.symm.trans ⟨hM _ _ (ma_O_st ha), hM _ _ (hE.2.1 _ _ (ma_O_st ha))⟩
        · rw [ma_T_n f q w]
          exact ⟨hM _ _ (ma_O_st hz), hM _ _ (hE.2.1 _ _ (ma_O_st hz))⟩
    exact (hg _ hI).mp (Or.inl (hE.1 x hx))
  · rcases hm with q | q | q
    · exact hsub _ _ q
    · exact hF.2.2 _ _ _ (hsub _ _ q.1) (hF.2.2 _ _ _ hgab (hsub _ _ q.2))
    · exact hF.2.2 _ _ _ (hsub _ _ q.1) (hF.2.2 _ _ _ (hF.2.1 _ _ hgab) (hsub _ _ q.2))
def ma_it (f : Nat → Nat) (b : Nat) : Nat → Nat
  | 0 => b
  | k + 1 => f (ma_it f b k)
theorem ma_it_X {N : Nat} {X : Nat → Prop} {f : Nat → Nat} {b : Nat} (h : ma_P N X f) (hb : X b) : ∀ k, X (ma_it f b k)
  | 0 => hb
  | k + 1 => h.2.1 _ (ma_it_X h hb k)
theorem ma_it_b {f : Nat → Nat} {b i : Nat} (h : ma_it f b i = b) : ∀ j, ma_it f b (i + j) = ma_it f b j
  | 0 => h
  | j + 1 => congrArg f (ma_it_b h j)
/-- one orbit, turned: two -/
theorem ma_O_T2 {N : Nat} {X : Nat → Prop} {f : Nat → Nat} {a b : Nat} (h : ma_P N X f) (ha : X a) (hb : X b) (hne : a ≠ b) (hab : ma_O X f a b) : ma_K N X (ma_O X f) + 1 = ma_K N X (ma_O X (ma_T f a b)) := by
  have hg := ma_T_P (a := a) (b := b) h ha hb
  have hP : ma_I X f (fun y => ∃ i, 1 ≤ i ∧ y = ma_it f b i) := ma_P_inv h (fun x _ hs => by
    obtain ⟨i, h1, rfl⟩ := hs
    exact ⟨i + 1, by omega, rfl⟩)
  have hPa : ∃ i, 1 ≤ i ∧ a = ma_it f b i := (hab _ hP).mpr ((hP b hb).mpr ⟨1, Nat.le_refl 1, rfl⟩)
  obtain ⟨i0, hi0, e0⟩ := hPa
  obtain ⟨k, ⟨hk1, hk⟩, -, hmin⟩ := ma_least (p := fun i => 1 ≤ i ∧ a = ma_it f b i) i0 ⟨hi0, e0⟩
  have hnb : ∀ i, 1 ≤ i → i < k → ma_it f b i ≠ b := by
    intro i h1 h2 e
    have := ma_it_b e (k - i)
    rw [show i + (k - i) = k by omega] at this
    exact hmin (k - i) (by omega) ⟨by omega, hk.trans this⟩
  have hS : ma_I X (ma_T f a b) (fun y => ∃ i, 1 ≤ i ∧ i ≤ k ∧ y = ma_it f b i) := ma_P_inv hg (fun x _ hs => by
    obtain ⟨i, h1, h2, rfl⟩ := hs
    by_cases q : i = k
    · subst q
      rw [← hk, ma_T_a]
      exact ⟨1, Nat.le_refl 1, h1, rfl⟩
    · rw [ma_T_n f (fun e => hmin i (by omega) ⟨h1, e.symm⟩) (hnb i h1 (by omega))]
      exact ⟨i + 1, by omega, by omega, rfl⟩)
  have hnab : ¬ ma_O X (ma_T f a b) a b := by
    intro z
    obtain ⟨i, h1, h2, e⟩ := (z _ hS).mp ⟨k, hk1, Nat.le_refl k, hk⟩
    by_cases q : i = k
    · subst q
      exact hne (hk.trans e.symm)
    · exact hnb i h1 (by omega) e.symm
  have := ma_O_T1 hg ha hb hnab
  rwa [ma_T_T] at this
