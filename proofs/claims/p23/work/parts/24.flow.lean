/-! own rows: flows and cuts in a table of 16 nodes -/
/-- what goes out of a kind S -/
noncomputable def mw_cut (c : Nat → Nat → Nat) (S : Nat → Prop) : Nat := ma_S (fun i => ma_S (fun j => ma_pc (S i ∧ ¬ S j) * c i j) 16) 16
theorem mw_S_up {f f' : Nat → Nat} {a : Nat} (h : ∀ j, j ≠ a → f' j = f j) : ∀ {N : Nat}, a < N → ma_S f' N + f a = ma_S f N + f' a
  | 0, ha => absurd ha (Nat.not_lt_zero a)
  | N + 1, ha => by
    show ma_S f' N + f' N + f a = ma_S f N + f N + f' a
    by_cases e : a = N
    · subst e
      rw [ma_S_congr (N := a) (f := f') (g := f) (fun k hk => h k (by omega))]
      omega
    · have ih := mw_S_up h (N := N) (by omega)
      rw [h N (fun z => e z.symm)]
      omega
theorem mw_up2_s {α : Type} (c : Nat → Nat → α) (a b : Nat) (x : α) : jxUp2 c a b x a b = x := if_pos ⟨rfl, rfl⟩
theorem mw_up2_n {α : Type} (c : Nat → Nat → α) {a b i j : Nat} (x : α) (h : ¬ (i = a ∧ j = b)) : jxUp2 c a b x i j = c i j := if_neg h
theorem mw_cut_up {c : Nat → Nat → Nat} {a b x : Nat} (ha : a < 16) (hb : b < 16) (S : Nat → Prop) : mw_cut (jxUp2 c a b x) S + ma_pc (S a ∧ ¬ S b) * c a b = mw_cut c S + ma_pc (S a ∧ ¬ S b) * x := by
  have h1 := mw_S_up (f := fun j => ma_pc (S a ∧ ¬ S j) * c a j) (f' := fun j => ma_pc (S a ∧ ¬ S j) * jxUp2 c a b x a j) (a := b) (fun j hj => by
    show _ * jxUp2 c a b x a j = _
    rw [mw_up2_n c x (fun z => hj z.2)]) hb
  have h2 := mw_S_up (f := fun i => ma_S (fun j => ma_pc (S i ∧ ¬ S j) * c i j) 16) (f' := fun i => ma_S (fun j => ma_pc (S i ∧ ¬ S j) * jxUp2 c a b x i j) 16) (a := a) (fun i hi => ma_S_congr (fun j _ => by rw [mw_up2_n c x (fun z => hi z.1)])) ha
  have h3 : ma_pc (S a ∧ ¬ S b) * jxUp2 c a b x a b = ma_pc (S a ∧ ¬ S b) * x := by rw [mw_up2_s]
  have e1 : mw_cut (jxUp2 c a b x) S = ma_S (fun i => ma_S (fun j => ma_pc (S i ∧ ¬ S j) * jxUp2 c a b x i j) 16) 16 := rfl
  have e2 : mw_cut c S = ma_S (fun i => ma_S (fun j => ma_pc (S i ∧ ¬ S j) * c i j) 16) 16 := rfl
  rw [h3] at h1
  rw [e1, e2]
  generalize ma_S (fun i => ma_S (fun j => ma_pc (S i ∧ ¬ S j) * jxUp2 c a b x i j) 16) 16 = u1 at *
  generalize ma_S (fun i => ma_S (fun j => ma_pc (S i ∧ ¬ S j) * c i j) 16) 16 = u2 at *
  generalize ma_S (fun j => ma_pc (S a ∧ ¬ S j) * jxUp2 c a b x a j) 16 = u3 at *
  generalize ma_S (fun j => ma_pc (S a ∧ ¬ S j) * c a j) 16 = u4 at *
  generalize ma_pc (S a ∧ ¬ S b) * c a b = u5 at *
  generalize ma_pc (S a ∧ ¬ S b) * x = u6 at *
  omega
theorem mw_cut_0 {c : Nat → Nat → Nat} {S : Nat → Prop} (h : ∀ i j, i < 16 → j < 16 → S i → ¬ S j → c i j = 0) : mw_cut c S = 0 := by
  refine ma_S_zero (fun i hi => ma_S_zero (fun j hj => ?_))
  by_cases q : S i ∧ ¬ S j
  · rw [h i j hi hj q.1 q.2, Nat.mul_zero]
  · rw [ma_pc_f q, Nat.zero_mul]
theorem mw_nI1 : nI 1 = (1 : Int32) := by decide
theorem mw_pred {x : Nat} (h : 0 < x) : nI x - nI 1 = nI (x - 1) := by
  obtain ⟨y, rfl⟩ := Nat.exists_eq_succ_of_ne_zero (Nat.pos_iff_ne_zero.mp h)
  rw [mw_nI1]
  exact nI_pred y
/-- the table rm holds the numbers r -/
def mw_R (rm : jmM) (r : Nat → Nat → Nat) : Prop := ∀ i j, i < 16 → j < 16 → rm i j = nI (r i j) ∧ r i j + r j i < 1000
theorem mw_R_pos {rm : jmM} {r : Nat → Nat → Nat} (h : mw_R rm r) {i j : Nat} (hi : i < 16) (hj : j < 16) : ¬ rm i j ≤ 0 ↔ 0 < r i j := by
  obtain ⟨e, b⟩ := h i j hi hj
  rw [e]
  constructor
  · intro q
    refine Nat.pos_of_ne_zero (fun z => q ?_)
    rw [z, nI_0]
    exact Int32.le_refl 0
  · intro q
    exact nI_nle q (by omega)
/-- a search: every node that is met was met from an earlier one, over room -/
def mw_B (rm : jmM) (s : Nat) (t : jmT) : Prop :=
  t.1 = ma_S (fun j => ma_pc (t.2.1 j ≠ -1)) 16 ∧ t.2.1 s ≠ -1 ∧
  ∃ rk : Nat → Nat, rk s = 0 ∧ (∀ j, j < 16 → t.2.1 j ≠ -1 → rk j < t.1 ∧ t.2.2 (rk j) = j) ∧ (∀ v, v < t.1 → t.2.2 v < 16 ∧ t.2.1 (t.2.2 v) ≠ -1) ∧
    ∀ j, j < 16 → j ≠ s → t.2.1 j ≠ -1 → ∃ f, f < 16 ∧ t.2.1 j = nI f ∧ t.2.1 f ≠ -1 ∧ rk f < rk j ∧ ¬ rm f j ≤ 0
theorem mw_F0 {rm : jmM} {s : Nat} (hs : s < 16) (qu : Nat → Nat) : mw_B rm s (jmF0 s qu) := by
  have hne : (jmF0 s qu).2.1 s ≠ -1 := by
    show jxUp (fun _ => (-1 : Int32)) s (nI s) s ≠ -1
    rw [jxUp_s]
    exact mf_nI (by omega)
  have huq : ∀ j, (jmF0 s qu).2.1 j ≠ -1 → j = s := by
    intro j hj
    refine Classical.byContradiction (fun q => hj ?_)
    show jxUp (fun _ => (-1 : Int32)) s (nI s) j = -1
    rw [jxUp_n _ _ q]
  refine ⟨?_, hne, fun _ => 0, rfl, fun j _ hj => ⟨Nat.zero_lt_one, ?_⟩, fun v hv => ?_, fun j _ hjs hj => absurd (huq j hj) hjs⟩
  · show 1 = _
    exact (ma_S_one hs hne (fun j _ hj => huq j hj)).symm
  · show jxUp qu 0 s 0 = j
    rw [jxUp_s, huq j hj]
  · have hv : v < 1 := hv
    have e : (jmF0 s qu).2.2 v = s := by
      show jxUp qu 0 s v = s
      rw [show v = 0 by omega, jxUp_s]
    rw [e]
    exact ⟨hs, hne⟩
theorem mw_FI {rm : jmM} {s f : Nat} {t : jmT} (h : mw_B rm s t) (hf : f < 16) (hc : t.2.1 f ≠ -1) : ∀ k, k ≤ 16 →
    mw_B rm s (jmFI rm f t k) ∧ (∀ j, t.2.1 j ≠ -1 → (jmFI rm f t k).2.1 j ≠ -1) ∧ (∀ v, v < t.1 → (jmFI rm f t k).2.2 v = t.2.2 v) ∧ t.1 ≤ (jmFI rm f t k).1 ∧ ∀ j, j < k → ¬ rm f j ≤ 0 → (jmFI rm f t k).2.1 j ≠ -1
  | 0, _ => ⟨h, fun _ q => q, fun _ _ => rfl, Nat.le_refl _, fun j hj => absurd hj (Nat.not_lt_zero j)⟩
  | k + 1, hk => by
    obtain ⟨hB, hm, hq, hle, hd⟩ := mw_FI h hf hc k (by omega)
    have hfu := hm f hc
    by_cases q : ¬ rm f k ≤ 0 ∧ (jmFI rm f t k).2.1 k = -1 ∧ (jmFI rm f t k).1 < 16
    · have e : jmFI rm f t (k + 1) = ((jmFI rm f t k).1 + 1, jxUp (jmFI rm f t k).2.1 k (nI f), jxUp (jmFI rm f t k).2.2 (jmFI rm f t k).1 k) := if_pos q
      rw [e]
      generalize jmFI rm f t k = u at *
      obtain ⟨b1, b2, rk, b3, b4, b5, b6⟩ := hB
      have hks : k ≠ s := fun z => b2 (by rw [← z]; exact q.2.1)
      have hkf : f ≠ k := fun z => hfu (by rw [z]; exact q.2.1)
      have hn : nI f ≠ -1 := mf_nI (by omega)
      have mono : ∀ j, u.2.1 j ≠ -1 → jxUp u.2.1 k (nI f) j ≠ -1 := by
        intro j hj
        unfold jxUp
        split
        · exact hn
        · exact hj
      refine ⟨⟨?_, mono s b2, jxUp rk k u.1, ?_, fun j hj hcj => ?_, fun v hv => ?_, fun j hj hjs hcj => ?_⟩, fun j hj => mono j (hm j hj), fun v hv => ?_, by show t.1 ≤ u.1 + 1; omega, fun j hj hr => ?_⟩
      · show u.1 + 1 = ma_S (fun j => ma_pc (jxUp u.2.1 k (nI f) j ≠ -1)) 16
        have h1 := mw_S_up (f := fun j => ma_pc (u.2.1 j ≠ -1)) (f' := fun j => ma_pc (jxUp u.2.1 k (nI f) j ≠ -1)) (a := k) (fun j hj => by
          show ma_pc (jxUp u.2.1 k (nI f) j ≠ -1) = _
          rw [jxUp_n _ _ hj]) (N := 16) (by omega)
        rw [jxUp_s, ma_pc_f (p := u.2.1 k ≠ -1) (fun z => z q.2.1), ma_pc_t hn] at h1
        omega
      · rw [jxUp_n _ _ (fun z => hks z.symm)]
        exact b3
      · by_cases ej : j = k
        · subst ej
          rw [jxUp_s]
          exact ⟨by show u.1 < u.1 + 1; omega, jxUp_s _ _ _⟩
        · have hcj : jxUp u.2.1 k (nI f) j ≠ -1 := hcj
          rw [jxUp_n _ _ ej] at hcj
          have := b4 j hj hcj
          rw [jxUp_n _ _ ej]
          refine ⟨by show rk j < u.1 + 1; omega, ?_⟩
          show jxUp u.2.2 u.1 k (rk j) = j
          rw [jxUp_n _ _ (by omega)]
          exact this.2
      · have hv : v < u.1 + 1 := hv
        by_cases ev : v = u.1
        · have e9 : jxUp u.2.2 u.1 k v = k := by rw [ev, jxUp_s]
          show jxUp u.2.2 u.1 k v < 16 ∧ jxUp u.2.1 k (nI f) (jxUp u.2.2 u.1 k v) ≠ -1
          rw [e9, jxUp_s]
          exact ⟨by omega, hn⟩
        · have := b5 v (by omega)
          show jxUp u.2.2 u.1 k v < 16 ∧ jxUp u.2.1 k (nI f) (jxUp u.2.2 u.1 k v) ≠ -1
          rw [jxUp_n u.2.2 _ ev]
          exact ⟨this.1, mono _ this.2⟩
      · by_cases ej : j = k
        · subst ej
          refine ⟨f, hf, jxUp_s _ _ _, mono f hfu, ?_, q.1⟩
          rw [jxUp_s, jxUp_n _ _ hkf]
          exact (b4 f hf hfu).1
        · have hcj : jxUp u.2.1 k (nI f) j ≠ -1 := hcj
          rw [jxUp_n _ _ ej] at hcj
          obtain ⟨g, g1, g2, g3, g4, g5⟩ := b6 j hj hjs hcj
          have hgk : g ≠ k := fun z => g3 (by rw [z]; exact q.2.1)
          refine ⟨g, g1, ?_, mono g g3, ?_, g5⟩
          · show jxUp u.2.1 k (nI f) j = nI g
            rw [jxUp_n _ _ ej]
            exact g2
          · rw [jxUp_n _ _ hgk, jxUp_n _ _ ej]
            exact g4
      · show jxUp u.2.2 u.1 k v = _
        rw [jxUp_n _ _ (by omega)]
        exact hq v hv
      · show jxUp u.2.1 k (nI f) j ≠ -1
        by_cases ej : j = k
        · rw [ej, jxUp_s]
          exact hn
        · exact mono j (hd j (by omega) hr)
    · have e : jmFI rm f t (k + 1) = jmFI rm f t k := if_neg q
      rw [e]
      refine ⟨hB, hm, hq, hle, fun j hj hr => ?_⟩
      by_cases ej : j = k
      · subst ej
        intro hz
        refine q ⟨hr, hz, ?_⟩
        have h2 := ma_S_le (f := fun i => ma_pc ((jmFI rm f t j).2.1 i ≠ -1) + ma_pc (i = j)) (g := fun _ => 1) (N := 16) (fun i _ => by
          by_cases ei : i = j
          · rw [ma_pc_f (p := (jmFI rm f t j).2.1 i ≠ -1) (fun z => z (by rw [ei]; exact hz)), ma_pc_t ei]
            exact Nat.le_refl 1
          · rw [ma_pc_f ei]
            exact ma_pc_le _)
        rw [ma_S_const, ma_S_add, ← hB.1, ma_S_one (p := fun i => i = j) (i := j) (by omega) rfl (fun i _ hi => hi)] at h2
        omega
      · exact hd j (by omega) hr
theorem mw_FO {rm : jmM} {s : Nat} {t : jmT} (h : mw_B rm s t) : ∀ k, k ≤ 16 →
    mw_B rm s (jmFO rm t k) ∧ ∀ v, v < k → v < (jmFO rm t k).1 → ∀ j, j < 16 → ¬ rm ((jmFO rm t k).2.2 v) j ≤ 0 → (jmFO rm t k).2.1 j ≠ -1
  | 0, _ => ⟨h, fun v hv => absurd hv (Nat.not_lt_zero v)⟩
  | k + 1, hk => by
    obtain ⟨hB, hd⟩ := mw_FO h k (by omega)
    by_cases q : k < (jmFO rm t k).1
    · rw [jmFO_y q]
      have hB0 := hB
      obtain ⟨b1, b2, rk, b3, b4, b5, b6⟩ := hB
      have h5 := b5 k q
      obtain ⟨g1, g2, g3, g4, g5⟩ := mw_FI hB0 h5.1 h5.2 16 (Nat.le_refl _)
      refine ⟨g1, fun v hv hv2 j hj hr => ?_⟩
      by_cases ev : v = k
      · rw [ev, g3 k q] at hr
        exact g5 j hj hr
      · rw [g3 v (by omega)] at hr
        exact g2 j (hd v (by omega) (by omega) j hj hr)
    · have e : jmFO rm t (k + 1) = jmFO rm t k := if_neg q
      rw [e]
      exact ⟨hB, fun v hv hv2 => hd v (by omega) hv2⟩
theorem mw_FW {rm : jmM} {s : Nat} (hs : s < 16) (qu : Nat → Nat) : ∃ rk : Nat → Nat, rk s = 0 ∧ (jmFW rm s qu).2.1 s ≠ -1 ∧ (∀ j, j < 16 → (jmFW rm s qu).2.1 j ≠ -1 → rk j < 16) ∧
    (∀ j, j < 16 → j ≠ s → (jmFW rm s qu).2.1 j ≠ -1 → ∃ f, f < 16 ∧ (jmFW rm s qu).2.1 j = nI f ∧ (jmFW rm s qu).2.1 f ≠ -1 ∧ rk f < rk j ∧ ¬ rm f j ≤ 0) ∧
    ∀ i j, i < 16 → j < 16 → (jmFW rm s qu).2.1 i ≠ -1 → (jmFW rm s qu).2.1 j = -1 → rm i j ≤ 0 := by
  rw [jmFW_eq]
  obtain ⟨hB, hd⟩ := mw_FO (mw_F0 (rm := rm) hs qu) 16 (Nat.le_refl _)
  generalize jmFO rm (jmF0 s qu) 16 = u at *
  obtain ⟨b1, b2, rk, b3, b4, b5, b6⟩ := hB
  have hle : u.1 ≤ 16 := by
    have h2 := ma_S_le (f := fun j => ma_pc (u.2.1 j ≠ -1)) (g := fun _ => 1) (N := 16) (fun i _ => ma_pc_le _)
    rw [ma_S_const, ← b1] at h2
    exact h2
  refine ⟨rk, b3, b2, fun j hj hc => Nat.lt_of_lt_of_le (b4 j hj hc).1 hle, b6, fun i j hi hj hci hcj => ?_⟩
  refine Classical.byContradiction (fun q => ?_)
  have h4 := b4 i hi hci
  exact hd (rk i) (by omega) h4.1 j hj (by rw [h4.2]; exact q) hcj
/-- a way is filled: the room between f and t -/
theorem mw_cut_move {r : Nat → Nat → Nat} {f t : Nat} (hf : f < 16) (ht : t < 16) (hne : f ≠ t) (hp : 0 < r f t) (S : Nat → Prop) : mw_cut (jxUp2 (jxUp2 r f t (r f t - 1)) t f (r t f + 1)) S + ma_pc (S f) = mw_cut r S + ma_pc (S t) := by
  have h1 := mw_cut_up (c := r) (x := r f t - 1) hf ht S
  have h2 := mw_cut_up (c := jxUp2 r f t (r f t - 1)) (x := r t f + 1) ht hf S
  rw [mw_up2_n r _ (fun z => hne z.2)] at h2
  by_cases c1 : S f <;> by_cases c2 : S t
  · rw [ma_pc_f (p := S f ∧ ¬ S t) (fun z => z.2 c2)] at h1
    rw [ma_pc_f (p := S t ∧ ¬ S f) (fun z => z.2 c1)] at h2
    rw [ma_pc_t c1, ma_pc_t c2]
    omega
  · rw [ma_pc_t (p := S f ∧ ¬ S t) ⟨c1, c2⟩] at h1
    rw [ma_pc_f (p := S t ∧ ¬ S f) (fun z => z.2 c1)] at h2
    rw [ma_pc_t c1, ma_pc_f c2]
    omega
  · rw [ma_pc_f (p := S f ∧ ¬ S t) (fun z => z.2 c2)] at h1
    rw [ma_pc_t (p := S t ∧ ¬ S f) ⟨c2, c1⟩] at h2
    rw [ma_pc_f c1, ma_pc_t c2]
    omega
  · rw [ma_pc_f (p := S f ∧ ¬ S t) (fun z => c1 z.1)] at h1
    rw [ma_pc_f (p := S t ∧ ¬ S f) (fun z => c2 z.1)] at h2
    rw [ma_pc_f c1, ma_pc_f c2]
    omega
theorem mw_Fl {ca : Nat → Int32} {s : Nat} {rk : Nat → Nat} {rm0 : jmM} (hca : ∀ j, j < 16 → j ≠ s → ca j ≠ -1 → ∃ f, f < 16 ∧ ca j = nI f ∧ ca f ≠ -1 ∧ rk f < rk j ∧ ¬ rm0 f j ≤ 0) :
    ∀ (k t : Nat) (rm : jmM) (r : Nat → Nat → Nat), t < 16 → ca t ≠ -1 → rk t ≤ k → mw_R rm r → (∀ f j, f < 16 → j < 16 → j ≠ s → ca j = nI f → rk f < rk j → rk j ≤ rk t → 0 < r f j) →
      ∃ r', mw_R (jmFl ca s k t rm) r' ∧ ∀ S, mw_cut r' S + ma_pc (S s) = mw_cut r S + ma_pc (S t) := by
  intro k
  induction k with
  | zero =>
    intro t rm r ht hct hrk hR hU
    have e : t = s := by
      refine Classical.byContradiction (fun q => ?_)
      obtain ⟨f, -, -, -, h, -⟩ := hca t ht q hct
      omega
    exact ⟨r, hR, fun S => by rw [e]⟩
  | succ k ih =>
    intro t rm r ht hct hrk hR hU
    by_cases e : t = s
    · rw [jmFl_st (Or.inl e)]
      exact ⟨r, hR, fun S => by rw [e]⟩
    · obtain ⟨f, hf, e2, hcf, hlt, -⟩ := hca t ht e hct
      rw [jmFl_go e hct, e2, nI_clamp (by omega)]
      have hne : f ≠ t := fun z => by rw [z] at hlt; exact Nat.lt_irrefl _ hlt
      have hpos : 0 < r f t := hU f t hf ht e e2 hlt (Nat.le_refl _)
      rw [mw_up2_n rm _ (fun z => hne z.2)]
      have hft := hR f t hf ht
      have htf := hR t f ht hf
      rw [hft.1, htf.1, mw_pred hpos, nI_add]
      have hR2 : mw_R (jxUp2 (jxUp2 rm f t (nI (r f t - 1))) t f (nI (r t f + 1))) (jxUp2 (jxUp2 r f t (r f t - 1)) t f (r t f + 1)) := by
        intro i j hi hj
        have hij := hR i j hi hj
        unfold jxUp2
        by_cases c1 : i = t ∧ j = f
        · rw [if_pos c1, if_pos c1, if_neg (fun z => hne (c1.2.symm.trans z.1)), if_pos ⟨c1.2, c1.1⟩]
          exact ⟨rfl, by omega⟩
        · rw [if_neg c1, if_neg c1]
          by_cases c2 : i = f ∧ j = t
          · rw [if_pos c2, if_pos c2, if_pos ⟨c2.2, c2.1⟩]
            exact ⟨rfl, by omega⟩
          · rw [if_neg c2, if_neg c2, if_neg (fun z => c2 ⟨z.2, z.1⟩), if_neg (fun z => c1 ⟨z.2, z.1⟩)]
            exact hij
      obtain ⟨r', h1, h2⟩ := ih f _ _ hf hcf (by omega) hR2 (fun a j ha hj hjs hcj hl hle => by
        have h3 := hU a j ha hj hjs hcj hl (by omega)
        rw [mw_up2_n _ _ (fun z => by have hh := z.2; rw [z.1] at hl; rw [hh] at hl; omega), mw_up2_n _ _ (fun z => by have hh := z.2; rw [hh] at hle; omega)]
        exact h3)
      refine ⟨r', h1, fun S => ?_⟩
      have h4 := h2 S
      have h5 := mw_cut_move hf ht hne hpos S
      omega
theorem mw_CF {c : Nat → Nat → Nat} {s t : Nat} (hs : s < 16) (ht : t < 16) : ∀ (k fl : Nat) (rm : jmM) (ca : Nat → Int32) (qu : Nat → Nat) (r : Nat → Nat → Nat), mw_R rm r → (∀ S : Nat → Prop, S s → ¬ S t → mw_cut r S + fl = mw_cut c S) →
    (∀ S : Nat → Prop, S s → ¬ S t → (jmCF s t k fl rm ca qu).1 ≤ mw_cut c S) ∧ ((jmCF s t k fl rm ca qu).1 = fl + k ∨ ∃ S : Nat → Prop, S s ∧ ¬ S t ∧ mw_cut c S = (jmCF s t k fl rm ca qu).1) := by
  intro k
  induction k with
  | zero =>
    intro fl rm ca qu r hR hc
    exact ⟨fun S h1 h2 => by have := hc S h1 h2; show fl ≤ _; omega, Or.inl rfl⟩
  | succ k ih =>
    intro fl rm ca qu r hR hc
    obtain ⟨rk, k1, k2, k3, k4, k5⟩ := mw_FW (rm := rm) hs qu
    cases hf : jmFound rm s qu t with
    | true =>
      rw [jmCF_go hf]
      have hct : (jmFW rm s qu).2.1 t ≠ -1 := of_decide_eq_true hf
      obtain ⟨r', h1, h2⟩ := mw_Fl k4 16 t rm r ht hct (Nat.le_of_lt (k3 t ht hct)) hR (fun f j hf2 hj hjs hcj hl _ => by
        obtain ⟨g, g1, g2, g3, g4, g5⟩ := k4 j hj hjs (by rw [hcj]; exact mf_nI (by omega))
        have e : f = g := jx_e (by omega) (by omega) (hcj.symm.trans g2)
        rw [e]
        exact (mw_R_pos hR g1 hj).mp g5)
      rw [← jmFlS_eq] at h1
      obtain ⟨i1, i2⟩ := ih (fl + 1) _ (jmFW rm s qu).2.1 (jmFW rm s qu).2.2 r' h1 (fun S hS hT => by
        have a1 := h2 S
        have a2 := hc S hS hT
        rw [ma_pc_t hS, ma_pc_f hT] at a1
        omega)
      refine ⟨i1, ?_⟩
      rcases i2 with i2 | i2
      · left
        omega
      · exact Or.inr i2
    | false =>
      rw [jmCF_st hf]
      have hct : (jmFW rm s qu).2.1 t = -1 := Classical.byContradiction (of_decide_eq_false hf)
      refine ⟨fun S h1 h2 => by have := hc S h1 h2; show fl ≤ _; omega, Or.inr ⟨fun j => j < 16 ∧ (jmFW rm s qu).2.1 j ≠ -1, ⟨hs, k2⟩, fun z => z.2 hct, ?_⟩⟩
      have h0 := hc (fun j => j < 16 ∧ (jmFW rm s qu).2.1 j ≠ -1) ⟨hs, k2⟩ (fun z => z.2 hct)
      rw [mw_cut_0 (c := r) (fun i j hi hj hSi hSj => by
        have hcj : (jmFW rm s qu).2.1 j = -1 := Classical.byContradiction (fun z => hSj ⟨hj, z⟩)
        have h9 := k5 i j hi hj hSi.2 hcj
        refine Classical.byContradiction (fun z => ?_)
        exact (mw_R_pos hR hi hj).mpr (Nat.pos_of_ne_zero z) h9)] at h0
      show _ = fl
      omega
/-- how much flows: as the least cut -/
theorem mw_min {c : Nat → Nat → Nat} {s t : Nat} (hs : s < 16) (ht : t < 16) {rm : jmM} (hR : mw_R rm c) (ca : Nat → Int32) (qu : Nat → Nat) (S0 : Nat → Prop) (h1 : S0 s) (h2 : ¬ S0 t) (h3 : mw_cut c S0 ≤ 16) :
    (∀ S : Nat → Prop, S s → ¬ S t → (jmCFS s t rm ca qu).1 ≤ mw_cut c S) ∧ ∃ S : Nat → Prop, S s ∧ ¬ S t ∧ mw_cut c S = (jmCFS s t rm ca qu).1 := by
  rw [jmCFS_eq]
  obtain ⟨a1, a2⟩ := mw_CF (c := c) hs ht 16 0 rm ca qu c hR (fun S _ _ => rfl)
  refine ⟨a1, ?_⟩
  rcases a2 with e | e
  · refine ⟨S0, h1, h2, ?_⟩
    have := a1 S0 h1 h2
    omega
  · exact e
