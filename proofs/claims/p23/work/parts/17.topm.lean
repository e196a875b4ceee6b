/-! own rows: what the class itself answers, apart from scratch -/
def jmTr (t u : jmT) : Prop := t.1 = u.1 ∧ t.2.1 = u.2.1 ∧ ∀ j, j < t.1 → t.2.2 j = u.2.2 j
theorem jmFI_rel {rm : jmM} {f : Nat} {t u : jmT} (h : jmTr t u) : ∀ k, jmTr (jmFI rm f t k) (jmFI rm f u k)
  | 0 => h
  | k + 1 => by
    obtain ⟨h1, h2, h3⟩ := jmFI_rel (rm := rm) (f := f) h k
    by_cases q : ¬ rm f k ≤ 0 ∧ (jmFI rm f t k).2.1 k = -1 ∧ (jmFI rm f t k).1 < 16
    · have q' : ¬ rm f k ≤ 0 ∧ (jmFI rm f u k).2.1 k = -1 ∧ (jmFI rm f u k).1 < 16 := by rw [← h2, ← h1]; exact q
      have e1 : jmFI rm f t (k + 1) = ((jmFI rm f t k).1 + 1, jxUp (jmFI rm f t k).2.1 k (nI f), jxUp (jmFI rm f t k).2.2 (jmFI rm f t k).1 k) := if_pos q
      have e2 : jmFI rm f u (k + 1) = ((jmFI rm f u k).1 + 1, jxUp (jmFI rm f u k).2.1 k (nI f), jxUp (jmFI rm f u k).2.2 (jmFI rm f u k).1 k) := if_pos q'
      rw [e1, e2]
      refine ⟨by dsimp only; rw [h1], by dsimp only; rw [h2], fun j hj => ?_⟩
      dsimp only at hj ⊢
      rw [← h1]
      unfold jxUp
      split
      · rfl
      · exact h3 j (by omega)
    · have q' : ¬ (¬ rm f k ≤ 0 ∧ (jmFI rm f u k).2.1 k = -1 ∧ (jmFI rm f u k).1 < 16) := by rw [← h2, ← h1]; exact q
      have e1 : jmFI rm f t (k + 1) = jmFI rm f t k := if_neg q
      have e2 : jmFI rm f u (k + 1) = jmFI rm f u k := if_neg q'
      rw [e1, e2]
      exact ⟨h1, h2, h3⟩
theorem jmFO_rel {rm : jmM} {t u : jmT} (h : jmTr t u) : ∀ k, jmTr (jmFO rm t k) (jmFO rm u k)
  | 0 => h
  | k + 1 => by
    have ih := jmFO_rel (rm := rm) h k
    by_cases q : k < (jmFO rm t k).1
    · have q' : k < (jmFO rm u k).1 := by rw [← ih.1]; exact q
      rw [jmFO_y q, jmFO_y q', ← ih.2.2 k q]
      exact jmFI_rel ih 16
    · have q' : ¬ k < (jmFO rm u k).1 := by rw [← ih.1]; exact q
      have e1 : jmFO rm t (k + 1) = jmFO rm t k := if_neg q
      have e2 : jmFO rm u (k + 1) = jmFO rm u k := if_neg q'
      rw [e1, e2]
      exact ih
theorem jmFW_c (rm : jmM) (s : Nat) (qu qu' : Nat → Nat) : (jmFW rm s qu).2.1 = (jmFW rm s qu').2.1 := by
  rw [jmFW_eq, jmFW_eq]
  have h : jmTr (jmF0 s qu) (jmF0 s qu') := by
    refine ⟨rfl, rfl, fun j hj => ?_⟩
    have hj : j < 1 := hj
    show jxUp qu 0 s j = jxUp qu' 0 s j
    unfold jxUp
    rw [if_pos (by omega), if_pos (by omega)]
  have h2 := jmFO_rel (rm := rm) h 16
  exact h2.2.1
theorem jmCF_c {s t : Nat} : ∀ (k fl : Nat) (rm : jmM) (ca ca' : Nat → Int32) (qu qu' : Nat → Nat), (jmCF s t k fl rm ca qu).1 = (jmCF s t k fl rm ca' qu').1 := by
  intro k
  induction k with
  | zero => intro fl rm ca ca' qu qu'; rfl
  | succ k ih =>
    intro fl rm ca ca' qu qu'
    have e := jmFW_c rm s qu qu'
    have ef : jmFound rm s qu t = jmFound rm s qu' t := by
      unfold jmFound
      rw [e]
    cases hf : jmFound rm s qu t with
    | true =>
      rw [jmCF_go hf, jmCF_go (ef ▸ hf), e]
      exact ih _ _ _ _ _ _
    | false => rw [jmCF_st hf, jmCF_st (ef ▸ hf)]
/-- how many ways, how many line ways -/
noncomputable def jmWy (sm gr : Nat → Nat) (st P n a o : Nat) : Nat := (jmCFS a o (jmC2 sm gr st (jmC1 a o P) n) (fun _ => 0) (fun _ => 0)).1
noncomputable def jmLy (sm gr : Nat → Nat) (st n a o : Nat) : Nat := (jmCFS a o (jmC3 sm gr st (fun _ _ => 0) n) (fun _ => 0) (fun _ => 0)).1
theorem jmCFS_c (s t : Nat) (rm : jmM) (ca ca' : Nat → Int32) (qu qu' : Nat → Nat) : (jmCFS s t rm ca qu).1 = (jmCFS s t rm ca' qu').1 := by
  rw [jmCFS_eq, jmCFS_eq]
  exact jmCF_c 16 0 rm ca ca' qu qu'
theorem jmWy_c (sm gr : Nat → Nat) (st P n a o : Nat) (ca : Nat → Int32) (qu : Nat → Nat) : (jmCFS a o (jmC2 sm gr st (jmC1 a o P) n) ca qu).1 = jmWy sm gr st P n a o := jmCFS_c _ _ _ _ _ _ _
theorem jmLy_c (sm gr : Nat → Nat) (st n a o : Nat) (ca : Nat → Int32) (qu : Nat → Nat) : (jmCFS a o (jmC3 sm gr st (fun _ _ => 0) n) ca qu).1 = jmLy sm gr st n a o := jmCFS_c _ _ _ _ _ _ _
theorem jmWy_le (sm gr : Nat → Nat) (st P n a o : Nat) : jmWy sm gr st P n a o ≤ 16 := jmCFS_le
theorem jmLy_le (sm gr : Nat → Nat) (st n a o : Nat) : jmLy sm gr st n a o ≤ 16 := jmCFS_le
def jmOfP (en la : Nat → Nat) (n st fc : Nat) (pa : Nat → Nat) (bl : Nat → Int32) (cl le : Nat → Nat) (q w : Nat) : Int32 :=
  if w = 0 then nI (pa q) else if w = 1 then nI (jmPop (la q &&& st)) else if w = 2 then nI (jB (fc.testBit q)) else if w = 3 then nI (jmPop (jmBlk bl (la q &&& st) n)) else if w = 4 then nI (cl q) else if w = 5 then nI (jmLinked en la st n q) else nI (le q)
def jmOfL (sm gr co : Nat → Nat) (st fb : Nat) (bl : Nat → Int32) (cs : Nat) (fa : Nat → Int32) (i w : Nat) : Int32 :=
  if w = 0 then nI (sm i) else if w = 1 then nI (gr i) else if w = 2 then nI (co i) else if w = 3 then nI (jB (st.testBit i)) else if w = 4 then nI (jB (fb.testBit i)) else if w = 5 then bl i else if w = 6 then nI (jB (cs.testBit i)) else if w = 7 then fa (2 * i) else fa (2 * i + 1)
def jmNet (en la : Nat → Nat) (P n st fp fb fc fk fq ft : Nat) (ct : Int32) (pk wk : Nat) (rf : Int32) (w : Nat) : Int32 :=
  if w = 0 then nI P else if w = 1 then nI n else if w = 2 then nI (jmPop st) else if w = 3 then nI fp else if w = 4 then nI (jmPop fb) else if w = 5 then nI (jmPop fc) else if w = 6 then nI fk else if w = 7 then nI fq else if w = 8 then nI ft else if w = 9 then ct else if w = 10 then nI pk else if w = 11 then nI (wk + jmIso la st P) else if w = 12 then jmHandles la P st fp wk else if w = 13 then jmGD en la P st n P else rf
noncomputable def jmBt (sm gr en la : Nat → Nat) (P n st a o w : Nat) : Int32 :=
  if w = 0 then nI (jmWy sm gr st P n a o) else if w = 1 then nI (jmLy sm gr st n a o) else if w = 2 then jmDist en la P st n a o else if w = 3 then jmGap en la P n st a o else if w = 4 then nI (jmSide la P st a o) else nI (jmOut la st (jmSide la P st a o) P)
/-- the scratch behind between(a, o, w) -/
noncomputable def jmBs (sm gr : Nat → Nat) (P n st a o w : Nat) (rm : jmM) (ca : Nat → Int32) (qu : Nat → Nat) : jmM × (Nat → Int32) × (Nat → Nat) :=
  if w = 0 then (jmCFS a o (jmC2 sm gr st (jmC1 a o P) n) ca qu).2 else if w = 1 then (jmCFS a o (jmC3 sm gr st (fun _ _ => 0) n) ca qu).2 else (rm, ca, qu)
theorem jmBs_qu {sm gr : Nat → Nat} {P n st a o w : Nat} {rm : jmM} {ca : Nat → Int32} {qu : Nat → Nat} (ha : a < 16) (h : ∀ j, j < 16 → qu j < 16) : ∀ j, j < 16 → (jmBs sm gr P n st a o w rm ca qu).2.2 j < 16 := by
  unfold jmBs
  split
  · exact jmCFS_qu ha h
  · split
    · exact jmCFS_qu ha h
    · exact h
/-- a row of numbers mixed into d -/
def jmFold (f : Nat → Int64) : Nat → Int64 → Int64
  | 0, d => d
  | k + 1, d => jmFold f k d * 31 + f k
noncomputable def jmBtF (sm gr en la : Nat → Nat) (P n st q : Nat) : Nat → Int64 → Int64
  | 0, d => d
  | k + 1, d => jmFold (fun w => (jmBt sm gr en la P n st q (q + 1 + k) w).toInt64) 6 (jmBtF sm gr en la P n st q k d)
noncomputable def jmMP (sm gr en la : Nat → Nat) (P n st : Nat) (fo : Nat → Nat → Int32) (wt : Nat → Int32) (q : Nat) (d : Int64) : Int64 :=
  jmBtF sm gr en la P n st q (P - (q + 1)) (jmFold (fun w => (fo q w).toInt64) 7 d * 31 + (wt q).toInt64)
noncomputable def jmPF (sm gr en la : Nat → Nat) (P n st : Nat) (fo : Nat → Nat → Int32) (wt : Nat → Int32) : Nat → Int64 → Int64
  | 0, d => d
  | k + 1, d => jmMP sm gr en la P n st fo wt k (jmPF sm gr en la P n st fo wt k d)
def jmLF (fl : Nat → Nat → Int32) : Nat → Int64 → Int64
  | 0, d => d
  | k + 1, d => jmFold (fun w => (fl k w).toInt64) 9 (jmLF fl k d)
def jmPV (N : Nat) (s g : Nat → Nat) (k : Nat) (b : Bool) : Int32 := if k < N then (if b = true then nI (g k) else nI (s k)) else -1
def jmVF (N : Nat) (s g : Nat → Nat) : Nat → Int64 → Int64
  | 0, d => d
  | k + 1, d => (jmVF N s g k d * 31 + (jmPV N s g k false).toInt64) * 31 + (jmPV N s g k true).toInt64
/-- the scratch behind a point's answers: the others, k of them, each asked w < 6 -/
noncomputable def jmSc (sm gr : Nat → Nat) (P n st a o : Nat) : Nat → jmM × (Nat → Int32) × (Nat → Nat) → jmM × (Nat → Int32) × (Nat → Nat)
  | 0, t => t
  | w + 1, t => jmBs sm gr P n st a o w (jmSc sm gr P n st a o w t).1 (jmSc sm gr P n st a o w t).2.1 (jmSc sm gr P n st a o w t).2.2
noncomputable def jmSo (sm gr : Nat → Nat) (P n st a : Nat) : Nat → jmM × (Nat → Int32) × (Nat → Nat) → jmM × (Nat → Int32) × (Nat → Nat)
  | 0, t => t
  | k + 1, t => jmSc sm gr P n st a (a + 1 + k) 6 (jmSo sm gr P n st a k t)
noncomputable def jmSp (sm gr : Nat → Nat) (P n st : Nat) : Nat → jmM × (Nat → Int32) × (Nat → Nat) → jmM × (Nat → Int32) × (Nat → Nat)
  | 0, t => t
  | k + 1, t => jmSo sm gr P n st k (P - (k + 1)) (jmSp sm gr P n st k t)
theorem jmSc_qu {sm gr : Nat → Nat} {P n st a o : Nat} (ha : a < 16) {t : jmM × (Nat → Int32) × (Nat → Nat)} (h : ∀ j, j < 16 → t.2.2 j < 16) : ∀ w, ∀ j, j < 16 → (jmSc sm gr P n st a o w t).2.2 j < 16
  | 0 => h
  | w + 1 => jmBs_qu ha (jmSc_qu ha h w)
theorem jmSo_qu {sm gr : Nat → Nat} {P n st a : Nat} (ha : a < 16) {t : jmM × (Nat → Int32) × (Nat → Nat)} (h : ∀ j, j < 16 → t.2.2 j < 16) : ∀ k, ∀ j, j < 16 → (jmSo sm gr P n st a k t).2.2 j < 16
  | 0 => h
  | k + 1 => jmSc_qu ha (jmSo_qu ha h k) 6
theorem jmSp_qu {sm gr : Nat → Nat} {P n st : Nat} {t : jmM × (Nat → Int32) × (Nat → Nat)} (h : ∀ j, j < 16 → t.2.2 j < 16) : ∀ k, k ≤ 16 → ∀ j, j < 16 → (jmSp sm gr P n st k t).2.2 j < 16
  | 0, _ => h
  | k + 1, hk => jmSo_qu (by omega) (jmSp_qu h k (by omega)) _
/-- the scratch behind areWaysSound: both ways asked -/
noncomputable def jmAs (sm gr : Nat → Nat) (P n st a o : Nat) (t : jmM × (Nat → Int32) × (Nat → Nat)) : jmM × (Nat → Int32) × (Nat → Nat) := jmSc sm gr P n st a o 2 t
noncomputable def jmAo (sm gr : Nat → Nat) (P n st a : Nat) : Nat → jmM × (Nat → Int32) × (Nat → Nat) → jmM × (Nat → Int32) × (Nat → Nat)
  | 0, t => t
  | k + 1, t => jmAs sm gr P n st a (a + 1 + k) (jmAo sm gr P n st a k t)
noncomputable def jmAp (sm gr : Nat → Nat) (P n st : Nat) : Nat → jmM × (Nat → Int32) × (Nat → Nat) → jmM × (Nat → Int32) × (Nat → Nat)
  | 0, t => t
  | k + 1, t => jmAo sm gr P n st k (P - (k + 1)) (jmAp sm gr P n st k t)
theorem jmAo_qu {sm gr : Nat → Nat} {P n st a : Nat} (ha : a < 16) {t : jmM × (Nat → Int32) × (Nat → Nat)} (h : ∀ j, j < 16 → t.2.2 j < 16) : ∀ k, ∀ j, j < 16 → (jmAo sm gr P n st a k t).2.2 j < 16
  | 0 => h
  | k + 1 => jmSc_qu ha (jmAo_qu ha h k) 2
theorem jmAp_qu {sm gr : Nat → Nat} {P n st : Nat} {t : jmM × (Nat → Int32) × (Nat → Nat)} (h : ∀ j, j < 16 → t.2.2 j < 16) : ∀ k, k ≤ 16 → ∀ j, j < 16 → (jmAp sm gr P n st k t).2.2 j < 16
  | 0, _ => h
  | k + 1, hk => jmAo_qu (by omega) (jmAp_qu h k (by omega)) _
theorem jmAs_eq {sm gr : Nat → Nat} {P n st a o : Nat} {rm : jmM} {ca : Nat → Int32} {qu : Nat → Nat} : jmAs sm gr P n st a o (rm, ca, qu) = (jmCFS a o (jmC3 sm gr st (fun _ _ => 0) n) (jmCFS a o (jmC2 sm gr st (jmC1 a o P) n) ca qu).2.2.1 (jmCFS a o (jmC2 sm gr st (jmC1 a o P) n) ca qu).2.2.2).2 := rfl
/-- what isSound asks of two points -/
def jmWok (sm gr en la : Nat → Nat) (P n st a o : Nat) : Prop := (jmGap en la P n st a o = -1 ∨ ∃ g, g < 256 ∧ jmGap en la P n st a o = nI g ∧ jmPop g = jmWy sm gr st P n a o) ∧ jmLy sm gr st n a o = jmPop (jmOut la st (jmSide la P st a o) P) ∧ jmWy sm gr st P n a o ≤ jmLy sm gr st n a o
def jmBok (n st fb fk : Nat) (bl : Nat → Int32) (i : Nat) : Prop := (st.testBit i = true → ∃ b, b < fk ∧ bl i = nI b) ∧ (st.testBit i = false → bl i = -1) ∧ (fb.testBit i = true → jmAll (fun k => k == i || !(bl k == bl i)) n 0 = true)
def jmWTf (sm gr la : Nat → Nat) (P n st : Nat) (le : Nat → Nat) (od : Nat → Nat → Nat) (wk q : Nat) : Int32 := (jmBP sm gr la P n st le od q (wk + jmIso la st P) (le q)).1
theorem jmSp_s (sm gr : Nat → Nat) (P n st k : Nat) (t : jmM × (Nat → Int32) × (Nat → Nat)) : jmSo sm gr P n st k (P - (k + 1)) ((jmSp sm gr P n st k t).1, (jmSp sm gr P n st k t).2.1, (jmSp sm gr P n st k t).2.2) = jmSp sm gr P n st (k + 1) t := rfl
theorem jmPF_s (sm gr en la : Nat → Nat) (P n st : Nat) (fo : Nat → Nat → Int32) (wt : Nat → Int32) (k : Nat) (d : Int64) : jmMP sm gr en la P n st fo wt k (jmPF sm gr en la P n st fo wt k d) = jmPF sm gr en la P n st fo wt (k + 1) d := rfl
