/-! own rows: handles are never less than none -/
theorem me_popK (a : Nat) : ∀ k, jmPopK k a = ma_S (fun i => jB (a.testBit i)) k
  | 0 => rfl
  | k + 1 => by
    show jmPopK k a + jB (a.testBit k) = ma_S _ k + jB (a.testBit k)
    rw [me_popK a k]
theorem me_pop_add {b b' e : Nat} (he : e < 16) (hbe : b.testBit e = true) (hb' : ∀ i, b'.testBit i = true ↔ b.testBit i = true ∧ i ≠ e) : jmPop b = jmPop b' + 1 := by
  unfold jmPop
  rw [me_popK, me_popK]
  have key : ∀ i, i < 16 → jB (b.testBit i) = jB (b'.testBit i) + ma_pc (i = e) := by
    intro i _
    by_cases q : i = e
    · subst q
      have : b'.testBit i = false := by
        cases h : b'.testBit i with
        | false => rfl
        | true => exact absurd rfl ((hb' i).mp h).2
      rw [hbe, this, ma_pc_t rfl]
      rfl
    · have : b'.testBit i = b.testBit i := by
        have h := hb' i
        cases h1 : b.testBit i <;> cases h2 : b'.testBit i <;> rw [h1, h2] at h <;> simp_all
      rw [this, ma_pc_f q, Nat.add_zero]
  rw [ma_S_congr key, ma_S_add, ma_S_one (p := fun i => i = e) he rfl (fun _ _ q => q)]
theorem me_iso (la : Nat → Nat) (st : Nat) : ∀ k, jmIso la st k = ma_S (fun q => ma_pc (la q &&& st = 0)) k
  | 0 => rfl
  | k + 1 => by
    show _ = ma_S _ k + ma_pc (la k &&& st = 0)
    rw [← me_iso la st k]
    by_cases c : la k &&& st = 0
    · rw [ma_pc_t c]
      exact if_pos c
    · rw [ma_pc_f c]
      exact if_neg c
section ME
variable {P n : Nat} {sm gr le : Nat → Nat} {od : Nat → Nat → Nat}
theorem me_k1 (hG : mf_G P n sm gr) (hox : jmOX P n sm gr le od) {b b' e x : Nat} (he : e < n) (hb' : ∀ i, b'.testBit i = true ↔ b.testBit i = true ∧ i ≠ e) (hx : mf_X b' n x) :
    (jmWalk sm gr b le od x / 2 ≠ e → jmWalk sm gr b' le od x = jmWalk sm gr b le od x) ∧ (jmWalk sm gr b le od x / 2 = e → ∀ y, mf_X b n y → y / 2 = e → jmWalkAt sm gr y = jmWalkAt sm gr x → jmWalk sm gr b' le od x = jmWalk sm gr b le od y ∧ jmWalk sm gr b le od y / 2 ≠ e) := by
  have hbx := (hb' _).mp hx.2
  have hxb : mf_X b n x := ⟨hx.1, hbx.1⟩
  have hq := (mf_at hG hx.1).1
  obtain ⟨p, t, hp, ep, ht, hN, ev⟩ := mf_nx hG hox hxb
  have bf : ∀ i, b.testBit i = false → b'.testBit i = false := by
    intro i h
    cases h2 : b'.testBit i with
    | false => rfl
    | true => rw [((hb' i).mp h2).1] at h; cases h
  have bfe : b'.testBit e = false := by
    cases h2 : b'.testBit e with
    | false => rfl
    | true => exact absurd rfl ((hb' e).mp h2).2
  constructor
  · intro hne
    rw [ev, mf_d2] at hne
    rw [ev]
    exact mf_val hG hox hx.1 hp ep ht ⟨hN.1, (hb' _).mpr ⟨hN.2.1, hne⟩, fun s h1 h2 => bf _ (hN.2.2 s h1 h2)⟩
  · intro hee y hy hye hyq
    rw [ev, mf_d2] at hee
    obtain ⟨p2, t2, hp2, ep2, ht2, hN2, ev2⟩ := mf_nx hG hox hy
    rw [hyq] at hp2 ep2 ht2 hN2 ev2
    rw [hye] at ep2
    have hc := mf_it_lt hp t
    have epc : p2 = ma_it (jmBehind (le (jmWalkAt sm gr x))) p t := hox.2.2.1 _ hq _ _ hp2 hc (ep2.trans hee.symm)
    have hpp : ma_it (jmBehind (le (jmWalkAt sm gr x))) p (le (jmWalkAt sm gr x)) = p := by
      rw [mf_it_val hp _ (Nat.le_refl _), if_neg (by omega)]
      omega
    have htl : t ≠ le (jmWalkAt sm gr x) := by
      intro z
      rw [z, hpp, ep] at hee
      exact hbx.2 hee
    have ht1 := hN.1
    have ht21 := hN2.1
    have hle2 : t2 ≤ le (jmWalkAt sm gr x) - t := by
      refine Classical.byContradiction (fun q => ?_)
      have h3 := hN2.2.2 (le (jmWalkAt sm gr x) - t) (by omega) (by omega)
      rw [epc, ← mf_it_add, show t + (le (jmWalkAt sm gr x) - t) = le (jmWalkAt sm gr x) by omega, hpp, ep, hbx.1] at h3
      cases h3
    have hje : od (jmWalkAt sm gr x) (ma_it (jmBehind (le (jmWalkAt sm gr x))) p2 t2) ≠ e := by
      intro z
      have h4 := hox.2.2.1 _ hq _ _ (mf_it_lt hp2 t2) hp2 (z.trans ep2.symm)
      rw [mf_it_val hp2 t2 (by omega)] at h4
      split at h4 <;> omega
    have hN3 : mf_N b' (od (jmWalkAt sm gr x)) (le (jmWalkAt sm gr x)) p (t + t2) := by
      refine ⟨by omega, ?_, fun s h1 h2 => ?_⟩
      · rw [mf_it_add, ← epc]
        exact (hb' _).mpr ⟨hN2.2.1, hje⟩
      · rcases Nat.lt_trichotomy s t with w | w | w
        · exact bf _ (hN.2.2 s h1 w)
        · rw [w, hee]
          exact bfe
        · obtain ⟨r, rfl⟩ := Nat.exists_eq_add_of_le (Nat.le_of_lt w)
          rw [mf_it_add, ← epc]
          exact bf _ (hN2.2.2 r (by omega) (by omega))
    have hv := mf_val hG hox hx.1 hp ep (by omega) hN3
    rw [mf_it_add, ← epc] at hv
    exact ⟨hv.trans ev2.symm, by rw [ev2, mf_d2]; exact hje⟩
/-- whether a line is alone at its point, by the walk that comes to it by that line -/
theorem me_k2 (hG : mf_G P n sm gr) (hox : jmOX P n sm gr le od) {la : Nat → Nat} (hla : ∀ q, q < P → ∀ i, (la q).testBit i = true ↔ i < n ∧ (sm i = q ∨ gr i = q)) {b b' e y : Nat} (he : e < n) (hb' : ∀ i, b'.testBit i = true ↔ b.testBit i = true ∧ i ≠ e) (hy : mf_X b n y) (hye : y / 2 = e) :
    jmWalk sm gr b le od y / 2 = e ↔ la (jmWalkAt sm gr y) &&& b' = 0 := by
  have hq := (mf_at hG hy.1).1
  obtain ⟨p, t, hp, ep, ht, hN, ev⟩ := mf_nx hG hox hy
  rw [hye] at ep
  rw [ev, mf_d2]
  have ht1 := hN.1
  constructor
  · intro hee
    refine mc_ext (fun i => ?_)
    rw [Nat.zero_testBit, Nat.testBit_and, Bool.and_eq_true]
    refine ⟨fun z => ?_, fun z => (by cases z)⟩
    exfalso
    have hi := (hla _ hq i).mp z.1
    have hbi := (hb' i).mp z.2
    obtain ⟨pi, hpi, epi⟩ := hox.2.2.2.1 _ hq i hi.1 hi.2
    have hne : pi ≠ p := fun w => hbi.2 (by rw [← epi, w, ep])
    have hr : ∃ r, 1 ≤ r ∧ r < le (jmWalkAt sm gr y) ∧ ma_it (jmBehind (le (jmWalkAt sm gr y))) p r = pi := by
      by_cases c : p < pi
      · exact ⟨pi - p, by omega, by omega, by rw [mf_it_val hp _ (by omega), if_pos (by omega)]; omega⟩
      · exact ⟨pi + le (jmWalkAt sm gr y) - p, by omega, by omega, by rw [mf_it_val hp _ (by omega), if_neg (by omega)]; omega⟩
    obtain ⟨r, hr1, hr2, er⟩ := hr
    have htr : t ≤ r := by
      refine Classical.byContradiction (fun q => ?_)
      have := hN.2.2 r hr1 (by omega)
      rw [er, epi, hbi.1] at this
      cases this
    have h4 := hox.2.2.1 _ hq _ _ (mf_it_lt hp t) hp (hee.trans ep.symm)
    rw [mf_it_val hp t (by omega)] at h4
    split at h4 <;> omega
  · intro h0
    refine Classical.byContradiction (fun hne => ?_)
    have h2 := hox.2.1 _ hq _ (mf_it_lt hp t)
    have h3 : (la (jmWalkAt sm gr y) &&& b').testBit (od (jmWalkAt sm gr y) (ma_it (jmBehind (le (jmWalkAt sm gr y))) p t)) = true := by
      rw [Nat.testBit_and, Bool.and_eq_true]
      exact ⟨(hla _ hq _).mpr ⟨h2.1, h2.2⟩, (hb' _).mpr ⟨hN.2.1, hne⟩⟩
    rw [h0, Nat.zero_testBit] at h3
    cases h3
noncomputable def me_cyc (sm gr le : Nat → Nat) (od : Nat → Nat → Nat) (n b : Nat) : Nat := ma_K (2 * n) (mf_X b n) (ma_O (mf_X b n) (jmWalk sm gr b le od))
theorem me_drop {N : Nat} {X X' : Nat → Prop} {T : Nat → Nat} {d : Nat} (hP : ma_P N X T) (hd : X d) {Y : Nat → Prop} (hY : ∀ x, Y x → X x) (hYd : Y d) (hX' : ∀ x, X' x ↔ Y x ∧ x ≠ d) (hT : T d ≠ d → X' (T d)) : ma_K N X' (ma_O X T) + ma_pc (T d = d) = ma_K N Y (ma_O X T) := by
  have hE : ma_E Y (ma_O X T) := ⟨fun _ _ _ _ => Iff.rfl, (ma_O_E X T).2.1, (ma_O_E X T).2.2⟩
  by_cases c : T d = d
  · rw [ma_pc_t c]
    refine ma_K_drop0 hE hYd (hP.1 d hd) hX' (fun x hx hR => ?_)
    have hI : ma_I X T (fun z => z = d) := fun z hz => ⟨fun e => by rw [e]; exact c, fun e => hP.2.2 z d hz hd (e.trans c.symm)⟩
    exact ((hX' x).mp hx).2 ((hR _ hI).mpr rfl)
  · rw [ma_pc_f c, Nat.add_zero]
    exact ma_K_drop1 hE (fun x hx => hP.1 x (hY x hx)) hX' ⟨T d, hT c, (ma_O_E X T).2.1 _ _ (ma_O_st hd)⟩
/-- a line is taken out: the two walks by it are turned, then passed by -/
theorem me_take (hG : mf_G P n sm gr) (hox : jmOX P n sm gr le od) {b b' e : Nat} (he : e < n) (hbe : b.testBit e = true) (hb' : ∀ i, b'.testBit i = true ↔ b.testBit i = true ∧ i ≠ e) :
    me_cyc sm gr le od n b' + ma_pc (jmWalk sm gr b le od (2 * e + 1) / 2 = e) + ma_pc (jmWalk sm gr b le od (2 * e) / 2 = e) = ma_K (2 * n) (mf_X b n) (ma_O (mf_X b n) (ma_T (jmWalk sm gr b le od) (2 * e) (2 * e + 1))) := by
  have hl := hG.2 e he
  have hd : mf_X b n (2 * e) := ⟨by omega, by rw [show 2 * e / 2 = e by omega]; exact hbe⟩
  have hd' : mf_X b n (2 * e + 1) := ⟨by omega, by rw [show (2 * e + 1) / 2 = e by omega]; exact hbe⟩
  have ad : jmWalkAt sm gr (2 * e) = gr e := by unfold jmWalkAt; rw [if_pos (by omega), show 2 * e / 2 = e by omega]
  have ad' : jmWalkAt sm gr (2 * e + 1) = sm e := by unfold jmWalkAt; rw [if_neg (by omega), show (2 * e + 1) / 2 = e by omega]
  have td : mf_tl sm gr (2 * e) = sm e := by unfold mf_tl; rw [if_pos (by omega), show 2 * e / 2 = e by omega]
  have td' : mf_tl sm gr (2 * e + 1) = gr e := by unfold mf_tl; rw [if_neg (by omega), show (2 * e + 1) / 2 = e by omega]
  have hF := mf_perm hG hox b
  have hTP := ma_T_P (a := 2 * e) (b := 2 * e + 1) hF hd hd'
  -- what a walk of e leads to
  have fd := mf_nx_tl hG hox hd
  have fd' := mf_nx_tl hG hox hd'
  rw [ad] at fd
  rw [ad'] at fd'
  have cse : ∀ w, mf_X b n w → w / 2 = e → mf_tl sm gr w = sm e → w = 2 * e := fun w hw h1 h2 => mf_eq_tl hG hw.1 (by omega) (by rw [h2, td])
  have cse' : ∀ w, mf_X b n w → w / 2 = e → mf_tl sm gr w = gr e → w = 2 * e + 1 := fun w hw h1 h2 => mf_eq_tl hG hw.1 (by omega) (by rw [h2, td'])
  have eTd : ma_T (jmWalk sm gr b le od) (2 * e) (2 * e + 1) (2 * e) = jmWalk sm gr b le od (2 * e + 1) := ma_T_a _ _ _
  have eTd' : ma_T (jmWalk sm gr b le od) (2 * e) (2 * e + 1) (2 * e + 1) = jmWalk sm gr b le od (2 * e) := ma_T_b _ _ _
  have hX' : ∀ x, mf_X b' n x ↔ mf_X b n x ∧ x ≠ 2 * e ∧ x ≠ 2 * e + 1 := by
    intro x
    constructor
    · rintro ⟨z1, z2⟩
      have z3 := (hb' _).mp z2
      have z4 := z3.2
      exact ⟨⟨z1, z3.1⟩, by omega, by omega⟩
    · rintro ⟨⟨z1, z2⟩, z3, z4⟩
      exact ⟨z1, (hb' _).mpr ⟨z2, by omega⟩⟩
  have iffd : jmWalk sm gr b le od (2 * e + 1) / 2 = e ↔ ma_T (jmWalk sm gr b le od) (2 * e) (2 * e + 1) (2 * e) = 2 * e := by
    rw [eTd]
    exact ⟨fun h => cse _ fd'.1 h fd'.2, fun h => by rw [h]; omega⟩
  have iffd' : jmWalk sm gr b le od (2 * e) / 2 = e ↔ ma_T (jmWalk sm gr b le od) (2 * e) (2 * e + 1) (2 * e + 1) = 2 * e + 1 := by
    rw [eTd']
    exact ⟨fun h => cse' _ fd.1 h fd.2, fun h => by rw [h]; omega⟩
  rw [ma_pc_congr iffd, ma_pc_congr iffd']
  -- two at once
  have ne1 : ma_T (jmWalk sm gr b le od) (2 * e) (2 * e + 1) (2 * e) ≠ 2 * e + 1 := by
    rw [eTd]
    intro h
    have h2 := fd'.2
    rw [h, td'] at h2
    omega
  have ne2 : ma_T (jmWalk sm gr b le od) (2 * e) (2 * e + 1) (2 * e + 1) ≠ 2 * e := by
    rw [eTd']
    intro h
    have h2 := fd.2
    rw [h, td] at h2
    omega
  have d1 := me_drop (X' := fun x => mf_X b n x ∧ x ≠ 2 * e) (Y := mf_X b n) hTP hd (fun _ h => h) hd (fun x => Iff.rfl) (fun h => ⟨hTP.2.1 _ hd, h⟩)
  have d2 := me_drop (X' := mf_X b' n) (Y := fun x => mf_X b n x ∧ x ≠ 2 * e) hTP hd' (fun _ h => h.1) ⟨hd', by omega⟩ (fun x => ⟨fun z => ⟨⟨((hX' x).mp z).1, ((hX' x).mp z).2.1⟩, ((hX' x).mp z).2.2⟩, fun z => (hX' x).mpr ⟨z.1.1, z.1.2, z.2⟩⟩) (fun h => (hX' _).mpr ⟨hTP.2.1 _ hd', ne2, h⟩)
  rw [← d1, ← d2]
  have hK : me_cyc sm gr le od n b' = ma_K (2 * n) (mf_X b' n) (ma_O (mf_X b n) (ma_T (jmWalk sm gr b le od) (2 * e) (2 * e + 1))) := by
    -- the walk past e
    have by1 : ∀ x, mf_X b' n x → (ma_T (jmWalk sm gr b le od) (2 * e) (2 * e + 1) x = 2 * e → jmWalk sm gr b' le od x = ma_T (jmWalk sm gr b le od) (2 * e) (2 * e + 1) (2 * e) ∧ ma_T (jmWalk sm gr b le od) (2 * e) (2 * e + 1) (2 * e) ≠ 2 * e) ∧ (ma_T (jmWalk sm gr b le od) (2 * e) (2 * e + 1) x = 2 * e + 1 → jmWalk sm gr b' le od x = ma_T (jmWalk sm gr b le od) (2 * e) (2 * e + 1) (2 * e + 1) ∧ ma_T (jmWalk sm gr b le od) (2 * e) (2 * e + 1) (2 * e + 1) ≠ 2 * e + 1) ∧ (ma_T (jmWalk sm gr b le od) (2 * e) (2 * e + 1) x ≠ 2 * e → ma_T (jmWalk sm gr b le od) (2 * e) (2 * e + 1) x ≠ 2 * e + 1 → jmWalk sm gr b' le od x = ma_T (jmWalk sm gr b le od) (2 * e) (2 * e + 1) x) := by
      intro x hx
      have hx2 := (hX' x).mp hx
      have ex : ma_T (jmWalk sm gr b le od) (2 * e) (2 * e + 1) x = jmWalk sm gr b le od x := ma_T_n _ hx2.2.1 hx2.2.2
      have k1 := me_k1 hG hox he hb' hx
      have tlx := (mf_nx_tl hG hox hx2.1)
      rw [ex]
      refine ⟨fun h => ?_, fun h => ?_, fun h1 h2 => k1.1 (by omega)⟩
      · have hq : jmWalkAt sm gr (2 * e + 1) = jmWalkAt sm gr x := by
          rw [ad', ← tlx.2, h, td]
        have := k1.2 (by rw [h]; omega) (2 * e + 1) hd' (by omega) hq
        rw [eTd]
        exact ⟨this.1, fun z => this.2 (by rw [z]; omega)⟩
      · have hq : jmWalkAt sm gr (2 * e) = jmWalkAt sm gr x := by
          rw [ad, ← tlx.2, h, td']
        have := k1.2 (by rw [h]; omega) (2 * e) hd (by omega) hq
        rw [eTd']
        exact ⟨this.1, fun z => this.2 (by rw [z]; omega)⟩
    generalize ma_T (jmWalk sm gr b le od) (2 * e) (2 * e + 1) = T at *
    refine ma_K_congr (fun _ => Iff.rfl) (fun x y hx hy => ⟨fun h S hS => ?_, fun h S hS => ?_⟩)
    · refine h S (fun z hz => ?_)
      have bz := by1 z hz
      have hzb := ((hX' z).mp hz).1
      by_cases c1 : T z = 2 * e
      · rw [(bz.1 c1).1, hS z hzb, c1, hS _ hd]
      · by_cases c2 : T z = 2 * e + 1
        · rw [(bz.2.1 c2).1, hS z hzb, c2, hS _ hd']
        · rw [bz.2.2 c1 c2]
          exact hS z hzb
    · have hX2 : ∀ z, mf_X b' n z → z ≠ 2 * e ∧ z ≠ 2 * e + 1 := fun z hz => ((hX' z).mp hz).2
      have hI : ma_I (mf_X b n) T (fun z => (z ≠ 2 * e ∧ z ≠ 2 * e + 1 ∧ S z) ∨ (z = 2 * e ∧ T (2 * e) ≠ 2 * e ∧ S (T (2 * e))) ∨ (z = 2 * e + 1 ∧ T (2 * e + 1) ≠ 2 * e + 1 ∧ S (T (2 * e + 1)))) := by
        intro z hz
        have off : ∀ w, w ≠ 2 * e → w ≠ 2 * e + 1 → (((w ≠ 2 * e ∧ w ≠ 2 * e + 1 ∧ S w) ∨ (w = 2 * e ∧ T (2 * e) ≠ 2 * e ∧ S (T (2 * e))) ∨ (w = 2 * e + 1 ∧ T (2 * e + 1) ≠ 2 * e + 1 ∧ S (T (2 * e + 1)))) ↔ S w) := by
          intro w h1 h2
          constructor
          · rintro (q | q | q)
            · exact q.2.2
            · exact absurd q.1 h1
            · exact absurd q.1 h2
          · exact fun q => Or.inl ⟨h1, h2, q⟩
        have at1 : (((2 * e) ≠ 2 * e ∧ (2 * e) ≠ 2 * e + 1 ∧ S (2 * e)) ∨ (2 * e = 2 * e ∧ T (2 * e) ≠ 2 * e ∧ S (T (2 * e))) ∨ (2 * e = 2 * e + 1 ∧ T (2 * e + 1) ≠ 2 * e + 1 ∧ S (T (2 * e + 1)))) ↔ (T (2 * e) ≠ 2 * e ∧ S (T (2 * e))) := by
          constructor
          · rintro (q | q | q)
            · exact absurd rfl q.1
            · exact q.2
            · omega
          · exact fun q => Or.inr (Or.inl ⟨rfl, q⟩)
        have at2 : (((2 * e + 1) ≠ 2 * e ∧ (2 * e + 1) ≠ 2 * e + 1 ∧ S (2 * e + 1)) ∨ (2 * e + 1 = 2 * e ∧ T (2 * e) ≠ 2 * e ∧ S (T (2 * e))) ∨ (2 * e + 1 = 2 * e + 1 ∧ T (2 * e + 1) ≠ 2 * e + 1 ∧ S (T (2 * e + 1)))) ↔ (T (2 * e + 1) ≠ 2 * e + 1 ∧ S (T (2 * e + 1))) := by
          constructor
          · rintro (q | q | q)
            · exact absurd rfl q.2.1
            · omega
            · exact q.2
          · exact fun q => Or.inr (Or.inr ⟨rfl, q⟩)
        by_cases z1 : z = 2 * e
        · subst z1
          dsimp only
          rw [at1]
          by_cases c : T (2 * e) = 2 * e
          · refine ⟨fun q => absurd c q.1, fun q => ?_⟩
            rcases q with q | q | q
            · exact absurd c q.1
            · exact absurd c q.2.1
            · have := q.1
              omega
          · rw [off _ c ne1]
            exact ⟨fun q => q.2, fun q => ⟨c, q⟩⟩
        · by_cases z2 : z = 2 * e + 1
          · subst z2
            dsimp only
            rw [at2]
            by_cases c : T (2 * e + 1) = 2 * e + 1
            · refine ⟨fun q => absurd c q.1, fun q => ?_⟩
              rcases q with q | q | q
              · exact absurd c q.2.1
              · have := q.1
                omega
              · exact absurd c q.2.1
            · rw [off _ ne2 c]
              exact ⟨fun q => q.2, fun q => ⟨c, q⟩⟩
          · dsimp only
            rw [off z z1 z2]
            have hzx : mf_X b' n z := (hX' z).mpr ⟨hz, z1, z2⟩
            have bz := by1 z hzx
            by_cases c1 : T z = 2 * e
            · rw [c1, at1, hS z hzx, (bz.1 c1).1]
              exact ⟨fun q => ⟨(bz.1 c1).2, q⟩, fun q => q.2⟩
            · by_cases c2 : T z = 2 * e + 1
              · rw [c2, at2, hS z hzx, (bz.2.1 c2).1]
                exact ⟨fun q => ⟨(bz.2.1 c2).2, q⟩, fun q => q.2⟩
              · rw [off _ c1 c2, hS z hzx, bz.2.2 c1 c2]
      have hxx := hX2 x hx
      have hyy := hX2 y hy
      have := h _ hI
      constructor
      · intro q
        rcases this.mp (Or.inl ⟨hxx.1, hxx.2, q⟩) with w | w | w
        · exact w.2.2
        · exact absurd w.1 hyy.1
        · exact absurd w.1 hyy.2
      · intro q
        rcases this.mpr (Or.inl ⟨hyy.1, hyy.2, q⟩) with w | w | w
        · exact w.2.2
        · exact absurd w.1 hxx.1
        · exact absurd w.1 hxx.2
  rw [hK]
  omega
/-- a line between two parts is walked from both sides by one face -/
theorem me_bridge (hG : mf_G P n sm gr) (hox : jmOX P n sm gr le od) {b b' e : Nat} (he : e < n) (hbe : b.testBit e = true) (hb' : ∀ i, b'.testBit i = true ↔ b.testBit i = true ∧ i ≠ e) (hbr : ¬ mc_C sm gr (2 ^ P - 1) b' n (sm e) (gr e)) :
    ma_O (mf_X b n) (jmWalk sm gr b le od) (2 * e) (2 * e + 1) := by
  have hl := hG.2 e he
  have hE := mc_E (fun _ => True) sm gr (2 ^ P - 1) b' n
  have hd : mf_X b n (2 * e) := ⟨by omega, by rw [show 2 * e / 2 = e by omega]; exact hbe⟩
  have ad : jmWalkAt sm gr (2 * e) = gr e := by unfold jmWalkAt; rw [if_pos (by omega), show 2 * e / 2 = e by omega]
  have td : mf_tl sm gr (2 * e) = sm e := by unfold mf_tl; rw [if_pos (by omega), show 2 * e / 2 = e by omega]
  have hF := mf_perm hG hox b
  have half : ∀ S : Nat → Prop, ma_I (mf_X b n) (jmWalk sm gr b le od) S → S (2 * e) → S (2 * e + 1) := by
    intro S hS hsd
    refine Classical.byContradiction (fun hnd => ?_)
    have hA : ma_I (mf_X b n) (jmWalk sm gr b le od) (fun z => S z ∧ mc_C sm gr (2 ^ P - 1) b' n (gr e) (mf_tl sm gr z)) := by
      refine ma_P_inv hF (fun z hz hs => ⟨(hS z hz).mp hs.1, ?_⟩)
      rw [(mf_nx_tl hG hox hz).2]
      have hze : z / 2 ≠ e := by
        intro q
        have : z = 2 * e ∨ z = 2 * e + 1 := by omega
        rcases this with w | w
        · rw [w, td] at hs
          exact hbr (hE.2.1 _ _ hs.2)
        · exact hnd (w ▸ hs.1)
      have hb2 := (hb' (z / 2)).mpr ⟨hz.2, hze⟩
      have hzi : z / 2 < n := by have := hz.1; omega
      have hlz := hG.2 (z / 2) hzi
      have hc : mc_C sm gr (2 ^ P - 1) b' n (sm (z / 2)) (gr (z / 2)) := mc_line hzi hb2 (mc_all.mpr (by omega)) (mc_all.mpr (by omega))
      have hs2 := hs.2
      unfold mf_tl at hs2
      unfold jmWalkAt
      split at hs2
      · next q => rw [if_pos q]; exact hE.2.2 _ _ _ hs2 hc
      · next q => rw [if_neg q]; exact hE.2.2 _ _ _ hs2 (hE.2.1 _ _ hc)
    have h1 := (hA (2 * e) hd).mpr ⟨(hS _ hd).mp hsd, by rw [(mf_nx_tl hG hox hd).2, ad]; exact hE.1 _ trivial⟩
    have h2 := h1.2
    rw [td] at h2
    exact hbr (hE.2.1 _ _ h2)
  exact fun S hS => ⟨half S hS, fun h => Classical.byContradiction (fun q => half (fun z => ¬ S z) (fun z hz => not_congr (hS z hz)) q h)⟩
end ME
/-- twice the parts and the lines that stand: two for each handle, and points and faces -/
theorem me_handles {P n st : Nat} {sm gr co en la le : Nat → Nat} {od : Nat → Nat → Nat} (hw : jmWF P n st sm gr co en la) (hox : jmOX P n sm gr le od) : ∃ h, 2 * jmCPc en (2 ^ P - 1) st n P + jmPop st = 2 * h + P + ((jmLn sm gr n st le od).1 + jmIso la st P) := by
  have hG : mf_G P n sm gr := ⟨hw.2.1, fun i hi => ⟨(hw.2.2.2.1 i hi).1, (hw.2.2.2.1 i hi).2.1⟩⟩
  have hla := hw.2.2.2.2
  have key : ∀ k, k ≤ n → ∃ h, 2 * jmCPc en (2 ^ P - 1) (st % 2 ^ k) n P + jmPop (st % 2 ^ k) = 2 * h + P + (me_cyc sm gr le od n (st % 2 ^ k) + jmIso la (st % 2 ^ k) P) := by
    intro k
    induction k with
    | zero =>
      intro _
      have e0 : st % 2 ^ 0 = 0 := Nat.mod_one st
      rw [e0]
      have c0 : me_cyc sm gr le od n 0 = 0 := ma_S_zero (fun j _ => ma_pc_f (fun z => by have := z.1.2; rw [Nat.zero_testBit] at this; cases this))
      have i0 : jmIso la 0 P = P := by
        rw [me_iso, ma_S_congr (g := fun _ => 1) (fun q _ => ma_pc_t (Nat.and_zero _)), ma_S_const, Nat.mul_one]
      have p0 : jmCPc en (2 ^ P - 1) 0 n P = P := by
        rw [mc_parts hw]
        show ma_S _ P = P
        have h9 : ∀ j, j < P → ma_pc (ma_rp (fun x => (2 ^ P - 1).testBit x = true) (mc_C sm gr (2 ^ P - 1) 0 n) j) = 1 := by
          intro j hj
          refine ma_pc_t ⟨mc_all.mpr hj, fun i hi _ hR => ?_⟩
          have hI : mc_I sm gr (2 ^ P - 1) 0 n (fun z => z = i) := by
            intro x _ hb
            rw [Nat.zero_testBit] at hb
            cases hb
          have h8 : j = i := (hR _ hI).mp rfl
          omega
        rw [ma_S_congr (g := fun _ => 1) h9, ma_S_const, Nat.mul_one]
      have q0 : jmPop 0 = 0 := by decide
      rw [c0, i0, p0, q0]
      exact ⟨0, by omega⟩
    | succ k ih =>
      intro hk
      obtain ⟨h, eh⟩ := ih (by omega)
      have tb : ∀ j i, (st % 2 ^ j).testBit i = (decide (i < j) && st.testBit i) := fun j i => Nat.testBit_mod_two_pow st j i
      cases c : st.testBit k with
      | false =>
        have e : st % 2 ^ (k + 1) = st % 2 ^ k := by
          refine mc_ext (fun i => ?_)
          rw [tb, tb]
          by_cases q : i = k
          · subst q
            rw [c, Bool.and_false, Bool.and_false]
          · rw [show decide (i < k + 1) = decide (i < k) from decide_eq_decide.mpr (by omega)]
        rw [e]
        exact ⟨h, eh⟩
      | true =>
        have hbe : (st % 2 ^ (k + 1)).testBit k = true := by rw [tb, c]; simp
        have hb' : ∀ i, (st % 2 ^ k).testBit i = true ↔ (st % 2 ^ (k + 1)).testBit i = true ∧ i ≠ k := by
          intro i
          rw [tb, tb, Bool.and_eq_true, Bool.and_eq_true, decide_eq_true_eq, decide_eq_true_eq]
          constructor
          · rintro ⟨z1, z2⟩
            exact ⟨⟨by omega, z2⟩, by omega⟩
          · rintro ⟨⟨z1, z2⟩, z3⟩
            exact ⟨by omega, z2⟩
        generalize st % 2 ^ (k + 1) = b at *
        generalize st % 2 ^ k = b' at *
        have he : k < n := by omega
        have hl := hG.2 k he
        have hd : mf_X b n (2 * k) := ⟨by omega, by rw [show 2 * k / 2 = k by omega]; exact hbe⟩
        have hd' : mf_X b n (2 * k + 1) := ⟨by omega, by rw [show (2 * k + 1) / 2 = k by omega]; exact hbe⟩
        have ad : jmWalkAt sm gr (2 * k) = gr k := by unfold jmWalkAt; rw [if_pos (by omega), show 2 * k / 2 = k by omega]
        have ad' : jmWalkAt sm gr (2 * k + 1) = sm k := by unfold jmWalkAt; rw [if_neg (by omega), show (2 * k + 1) / 2 = k by omega]
        have k2 := me_k2 hG hox hla he hb' hd (by omega)
        have k2' := me_k2 hG hox hla he hb' hd' (by omega)
        rw [ad] at k2
        rw [ad'] at k2'
        have htk := me_take hG hox he hbe hb'
        rw [ma_pc_congr k2, ma_pc_congr k2'] at htk
        have hpop : jmPop b = jmPop b' + 1 := me_pop_add (by have := hw.2.1; omega) hbe hb'
        have hiso : jmIso la b' P = jmIso la b P + ma_pc (la (sm k) &&& b' = 0) + ma_pc (la (gr k) &&& b' = 0) := by
          rw [me_iso, me_iso]
          have hq : ∀ q, q < P → ma_pc (la q &&& b' = 0) = (ma_pc (la q &&& b = 0) + ma_pc (q = sm k ∧ la (sm k) &&& b' = 0)) + ma_pc (q = gr k ∧ la (gr k) &&& b' = 0) := by
            intro q hqP
            have hz : ∀ x, (la x &&& b = 0) → (la x &&& b' = 0) := by
              intro x h0
              refine mc_ext (fun i => ?_)
              rw [Nat.zero_testBit, Nat.testBit_and, Bool.and_eq_true]
              refine ⟨fun z => ?_, fun z => (by cases z)⟩
              have : (la x &&& b).testBit i = true := by rw [Nat.testBit_and, z.1, ((hb' i).mp z.2).1]; rfl
              rw [h0, Nat.zero_testBit] at this
              exact this
            have hnz : ∀ x, x < P → (x = sm k ∨ x = gr k) → la x &&& b ≠ 0 := by
              intro x hxP hx h0
              have h5 : (la x).testBit k = true := (hla x hxP k).mpr ⟨he, hx.elim (fun z => Or.inl z.symm) (fun z => Or.inr z.symm)⟩
              have : (la x &&& b).testBit k = true := by rw [Nat.testBit_and, h5, hbe]; rfl
              rw [h0, Nat.zero_testBit] at this
              cases this
            by_cases q1 : q = sm k
            · subst q1
              have e1 : ma_pc (la (sm k) &&& b = 0) = 0 := ma_pc_f (hnz _ hqP (Or.inl rfl))
              have e2 : ma_pc (sm k = sm k ∧ la (sm k) &&& b' = 0) = ma_pc (la (sm k) &&& b' = 0) := ma_pc_congr ⟨fun z => z.2, fun z => ⟨rfl, z⟩⟩
              have e3 : ma_pc (sm k = gr k ∧ la (gr k) &&& b' = 0) = 0 := ma_pc_f (fun z => by have := z.1; omega)
              omega
            · by_cases q2 : q = gr k
              · subst q2
                have e1 : ma_pc (la (gr k) &&& b = 0) = 0 := ma_pc_f (hnz _ hqP (Or.inr rfl))
                have e2 : ma_pc (gr k = gr k ∧ la (gr k) &&& b' = 0) = ma_pc (la (gr k) &&& b' = 0) := ma_pc_congr ⟨fun z => z.2, fun z => ⟨rfl, z⟩⟩
                have e3 : ma_pc (gr k = sm k ∧ la (sm k) &&& b' = 0) = 0 := ma_pc_f (fun z => q1 z.1)
                omega
              · have e2 : ma_pc (q = sm k ∧ la (sm k) &&& b' = 0) = 0 := ma_pc_f (fun z => q1 z.1)
                have e3 : ma_pc (q = gr k ∧ la (gr k) &&& b' = 0) = 0 := ma_pc_f (fun z => q2 z.1)
                rw [e2, e3, Nat.add_zero]
                refine ma_pc_congr ⟨fun h0 => ?_, hz q⟩
                refine mc_ext (fun i => ?_)
                rw [Nat.zero_testBit, Nat.testBit_and, Bool.and_eq_true]
                refine ⟨fun z => ?_, fun z => (by cases z)⟩
                have hi := (hla q hqP i).mp z.1
                have hik : i ≠ k := by
                  intro w
                  rw [w] at hi
                  omega
                have : (la q &&& b').testBit i = true := by rw [Nat.testBit_and, z.1, (hb' i).mpr ⟨z.2, hik⟩]; rfl
                rw [h0, Nat.zero_testBit] at this
                exact this
          have s1 : ∀ (x : Nat) (p : Prop), x < P → ma_S (fun q => ma_pc (q = x ∧ p)) P = ma_pc p := by
            intro x p hx
            rw [ma_S_at (f := fun q => ma_pc (q = x ∧ p)) hx (fun j _ hj => ma_pc_f (fun z => hj z.1))]
            exact ma_pc_congr ⟨fun z => z.2, fun z => ⟨rfl, z⟩⟩
          rw [ma_S_congr hq, ma_S_add, ma_S_add, s1 _ _ (by omega), s1 _ _ hl.2]
        have hpt := mc_add_parts hw he hbe hb'
        have hF := mf_perm hG hox b
        by_cases O : ma_O (mf_X b n) (jmWalk sm gr b le od) (2 * k) (2 * k + 1)
        · have t2 := ma_O_T2 hF hd hd' (by omega) O
          have t2' : me_cyc sm gr le od n b + 1 = ma_K (2 * n) (mf_X b n) (ma_O (mf_X b n) (ma_T (jmWalk sm gr b le od) (2 * k) (2 * k + 1))) := t2
          by_cases C : mc_C sm gr (2 ^ P - 1) b' n (sm k) (gr k)
          · have := hpt.1 C
            exact ⟨h + 1, by omega⟩
          · have := hpt.2 C
            exact ⟨h, by omega⟩
        · have t1 := ma_O_T1 hF hd hd' O
          have t1' : ma_K (2 * n) (mf_X b n) (ma_O (mf_X b n) (ma_T (jmWalk sm gr b le od) (2 * k) (2 * k + 1))) + 1 = me_cyc sm gr le od n b := t1
          by_cases C : mc_C sm gr (2 ^ P - 1) b' n (sm k) (gr k)
          · have := hpt.1 C
            exact ⟨h, by omega⟩
          · exact absurd (me_bridge hG hox he hbe hb' C) O
  obtain ⟨h, eh⟩ := key n (Nat.le_refl n)
  rw [Nat.mod_eq_of_lt hw.2.2.1] at eh
  refine ⟨h, ?_⟩
  rw [eh]
  show _ = 2 * h + P + ((jmLe (jmWalk sm gr st le od) st (2 * n)).1 + jmIso la st P)
  rw [mf_faces hw.2.1 (mf_perm hG hox st)]
  rfl
