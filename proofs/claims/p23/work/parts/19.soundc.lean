set_option maxRecDepth 20000 in
theorem in_X6_isSound_6 : ∀ w ∈ wsX60, w ∈ wsX6_isSound := by decide +kernel
set_option maxRecDepth 20000 in
theorem in_X6_isSound_5 : ∀ w ∈ wsX50, w ∈ wsX6_isSound := by decide +kernel
set_option maxRecDepth 20000 in
theorem in_X6_isSound_4 : ∀ w ∈ wsX40, w ∈ wsX6_isSound := by decide +kernel
set_option maxRecDepth 20000 in
theorem in_X6_isSound_1 : ∀ w ∈ wsX10, w ∈ wsX6_isSound := by decide +kernel
set_option maxRecDepth 20000 in
theorem in_X6_isSound_0 : ∀ w ∈ wsX00, w ∈ wsX6_isSound := by decide +kernel
set_option maxRecDepth 20000 in
theorem in_X6_isSound_2 : ∀ w ∈ wsX20, w ∈ wsX6_isSound := by decide +kernel
set_option maxRecDepth 20000 in
theorem in_X6_isSound_3 : ∀ w ∈ wsX30, w ∈ wsX6_isSound := by decide +kernel
set_option maxHeartbeats 40000000 in
set_option maxRecDepth 100000 in
/-- isSound() -/
theorem c_X6_isSound (l : Launch) (D : va_G) (cI : ClassId) (cO : ClassId) (cM : ClassId) (cL : ClassId) (g : Nat → Nat) (P n st : Nat) (sm gr co en la : Nat → Nat) (fp fb fc fk fq ft : Nat) (pa ps fi : Nat → Nat) (bl : Nat → Int32) (sp gp sw gw : Nat → Nat) (ro : Nat → Nat) (ca : Nat → Int32) (qu : Nat → Nat) (rm : Nat → Nat → Int32) (rt : Nat → Nat) (cs : Nat) (ct : Int32) (jo : Nat → Nat) (tb : Nat → Nat → Int64) (pk : Nat) (cl : Nat → Nat) (rd le : Nat → Nat) (wk : Nat) (fa : Nat → Int32) (rf : Int32) (sz : Nat) (hw : jmWF P n st sm gr co en la) (hqu : ∀ j, j < 16 → qu j < 16) (hAW : ∀ a o, a < P → o < P → a ≠ o → jmWok sm gr en la P n st a o) (hHd : ¬ jmHandles la P st fp wk < 0) (hfp : fp ≤ 16) (hwk : wk ≤ 32) (hcl : ∀ j, j < 8 → cl j < 256) (hT : (fp = 1 → 0 < (jmTrees sm gr P n st).1) ∧ (fp ≠ 1 → fp = 0 ∨ (jmTrees sm gr P n st).1 = 0)) (hC : ∀ i, i < n → st.testBit i = true → cl (sm i) ≠ cl (gr i)) (hfb : fb < 65536) (hfk : fk ≤ 16) (hB : ∀ i, i < n → jmBok n st fb fk bl i)  : jxWi l yX6_isSound wsX6_isSound ({ frames := 5, cells := 0, slots := 0, locals := 125 } : Room) D [(cI, .int), (cO, .array .int), (cM, .array .long), (cL, .long)] (jW cI g P n st sm gr co en la ++ jF cI g fp fb fc fk fq ft pa ps fi bl sp gp sw gw ++ jY cI cO g ro ca qu ++ jRI cI 16 16 ro rm ++ jT cI cM g rt cs ct jo ++ jRL cL 8 8 rt tb ++ jP cI g pk cl ++ jD cI cO g rd le wk fa ++ jC g rf) [.ref (g 60)] sz (fun r => r = nI 1) (jW cI g P n st sm gr co en la ++ jF cI g fp fb fc fk fq ft pa ps fi bl sp gp sw gw ++ jY cI cO g ro ((jmAp sm gr P n st P (rm, ca, qu)).2.1) ((jmAp sm gr P n st P (rm, ca, qu)).2.2) ++ jRI cI 16 16 ro ((jmAp sm gr P n st P (rm, ca, qu)).1) ++ jT cI cM g rt cs ct jo ++ jRL cL 8 8 rt ((jmTrees sm gr P n st).2) ++ jP cI g pk cl ++ jD cI cO g rd le wk fa ++ jC g rf) := by
  refine jxw_enterZ (by decide) rfl (Nat.le_of_ble_eq_true rfl) ?_
  intro p e s m args below meth c Q A ls hx hb hml hts hown hN hP hK hD hA hl hQ
  have hD0 := hD
  have hDA : (jW cI g P n st sm gr co en la ++ jF cI g fp fb fc fk fq ft pa ps fi bl sp gp sw gw ++ jY cI cO g ro ca qu ++ jRI cI 16 16 ro rm ++ jT cI cM g rt cs ct jo ++ jRL cL 8 8 rt tb ++ jP cI g pk cl ++ jD cI cO g rd le wk fa ++ jC g rf).map Prod.fst = [g 0, g 1, g 2, g 3, g 4, g 5, g 10, g 11, g 12, g 13, g 14, g 15, g 16, g 17, g 18, g 20, g 21, g 22, g 23, ro 0, ro 1, ro 2, ro 3, ro 4, ro 5, ro 6, ro 7, ro 8, ro 9, ro 10, ro 11, ro 12, ro 13, ro 14, ro 15, g 30, g 31, g 32, rt 0, rt 1, rt 2, rt 3, rt 4, rt 5, rt 6, rt 7, g 40, g 41, g 50, g 51, g 52, g 53, g 60] := rfl
  obtain ⟨H, hH⟩ : ∃ h, h = s.heap := ⟨_, rfl⟩
  have hS : va_S A s.heap H [] := by rw [hH]; exact va_S.rf
  rw [← hH] at hP ⊢
  obtain ⟨locs, hlocs⟩ : ∃ z : List Loc, z = [] := ⟨_, rfl⟩
  rw [← hlocs] at hS ⊢
  have hown : s.vm.findClass RX6 = some m.cls := hown
  have hl : lv_has ls 1 [(0, .ref (g 60))] := hl
  have hP8 : P ≤ 8 := hw.1
  have hn16 : n ≤ 16 := hw.2.1
  have hst : st < 65536 := jmWF_st hw
  have hen : ∀ j, j < n → en j < 256 := jmWF_en hw
  have hla : ∀ q, q < P → la q < 65536 := jmWF_la hw
  have hgr : ∀ j, j < n → sm j < 8 ∧ gr j < 8 := jmWF_gr hw
  have hco : ∀ j, j < n → co j < 21 := jmWF_co hw
  refine lv_aload_n hx hb dX6_isSound_0 rfl (lv_at hl 0 rfl) ?_
  refine jxw_callVi (X := jW cI g P n st sm gr co en la ++ jF cI g fp fb fc fk fq ft pa ps fi bl sp gp sw gw ++ jY cI cO g ro ca qu ++ jRI cI 16 16 ro rm ++ jT cI cM g rt cs ct jo ++ jRL cL 8 8 rt tb ++ jP cI g pk cl ++ jD cI cO g rd le wk fa ++ jC g rf) (X' := jW cI g P n st sm gr co en la ++ jF cI g fp fb fc fk fq ft pa ps fi bl sp gp sw gw ++ jY cI cO g ro ((jmAp sm gr P n st P (rm, ca, qu)).2.1) ((jmAp sm gr P n st P (rm, ca, qu)).2.2) ++ jRI cI 16 16 ro ((jmAp sm gr P n st P (rm, ca, qu)).1) ++ jT cI cM g rt cs ct jo ++ jRL cL 8 8 rt tb ++ jP cI g pk cl ++ jD cI cO g rd le wk fa ++ jC g rf) (wc := jW cI g P n st sm gr co en la ++ jY cI cO g ro ca qu ++ jRI cI 16 16 ro rm ++ jC g rf) (wc' := jW cI g P n st sm gr co en la ++ jY cI cO g ro ((jmAp sm gr P n st P (rm, ca, qu)).2.1) ((jmAp sm gr P n st P (rm, ca, qu)).2.2) ++ jRI cI 16 16 ro ((jmAp sm gr P n st P (rm, ca, qu)).1) ++ jC g rf) (wr := jF cI g fp fb fc fk fq ft pa ps fi bl sp gp sw gw ++ jT cI cM g rt cs ct jo ++ jRL cL 8 8 rt tb ++ jP cI g pk cl ++ jD cI cO g rd le wk fa) (N := 53) (As := []) (rest := []) ⟨hx, hb, hml, hown, hts⟩ (c_X6_areAllWaysSound l D cI cO g P n st sm gr co en la ro ca qu rm rf H.size hw hqu hAW) (cwV 0 hts gX6_isSound_X6_areAllWaysSound rfl rfl rfl (by decide +kernel) ⟨Nat.le_of_ble_eq_true rfl, Nat.le_of_ble_eq_true rfl⟩) hN hP hD (hK.sub (tys' := [(cI, .int), (cO, .array .int)]) [0, 1] rfl) hS hA [0, 1, 2, 3, 4, 5, 15, 16, 17, 18, 19, 20, 21, 22, 23, 24, 25, 26, 27, 28, 29, 30, 31, 32, 33, 34, 52] [6, 7, 8, 9, 10, 11, 12, 13, 14, 35, 36, 37, 38, 39, 40, 41, 42, 43, 44, 45, 46, 47, 48, 49, 50, 51] rfl rfl rfl rfl rfl rfl (by decide +kernel) (by decide +kernel) 52 6 rfl rfl rfl (hK.sub (tys' := [(cI, .int), (cO, .array .int)]) [0, 1] rfl) rfl hl.1 rfl (Nat.le_of_ble_eq_true rfl) dX6_isSound_1 ⟨Nat.zero_le _, Nat.zero_le _⟩ (fun r H locs hr hP hS => ?_)
  have hD : va_D A (jW cI g P n st sm gr co en la ++ jF cI g fp fb fc fk fq ft pa ps fi bl sp gp sw gw ++ jY cI cO g ro ((jmAp sm gr P n st P (rm, ca, qu)).2.1) ((jmAp sm gr P n st P (rm, ca, qu)).2.2) ++ jRI cI 16 16 ro ((jmAp sm gr P n st P (rm, ca, qu)).1) ++ jT cI cM g rt cs ct jo ++ jRL cL 8 8 rt tb ++ jP cI g pk cl ++ jD cI cO g rd le wk fa ++ jC g rf) := jxD2 hD0 hDA rfl
  subst hr
  refine lv_if_eq (tgt := 39) hx hb dX6_isSound_4 (by decide) (fun c => absurd c (by decide)) (fun _ => ?_)
  refine lv_aload_n hx hb dX6_isSound_7 rfl (lv_at hl 0 rfl) ?_
  refine jx_callV (As := []) (rest := []) ⟨hx, hb, hml, hown, hts⟩ (c_X6_handles l D cI cO g P n st sm gr co en la fp fb fc fk fq ft pa ps fi bl sp gp sw gw rd le wk fa rf hw (by omega) (by omega)) (cwV 0 hts gX6_isSound_X6_handles rfl rfl rfl (by decide +kernel) ⟨Nat.le_of_ble_eq_true rfl, Nat.le_of_ble_eq_true rfl⟩) hN (hP.sub (ws' := jW cI g P n st sm gr co en la ++ jF cI g fp fb fc fk fq ft pa ps fi bl sp gp sw gw ++ jD cI cO g rd le wk fa ++ jC g rf) [0, 1, 2, 3, 4, 5, 6, 7, 8, 9, 10, 11, 12, 13, 14, 48, 49, 50, 51, 52] rfl) (hK.sub (tys' := [(cI, .int), (cO, .array .int)]) [0, 1] rfl) 19 6 rfl rfl rfl rfl hl.1 rfl (Nat.le_of_ble_eq_true rfl) dX6_isSound_8 ⟨Nat.zero_le _, Nat.zero_le _⟩ (fun r hr => ?_)
  subst hr
  refine lv_if_lt (tgt := 39) hx hb dX6_isSound_11 (by decide) (fun c11 => ?_) (fun c11 => ?_)
  · skip
    exact absurd c11 hHd
  · skip
    refine lv_aload_n hx hb dX6_isSound_14 rfl (lv_at hl 0 rfl) ?_
    refine jxw_callVi (X := jW cI g P n st sm gr co en la ++ jF cI g fp fb fc fk fq ft pa ps fi bl sp gp sw gw ++ jY cI cO g ro ((jmAp sm gr P n st P (rm, ca, qu)).2.1) ((jmAp sm gr P n st P (rm, ca, qu)).2.2) ++ jRI cI 16 16 ro ((jmAp sm gr P n st P (rm, ca, qu)).1) ++ jT cI cM g rt cs ct jo ++ jRL cL 8 8 rt tb ++ jP cI g pk cl ++ jD cI cO g rd le wk fa ++ jC g rf) (X' := jW cI g P n st sm gr co en la ++ jF cI g fp fb fc fk fq ft pa ps fi bl sp gp sw gw ++ jY cI cO g ro ((jmAp sm gr P n st P (rm, ca, qu)).2.1) ((jmAp sm gr P n st P (rm, ca, qu)).2.2) ++ jRI cI 16 16 ro ((jmAp sm gr P n st P (rm, ca, qu)).1) ++ jT cI cM g rt cs ct jo ++ jRL cL 8 8 rt ((jmTrees sm gr P n st).2) ++ jP cI g pk cl ++ jD cI cO g rd le wk fa ++ jC g rf) (wc := jW cI g P n st sm gr co en la ++ jF cI g fp fb fc fk fq ft pa ps fi bl sp gp sw gw ++ jT cI cM g rt cs ct jo ++ jRL cL 8 8 rt tb ++ jC g rf) (wc' := jW cI g P n st sm gr co en la ++ jF cI g fp fb fc fk fq ft pa ps fi bl sp gp sw gw ++ jT cI cM g rt cs ct jo ++ jRL cL 8 8 rt ((jmTrees sm gr P n st).2) ++ jC g rf) (wr := jY cI cO g ro ((jmAp sm gr P n st P (rm, ca, qu)).2.1) ((jmAp sm gr P n st P (rm, ca, qu)).2.2) ++ jRI cI 16 16 ro ((jmAp sm gr P n st P (rm, ca, qu)).1) ++ jP cI g pk cl ++ jD cI cO g rd le wk fa) (N := 53) (As := []) (rest := []) ⟨hx, hb, hml, hown, hts⟩ (c_X6_areTreesSound l D cI cM cL g P n st sm gr co en la fp fb fc fk fq ft pa ps fi bl sp gp sw gw rt cs ct jo tb rf H.size hw (by omega) hT) (cwV 0 hts gX6_isSound_X6_areTreesSound rfl rfl rfl (by decide +kernel) ⟨Nat.le_of_ble_eq_true rfl, Nat.le_of_ble_eq_true rfl⟩) hN hP hD (hK.sub (tys' := [(cI, .int), (cM, .array .long), (cL, .long)]) [0, 2, 3] rfl) hS hA [0, 1, 2, 3, 4, 5, 6, 7, 8, 9, 10, 11, 12, 13, 14, 35, 36, 37, 38, 39, 40, 41, 42, 43, 44, 45, 52] [15, 16, 17, 18, 19, 20, 21, 22, 23, 24, 25, 26, 27, 28, 29, 30, 31, 32, 33, 34, 46, 47, 48, 49, 50, 51] rfl rfl rfl rfl rfl rfl (by decide +kernel) (by decide +kernel) 52 6 rfl rfl rfl (hK.sub (tys' := [(cI, .int), (cM, .array .long), (cL, .long)]) [0, 2, 3] rfl) rfl hl.1 rfl (Nat.le_of_ble_eq_true rfl) dX6_isSound_15 ⟨Nat.zero_le _, Nat.zero_le _⟩ (fun r H locs hr hP hS => ?_)
    have hD : va_D A (jW cI g P n st sm gr co en la ++ jF cI g fp fb fc fk fq ft pa ps fi bl sp gp sw gw ++ jY cI cO g ro ((jmAp sm gr P n st P (rm, ca, qu)).2.1) ((jmAp sm gr P n st P (rm, ca, qu)).2.2) ++ jRI cI 16 16 ro ((jmAp sm gr P n st P (rm, ca, qu)).1) ++ jT cI cM g rt cs ct jo ++ jRL cL 8 8 rt ((jmTrees sm gr P n st).2) ++ jP cI g pk cl ++ jD cI cO g rd le wk fa ++ jC g rf) := jxD2 hD0 hDA rfl
    subst hr
    refine lv_if_eq (tgt := 39) hx hb dX6_isSound_18 (by decide) (fun c => absurd c (by decide)) (fun _ => ?_)
    refine lv_aload_n hx hb dX6_isSound_21 rfl (lv_at hl 0 rfl) ?_
    refine jx_callV (As := []) (rest := []) ⟨hx, hb, hml, hown, hts⟩ (c_X6_isColouringSound l D cI g P n st sm gr co en la pk cl rf hw hcl hC) (cwV 0 hts gX6_isSound_X6_isColouringSound rfl rfl rfl (by decide +kernel) ⟨Nat.le_of_ble_eq_true rfl, Nat.le_of_ble_eq_true rfl⟩) hN (hP.sub (ws' := jW cI g P n st sm gr co en la ++ jP cI g pk cl ++ jC g rf) [0, 1, 2, 3, 4, 5, 46, 47, 52] rfl) (hK.sub (tys' := [(cI, .int)]) [0] rfl) 8 6 rfl rfl rfl rfl hl.1 rfl (Nat.le_of_ble_eq_true rfl) dX6_isSound_22 ⟨Nat.zero_le _, Nat.zero_le _⟩ (fun r hr => ?_)
    subst hr
    refine lv_if_eq (tgt := 39) hx hb dX6_isSound_25 (by decide) (fun c => absurd c (by decide)) (fun _ => ?_)
    refine lv_aload_n hx hb dX6_isSound_28 rfl (lv_at hl 0 rfl) ?_
    refine jx_callV (As := []) (rest := []) ⟨hx, hb, hml, hown, hts⟩ (c_X6_areBlocksSound l D cI g P n st sm gr co en la fp fb fc fk fq ft pa ps fi bl sp gp sw gw rf hw hfb hfk hB) (cwV 0 hts gX6_isSound_X6_areBlocksSound rfl rfl rfl (by decide +kernel) ⟨Nat.le_of_ble_eq_true rfl, Nat.le_of_ble_eq_true rfl⟩) hN (hP.sub (ws' := jW cI g P n st sm gr co en la ++ jF cI g fp fb fc fk fq ft pa ps fi bl sp gp sw gw ++ jC g rf) [0, 1, 2, 3, 4, 5, 6, 7, 8, 9, 10, 11, 12, 13, 14, 52] rfl) (hK.sub (tys' := [(cI, .int)]) [0] rfl) 15 6 rfl rfl rfl rfl hl.1 rfl (Nat.le_of_ble_eq_true rfl) dX6_isSound_29 ⟨Nat.zero_le _, Nat.zero_le _⟩ (fun r hr => ?_)
    subst hr
    refine lv_if_eq (tgt := 39) hx hb dX6_isSound_32 (by decide) (fun c => absurd c (by decide)) (fun _ => ?_)
    refine lv_iconst (v := nI 1) hx hb dX6_isSound_35 (by decide) ?_
    refine lv_goto (tgt := 40) hx hb dX6_isSound_36 (by decide) ?_
    exact hQ true H locs _ _ dX6_isSound_40 rfl hP hS
