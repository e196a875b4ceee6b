set_option maxRecDepth 20000 in
theorem in_X6_ofPoint_6 : ∀ w ∈ wsX60, w ∈ wsX6_ofPoint := by decide +kernel
set_option maxRecDepth 20000 in
theorem in_X6_ofPoint_1 : ∀ w ∈ wsX10, w ∈ wsX6_ofPoint := by decide +kernel
set_option maxRecDepth 20000 in
theorem in_X6_ofPoint_3 : ∀ w ∈ wsX30, w ∈ wsX6_ofPoint := by decide +kernel
set_option maxRecDepth 20000 in
theorem in_X6_ofPoint_0 : ∀ w ∈ wsX00, w ∈ wsX6_ofPoint := by decide +kernel
set_option maxRecDepth 20000 in
theorem in_X6_ofPoint_5 : ∀ w ∈ wsX50, w ∈ wsX6_ofPoint := by decide +kernel
set_option maxHeartbeats 4000000 in
set_option maxRecDepth 100000 in
/-- ofPoint(point, what), asked 0 -/
theorem c_X6_ofPoint_0 (l : Launch) (D : va_G) (cI : ClassId) (cO : ClassId) (g : Nat → Nat) (P n st : Nat) (sm gr co en la : Nat → Nat) (fp fb fc fk fq ft : Nat) (pa ps fi : Nat → Nat) (bl : Nat → Int32) (sp gp sw gw : Nat → Nat) (pk : Nat) (cl : Nat → Nat) (rd le : Nat → Nat) (wk : Nat) (fa : Nat → Int32) (rf : Int32) (sz : Nat) (hw : jmWF P n st sm gr co en la) (q : Nat) (hq : q < P) (hfc : fc < 65536) (hbl : ∀ j, j < n → st.testBit j = true → ∃ b, b < 16 ∧ bl j = nI b) : jxWi l yX6_ofPoint wsX6_ofPoint ({ frames := 2, cells := 0, slots := 0, locals := 44 } : Room) D [(cI, .int), (cO, .array .int)] (jW cI g P n st sm gr co en la ++ jF cI g fp fb fc fk fq ft pa ps fi bl sp gp sw gw ++ jP cI g pk cl ++ jD cI cO g rd le wk fa ++ jC g rf) [.ref (g 60), .int (nI q), .int (nI 0)] sz (fun r => r = jmOfP en la n st fc pa bl cl le q 0) (jW cI g P n st sm gr co en la ++ jF cI g fp fb fc fk fq ft pa ps fi bl sp gp sw gw ++ jP cI g pk cl ++ jD cI cO g rd le wk fa ++ jC g rf) := by
  refine jxw_enter (by decide) rfl (Nat.le_of_ble_eq_true rfl) ?_
  intro p e s m args below meth c Q A ls hx hb hml hts hown hN hP hK hD hA hl hQ
  have hD0 := hD
  obtain ⟨H, hH⟩ : ∃ h, h = s.heap := ⟨_, rfl⟩
  have hS : va_S A s.heap H [] := by rw [hH]; exact va_S.rf
  rw [← hH] at hP ⊢
  obtain ⟨locs, hlocs⟩ : ∃ z : List Loc, z = [] := ⟨_, rfl⟩
  rw [← hlocs] at hS ⊢
  have hown : s.vm.findClass RX6 = some m.cls := hown
  have hl : lv_has ls 3 [(0, .ref (g 60)), (1, .int (nI q)), (2, .int (nI 0))] := hl
  have hP8 : P ≤ 8 := hw.1
  have hn16 : n ≤ 16 := hw.2.1
  have hst : st < 65536 := jmWF_st hw
  have hen : ∀ j, j < n → en j < 256 := jmWF_en hw
  have hla : ∀ q, q < P → la q < 65536 := jmWF_la hw
  have hgr : ∀ j, j < n → sm j < 8 ∧ gr j < 8 := jmWF_gr hw
  have hco : ∀ j, j < n → co j < 21 := jmWF_co hw
  refine lv_aload_n hx hb dX6_ofPoint_0 rfl (lv_at hl 0 rfl) ?_
  refine lv_iload_n hx hb dX6_ofPoint_1 rfl (lv_at hl 1 rfl) ?_
  refine jxw_callV (X := jW cI g P n st sm gr co en la ++ jF cI g fp fb fc fk fq ft pa ps fi bl sp gp sw gw ++ jP cI g pk cl ++ jD cI cO g rd le wk fa ++ jC g rf) (X' := jW cI g P n st sm gr co en la ++ jF cI g fp fb fc fk fq ft pa ps fi bl sp gp sw gw ++ jP cI g pk cl ++ jD cI cO g rd le wk fa ++ jC g rf) (wc := jW cI g P n st sm gr co en la ++ jC g rf) (wc' := jW cI g P n st sm gr co en la ++ jC g rf) (wr := jF cI g fp fb fc fk fq ft pa ps fi bl sp gp sw gw ++ jP cI g pk cl ++ jD cI cO g rd le wk fa) (N := 22) (As := [.int (nI q)]) (rest := []) ⟨hx, hb, hml, hown, hts⟩ (c_X6_demandPoint l D cI g P n st sm gr co en la rf H.size hw q (by omega)) (cwV 1 hts gX6_ofPoint_X6_demandPoint rfl rfl rfl (by decide +kernel) ⟨Nat.le_of_ble_eq_true rfl, Nat.le_of_ble_eq_true rfl⟩) hN hP hD (hK.sub (tys' := [(cI, .int)]) [0] rfl) hS hA [0, 1, 2, 3, 4, 5, 21] [6, 7, 8, 9, 10, 11, 12, 13, 14, 15, 16, 17, 18, 19, 20] rfl rfl rfl rfl rfl rfl (by decide) (by decide) 21 6 rfl rfl rfl (hK.sub (tys' := [(cI, .int)]) [0] rfl) rfl hl.1 rfl (Nat.le_of_ble_eq_true rfl) dX6_ofPoint_2 ⟨Nat.zero_le _, Nat.zero_le _⟩ (fun H locs hP hS => ?_)
  have hD : va_D A (jW cI g P n st sm gr co en la ++ jF cI g fp fb fc fk fq ft pa ps fi bl sp gp sw gw ++ jP cI g pk cl ++ jD cI cO g rd le wk fa ++ jC g rf) := jxD hD0 rfl
  refine lv_iload_n hx hb dX6_ofPoint_5 rfl (lv_at hl 2 rfl) ?_
  refine lv_bipush (v := nI 6) hx hb dX6_ofPoint_6 (by decide) ?_
  refine jxw_callSv (X := jW cI g P n st sm gr co en la ++ jF cI g fp fb fc fk fq ft pa ps fi bl sp gp sw gw ++ jP cI g pk cl ++ jD cI cO g rd le wk fa ++ jC g rf) (X' := jW cI g P n st sm gr co en la ++ jF cI g fp fb fc fk fq ft pa ps fi bl sp gp sw gw ++ jP cI g pk cl ++ jD cI cO g rd le wk fa ++ jC g rf) (wc := []) (wc' := []) (wr := jW cI g P n st sm gr co en la ++ jF cI g fp fb fc fk fq ft pa ps fi bl sp gp sw gw ++ jP cI g pk cl ++ jD cI cO g rd le wk fa ++ jC g rf) (N := 22) (As := [.int (nI 0), .int (nI 6)]) (rest := []) ⟨hx, hb, hml, hown, hts⟩ (c_X6_demandWhat l D g H.size 0 6 (by omega) (by omega)) (va_cwS 2 hts gX6_ofPoint_X6_demandWhat rfl rfl rfl (by decide +kernel) ⟨Nat.le_of_ble_eq_true rfl, Nat.le_of_ble_eq_true rfl⟩) hN hP hD (hK.sub (tys' := []) [] rfl) hS hA [] [0, 1, 2, 3, 4, 5, 6, 7, 8, 9, 10, 11, 12, 13, 14, 15, 16, 17, 18, 19, 20, 21] rfl rfl rfl rfl rfl rfl (by decide) (by decide) rfl hl.1 rfl (Nat.le_of_ble_eq_true rfl) dX6_ofPoint_8 ⟨Nat.zero_le _, Nat.zero_le _⟩ (fun H locs hP hS => ?_)
  have hD : va_D A (jW cI g P n st sm gr co en la ++ jF cI g fp fb fc fk fq ft pa ps fi bl sp gp sw gw ++ jP cI g pk cl ++ jD cI cO g rd le wk fa ++ jC g rf) := jxD hD0 rfl
  refine lv_iload_n hx hb dX6_ofPoint_11 rfl (lv_at hl 2 rfl) ?_
  refine lv_tableIn (off := 40) (tgt := 52) hx hb dX6_ofPoint_12 (by decide +kernel) (by decide +kernel) (by decide +kernel) (by decide) ?_
  refine lv_aload_n hx hb dX6_ofPoint_52 rfl (lv_at hl 0 rfl) ?_
  refine va_get (D := D) (ci := 6) (v := .ref (g 10)) (C := RX6) (T := TX6) (N := 7) hx hb hts in_X6_ofPoint_6 hown hK hP 21 rfl rfl 1 (by decide) (hts (.fieldLink RX6 21 "Twincuts" "falls" "LTwincuts$Falls;") (List.mem_of_getElem? (i := 1) (by decide +kernel))) (fun _ h9 => h9) rfl dX6_ofPoint_53 ?_
  refine va_getN (D := D) (ci := 1) (v := .ref (g 11)) (C := RX1) (T := TX1) (N := 15) hx hb hts in_X6_ofPoint_1 hown hK hP 6 rfl rfl 7 (by decide) (hN.use 32 rfl) (fun _ h9 => h9) rfl dX6_ofPoint_56 ?_
  refine lv_iload_n hx hb dX6_ofPoint_59 rfl (lv_at hl 1 rfl) ?_
  refine jx_iald hx hb hK hP 7 0 rfl rfl (by omega) (by decide) dX6_ofPoint_60 ?_
  exact hQ (nI (pa q)) H locs _ _ dX6_ofPoint_61 rfl hP hS
set_option maxHeartbeats 4000000 in
set_option maxRecDepth 100000 in
/-- ofPoint(point, what), asked 1 -/
theorem c_X6_ofPoint_1 (l : Launch) (D : va_G) (cI : ClassId) (cO : ClassId) (g : Nat → Nat) (P n st : Nat) (sm gr co en la : Nat → Nat) (fp fb fc fk fq ft : Nat) (pa ps fi : Nat → Nat) (bl : Nat → Int32) (sp gp sw gw : Nat → Nat) (pk : Nat) (cl : Nat → Nat) (rd le : Nat → Nat) (wk : Nat) (fa : Nat → Int32) (rf : Int32) (sz : Nat) (hw : jmWF P n st sm gr co en la) (q : Nat) (hq : q < P) (hfc : fc < 65536) (hbl : ∀ j, j < n → st.testBit j = true → ∃ b, b < 16 ∧ bl j = nI b) : jxWi l yX6_ofPoint wsX6_ofPoint ({ frames := 2, cells := 0, slots := 0, locals := 44 } : Room) D [(cI, .int), (cO, .array .int)] (jW cI g P n st sm gr co en la ++ jF cI g fp fb fc fk fq ft pa ps fi bl sp gp sw gw ++ jP cI g pk cl ++ jD cI cO g rd le wk fa ++ jC g rf) [.ref (g 60), .int (nI q), .int (nI 1)] sz (fun r => r = jmOfP en la n st fc pa bl cl le q 1) (jW cI g P n st sm gr co en la ++ jF cI g fp fb fc fk fq ft pa ps fi bl sp gp sw gw ++ jP cI g pk cl ++ jD cI cO g rd le wk fa ++ jC g rf) := by
  refine jxw_enter (by decide) rfl (Nat.le_of_ble_eq_true rfl) ?_
  intro p e s m args below meth c Q A ls hx hb hml hts hown hN hP hK hD hA hl hQ
  have hD0 := hD
  obtain ⟨H, hH⟩ : ∃ h, h = s.heap := ⟨_, rfl⟩
  have hS : va_S A s.heap H [] := by rw [hH]; exact va_S.rf
  rw [← hH] at hP ⊢
  obtain ⟨locs, hlocs⟩ : ∃ z : List Loc, z = [] := ⟨_, rfl⟩
  rw [← hlocs] at hS ⊢
  have hown : s.vm.findClass RX6 = some m.cls := hown
  have hl : lv_has ls 3 [(0, .ref (g 60)), (1, .int (nI q)), (2, .int (nI 1))] := hl
  have hP8 : P ≤ 8 := hw.1
  have hn16 : n ≤ 16 := hw.2.1
  have hst : st < 65536 := jmWF_st hw
  have hen : ∀ j, j < n → en j < 256 := jmWF_en hw
  have hla : ∀ q, q < P → la q < 65536 := jmWF_la hw
  have hgr : ∀ j, j < n → sm j < 8 ∧ gr j < 8 := jmWF_gr hw
  have hco : ∀ j, j < n → co j < 21 := jmWF_co hw
  refine lv_aload_n hx hb dX6_ofPoint_0 rfl (lv_at hl 0 rfl) ?_
  refine lv_iload_n hx hb dX6_ofPoint_1 rfl (lv_at hl 1 rfl) ?_
  refine jxw_callV (X := jW cI g P n st sm gr co en la ++ jF cI g fp fb fc fk fq ft pa ps fi bl sp gp sw gw ++ jP cI g pk cl ++ jD cI cO g rd le wk fa ++ jC g rf) (X' := jW cI g P n st sm gr co en la ++ jF cI g fp fb fc fk fq ft pa ps fi bl sp gp sw gw ++ jP cI g pk cl ++ jD cI cO g rd le wk fa ++ jC g rf) (wc := jW cI g P n st sm gr co en la ++ jC g rf) (wc' := jW cI g P n st sm gr co en la ++ jC g rf) (wr := jF cI g fp fb fc fk fq ft pa ps fi bl sp gp sw gw ++ jP cI g pk cl ++ jD cI cO g rd le wk fa) (N := 22) (As := [.int (nI q)]) (rest := []) ⟨hx, hb, hml, hown, hts⟩ (c_X6_demandPoint l D cI g P n st sm gr co en la rf H.size hw q (by omega)) (cwV 1 hts gX6_ofPoint_X6_demandPoint rfl rfl rfl (by decide +kernel) ⟨Nat.le_of_ble_eq_true rfl, Nat.le_of_ble_eq_true rfl⟩) hN hP hD (hK.sub (tys' := [(cI, .int)]) [0] rfl) hS hA [0, 1, 2, 3, 4, 5, 21] [6, 7, 8, 9, 10, 11, 12, 13, 14, 15, 16, 17, 18, 19, 20] rfl rfl rfl rfl rfl rfl (by decide) (by decide) 21 6 rfl rfl rfl (hK.sub (tys' := [(cI, .int)]) [0] rfl) rfl hl.1 rfl (Nat.le_of_ble_eq_true rfl) dX6_ofPoint_2 ⟨Nat.zero_le _, Nat.zero_le _⟩ (fun H locs hP hS => ?_)
  have hD : va_D A (jW cI g P n st sm gr co en la ++ jF cI g fp fb fc fk fq ft pa ps fi bl sp gp sw gw ++ jP cI g pk cl ++ jD cI cO g rd le wk fa ++ jC g rf) := jxD hD0 rfl
  refine lv_iload_n hx hb dX6_ofPoint_5 rfl (lv_at hl 2 rfl) ?_
  refine lv_bipush (v := nI 6) hx hb dX6_ofPoint_6 (by decide) ?_
  refine jxw_callSv (X := jW cI g P n st sm gr co en la ++ jF cI g fp fb fc fk fq ft pa ps fi bl sp gp sw gw ++ jP cI g pk cl ++ jD cI cO g rd le wk fa ++ jC g rf) (X' := jW cI g P n st sm gr co en la ++ jF cI g fp fb fc fk fq ft pa ps fi bl sp gp sw gw ++ jP cI g pk cl ++ jD cI cO g rd le wk fa ++ jC g rf) (wc := []) (wc' := []) (wr := jW cI g P n st sm gr co en la ++ jF cI g fp fb fc fk fq ft pa ps fi bl sp gp sw gw ++ jP cI g pk cl ++ jD cI cO g rd le wk fa ++ jC g rf) (N := 22) (As := [.int (nI 1), .int (nI 6)]) (rest := []) ⟨hx, hb, hml, hown, hts⟩ (c_X6_demandWhat l D g H.size 1 6 (by omega) (by omega)) (va_cwS 2 hts gX6_ofPoint_X6_demandWhat rfl rfl rfl (by decide +kernel) ⟨Nat.le_of_ble_eq_true rfl, Nat.le_of_ble_eq_true rfl⟩) hN hP hD (hK.sub (tys' := []) [] rfl) hS hA [] [0, 1, 2, 3, 4, 5, 6, 7, 8, 9, 10, 11, 12, 13, 14, 15, 16, 17, 18, 19, 20, 21] rfl rfl rfl rfl rfl rfl (by decide) (by decide) rfl hl.1 rfl (Nat.le_of_ble_eq_true rfl) dX6_ofPoint_8 ⟨Nat.zero_le _, Nat.zero_le _⟩ (fun H locs hP hS => ?_)
  have hD : va_D A (jW cI g P n st sm gr co en la ++ jF cI g fp fb fc fk fq ft pa ps fi bl sp gp sw gw ++ jP cI g pk cl ++ jD cI cO g rd le wk fa ++ jC g rf) := jxD hD0 rfl
  refine lv_iload_n hx hb dX6_ofPoint_11 rfl (lv_at hl 2 rfl) ?_
  refine lv_tableIn (off := 50) (tgt := 62) hx hb dX6_ofPoint_12 (by decide +kernel) (by decide +kernel) (by decide +kernel) (by decide) ?_
  refine lv_aload_n hx hb dX6_ofPoint_62 rfl (lv_at hl 0 rfl) ?_
  refine va_get (D := D) (ci := 6) (v := .ref (g 0)) (C := RX6) (T := TX6) (N := 7) hx hb hts in_X6_ofPoint_6 hown hK hP 21 rfl rfl 0 (by decide) (hts (.fieldLink RX6 10 "Twincuts" "web" "LTwincuts$Web;") (List.mem_of_getElem? (i := 2) (by decide +kernel))) (fun _ h9 => h9) rfl dX6_ofPoint_63 ?_
  refine lv_iload_n hx hb dX6_ofPoint_66 rfl (lv_at hl 1 rfl) ?_
  refine jx_callV (As := [.int (nI q)]) (rest := []) ⟨hx, hb, hml, hown, hts⟩ (c_X5_standingAt l D cI g P n st sm gr co en la hw q (by omega)) (cwV 1 hts gX6_ofPoint_X5_standingAt rfl rfl rfl (by decide +kernel) ⟨Nat.le_of_ble_eq_true rfl, Nat.le_of_ble_eq_true rfl⟩) hN (hP.sub (ws' := jW cI g P n st sm gr co en la) [0, 1, 2, 3, 4, 5] rfl) (hK.sub (tys' := [(cI, .int)]) [0] rfl) 0 5 rfl rfl rfl rfl hl.1 rfl (Nat.le_of_ble_eq_true rfl) dX6_ofPoint_67 ⟨Nat.zero_le _, Nat.zero_le _⟩ (fun r hr => ?_)
  subst hr
  refine jx_callS (As := [.int (nI (la q &&& st))]) (rest := []) ⟨hx, hb, hml, hown, hts⟩ (c_J6_bitCount_0f7a4 l D (la q &&& st) (Nat.lt_of_le_of_lt Nat.and_le_right hst)) (va_cwS 1 hts gX6_ofPoint_J6_bitCount_0f7a4 rfl rfl rfl (by decide +kernel) ⟨Nat.le_of_ble_eq_true rfl, Nat.le_of_ble_eq_true rfl⟩) hN (hP.sub (ws' := []) [] rfl) (hK.sub (tys' := []) [] rfl) rfl hl.1 rfl (Nat.le_of_ble_eq_true rfl) dX6_ofPoint_70 ⟨Nat.zero_le _, Nat.zero_le _⟩ (fun r hr => ?_)
  subst hr
  exact hQ (nI (jmPop (la q &&& st))) H locs _ _ dX6_ofPoint_73 rfl hP hS
set_option maxHeartbeats 4000000 in
set_option maxRecDepth 100000 in
/-- ofPoint(point, what), asked 2 -/
theorem c_X6_ofPoint_2 (l : Launch) (D : va_G) (cI : ClassId) (cO : ClassId) (g : Nat → Nat) (P n st : Nat) (sm gr co en la : Nat → Nat) (fp fb fc fk fq ft : Nat) (pa ps fi : Nat → Nat) (bl : Nat → Int32) (sp gp sw gw : Nat → Nat) (pk : Nat) (cl : Nat → Nat) (rd le : Nat → Nat) (wk : Nat) (fa : Nat → Int32) (rf : Int32) (sz : Nat) (hw : jmWF P n st sm gr co en la) (q : Nat) (hq : q < P) (hfc : fc < 65536) (hbl : ∀ j, j < n → st.testBit j = true → ∃ b, b < 16 ∧ bl j = nI b) : jxWi l yX6_ofPoint wsX6_ofPoint ({ frames := 2, cells := 0, slots := 0, locals := 44 } : Room) D [(cI, .int), (cO, .array .int)] (jW cI g P n st sm gr co en la ++ jF cI g fp fb fc fk fq ft pa ps fi bl sp gp sw gw ++ jP cI g pk cl ++ jD cI cO g rd le wk fa ++ jC g rf) [.ref (g 60), .int (nI q), .int (nI 2)] sz (fun r => r = jmOfP en la n st fc pa bl cl le q 2) (jW cI g P n st sm gr co en la ++ jF cI g fp fb fc fk fq ft pa ps fi bl sp gp sw gw ++ jP cI g pk cl ++ jD cI cO g rd le wk fa ++ jC g rf) := by
  refine jxw_enter (by decide) rfl (Nat.le_of_ble_eq_true rfl) ?_
  intro p e s m args below meth c Q A ls hx hb hml hts hown hN hP hK hD hA hl hQ
  have hD0 := hD
  obtain ⟨H, hH⟩ : ∃ h, h = s.heap := ⟨_, rfl⟩
  have hS : va_S A s.heap H [] := by rw [hH]; exact va_S.rf
  rw [← hH] at hP ⊢
  obtain ⟨locs, hlocs⟩ : ∃ z : List Loc, z = [] := ⟨_, rfl⟩
  rw [← hlocs] at hS ⊢
  have hown : s.vm.findClass RX6 = some m.cls := hown
  have hl : lv_has ls 3 [(0, .ref (g 60)), (1, .int (nI q)), (2, .int (nI 2))] := hl
  have hP8 : P ≤ 8 := hw.1
  have hn16 : n ≤ 16 := hw.2.1
  have hst : st < 65536 := jmWF_st hw
  have hen : ∀ j, j < n → en j < 256 := jmWF_en hw
  have hla : ∀ q, q < P → la q < 65536 := jmWF_la hw
  have hgr : ∀ j, j < n → sm j < 8 ∧ gr j < 8 := jmWF_gr hw
  have hco : ∀ j, j < n → co j < 21 := jmWF_co hw
  refine lv_aload_n hx hb dX6_ofPoint_0 rfl (lv_at hl 0 rfl) ?_
  refine lv_iload_n hx hb dX6_ofPoint_1 rfl (lv_at hl 1 rfl) ?_
  refine jxw_callV (X := jW cI g P n st sm gr co en la ++ jF cI g fp fb fc fk fq ft pa ps fi bl sp gp sw gw ++ jP cI g pk cl ++ jD cI cO g rd le wk fa ++ jC g rf) (X' := jW cI g P n st sm gr co en la ++ jF cI g fp fb fc fk fq ft pa ps fi bl sp gp sw gw ++ jP cI g pk cl ++ jD cI cO g rd le wk fa ++ jC g rf) (wc := jW cI g P n st sm gr co en la ++ jC g rf) (wc' := jW cI g P n st sm gr co en la ++ jC g rf) (wr := jF cI g fp fb fc fk fq ft pa ps fi bl sp gp sw gw ++ jP cI g pk cl ++ jD cI cO g rd le wk fa) (N := 22) (As := [.int (nI q)]) (rest := []) ⟨hx, hb, hml, hown, hts⟩ (c_X6_demandPoint l D cI g P n st sm gr co en la rf H.size hw q (by omega)) (cwV 1 hts gX6_ofPoint_X6_demandPoint rfl rfl rfl (by decide +kernel) ⟨Nat.le_of_ble_eq_true rfl, Nat.le_of_ble_eq_true rfl⟩) hN hP hD (hK.sub (tys' := [(cI, .int)]) [0] rfl) hS hA [0, 1, 2, 3, 4, 5, 21] [6, 7, 8, 9, 10, 11, 12, 13, 14, 15, 16, 17, 18, 19, 20] rfl rfl rfl rfl rfl rfl (by decide) (by decide) 21 6 rfl rfl rfl (hK.sub (tys' := [(cI, .int)]) [0] rfl) rfl hl.1 rfl (Nat.le_of_ble_eq_true rfl) dX6_ofPoint_2 ⟨Nat.zero_le _, Nat.zero_le _⟩ (fun H locs hP hS => ?_)
  have hD : va_D A (jW cI g P n st sm gr co en la ++ jF cI g fp fb fc fk fq ft pa ps fi bl sp gp sw gw ++ jP cI g pk cl ++ jD cI cO g rd le wk fa ++ jC g rf) := jxD hD0 rfl
  refine lv_iload_n hx hb dX6_ofPoint_5 rfl (lv_at hl 2 rfl) ?_
  refine lv_bipush (v := nI 6) hx hb dX6_ofPoint_6 (by decide) ?_
  refine jxw_callSv (X := jW cI g P n st sm gr co en la ++ jF cI g fp fb fc fk fq ft pa ps fi bl sp gp sw gw ++ jP cI g pk cl ++ jD cI cO g rd le wk fa ++ jC g rf) (X' := jW cI g P n st sm gr co en la ++ jF cI g fp fb fc fk fq ft pa ps fi bl sp gp sw gw ++ jP cI g pk cl ++ jD cI cO g rd le wk fa ++ jC g rf) (wc := []) (wc' := []) (wr := jW cI g P n st sm gr co en la ++ jF cI g fp fb fc fk fq ft pa ps fi bl sp gp sw gw ++ jP cI g pk cl ++ jD cI cO g rd le wk fa ++ jC g rf) (N := 22) (As := [.int (nI 2), .int (nI 6)]) (rest := []) ⟨hx, hb, hml, hown, hts⟩ (c_X6_demandWhat l D g H.size 2 6 (by omega) (by omega)) (va_cwS 2 hts gX6_ofPoint_X6_demandWhat rfl rfl rfl (by decide +kernel) ⟨Nat.le_of_ble_eq_true rfl, Nat.le_of_ble_eq_true rfl⟩) hN hP hD (hK.sub (tys' := []) [] rfl) hS hA [] [0, 1, 2, 3, 4, 5, 6, 7, 8, 9, 10, 11, 12, 13, 14, 15, 16, 17, 18, 19, 20, 21] rfl rfl rfl rfl rfl rfl (by decide) (by decide) rfl hl.1 rfl (Nat.le_of_ble_eq_true rfl) dX6_ofPoint_8 ⟨Nat.zero_le _, Nat.zero_le _⟩ (fun H locs hP hS => ?_)
  have hD : va_D A (jW cI g P n st sm gr co en la ++ jF cI g fp fb fc fk fq ft pa ps fi bl sp gp sw gw ++ jP cI g pk cl ++ jD cI cO g rd le wk fa ++ jC g rf) := jxD hD0 rfl
  refine lv_iload_n hx hb dX6_ofPoint_11 rfl (lv_at hl 2 rfl) ?_
  refine lv_tableIn (off := 62) (tgt := 74) hx hb dX6_ofPoint_12 (by decide +kernel) (by decide +kernel) (by decide +kernel) (by decide) ?_
  refine lv_aload_n hx hb dX6_ofPoint_74 rfl (lv_at hl 0 rfl) ?_
  refine va_get (D := D) (ci := 6) (v := .ref (g 10)) (C := RX6) (T := TX6) (N := 7) hx hb hts in_X6_ofPoint_6 hown hK hP 21 rfl rfl 1 (by decide) (hts (.fieldLink RX6 21 "Twincuts" "falls" "LTwincuts$Falls;") (List.mem_of_getElem? (i := 1) (by decide +kernel))) (fun _ h9 => h9) rfl dX6_ofPoint_75 ?_
  refine va_getN (D := D) (ci := 1) (v := .int (nI fc)) (C := RX1) (T := TX1) (N := 15) hx hb hts in_X6_ofPoint_1 hown hK hP 6 rfl rfl 3 (by decide) (hN.use 28 rfl) (fun _ h9 => h9) rfl dX6_ofPoint_78 ?_
  refine lv_iload_n hx hb dX6_ofPoint_81 rfl (lv_at hl 1 rfl) ?_
  refine jx_callS (As := [.int (nI fc), .int (nI q)]) (rest := []) ⟨hx, hb, hml, hown, hts⟩ (c_X6_has l D fc q (by omega) (by omega)) (va_cwS 2 hts gX6_ofPoint_X6_has rfl rfl rfl (by decide +kernel) ⟨Nat.le_of_ble_eq_true rfl, Nat.le_of_ble_eq_true rfl⟩) hN (hP.sub (ws' := []) [] rfl) (hK.sub (tys' := []) [] rfl) rfl hl.1 rfl (Nat.le_of_ble_eq_true rfl) dX6_ofPoint_82 ⟨Nat.zero_le _, Nat.zero_le _⟩ (fun r hr => ?_)
  subst hr
  refine lv_if_eq (tgt := 92) hx hb dX6_ofPoint_85 (by decide) (fun c85 => ?_) (fun c85 => ?_)
  · have c85 := jB_0 c85
    refine lv_iconst (v := nI 0) hx hb dX6_ofPoint_92 (by decide) ?_
    exact hQ (nI 0) H locs _ _ dX6_ofPoint_93 (by show nI 0 = nI (jB (fc.testBit q)); rw [c85]; rfl) hP hS
  · have c85 := jB_1 c85
    refine lv_iconst (v := nI 1) hx hb dX6_ofPoint_88 (by decide) ?_
    refine lv_goto (tgt := 93) hx hb dX6_ofPoint_89 (by decide) ?_
    exact hQ (nI 1) H locs _ _ dX6_ofPoint_93 (by show nI 1 = nI (jB (fc.testBit q)); rw [c85]; rfl) hP hS
set_option maxHeartbeats 4000000 in
set_option maxRecDepth 100000 in
/-- ofPoint(point, what), asked 3 -/
theorem c_X6_ofPoint_3 (l : Launch) (D : va_G) (cI : ClassId) (cO : ClassId) (g : Nat → Nat) (P n st : Nat) (sm gr co en la : Nat → Nat) (fp fb fc fk fq ft : Nat) (pa ps fi : Nat → Nat) (bl : Nat → Int32) (sp gp sw gw : Nat → Nat) (pk : Nat) (cl : Nat → Nat) (rd le : Nat → Nat) (wk : Nat) (fa : Nat → Int32) (rf : Int32) (sz : Nat) (hw : jmWF P n st sm gr co en la) (q : Nat) (hq : q < P) (hfc : fc < 65536) (hbl : ∀ j, j < n → st.testBit j = true → ∃ b, b < 16 ∧ bl j = nI b) : jxWi l yX6_ofPoint wsX6_ofPoint ({ frames := 2, cells := 0, slots := 0, locals := 44 } : Room) D [(cI, .int), (cO, .array .int)] (jW cI g P n st sm gr co en la ++ jF cI g fp fb fc fk fq ft pa ps fi bl sp gp sw gw ++ jP cI g pk cl ++ jD cI cO g rd le wk fa ++ jC g rf) [.ref (g 60), .int (nI q), .int (nI 3)] sz (fun r => r = jmOfP en la n st fc pa bl cl le q 3) (jW cI g P n st sm gr co en la ++ jF cI g fp fb fc fk fq ft pa ps fi bl sp gp sw gw ++ jP cI g pk cl ++ jD cI cO g rd le wk fa ++ jC g rf) := by
  refine jxw_enter (by decide) rfl (Nat.le_of_ble_eq_true rfl) ?_
  intro p e s m args below meth c Q A ls hx hb hml hts hown hN hP hK hD hA hl hQ
  have hD0 := hD
  obtain ⟨H, hH⟩ : ∃ h, h = s.heap := ⟨_, rfl⟩
  have hS : va_S A s.heap H [] := by rw [hH]; exact va_S.rf
  rw [← hH] at hP ⊢
  obtain ⟨locs, hlocs⟩ : ∃ z : List Loc, z = [] := ⟨_, rfl⟩
  rw [← hlocs] at hS ⊢
  have hown : s.vm.findClass RX6 = some m.cls := hown
  have hl : lv_has ls 3 [(0, .ref (g 60)), (1, .int (nI q)), (2, .int (nI 3))] := hl
  have hP8 : P ≤ 8 := hw.1
  have hn16 : n ≤ 16 := hw.2.1
  have hst : st < 65536 := jmWF_st hw
  have hen : ∀ j, j < n → en j < 256 := jmWF_en hw
  have hla : ∀ q, q < P → la q < 65536 := jmWF_la hw
  have hgr : ∀ j, j < n → sm j < 8 ∧ gr j < 8 := jmWF_gr hw
  have hco : ∀ j, j < n → co j < 21 := jmWF_co hw
  refine lv_aload_n hx hb dX6_ofPoint_0 rfl (lv_at hl 0 rfl) ?_
  refine lv_iload_n hx hb dX6_ofPoint_1 rfl (lv_at hl 1 rfl) ?_
  refine jxw_callV (X := jW cI g P n st sm gr co en la ++ jF cI g fp fb fc fk fq ft pa ps fi bl sp gp sw gw ++ jP cI g pk cl ++ jD cI cO g rd le wk fa ++ jC g rf) (X' := jW cI g P n st sm gr co en la ++ jF cI g fp fb fc fk fq ft pa ps fi bl sp gp sw gw ++ jP cI g pk cl ++ jD cI cO g rd le wk fa ++ jC g rf) (wc := jW cI g P n st sm gr co en la ++ jC g rf) (wc' := jW cI g P n st sm gr co en la ++ jC g rf) (wr := jF cI g fp fb fc fk fq ft pa ps fi bl sp gp sw gw ++ jP cI g pk cl ++ jD cI cO g rd le wk fa) (N := 22) (As := [.int (nI q)]) (rest := []) ⟨hx, hb, hml, hown, hts⟩ (c_X6_demandPoint l D cI g P n st sm gr co en la rf H.size hw q (by omega)) (cwV 1 hts gX6_ofPoint_X6_demandPoint rfl rfl rfl (by decide +kernel) ⟨Nat.le_of_ble_eq_true rfl, Nat.le_of_ble_eq_true rfl⟩) hN hP hD (hK.sub (tys' := [(cI, .int)]) [0] rfl) hS hA [0, 1, 2, 3, 4, 5, 21] [6, 7, 8, 9, 10, 11, 12, 13, 14, 15, 16, 17, 18, 19, 20] rfl rfl rfl rfl rfl rfl (by decide) (by decide) 21 6 rfl rfl rfl (hK.sub (tys' := [(cI, .int)]) [0] rfl) rfl hl.1 rfl (Nat.le_of_ble_eq_true rfl) dX6_ofPoint_2 ⟨Nat.zero_le _, Nat.zero_le _⟩ (fun H locs hP hS => ?_)
  have hD : va_D A (jW cI g P n st sm gr co en la ++ jF cI g fp fb fc fk fq ft pa ps fi bl sp gp sw gw ++ jP cI g pk cl ++ jD cI cO g rd le wk fa ++ jC g rf) := jxD hD0 rfl
  refine lv_iload_n hx hb dX6_ofPoint_5 rfl (lv_at hl 2 rfl) ?_
  refine lv_bipush (v := nI 6) hx hb dX6_ofPoint_6 (by decide) ?_
  refine jxw_callSv (X := jW cI g P n st sm gr co en la ++ jF cI g fp fb fc fk fq ft pa ps fi bl sp gp sw gw ++ jP cI g pk cl ++ jD cI cO g rd le wk fa ++ jC g rf) (X' := jW cI g P n st sm gr co en la ++ jF cI g fp fb fc fk fq ft pa ps fi bl sp gp sw gw ++ jP cI g pk cl ++ jD cI cO g rd le wk fa ++ jC g rf) (wc := []) (wc' := []) (wr := jW cI g P n st sm gr co en la ++ jF cI g fp fb fc fk fq ft pa ps fi bl sp gp sw gw ++ jP cI g pk cl ++ jD cI cO g rd le wk fa ++ jC g rf) (N := 22) (As := [.int (nI 3), .int (nI 6)]) (rest := []) ⟨hx, hb, hml, hown, hts⟩ (c_X6_demandWhat l D g H.size 3 6 (by omega) (by omega)) (va_cwS 2 hts gX6_ofPoint_X6_demandWhat rfl rfl rfl (by decide +kernel) ⟨Nat.le_of_ble_eq_true rfl, Nat.le_of_ble_eq_true rfl⟩) hN hP hD (hK.sub (tys' := []) [] rfl) hS hA [] [0, 1, 2, 3, 4, 5, 6, 7, 8, 9, 10, 11, 12, 13, 14, 15, 16, 17, 18, 19, 20, 21] rfl rfl rfl rfl rfl rfl (by decide) (by decide) rfl hl.1 rfl (Nat.le_of_ble_eq_true rfl) dX6_ofPoint_8 ⟨Nat.zero_le _, Nat.zero_le _⟩ (fun H locs hP hS => ?_)
  have hD : va_D A (jW cI g P n st sm gr co en la ++ jF cI g fp fb fc fk fq ft pa ps fi bl sp gp sw gw ++ jP cI g pk cl ++ jD cI cO g rd le wk fa ++ jC g rf) := jxD hD0 rfl
  refine lv_iload_n hx hb dX6_ofPoint_11 rfl (lv_at hl 2 rfl) ?_
  refine lv_tableIn (off := 82) (tgt := 94) hx hb dX6_ofPoint_12 (by decide +kernel) (by decide +kernel) (by decide +kernel) (by decide) ?_
  refine lv_aload_n hx hb dX6_ofPoint_94 rfl (lv_at hl 0 rfl) ?_
  refine va_get (D := D) (ci := 6) (v := .ref (g 10)) (C := RX6) (T := TX6) (N := 7) hx hb hts in_X6_ofPoint_6 hown hK hP 21 rfl rfl 1 (by decide) (hts (.fieldLink RX6 21 "Twincuts" "falls" "LTwincuts$Falls;") (List.mem_of_getElem? (i := 1) (by decide +kernel))) (fun _ h9 => h9) rfl dX6_ofPoint_95 ?_
  refine lv_iload_n hx hb dX6_ofPoint_98 rfl (lv_at hl 1 rfl) ?_
  refine jx_callV (As := [.int (nI q)]) (rest := []) ⟨hx, hb, hml, hown, hts⟩ (c_X1_blocksAt l D cI g P n st sm gr co en la fp fb fc fk fq ft pa ps fi bl sp gp sw gw hw q (by omega) hbl) (cwV 1 hts gX6_ofPoint_X1_blocksAt rfl rfl rfl (by decide +kernel) ⟨Nat.le_of_ble_eq_true rfl, Nat.le_of_ble_eq_true rfl⟩) hN (hP.sub (ws' := jW cI g P n st sm gr co en la ++ jF cI g fp fb fc fk fq ft pa ps fi bl sp gp sw gw) [0, 1, 2, 3, 4, 5, 6, 7, 8, 9, 10, 11, 12, 13, 14] rfl) (hK.sub (tys' := [(cI, .int)]) [0] rfl) 6 1 rfl rfl rfl rfl hl.1 rfl (Nat.le_of_ble_eq_true rfl) dX6_ofPoint_99 ⟨Nat.zero_le _, Nat.zero_le _⟩ (fun r hr => ?_)
  subst hr
  exact hQ (nI (jmPop (jmBlk bl (la q &&& st) n))) H locs _ _ dX6_ofPoint_102 rfl hP hS
set_option maxHeartbeats 4000000 in
set_option maxRecDepth 100000 in
/-- ofPoint(point, what), asked 4 -/
theorem c_X6_ofPoint_4 (l : Launch) (D : va_G) (cI : ClassId) (cO : ClassId) (g : Nat → Nat) (P n st : Nat) (sm gr co en la : Nat → Nat) (fp fb fc fk fq ft : Nat) (pa ps fi : Nat → Nat) (bl : Nat → Int32) (sp gp sw gw : Nat → Nat) (pk : Nat) (cl : Nat → Nat) (rd le : Nat → Nat) (wk : Nat) (fa : Nat → Int32) (rf : Int32) (sz : Nat) (hw : jmWF P n st sm gr co en la) (q : Nat) (hq : q < P) (hfc : fc < 65536) (hbl : ∀ j, j < n → st.testBit j = true → ∃ b, b < 16 ∧ bl j = nI b) : jxWi l yX6_ofPoint wsX6_ofPoint ({ frames := 2, cells := 0, slots := 0, locals := 44 } : Room) D [(cI, .int), (cO, .array .int)] (jW cI g P n st sm gr co en la ++ jF cI g fp fb fc fk fq ft pa ps fi bl sp gp sw gw ++ jP cI g pk cl ++ jD cI cO g rd le wk fa ++ jC g rf) [.ref (g 60), .int (nI q), .int (nI 4)] sz (fun r => r = jmOfP en la n st fc pa bl cl le q 4) (jW cI g P n st sm gr co en la ++ jF cI g fp fb fc fk fq ft pa ps fi bl sp gp sw gw ++ jP cI g pk cl ++ jD cI cO g rd le wk fa ++ jC g rf) := by
  refine jxw_enter (by decide) rfl (Nat.le_of_ble_eq_true rfl) ?_
  intro p e s m args below meth c Q A ls hx hb hml hts hown hN hP hK hD hA hl hQ
  have hD0 := hD
  obtain ⟨H, hH⟩ : ∃ h, h = s.heap := ⟨_, rfl⟩
  have hS : va_S A s.heap H [] := by rw [hH]; exact va_S.rf
  rw [← hH] at hP ⊢
  obtain ⟨locs, hlocs⟩ : ∃ z : List Loc, z = [] := ⟨_, rfl⟩
  rw [← hlocs] at hS ⊢
  have hown : s.vm.findClass RX6 = some m.cls := hown
  have hl : lv_has ls 3 [(0, .ref (g 60)), (1, .int (nI q)), (2, .int (nI 4))] := hl
  have hP8 : P ≤ 8 := hw.1
  have hn16 : n ≤ 16 := hw.2.1
  have hst : st < 65536 := jmWF_st hw
  have hen : ∀ j, j < n → en j < 256 := jmWF_en hw
  have hla : ∀ q, q < P → la q < 65536 := jmWF_la hw
  have hgr : ∀ j, j < n → sm j < 8 ∧ gr j < 8 := jmWF_gr hw
  have hco : ∀ j, j < n → co j < 21 := jmWF_co hw
  refine lv_aload_n hx hb dX6_ofPoint_0 rfl (lv_at hl 0 rfl) ?_
  refine lv_iload_n hx hb dX6_ofPoint_1 rfl (lv_at hl 1 rfl) ?_
  refine jxw_callV (X := jW cI g P n st sm gr co en la ++ jF cI g fp fb fc fk fq ft pa ps fi bl sp gp sw gw ++ jP cI g pk cl ++ jD cI cO g rd le wk fa ++ jC g rf) (X' := jW cI g P n st sm gr co en la ++ jF cI g fp fb fc fk fq ft pa ps fi bl sp gp sw gw ++ jP cI g pk cl ++ jD cI cO g rd le wk fa ++ jC g rf) (wc := jW cI g P n st sm gr co en la ++ jC g rf) (wc' := jW cI g P n st sm gr co en la ++ jC g rf) (wr := jF cI g fp fb fc fk fq ft pa ps fi bl sp gp sw gw ++ jP cI g pk cl ++ jD cI cO g rd le wk fa) (N := 22) (As := [.int (nI q)]) (rest := []) ⟨hx, hb, hml, hown, hts⟩ (c_X6_demandPoint l D cI g P n st sm gr co en la rf H.size hw q (by omega)) (cwV 1 hts gX6_ofPoint_X6_demandPoint rfl rfl rfl (by decide +kernel) ⟨Nat.le_of_ble_eq_true rfl, Nat.le_of_ble_eq_true rfl⟩) hN hP hD (hK.sub (tys' := [(cI, .int)]) [0] rfl) hS hA [0, 1, 2, 3, 4, 5, 21] [6, 7, 8, 9, 10, 11, 12, 13, 14, 15, 16, 17, 18, 19, 20] rfl rfl rfl rfl rfl rfl (by decide) (by decide) 21 6 rfl rfl rfl (hK.sub (tys' := [(cI, .int)]) [0] rfl) rfl hl.1 rfl (Nat.le_of_ble_eq_true rfl) dX6_ofPoint_2 ⟨Nat.zero_le _, Nat.zero_le _⟩ (fun H locs hP hS => ?_)
  have hD : va_D A (jW cI g P n st sm gr co en la ++ jF cI g fp fb fc fk fq ft pa ps fi bl sp gp sw gw ++ jP cI g pk cl ++ jD cI cO g rd le wk fa ++ jC g rf) := jxD hD0 rfl
  refine lv_iload_n hx hb dX6_ofPoint_5 rfl (lv_at hl 2 rfl) ?_
  refine lv_bipush (v := nI 6) hx hb dX6_ofPoint_6 (by decide) ?_
  refine jxw_callSv (X := jW cI g P n st sm gr co en la ++ jF cI g fp fb fc fk fq ft pa ps fi bl sp gp sw gw ++ jP cI g pk cl ++ jD cI cO g rd le wk fa ++ jC g rf) (X' := jW cI g P n st sm gr co en la ++ jF cI g fp fb fc fk fq ft pa ps fi bl sp gp sw gw ++ jP cI g pk cl ++ jD cI cO g rd le wk fa ++ jC g rf) (wc := []) (wc' := []) (wr := jW cI g P n st sm gr co en la ++ jF cI g fp fb fc fk fq ft pa ps fi bl sp gp sw gw ++ jP cI g pk cl ++ jD cI cO g rd le wk fa ++ jC g rf) (N := 22) (As := [.int (nI 4), .int (nI 6)]) (rest := []) ⟨hx, hb, hml, hown, hts⟩ (c_X6_demandWhat l D g H.size 4 6 (by omega) (by omega)) (va_cwS 2 hts gX6_ofPoint_X6_demandWhat rfl rfl rfl (by decide +kernel) ⟨Nat.le_of_ble_eq_true rfl, Nat.le_of_ble_eq_true rfl⟩) hN hP hD (hK.sub (tys' := []) [] rfl) hS hA [] [0, 1, 2, 3, 4, 5, 6, 7, 8, 9, 10, 11, 12, 13, 14, 15, 16, 17, 18, 19, 20, 21] rfl rfl rfl rfl rfl rfl (by decide) (by decide) rfl hl.1 rfl (Nat.le_of_ble_eq_true rfl) dX6_ofPoint_8 ⟨Nat.zero_le _, Nat.zero_le _⟩ (fun H locs hP hS => ?_)
  have hD : va_D A (jW cI g P n st sm gr co en la ++ jF cI g fp fb fc fk fq ft pa ps fi bl sp gp sw gw ++ jP cI g pk cl ++ jD cI cO g rd le wk fa ++ jC g rf) := jxD hD0 rfl
  refine lv_iload_n hx hb dX6_ofPoint_11 rfl (lv_at hl 2 rfl) ?_
  refine lv_tableIn (off := 91) (tgt := 103) hx hb dX6_ofPoint_12 (by decide +kernel) (by decide +kernel) (by decide +kernel) (by decide) ?_
  refine lv_aload_n hx hb dX6_ofPoint_103 rfl (lv_at hl 0 rfl) ?_
  refine va_get (D := D) (ci := 6) (v := .ref (g 40)) (C := RX6) (T := TX6) (N := 7) hx hb hts in_X6_ofPoint_6 hown hK hP 21 rfl rfl 4 (by decide) (hts (.fieldLink RX6 42 "Twincuts" "palette" "LTwincuts$Palette;") (List.mem_of_getElem? (i := 3) (by decide +kernel))) (fun _ h9 => h9) rfl dX6_ofPoint_104 ?_
  refine va_getN (D := D) (ci := 3) (v := .ref (g 41)) (C := RX3) (T := TX3) (N := 3) hx hb hts in_X6_ofPoint_3 hown hK hP 15 rfl rfl 2 (by decide) (hN.use 37 rfl) (fun _ h9 => h9) rfl dX6_ofPoint_107 ?_
  refine lv_iload_n hx hb dX6_ofPoint_110 rfl (lv_at hl 1 rfl) ?_
  refine jx_iald hx hb hK hP 16 0 rfl rfl (by omega) (by decide) dX6_ofPoint_111 ?_
  exact hQ (nI (cl q)) H locs _ _ dX6_ofPoint_112 rfl hP hS
set_option maxHeartbeats 4000000 in
set_option maxRecDepth 100000 in
/-- ofPoint(point, what), asked 5 -/
theorem c_X6_ofPoint_5 (l : Launch) (D : va_G) (cI : ClassId) (cO : ClassId) (g : Nat → Nat) (P n st : Nat) (sm gr co en la : Nat → Nat) (fp fb fc fk fq ft : Nat) (pa ps fi : Nat → Nat) (bl : Nat → Int32) (sp gp sw gw : Nat → Nat) (pk : Nat) (cl : Nat → Nat) (rd le : Nat → Nat) (wk : Nat) (fa : Nat → Int32) (rf : Int32) (sz : Nat) (hw : jmWF P n st sm gr co en la) (q : Nat) (hq : q < P) (hfc : fc < 65536) (hbl : ∀ j, j < n → st.testBit j = true → ∃ b, b < 16 ∧ bl j = nI b) : jxWi l yX6_ofPoint wsX6_ofPoint ({ frames := 2, cells := 0, slots := 0, locals := 44 } : Room) D [(cI, .int), (cO, .array .int)] (jW cI g P n st sm gr co en la ++ jF cI g fp fb fc fk fq ft pa ps fi bl sp gp sw gw ++ jP cI g pk cl ++ jD cI cO g rd le wk fa ++ jC g rf) [.ref (g 60), .int (nI q), .int (nI 5)] sz (fun r => r = jmOfP en la n st fc pa bl cl le q 5) (jW cI g P n st sm gr co en la ++ jF cI g fp fb fc fk fq ft pa ps fi bl sp gp sw gw ++ jP cI g pk cl ++ jD cI cO g rd le wk fa ++ jC g rf) := by
  refine jxw_enter (by decide) rfl (Nat.le_of_ble_eq_true rfl) ?_
  intro p e s m args below meth c Q A ls hx hb hml hts hown hN hP hK hD hA hl hQ
  have hD0 := hD
  obtain ⟨H, hH⟩ : ∃ h, h = s.heap := ⟨_, rfl⟩
  have hS : va_S A s.heap H [] := by rw [hH]; exact va_S.rf
  rw [← hH] at hP ⊢
  obtain ⟨locs, hlocs⟩ : ∃ z : List Loc, z = [] := ⟨_, rfl⟩
  rw [← hlocs] at hS ⊢
  have hown : s.vm.findClass RX6 = some m.cls := hown
  have hl : lv_has ls 3 [(0, .ref (g 60)), (1, .int (nI q)), (2, .int (nI 5))] := hl
  have hP8 : P ≤ 8 := hw.1
  have hn16 : n ≤ 16 := hw.2.1
  have hst : st < 65536 := jmWF_st hw
  have hen : ∀ j, j < n → en j < 256 := jmWF_en hw
  have hla : ∀ q, q < P → la q < 65536 := jmWF_la hw
  have hgr : ∀ j, j < n → sm j < 8 ∧ gr j < 8 := jmWF_gr hw
  have hco : ∀ j, j < n → co j < 21 := jmWF_co hw
  refine lv_aload_n hx hb dX6_ofPoint_0 rfl (lv_at hl 0 rfl) ?_
  refine lv_iload_n hx hb dX6_ofPoint_1 rfl (lv_at hl 1 rfl) ?_
  refine jxw_callV (X := jW cI g P n st sm gr co en la ++ jF cI g fp fb fc fk fq ft pa ps fi bl sp gp sw gw ++ jP cI g pk cl ++ jD cI cO g rd le wk fa ++ jC g rf) (X' := jW cI g P n st sm gr co en la ++ jF cI g fp fb fc fk fq ft pa ps fi bl sp gp sw gw ++ jP cI g pk cl ++ jD cI cO g rd le wk fa ++ jC g rf) (wc := jW cI g P n st sm gr co en la ++ jC g rf) (wc' := jW cI g P n st sm gr co en la ++ jC g rf) (wr := jF cI g fp fb fc fk fq ft pa ps fi bl sp gp sw gw ++ jP cI g pk cl ++ jD cI cO g rd le wk fa) (N := 22) (As := [.int (nI q)]) (rest := []) ⟨hx, hb, hml, hown, hts⟩ (c_X6_demandPoint l D cI g P n st sm gr co en la rf H.size hw q (by omega)) (cwV 1 hts gX6_ofPoint_X6_demandPoint rfl rfl rfl (by decide +kernel) ⟨Nat.le_of_ble_eq_true rfl, Nat.le_of_ble_eq_true rfl⟩) hN hP hD (hK.sub (tys' := [(cI, .int)]) [0] rfl) hS hA [0, 1, 2, 3, 4, 5, 21] [6, 7, 8, 9, 10, 11, 12, 13, 14, 15, 16, 17, 18, 19, 20] rfl rfl rfl rfl rfl rfl (by decide) (by decide) 21 6 rfl rfl rfl (hK.sub (tys' := [(cI, .int)]) [0] rfl) rfl hl.1 rfl (Nat.le_of_ble_eq_true rfl) dX6_ofPoint_2 ⟨Nat.zero_le _, Nat.zero_le _⟩ (fun H locs hP hS => ?_)
  have hD : va_D A (jW cI g P n st sm gr co en la ++ jF cI g fp fb fc fk fq ft pa ps fi bl sp gp sw gw ++ jP cI g pk cl ++ jD cI cO g rd le wk fa ++ jC g rf) := jxD hD0 rfl
  refine lv_iload_n hx hb dX6_ofPoint_5 rfl (lv_at hl 2 rfl) ?_
  refine lv_bipush (v := nI 6) hx hb dX6_ofPoint_6 (by decide) ?_
  refine jxw_callSv (X := jW cI g P n st sm gr co en la ++ jF cI g fp fb fc fk fq ft pa ps fi bl sp gp sw gw ++ jP cI g pk cl ++ jD cI cO g rd le wk fa ++ jC g rf) (X' := jW cI g P n st sm gr co en la ++ jF cI g fp fb fc fk fq ft pa ps fi bl sp gp sw gw ++ jP cI g pk cl ++ jD cI cO g rd le wk fa ++ jC g rf) (wc := []) (wc' := []) (wr := jW cI g P n st sm gr co en la ++ jF cI g fp fb fc fk fq ft pa ps fi bl sp gp sw gw ++ jP cI g pk cl ++ jD cI cO g rd le wk fa ++ jC g rf) (N := 22) (As := [.int (nI 5), .int (nI 6)]) (rest := []) ⟨hx, hb, hml, hown, hts⟩ (c_X6_demandWhat l D g H.size 5 6 (by omega) (by omega)) (va_cwS 2 hts gX6_ofPoint_X6_demandWhat rfl rfl rfl (by decide +kernel) ⟨Nat.le_of_ble_eq_true rfl, Nat.le_of_ble_eq_true rfl⟩) hN hP hD (hK.sub (tys' := []) [] rfl) hS hA [] [0, 1, 2, 3, 4, 5, 6, 7, 8, 9, 10, 11, 12, 13, 14, 15, 16, 17, 18, 19, 20, 21] rfl rfl rfl rfl rfl rfl (by decide) (by decide) rfl hl.1 rfl (Nat.le_of_ble_eq_true rfl) dX6_ofPoint_8 ⟨Nat.zero_le _, Nat.zero_le _⟩ (fun H locs hP hS => ?_)
  have hD : va_D A (jW cI g P n st sm gr co en la ++ jF cI g fp fb fc fk fq ft pa ps fi bl sp gp sw gw ++ jP cI g pk cl ++ jD cI cO g rd le wk fa ++ jC g rf) := jxD hD0 rfl
  refine lv_iload_n hx hb dX6_ofPoint_11 rfl (lv_at hl 2 rfl) ?_
  refine lv_tableIn (off := 101) (tgt := 113) hx hb dX6_ofPoint_12 (by decide +kernel) (by decide +kernel) (by decide +kernel) (by decide) ?_
  refine lv_aload_n hx hb dX6_ofPoint_113 rfl (lv_at hl 0 rfl) ?_
  refine va_get (D := D) (ci := 6) (v := .ref (g 0)) (C := RX6) (T := TX6) (N := 7) hx hb hts in_X6_ofPoint_6 hown hK hP 21 rfl rfl 0 (by decide) (hts (.fieldLink RX6 10 "Twincuts" "web" "LTwincuts$Web;") (List.mem_of_getElem? (i := 2) (by decide +kernel))) (fun _ h9 => h9) rfl dX6_ofPoint_114 ?_
  refine lv_iload_n hx hb dX6_ofPoint_117 rfl (lv_at hl 1 rfl) ?_
  refine jx_callV (As := [.int (nI q)]) (rest := []) ⟨hx, hb, hml, hown, hts⟩ (c_X5_linkedWith l D cI g P n st sm gr co en la hw q (by omega)) (cwV 1 hts gX6_ofPoint_X5_linkedWith rfl rfl rfl (by decide +kernel) ⟨Nat.le_of_ble_eq_true rfl, Nat.le_of_ble_eq_true rfl⟩) hN (hP.sub (ws' := jW cI g P n st sm gr co en la) [0, 1, 2, 3, 4, 5] rfl) (hK.sub (tys' := [(cI, .int)]) [0] rfl) 0 5 rfl rfl rfl rfl hl.1 rfl (Nat.le_of_ble_eq_true rfl) dX6_ofPoint_118 ⟨Nat.zero_le _, Nat.zero_le _⟩ (fun r hr => ?_)
  subst hr
  exact hQ (nI (jmLinked en la st n q)) H locs _ _ dX6_ofPoint_121 rfl hP hS
set_option maxHeartbeats 4000000 in
set_option maxRecDepth 100000 in
/-- ofPoint(point, what), asked 6 -/
theorem c_X6_ofPoint_6 (l : Launch) (D : va_G) (cI : ClassId) (cO : ClassId) (g : Nat → Nat) (P n st : Nat) (sm gr co en la : Nat → Nat) (fp fb fc fk fq ft : Nat) (pa ps fi : Nat → Nat) (bl : Nat → Int32) (sp gp sw gw : Nat → Nat) (pk : Nat) (cl : Nat → Nat) (rd le : Nat → Nat) (wk : Nat) (fa : Nat → Int32) (rf : Int32) (sz : Nat) (hw : jmWF P n st sm gr co en la) (q : Nat) (hq : q < P) (hfc : fc < 65536) (hbl : ∀ j, j < n → st.testBit j = true → ∃ b, b < 16 ∧ bl j = nI b) : jxWi l yX6_ofPoint wsX6_ofPoint ({ frames := 2, cells := 0, slots := 0, locals := 44 } : Room) D [(cI, .int), (cO, .array .int)] (jW cI g P n st sm gr co en la ++ jF cI g fp fb fc fk fq ft pa ps fi bl sp gp sw gw ++ jP cI g pk cl ++ jD cI cO g rd le wk fa ++ jC g rf) [.ref (g 60), .int (nI q), .int (nI 6)] sz (fun r => r = jmOfP en la n st fc pa bl cl le q 6) (jW cI g P n st sm gr co en la ++ jF cI g fp fb fc fk fq ft pa ps fi bl sp gp sw gw ++ jP cI g pk cl ++ jD cI cO g rd le wk fa ++ jC g rf) := by
  refine jxw_enter (by decide) rfl (Nat.le_of_ble_eq_true rfl) ?_
  intro p e s m args below meth c Q A ls hx hb hml hts hown hN hP hK hD hA hl hQ
  have hD0 := hD
  obtain ⟨H, hH⟩ : ∃ h, h = s.heap := ⟨_, rfl⟩
  have hS : va_S A s.heap H [] := by rw [hH]; exact va_S.rf
  rw [← hH] at hP ⊢
  obtain ⟨locs, hlocs⟩ : ∃ z : List Loc, z = [] := ⟨_, rfl⟩
  rw [← hlocs] at hS ⊢
  have hown : s.vm.findClass RX6 = some m.cls := hown
  have hl : lv_has ls 3 [(0, .ref (g 60)), (1, .int (nI q)), (2, .int (nI 6))] := hl
  have hP8 : P ≤ 8 := hw.1
  have hn16 : n ≤ 16 := hw.2.1
  have hst : st < 65536 := jmWF_st hw
  have hen : ∀ j, j < n → en j < 256 := jmWF_en hw
  have hla : ∀ q, q < P → la q < 65536 := jmWF_la hw
  have hgr : ∀ j, j < n → sm j < 8 ∧ gr j < 8 := jmWF_gr hw
  have hco : ∀ j, j < n → co j < 21 := jmWF_co hw
  refine lv_aload_n hx hb dX6_ofPoint_0 rfl (lv_at hl 0 rfl) ?_
  refine lv_iload_n hx hb dX6_ofPoint_1 rfl (lv_at hl 1 rfl) ?_
  refine jxw_callV (X := jW cI g P n st sm gr co en la ++ jF cI g fp fb fc fk fq ft pa ps fi bl sp gp sw gw ++ jP cI g pk cl ++ jD cI cO g rd le wk fa ++ jC g rf) (X' := jW cI g P n st sm gr co en la ++ jF cI g fp fb fc fk fq ft pa ps fi bl sp gp sw gw ++ jP cI g pk cl ++ jD cI cO g rd le wk fa ++ jC g rf) (wc := jW cI g P n st sm gr co en la ++ jC g rf) (wc' := jW cI g P n st sm gr co en la ++ jC g rf) (wr := jF cI g fp fb fc fk fq ft pa ps fi bl sp gp sw gw ++ jP cI g pk cl ++ jD cI cO g rd le wk fa) (N := 22) (As := [.int (nI q)]) (rest := []) ⟨hx, hb, hml, hown, hts⟩ (c_X6_demandPoint l D cI g P n st sm gr co en la rf H.size hw q (by omega)) (cwV 1 hts gX6_ofPoint_X6_demandPoint rfl rfl rfl (by decide +kernel) ⟨Nat.le_of_ble_eq_true rfl, Nat.le_of_ble_eq_true rfl⟩) hN hP hD (hK.sub (tys' := [(cI, .int)]) [0] rfl) hS hA [0, 1, 2, 3, 4, 5, 21] [6, 7, 8, 9, 10, 11, 12, 13, 14, 15, 16, 17, 18, 19, 20] rfl rfl rfl rfl rfl rfl (by decide) (by decide) 21 6 rfl rfl rfl (hK.sub (tys' := [(cI, .int)]) [0] rfl) rfl hl.1 rfl (Nat.le_of_ble_eq_true rfl) dX6_ofPoint_2 ⟨Nat.zero_le _, Nat.zero_le _⟩ (fun H locs hP hS => ?_)
  have hD : va_D A (jW cI g P n st sm gr co en la ++ jF cI g fp fb fc fk fq ft pa ps fi bl sp gp sw gw ++ jP cI g pk cl ++ jD cI cO g rd le wk fa ++ jC g rf) := jxD hD0 rfl
  refine lv_iload_n hx hb dX6_ofPoint_5 rfl (lv_at hl 2 rfl) ?_
  refine lv_bipush (v := nI 6) hx hb dX6_ofPoint_6 (by decide) ?_
  refine jxw_callSv (X := jW cI g P n st sm gr co en la ++ jF cI g fp fb fc fk fq ft pa ps fi bl sp gp sw gw ++ jP cI g pk cl ++ jD cI cO g rd le wk fa ++ jC g rf) (X' := jW cI g P n st sm gr co en la ++ jF cI g fp fb fc fk fq ft pa ps fi bl sp gp sw gw ++ jP cI g pk cl ++ jD cI cO g rd le wk fa ++ jC g rf) (wc := []) (wc' := []) (wr := jW cI g P n st sm gr co en la ++ jF cI g fp fb fc fk fq ft pa ps fi bl sp gp sw gw ++ jP cI g pk cl ++ jD cI cO g rd le wk fa ++ jC g rf) (N := 22) (As := [.int (nI 6), .int (nI 6)]) (rest := []) ⟨hx, hb, hml, hown, hts⟩ (c_X6_demandWhat l D g H.size 6 6 (by omega) (by omega)) (va_cwS 2 hts gX6_ofPoint_X6_demandWhat rfl rfl rfl (by decide +kernel) ⟨Nat.le_of_ble_eq_true rfl, Nat.le_of_ble_eq_true rfl⟩) hN hP hD (hK.sub (tys' := []) [] rfl) hS hA [] [0, 1, 2, 3, 4, 5, 6, 7, 8, 9, 10, 11, 12, 13, 14, 15, 16, 17, 18, 19, 20, 21] rfl rfl rfl rfl rfl rfl (by decide) (by decide) rfl hl.1 rfl (Nat.le_of_ble_eq_true rfl) dX6_ofPoint_8 ⟨Nat.zero_le _, Nat.zero_le _⟩ (fun H locs hP hS => ?_)
  have hD : va_D A (jW cI g P n st sm gr co en la ++ jF cI g fp fb fc fk fq ft pa ps fi bl sp gp sw gw ++ jP cI g pk cl ++ jD cI cO g rd le wk fa ++ jC g rf) := jxD hD0 rfl
  refine lv_iload_n hx hb dX6_ofPoint_11 rfl (lv_at hl 2 rfl) ?_
  refine lv_tableOut (tgt := 122) hx hb dX6_ofPoint_12 (by decide +kernel) (by decide) ?_
  refine lv_aload_n hx hb dX6_ofPoint_122 rfl (lv_at hl 0 rfl) ?_
  refine va_get (D := D) (ci := 6) (v := .ref (g 50)) (C := RX6) (T := TX6) (N := 7) hx hb hts in_X6_ofPoint_6 hown hK hP 21 rfl rfl 5 (by decide) (hts (.fieldLink RX6 49 "Twincuts" "drawing" "LTwincuts$Drawing;") (List.mem_of_getElem? (i := 4) (by decide +kernel))) (fun _ h9 => h9) rfl dX6_ofPoint_123 ?_
  refine va_getN (D := D) (ci := 0) (v := .ref (g 52)) (C := RX0) (T := TX0) (N := 5) hx hb hts in_X6_ofPoint_0 hown hK hP 17 rfl rfl 2 (by decide) (hN.use 38 rfl) (fun _ h9 => h9) rfl dX6_ofPoint_126 ?_
  refine lv_iload_n hx hb dX6_ofPoint_129 rfl (lv_at hl 1 rfl) ?_
  refine jx_iald hx hb hK hP 19 0 rfl rfl (by omega) (by decide) dX6_ofPoint_130 ?_
  exact hQ (nI (le q)) H locs _ _ dX6_ofPoint_131 rfl hP hS
/-- ofPoint(point, what), whatever is asked -/
theorem c_X6_ofPoint (l : Launch) (D : va_G) (cI : ClassId) (cO : ClassId) (g : Nat → Nat) (P n st : Nat) (sm gr co en la : Nat → Nat) (fp fb fc fk fq ft : Nat) (pa ps fi : Nat → Nat) (bl : Nat → Int32) (sp gp sw gw : Nat → Nat) (pk : Nat) (cl : Nat → Nat) (rd le : Nat → Nat) (wk : Nat) (fa : Nat → Int32) (rf : Int32) (sz : Nat) (hw : jmWF P n st sm gr co en la) (q : Nat) (hq : q < P) (hfc : fc < 65536) (hbl : ∀ j, j < n → st.testBit j = true → ∃ b, b < 16 ∧ bl j = nI b) (w : Nat) (hw9 : w ≤ 6) : jxWi l yX6_ofPoint wsX6_ofPoint ({ frames := 2, cells := 0, slots := 0, locals := 44 } : Room) D [(cI, .int), (cO, .array .int)] (jW cI g P n st sm gr co en la ++ jF cI g fp fb fc fk fq ft pa ps fi bl sp gp sw gw ++ jP cI g pk cl ++ jD cI cO g rd le wk fa ++ jC g rf) [.ref (g 60), .int (nI q), .int (nI w)] sz (fun r => r = jmOfP en la n st fc pa bl cl le q w) (jW cI g P n st sm gr co en la ++ jF cI g fp fb fc fk fq ft pa ps fi bl sp gp sw gw ++ jP cI g pk cl ++ jD cI cO g rd le wk fa ++ jC g rf) := by
  have h9 : w = 0 ∨ w = 1 ∨ w = 2 ∨ w = 3 ∨ w = 4 ∨ w = 5 ∨ w = 6 := by omega
  rcases h9 with rfl | rfl | rfl | rfl | rfl | rfl | rfl
  · exact c_X6_ofPoint_0 l D cI cO g P n st sm gr co en la fp fb fc fk fq ft pa ps fi bl sp gp sw gw pk cl rd le wk fa rf sz hw q hq hfc hbl
  · exact c_X6_ofPoint_1 l D cI cO g P n st sm gr co en la fp fb fc fk fq ft pa ps fi bl sp gp sw gw pk cl rd le wk fa rf sz hw q hq hfc hbl
  · exact c_X6_ofPoint_2 l D cI cO g P n st sm gr co en la fp fb fc fk fq ft pa ps fi bl sp gp sw gw pk cl rd le wk fa rf sz hw q hq hfc hbl
  · exact c_X6_ofPoint_3 l D cI cO g P n st sm gr co en la fp fb fc fk fq ft pa ps fi bl sp gp sw gw pk cl rd le wk fa rf sz hw q hq hfc hbl
  · exact c_X6_ofPoint_4 l D cI cO g P n st sm gr co en la fp fb fc fk fq ft pa ps fi bl sp gp sw gw pk cl rd le wk fa rf sz hw q hq hfc hbl
  · exact c_X6_ofPoint_5 l D cI cO g P n st sm gr co en la fp fb fc fk fq ft pa ps fi bl sp gp sw gw pk cl rd le wk fa rf sz hw q hq hfc hbl
  · exact c_X6_ofPoint_6 l D cI cO g P n st sm gr co en la fp fb fc fk fq ft pa ps fi bl sp gp sw gw pk cl rd le wk fa rf sz hw q hq hfc hbl
set_option maxRecDepth 20000 in
theorem in_X6_ofLine_6 : ∀ w ∈ wsX60, w ∈ wsX6_ofLine := by decide +kernel
set_option maxRecDepth 20000 in
theorem in_X6_ofLine_5 : ∀ w ∈ wsX50, w ∈ wsX6_ofLine := by decide +kernel
set_option maxRecDepth 20000 in
theorem in_X6_ofLine_1 : ∀ w ∈ wsX10, w ∈ wsX6_ofLine := by decide +kernel
set_option maxRecDepth 20000 in
theorem in_X6_ofLine_2 : ∀ w ∈ wsX20, w ∈ wsX6_ofLine := by decide +kernel
set_option maxRecDepth 20000 in
theorem in_X6_ofLine_0 : ∀ w ∈ wsX00, w ∈ wsX6_ofLine := by decide +kernel
set_option maxHeartbeats 4000000 in
set_option maxRecDepth 100000 in
/-- ofLine(line, what), asked 0 -/
theorem c_X6_ofLine_0 (l : Launch) (D : va_G) (cI : ClassId) (cO : ClassId) (cM : ClassId) (g : Nat → Nat) (P n st : Nat) (sm gr co en la : Nat → Nat) (fp fb fc fk fq ft : Nat) (pa ps fi : Nat → Nat) (bl : Nat → Int32) (sp gp sw gw : Nat → Nat) (rt : Nat → Nat) (cs : Nat) (ct : Int32) (jo : Nat → Nat) (rd le : Nat → Nat) (wk : Nat) (fa : Nat → Int32) (rf : Int32) (sz : Nat) (hw : jmWF P n st sm gr co en la) (i : Nat) (hi : i < n) (hfb : fb < 65536) (hcs : cs < 65536) : jxWi l yX6_ofLine wsX6_ofLine ({ frames := 1, cells := 0, slots := 0, locals := 21 } : Room) D [(cI, .int), (cO, .array .int), (cM, .array .long)] (jW cI g P n st sm gr co en la ++ jF cI g fp fb fc fk fq ft pa ps fi bl sp gp sw gw ++ jT cI cM g rt cs ct jo ++ jD cI cO g rd le wk fa ++ jC g rf) [.ref (g 60), .int (nI i), .int (nI 0)] sz (fun r => r = jmOfL sm gr co st fb bl cs fa i 0) (jW cI g P n st sm gr co en la ++ jF cI g fp fb fc fk fq ft pa ps fi bl sp gp sw gw ++ jT cI cM g rt cs ct jo ++ jD cI cO g rd le wk fa ++ jC g rf) := by
  refine jxw_enter (by decide) rfl (Nat.le_of_ble_eq_true rfl) ?_
  intro p e s m args below meth c Q A ls hx hb hml hts hown hN hP hK hD hA hl hQ
  have hD0 := hD
  obtain ⟨H, hH⟩ : ∃ h, h = s.heap := ⟨_, rfl⟩
  have hS : va_S A s.heap H [] := by rw [hH]; exact va_S.rf
  rw [← hH] at hP ⊢
  obtain ⟨locs, hlocs⟩ : ∃ z : List Loc, z = [] := ⟨_, rfl⟩
  rw [← hlocs] at hS ⊢
  have hown : s.vm.findClass RX6 = some m.cls := hown
  have hl : lv_has ls 3 [(0, .ref (g 60)), (1, .int (nI i)), (2, .int (nI 0))] := hl
  have hP8 : P ≤ 8 := hw.1
  have hn16 : n ≤ 16 := hw.2.1
  have hst : st < 65536 := jmWF_st hw
  have hen : ∀ j, j < n → en j < 256 := jmWF_en hw
  have hla : ∀ q, q < P → la q < 65536 := jmWF_la hw
  have hgr : ∀ j, j < n → sm j < 8 ∧ gr j < 8 := jmWF_gr hw
  have hco : ∀ j, j < n → co j < 21 := jmWF_co hw
  refine lv_aload_n hx hb dX6_ofLine_0 rfl (lv_at hl 0 rfl) ?_
  refine lv_iload_n hx hb dX6_ofLine_1 rfl (lv_at hl 1 rfl) ?_
  refine jxw_callV (X := jW cI g P n st sm gr co en la ++ jF cI g fp fb fc fk fq ft pa ps fi bl sp gp sw gw ++ jT cI cM g rt cs ct jo ++ jD cI cO g rd le wk fa ++ jC g rf) (X' := jW cI g P n st sm gr co en la ++ jF cI g fp fb fc fk fq ft pa ps fi bl sp gp sw gw ++ jT cI cM g rt cs ct jo ++ jD cI cO g rd le wk fa ++ jC g rf) (wc := jW cI g P n st sm gr co en la ++ jC g rf) (wc' := jW cI g P n st sm gr co en la ++ jC g rf) (wr := jF cI g fp fb fc fk fq ft pa ps fi bl sp gp sw gw ++ jT cI cM g rt cs ct jo ++ jD cI cO g rd le wk fa) (N := 23) (As := [.int (nI i)]) (rest := []) ⟨hx, hb, hml, hown, hts⟩ (c_X6_demandLine l D cI g P n st sm gr co en la rf H.size hw i (by omega)) (cwV 1 hts gX6_ofLine_X6_demandLine rfl rfl rfl (by decide +kernel) ⟨Nat.le_of_ble_eq_true rfl, Nat.le_of_ble_eq_true rfl⟩) hN hP hD (hK.sub (tys' := [(cI, .int)]) [0] rfl) hS hA [0, 1, 2, 3, 4, 5, 22] [6, 7, 8, 9, 10, 11, 12, 13, 14, 15, 16, 17, 18, 19, 20, 21] rfl rfl rfl rfl rfl rfl (by decide) (by decide) 22 6 rfl rfl rfl (hK.sub (tys' := [(cI, .int)]) [0] rfl) rfl hl.1 rfl (Nat.le_of_ble_eq_true rfl) dX6_ofLine_2 ⟨Nat.zero_le _, Nat.zero_le _⟩ (fun H locs hP hS => ?_)
  have hD : va_D A (jW cI g P n st sm gr co en la ++ jF cI g fp fb fc fk fq ft pa ps fi bl sp gp sw gw ++ jT cI cM g rt cs ct jo ++ jD cI cO g rd le wk fa ++ jC g rf) := jxD hD0 rfl
  refine lv_iload_n hx hb dX6_ofLine_5 rfl (lv_at hl 2 rfl) ?_
  refine lv_bipush (v := nI 8) hx hb dX6_ofLine_6 (by decide) ?_
  refine jxw_callSv (X := jW cI g P n st sm gr co en la ++ jF cI g fp fb fc fk fq ft pa ps fi bl sp gp sw gw ++ jT cI cM g rt cs ct jo ++ jD cI cO g rd le wk fa ++ jC g rf) (X' := jW cI g P n st sm gr co en la ++ jF cI g fp fb fc fk fq ft pa ps fi bl sp gp sw gw ++ jT cI cM g rt cs ct jo ++ jD cI cO g rd le wk fa ++ jC g rf) (wc := []) (wc' := []) (wr := jW cI g P n st sm gr co en la ++ jF cI g fp fb fc fk fq ft pa ps fi bl sp gp sw gw ++ jT cI cM g rt cs ct jo ++ jD cI cO g rd le wk fa ++ jC g rf) (N := 23) (As := [.int (nI 0), .int (nI 8)]) (rest := []) ⟨hx, hb, hml, hown, hts⟩ (c_X6_demandWhat l D g H.size 0 8 (by omega) (by omega)) (va_cwS 2 hts gX6_ofLine_X6_demandWhat rfl rfl rfl (by decide +kernel) ⟨Nat.le_of_ble_eq_true rfl, Nat.le_of_ble_eq_true rfl⟩) hN hP hD (hK.sub (tys' := []) [] rfl) hS hA [] [0, 1, 2, 3, 4, 5, 6, 7, 8, 9, 10, 11, 12, 13, 14, 15, 16, 17, 18, 19, 20, 21, 22] rfl rfl rfl rfl rfl rfl (by decide) (by decide) rfl hl.1 rfl (Nat.le_of_ble_eq_true rfl) dX6_ofLine_8 ⟨Nat.zero_le _, Nat.zero_le _⟩ (fun H locs hP hS => ?_)
  have hD : va_D A (jW cI g P n st sm gr co en la ++ jF cI g fp fb fc fk fq ft pa ps fi bl sp gp sw gw ++ jT cI cM g rt cs ct jo ++ jD cI cO g rd le wk fa ++ jC g rf) := jxD hD0 rfl
  refine lv_iload_n hx hb dX6_ofLine_11 rfl (lv_at hl 2 rfl) ?_
  refine lv_tableIn (off := 48) (tgt := 60) hx hb dX6_ofLine_12 (by decide +kernel) (by decide +kernel) (by decide +kernel) (by decide) ?_
  refine lv_aload_n hx hb dX6_ofLine_60 rfl (lv_at hl 0 rfl) ?_
  refine va_get (D := D) (ci := 6) (v := .ref (g 0)) (C := RX6) (T := TX6) (N := 7) hx hb hts in_X6_ofLine_6 hown hK hP 22 rfl rfl 0 (by decide) (hts (.fieldLink RX6 10 "Twincuts" "web" "LTwincuts$Web;") (List.mem_of_getElem? (i := 1) (by decide +kernel))) (fun _ h9 => h9) rfl dX6_ofLine_61 ?_
  refine va_getN (D := D) (ci := 5) (v := .ref (g 1)) (C := RX5) (T := TX5) (N := 8) hx hb hts in_X6_ofLine_5 hown hK hP 0 rfl rfl 3 (by decide) (hN.use 19 rfl) (fun _ h9 => h9) rfl dX6_ofLine_64 ?_
  refine lv_iload_n hx hb dX6_ofLine_67 rfl (lv_at hl 1 rfl) ?_
  refine jx_iald hx hb hK hP 1 0 rfl rfl (by omega) (by decide) dX6_ofLine_68 ?_
  exact hQ (nI (sm i)) H locs _ _ dX6_ofLine_69 rfl hP hS
set_option maxHeartbeats 4000000 in
set_option maxRecDepth 100000 in
/-- ofLine(line, what), asked 1 -/
theorem c_X6_ofLine_1 (l : Launch) (D : va_G) (cI : ClassId) (cO : ClassId) (cM : ClassId) (g : Nat → Nat) (P n st : Nat) (sm gr co en la : Nat → Nat) (fp fb fc fk fq ft : Nat) (pa ps fi : Nat → Nat) (bl : Nat → Int32) (sp gp sw gw : Nat → Nat) (rt : Nat → Nat) (cs : Nat) (ct : Int32) (jo : Nat → Nat) (rd le : Nat → Nat) (wk : Nat) (fa : Nat → Int32) (rf : Int32) (sz : Nat) (hw : jmWF P n st sm gr co en la) (i : Nat) (hi : i < n) (hfb : fb < 65536) (hcs : cs < 65536) : jxWi l yX6_ofLine wsX6_ofLine ({ frames := 1, cells := 0, slots := 0, locals := 21 } : Room) D [(cI, .int), (cO, .array .int), (cM, .array .long)] (jW cI g P n st sm gr co en la ++ jF cI g fp fb fc fk fq ft pa ps fi bl sp gp sw gw ++ jT cI cM g rt cs ct jo ++ jD cI cO g rd le wk fa ++ jC g rf) [.ref (g 60), .int (nI i), .int (nI 1)] sz (fun r => r = jmOfL sm gr co st fb bl cs fa i 1) (jW cI g P n st sm gr co en la ++ jF cI g fp fb fc fk fq ft pa ps fi bl sp gp sw gw ++ jT cI cM g rt cs ct jo ++ jD cI cO g rd le wk fa ++ jC g rf) := by
  refine jxw_enter (by decide) rfl (Nat.le_of_ble_eq_true rfl) ?_
  intro p e s m args below meth c Q A ls hx hb hml hts hown hN hP hK hD hA hl hQ
  have hD0 := hD
  obtain ⟨H, hH⟩ : ∃ h, h = s.heap := ⟨_, rfl⟩
  have hS : va_S A s.heap H [] := by rw [hH]; exact va_S.rf
  rw [← hH] at hP ⊢
  obtain ⟨locs, hlocs⟩ : ∃ z : List Loc, z = [] := ⟨_, rfl⟩
  rw [← hlocs] at hS ⊢
  have hown : s.vm.findClass RX6 = some m.cls := hown
  have hl : lv_has ls 3 [(0, .ref (g 60)), (1, .int (nI i)), (2, .int (nI 1))] := hl
  have hP8 : P ≤ 8 := hw.1
  have hn16 : n ≤ 16 := hw.2.1
  have hst : st < 65536 := jmWF_st hw
  have hen : ∀ j, j < n → en j < 256 := jmWF_en hw
  have hla : ∀ q, q < P → la q < 65536 := jmWF_la hw
  have hgr : ∀ j, j < n → sm j < 8 ∧ gr j < 8 := jmWF_gr hw
  have hco : ∀ j, j < n → co j < 21 := jmWF_co hw
  refine lv_aload_n hx hb dX6_ofLine_0 rfl (lv_at hl 0 rfl) ?_
  refine lv_iload_n hx hb dX6_ofLine_1 rfl (lv_at hl 1 rfl) ?_
  refine jxw_callV (X := jW cI g P n st sm gr co en la ++ jF cI g fp fb fc fk fq ft pa ps fi bl sp gp sw gw ++ jT cI cM g rt cs ct jo ++ jD cI cO g rd le wk fa ++ jC g rf) (X' := jW cI g P n st sm gr co en la ++ jF cI g fp fb fc fk fq ft pa ps fi bl sp gp sw gw ++ jT cI cM g rt cs ct jo ++ jD cI cO g rd le wk fa ++ jC g rf) (wc := jW cI g P n st sm gr co en la ++ jC g rf) (wc' := jW cI g P n st sm gr co en la ++ jC g rf) (wr := jF cI g fp fb fc fk fq ft pa ps fi bl sp gp sw gw ++ jT cI cM g rt cs ct jo ++ jD cI cO g rd le wk fa) (N := 23) (As := [.int (nI i)]) (rest := []) ⟨hx, hb, hml, hown, hts⟩ (c_X6_demandLine l D cI g P n st sm gr co en la rf H.size hw i (by omega)) (cwV 1 hts gX6_ofLine_X6_demandLine rfl rfl rfl (by decide +kernel) ⟨Nat.le_of_ble_eq_true rfl, Nat.le_of_ble_eq_true rfl⟩) hN hP hD (hK.sub (tys' := [(cI, .int)]) [0] rfl) hS hA [0, 1, 2, 3, 4, 5, 22] [6, 7, 8, 9, 10, 11, 12, 13, 14, 15, 16, 17, 18, 19, 20, 21] rfl rfl rfl rfl rfl rfl (by decide) (by decide) 22 6 rfl rfl rfl (hK.sub (tys' := [(cI, .int)]) [0] rfl) rfl hl.1 rfl (Nat.le_of_ble_eq_true rfl) dX6_ofLine_2 ⟨Nat.zero_le _, Nat.zero_le _⟩ (fun H locs hP hS => ?_)
  have hD : va_D A (jW cI g P n st sm gr co en la ++ jF cI g fp fb fc fk fq ft pa ps fi bl sp gp sw gw ++ jT cI cM g rt cs ct jo ++ jD cI cO g rd le wk fa ++ jC g rf) := jxD hD0 rfl
  refine lv_iload_n hx hb dX6_ofLine_5 rfl (lv_at hl 2 rfl) ?_
  refine lv_bipush (v := nI 8) hx hb dX6_ofLine_6 (by decide) ?_
  refine jxw_callSv (X := jW cI g P n st sm gr co en la ++ jF cI g fp fb fc fk fq ft pa ps fi bl sp gp sw gw ++ jT cI cM g rt cs ct jo ++ jD cI cO g rd le wk fa ++ jC g rf) (X' := jW cI g P n st sm gr co en la ++ jF cI g fp fb fc fk fq ft pa ps fi bl sp gp sw gw ++ jT cI cM g rt cs ct jo ++ jD cI cO g rd le wk fa ++ jC g rf) (wc := []) (wc' := []) (wr := jW cI g P n st sm gr co en la ++ jF cI g fp fb fc fk fq ft pa ps fi bl sp gp sw gw ++ jT cI cM g rt cs ct jo ++ jD cI cO g rd le wk fa ++ jC g rf) (N := 23) (As := [.int (nI 1), .int (nI 8)]) (rest := []) ⟨hx, hb, hml, hown, hts⟩ (c_X6_demandWhat l D g H.size 1 8 (by omega) (by omega)) (va_cwS 2 hts gX6_ofLine_X6_demandWhat rfl rfl rfl (by decide +kernel) ⟨Nat.le_of_ble_eq_true rfl, Nat.le_of_ble_eq_true rfl⟩) hN hP hD (hK.sub (tys' := []) [] rfl) hS hA [] [0, 1, 2, 3, 4, 5, 6, 7, 8, 9, 10, 11, 12, 13, 14, 15, 16, 17, 18, 19, 20, 21, 22] rfl rfl rfl rfl rfl rfl (by decide) (by decide) rfl hl.1 rfl (Nat.le_of_ble_eq_true rfl) dX6_ofLine_8 ⟨Nat.zero_le _, Nat.zero_le _⟩ (fun H locs hP hS => ?_)
  have hD : va_D A (jW cI g P n st sm gr co en la ++ jF cI g fp fb fc fk fq ft pa ps fi bl sp gp sw gw ++ jT cI cM g rt cs ct jo ++ jD cI cO g rd le wk fa ++ jC g rf) := jxD hD0 rfl
  refine lv_iload_n hx hb dX6_ofLine_11 rfl (lv_at hl 2 rfl) ?_
  refine lv_tableIn (off := 58) (tgt := 70) hx hb dX6_ofLine_12 (by decide +kernel) (by decide +kernel) (by decide +kernel) (by decide) ?_
  refine lv_aload_n hx hb dX6_ofLine_70 rfl (lv_at hl 0 rfl) ?_
  refine va_get (D := D) (ci := 6) (v := .ref (g 0)) (C := RX6) (T := TX6) (N := 7) hx hb hts in_X6_ofLine_6 hown hK hP 22 rfl rfl 0 (by decide) (hts (.fieldLink RX6 10 "Twincuts" "web" "LTwincuts$Web;") (List.mem_of_getElem? (i := 1) (by decide +kernel))) (fun _ h9 => h9) rfl dX6_ofLine_71 ?_
  refine va_getN (D := D) (ci := 5) (v := .ref (g 2)) (C := RX5) (T := TX5) (N := 8) hx hb hts in_X6_ofLine_5 hown hK hP 0 rfl rfl 4 (by decide) (hN.use 23 rfl) (fun _ h9 => h9) rfl dX6_ofLine_74 ?_
  refine lv_iload_n hx hb dX6_ofLine_77 rfl (lv_at hl 1 rfl) ?_
  refine jx_iald hx hb hK hP 2 0 rfl rfl (by omega) (by decide) dX6_ofLine_78 ?_
  exact hQ (nI (gr i)) H locs _ _ dX6_ofLine_79 rfl hP hS
set_option maxHeartbeats 4000000 in
set_option maxRecDepth 100000 in
/-- ofLine(line, what), asked 2 -/
theorem c_X6_ofLine_2 (l : Launch) (D : va_G) (cI : ClassId) (cO : ClassId) (cM : ClassId) (g : Nat → Nat) (P n st : Nat) (sm gr co en la : Nat → Nat) (fp fb fc fk fq ft : Nat) (pa ps fi : Nat → Nat) (bl : Nat → Int32) (sp gp sw gw : Nat → Nat) (rt : Nat → Nat) (cs : Nat) (ct : Int32) (jo : Nat → Nat) (rd le : Nat → Nat) (wk : Nat) (fa : Nat → Int32) (rf : Int32) (sz : Nat) (hw : jmWF P n st sm gr co en la) (i : Nat) (hi : i < n) (hfb : fb < 65536) (hcs : cs < 65536) : jxWi l yX6_ofLine wsX6_ofLine ({ frames := 1, cells := 0, slots := 0, locals := 21 } : Room) D [(cI, .int), (cO, .array .int), (cM, .array .long)] (jW cI g P n st sm gr co en la ++ jF cI g fp fb fc fk fq ft pa ps fi bl sp gp sw gw ++ jT cI cM g rt cs ct jo ++ jD cI cO g rd le wk fa ++ jC g rf) [.ref (g 60), .int (nI i), .int (nI 2)] sz (fun r => r = jmOfL sm gr co st fb bl cs fa i 2) (jW cI g P n st sm gr co en la ++ jF cI g fp fb fc fk fq ft pa ps fi bl sp gp sw gw ++ jT cI cM g rt cs ct jo ++ jD cI cO g rd le wk fa ++ jC g rf) := by
  refine jxw_enter (by decide) rfl (Nat.le_of_ble_eq_true rfl) ?_
  intro p e s m args below meth c Q A ls hx hb hml hts hown hN hP hK hD hA hl hQ
  have hD0 := hD
  obtain ⟨H, hH⟩ : ∃ h, h = s.heap := ⟨_, rfl⟩
  have hS : va_S A s.heap H [] := by rw [hH]; exact va_S.rf
  rw [← hH] at hP ⊢
  obtain ⟨locs, hlocs⟩ : ∃ z : List Loc, z = [] := ⟨_, rfl⟩
  rw [← hlocs] at hS ⊢
  have hown : s.vm.findClass RX6 = some m.cls := hown
  have hl : lv_has ls 3 [(0, .ref (g 60)), (1, .int (nI i)), (2, .int (nI 2))] := hl
  have hP8 : P ≤ 8 := hw.1
  have hn16 : n ≤ 16 := hw.2.1
  have hst : st < 65536 := jmWF_st hw
  have hen : ∀ j, j < n → en j < 256 := jmWF_en hw
  have hla : ∀ q, q < P → la q < 65536 := jmWF_la hw
  have hgr : ∀ j, j < n → sm j < 8 ∧ gr j < 8 := jmWF_gr hw
  have hco : ∀ j, j < n → co j < 21 := jmWF_co hw
  refine lv_aload_n hx hb dX6_ofLine_0 rfl (lv_at hl 0 rfl) ?_
  refine lv_iload_n hx hb dX6_ofLine_1 rfl (lv_at hl 1 rfl) ?_
  refine jxw_callV (X := jW cI g P n st sm gr co en la ++ jF cI g fp fb fc fk fq ft pa ps fi bl sp gp sw gw ++ jT cI cM g rt cs ct jo ++ jD cI cO g rd le wk fa ++ jC g rf) (X' := jW cI g P n st sm gr co en la ++ jF cI g fp fb fc fk fq ft pa ps fi bl sp gp sw gw ++ jT cI cM g rt cs ct jo ++ jD cI cO g rd le wk fa ++ jC g rf) (wc := jW cI g P n st sm gr co en la ++ jC g rf) (wc' := jW cI g P n st sm gr co en la ++ jC g rf) (wr := jF cI g fp fb fc fk fq ft pa ps fi bl sp gp sw gw ++ jT cI cM g rt cs ct jo ++ jD cI cO g rd le wk fa) (N := 23) (As := [.int (nI i)]) (rest := []) ⟨hx, hb, hml, hown, hts⟩ (c_X6_demandLine l D cI g P n st sm gr co en la rf H.size hw i (by omega)) (cwV 1 hts gX6_ofLine_X6_demandLine rfl rfl rfl (by decide +kernel) ⟨Nat.le_of_ble_eq_true rfl, Nat.le_of_ble_eq_true rfl⟩) hN hP hD (hK.sub (tys' := [(cI, .int)]) [0] rfl) hS hA [0, 1, 2, 3, 4, 5, 22] [6, 7, 8, 9, 10, 11, 12, 13, 14, 15, 16, 17, 18, 19, 20, 21] rfl rfl rfl rfl rfl rfl (by decide) (by decide) 22 6 rfl rfl rfl (hK.sub (tys' := [(cI, .int)]) [0] rfl) rfl hl.1 rfl (Nat.le_of_ble_eq_true rfl) dX6_ofLine_2 ⟨Nat.zero_le _, Nat.zero_le _⟩ (fun H locs hP hS => ?_)
  have hD : va_D A (jW cI g P n st sm gr co en la ++ jF cI g fp fb fc fk fq ft pa ps fi bl sp gp sw gw ++ jT cI cM g rt cs ct jo ++ jD cI cO g rd le wk fa ++ jC g rf) := jxD hD0 rfl
  refine lv_iload_n hx hb dX6_ofLine_5 rfl (lv_at hl 2 rfl) ?_
  refine lv_bipush (v := nI 8) hx hb dX6_ofLine_6 (by decide) ?_
  refine jxw_callSv (X := jW cI g P n st sm gr co en la ++ jF cI g fp fb fc fk fq ft pa ps fi bl sp gp sw gw ++ jT cI cM g rt cs ct jo ++ jD cI cO g rd le wk fa ++ jC g rf) (X' := jW cI g P n st sm gr co en la ++ jF cI g fp fb fc fk fq ft pa ps fi bl sp gp sw gw ++ jT cI cM g rt cs ct jo ++ jD cI cO g rd le wk fa ++ jC g rf) (wc := []) (wc' := []) (wr := jW cI g P n st sm gr co en la ++ jF cI g fp fb fc fk fq ft pa ps fi bl sp gp sw gw ++ jT cI cM g rt cs ct jo ++ jD cI cO g rd le wk fa ++ jC g rf) (N := 23) (As := [.int (nI 2), .int (nI 8)]) (rest := []) ⟨hx, hb, hml, hown, hts⟩ (c_X6_demandWhat l D g H.size 2 8 (by omega) (by omega)) (va_cwS 2 hts gX6_ofLine_X6_demandWhat rfl rfl rfl (by decide +kernel) ⟨Nat.le_of_ble_eq_true rfl, Nat.le_of_ble_eq_true rfl⟩) hN hP hD (hK.sub (tys' := []) [] rfl) hS hA [] [0, 1, 2, 3, 4, 5, 6, 7, 8, 9, 10, 11, 12, 13, 14, 15, 16, 17, 18, 19, 20, 21, 22] rfl rfl rfl rfl rfl rfl (by decide) (by decide) rfl hl.1 rfl (Nat.le_of_ble_eq_true rfl) dX6_ofLine_8 ⟨Nat.zero_le _, Nat.zero_le _⟩ (fun H locs hP hS => ?_)
  have hD : va_D A (jW cI g P n st sm gr co en la ++ jF cI g fp fb fc fk fq ft pa ps fi bl sp gp sw gw ++ jT cI cM g rt cs ct jo ++ jD cI cO g rd le wk fa ++ jC g rf) := jxD hD0 rfl
  refine lv_iload_n hx hb dX6_ofLine_11 rfl (lv_at hl 2 rfl) ?_
  refine lv_tableIn (off := 68) (tgt := 80) hx hb dX6_ofLine_12 (by decide +kernel) (by decide +kernel) (by decide +kernel) (by decide) ?_
  refine lv_aload_n hx hb dX6_ofLine_80 rfl (lv_at hl 0 rfl) ?_
  refine va_get (D := D) (ci := 6) (v := .ref (g 0)) (C := RX6) (T := TX6) (N := 7) hx hb hts in_X6_ofLine_6 hown hK hP 22 rfl rfl 0 (by decide) (hts (.fieldLink RX6 10 "Twincuts" "web" "LTwincuts$Web;") (List.mem_of_getElem? (i := 1) (by decide +kernel))) (fun _ h9 => h9) rfl dX6_ofLine_81 ?_
  refine va_getN (D := D) (ci := 5) (v := .ref (g 3)) (C := RX5) (T := TX5) (N := 8) hx hb hts in_X6_ofLine_5 hown hK hP 0 rfl rfl 5 (by decide) (hN.use 24 rfl) (fun _ h9 => h9) rfl dX6_ofLine_84 ?_
  refine lv_iload_n hx hb dX6_ofLine_87 rfl (lv_at hl 1 rfl) ?_
  refine jx_iald hx hb hK hP 3 0 rfl rfl (by omega) (by decide) dX6_ofLine_88 ?_
  exact hQ (nI (co i)) H locs _ _ dX6_ofLine_89 rfl hP hS
set_option maxHeartbeats 4000000 in
set_option maxRecDepth 100000 in
/-- ofLine(line, what), asked 3 -/
theorem c_X6_ofLine_3 (l : Launch) (D : va_G) (cI : ClassId) (cO : ClassId) (cM : ClassId) (g : Nat → Nat) (P n st : Nat) (sm gr co en la : Nat → Nat) (fp fb fc fk fq ft : Nat) (pa ps fi : Nat → Nat) (bl : Nat → Int32) (sp gp sw gw : Nat → Nat) (rt : Nat → Nat) (cs : Nat) (ct : Int32) (jo : Nat → Nat) (rd le : Nat → Nat) (wk : Nat) (fa : Nat → Int32) (rf : Int32) (sz : Nat) (hw : jmWF P n st sm gr co en la) (i : Nat) (hi : i < n) (hfb : fb < 65536) (hcs : cs < 65536) : jxWi l yX6_ofLine wsX6_ofLine ({ frames := 1, cells := 0, slots := 0, locals := 21 } : Room) D [(cI, .int), (cO, .array .int), (cM, .array .long)] (jW cI g P n st sm gr co en la ++ jF cI g fp fb fc fk fq ft pa ps fi bl sp gp sw gw ++ jT cI cM g rt cs ct jo ++ jD cI cO g rd le wk fa ++ jC g rf) [.ref (g 60), .int (nI i), .int (nI 3)] sz (fun r => r = jmOfL sm gr co st fb bl cs fa i 3) (jW cI g P n st sm gr co en la ++ jF cI g fp fb fc fk fq ft pa ps fi bl sp gp sw gw ++ jT cI cM g rt cs ct jo ++ jD cI cO g rd le wk fa ++ jC g rf) := by
  refine jxw_enter (by decide) rfl (Nat.le_of_ble_eq_true rfl) ?_
  intro p e s m args below meth c Q A ls hx hb hml hts hown hN hP hK hD hA hl hQ
  have hD0 := hD
  obtain ⟨H, hH⟩ : ∃ h, h = s.heap := ⟨_, rfl⟩
  have hS : va_S A s.heap H [] := by rw [hH]; exact va_S.rf
  rw [← hH] at hP ⊢
  obtain ⟨locs, hlocs⟩ : ∃ z : List Loc, z = [] := ⟨_, rfl⟩
  rw [← hlocs] at hS ⊢
  have hown : s.vm.findClass RX6 = some m.cls := hown
  have hl : lv_has ls 3 [(0, .ref (g 60)), (1, .int (nI i)), (2, .int (nI 3))] := hl
  have hP8 : P ≤ 8 := hw.1
  have hn16 : n ≤ 16 := hw.2.1
  have hst : st < 65536 := jmWF_st hw
  have hen : ∀ j, j < n → en j < 256 := jmWF_en hw
  have hla : ∀ q, q < P → la q < 65536 := jmWF_la hw
  have hgr : ∀ j, j < n → sm j < 8 ∧ gr j < 8 := jmWF_gr hw
  have hco : ∀ j, j < n → co j < 21 := jmWF_co hw
  refine lv_aload_n hx hb dX6_ofLine_0 rfl (lv_at hl 0 rfl) ?_
  refine lv_iload_n hx hb dX6_ofLine_1 rfl (lv_at hl 1 rfl) ?_
  refine jxw_callV (X := jW cI g P n st sm gr co en la ++ jF cI g fp fb fc fk fq ft pa ps fi bl sp gp sw gw ++ jT cI cM g rt cs ct jo ++ jD cI cO g rd le wk fa ++ jC g rf) (X' := jW cI g P n st sm gr co en la ++ jF cI g fp fb fc fk fq ft pa ps fi bl sp gp sw gw ++ jT cI cM g rt cs ct jo ++ jD cI cO g rd le wk fa ++ jC g rf) (wc := jW cI g P n st sm gr co en la ++ jC g rf) (wc' := jW cI g P n st sm gr co en la ++ jC g rf) (wr := jF cI g fp fb fc fk fq ft pa ps fi bl sp gp sw gw ++ jT cI cM g rt cs ct jo ++ jD cI cO g rd le wk fa) (N := 23) (As := [.int (nI i)]) (rest := []) ⟨hx, hb, hml, hown, hts⟩ (c_X6_demandLine l D cI g P n st sm gr co en la rf H.size hw i (by omega)) (cwV 1 hts gX6_ofLine_X6_demandLine rfl rfl rfl (by decide +kernel) ⟨Nat.le_of_ble_eq_true rfl, Nat.le_of_ble_eq_true rfl⟩) hN hP hD (hK.sub (tys' := [(cI, .int)]) [0] rfl) hS hA [0, 1, 2, 3, 4, 5, 22] [6, 7, 8, 9, 10, 11, 12, 13, 14, 15, 16, 17, 18, 19, 20, 21] rfl rfl rfl rfl rfl rfl (by decide) (by decide) 22 6 rfl rfl rfl (hK.sub (tys' := [(cI, .int)]) [0] rfl) rfl hl.1 rfl (Nat.le_of_ble_eq_true rfl) dX6_ofLine_2 ⟨Nat.zero_le _, Nat.zero_le _⟩ (fun H locs hP hS => ?_)
  have hD : va_D A (jW cI g P n st sm gr co en la ++ jF cI g fp fb fc fk fq ft pa ps fi bl sp gp sw gw ++ jT cI cM g rt cs ct jo ++ jD cI cO g rd le wk fa ++ jC g rf) := jxD hD0 rfl
  refine lv_iload_n hx hb dX6_ofLine_5 rfl (lv_at hl 2 rfl) ?_
  refine lv_bipush (v := nI 8) hx hb dX6_ofLine_6 (by decide) ?_
  refine jxw_callSv (X := jW cI g P n st sm gr co en la ++ jF cI g fp fb fc fk fq ft pa ps fi bl sp gp sw gw ++ jT cI cM g rt cs ct jo ++ jD cI cO g rd le wk fa ++ jC g rf) (X' := jW cI g P n st sm gr co en la ++ jF cI g fp fb fc fk fq ft pa ps fi bl sp gp sw gw ++ jT cI cM g rt cs ct jo ++ jD cI cO g rd le wk fa ++ jC g rf) (wc := []) (wc' := []) (wr := jW cI g P n st sm gr co en la ++ jF cI g fp fb fc fk fq ft pa ps fi bl sp gp sw gw ++ jT cI cM g rt cs ct jo ++ jD cI cO g rd le wk fa ++ jC g rf) (N := 23) (As := [.int (nI 3), .int (nI 8)]) (rest := []) ⟨hx, hb, hml, hown, hts⟩ (c_X6_demandWhat l D g H.size 3 8 (by omega) (by omega)) (va_cwS 2 hts gX6_ofLine_X6_demandWhat rfl rfl rfl (by decide +kernel) ⟨Nat.le_of_ble_eq_true rfl, Nat.le_of_ble_eq_true rfl⟩) hN hP hD (hK.sub (tys' := []) [] rfl) hS hA [] [0, 1, 2, 3, 4, 5, 6, 7, 8, 9, 10, 11, 12, 13, 14, 15, 16, 17, 18, 19, 20, 21, 22] rfl rfl rfl rfl rfl rfl (by decide) (by decide) rfl hl.1 rfl (Nat.le_of_ble_eq_true rfl) dX6_ofLine_8 ⟨Nat.zero_le _, Nat.zero_le _⟩ (fun H locs hP hS => ?_)
  have hD : va_D A (jW cI g P n st sm gr co en la ++ jF cI g fp fb fc fk fq ft pa ps fi bl sp gp sw gw ++ jT cI cM g rt cs ct jo ++ jD cI cO g rd le wk fa ++ jC g rf) := jxD hD0 rfl
  refine lv_iload_n hx hb dX6_ofLine_11 rfl (lv_at hl 2 rfl) ?_
  refine lv_tableIn (off := 78) (tgt := 90) hx hb dX6_ofLine_12 (by decide +kernel) (by decide +kernel) (by decide +kernel) (by decide) ?_
  refine lv_aload_n hx hb dX6_ofLine_90 rfl (lv_at hl 0 rfl) ?_
  refine va_get (D := D) (ci := 6) (v := .ref (g 0)) (C := RX6) (T := TX6) (N := 7) hx hb hts in_X6_ofLine_6 hown hK hP 22 rfl rfl 0 (by decide) (hts (.fieldLink RX6 10 "Twincuts" "web" "LTwincuts$Web;") (List.mem_of_getElem? (i := 1) (by decide +kernel))) (fun _ h9 => h9) rfl dX6_ofLine_91 ?_
  refine va_getN (D := D) (ci := 5) (v := .int (nI st)) (C := RX5) (T := TX5) (N := 8) hx hb hts in_X6_ofLine_5 hown hK hP 0 rfl rfl 2 (by decide) (hN.use 15 rfl) (fun _ h9 => h9) rfl dX6_ofLine_94 ?_
  refine lv_iload_n hx hb dX6_ofLine_97 rfl (lv_at hl 1 rfl) ?_
  refine jx_callS (As := [.int (nI st), .int (nI i)]) (rest := []) ⟨hx, hb, hml, hown, hts⟩ (c_X6_has l D st i (by omega) (by omega)) (va_cwS 2 hts gX6_ofLine_X6_has rfl rfl rfl (by decide +kernel) ⟨Nat.le_of_ble_eq_true rfl, Nat.le_of_ble_eq_true rfl⟩) hN (hP.sub (ws' := []) [] rfl) (hK.sub (tys' := []) [] rfl) rfl hl.1 rfl (Nat.le_of_ble_eq_true rfl) dX6_ofLine_98 ⟨Nat.zero_le _, Nat.zero_le _⟩ (fun r hr => ?_)
  subst hr
  refine lv_if_eq (tgt := 108) hx hb dX6_ofLine_101 (by decide) (fun c101 => ?_) (fun c101 => ?_)
  · have c101 := jB_0 c101
    refine lv_iconst (v := nI 0) hx hb dX6_ofLine_108 (by decide) ?_
    exact hQ (nI 0) H locs _ _ dX6_ofLine_109 (by show nI 0 = nI (jB (st.testBit i)); rw [c101]; rfl) hP hS
  · have c101 := jB_1 c101
    refine lv_iconst (v := nI 1) hx hb dX6_ofLine_104 (by decide) ?_
    refine lv_goto (tgt := 109) hx hb dX6_ofLine_105 (by decide) ?_
    exact hQ (nI 1) H locs _ _ dX6_ofLine_109 (by show nI 1 = nI (jB (st.testBit i)); rw [c101]; rfl) hP hS
set_option maxHeartbeats 4000000 in
set_option maxRecDepth 100000 in
/-- ofLine(line, what), asked 4 -/
theorem c_X6_ofLine_4 (l : Launch) (D : va_G) (cI : ClassId) (cO : ClassId) (cM : ClassId) (g : Nat → Nat) (P n st : Nat) (sm gr co en la : Nat → Nat) (fp fb fc fk fq ft : Nat) (pa ps fi : Nat → Nat) (bl : Nat → Int32) (sp gp sw gw : Nat → Nat) (rt : Nat → Nat) (cs : Nat) (ct : Int32) (jo : Nat → Nat) (rd le : Nat → Nat) (wk : Nat) (fa : Nat → Int32) (rf : Int32) (sz : Nat) (hw : jmWF P n st sm gr co en la) (i : Nat) (hi : i < n) (hfb : fb < 65536) (hcs : cs < 65536) : jxWi l yX6_ofLine wsX6_ofLine ({ frames := 1, cells := 0, slots := 0, locals := 21 } : Room) D [(cI, .int), (cO, .array .int), (cM, .array .long)] (jW cI g P n st sm gr co en la ++ jF cI g fp fb fc fk fq ft pa ps fi bl sp gp sw gw ++ jT cI cM g rt cs ct jo ++ jD cI cO g rd le wk fa ++ jC g rf) [.ref (g 60), .int (nI i), .int (nI 4)] sz (fun r => r = jmOfL sm gr co st fb bl cs fa i 4) (jW cI g P n st sm gr co en la ++ jF cI g fp fb fc fk fq ft pa ps fi bl sp gp sw gw ++ jT cI cM g rt cs ct jo ++ jD cI cO g rd le wk fa ++ jC g rf) := by
  refine jxw_enter (by decide) rfl (Nat.le_of_ble_eq_true rfl) ?_
  intro p e s m args below meth c Q A ls hx hb hml hts hown hN hP hK hD hA hl hQ
  have hD0 := hD
  obtain ⟨H, hH⟩ : ∃ h, h = s.heap := ⟨_, rfl⟩
  have hS : va_S A s.heap H [] := by rw [hH]; exact va_S.rf
  rw [← hH] at hP ⊢
  obtain ⟨locs, hlocs⟩ : ∃ z : List Loc, z = [] := ⟨_, rfl⟩
  rw [← hlocs] at hS ⊢
  have hown : s.vm.findClass RX6 = some m.cls := hown
  have hl : lv_has ls 3 [(0, .ref (g 60)), (1, .int (nI i)), (2, .int (nI 4))] := hl
  have hP8 : P ≤ 8 := hw.1
  have hn16 : n ≤ 16 := hw.2.1
  have hst : st < 65536 := jmWF_st hw
  have hen : ∀ j, j < n → en j < 256 := jmWF_en hw
  have hla : ∀ q, q < P → la q < 65536 := jmWF_la hw
  have hgr : ∀ j, j < n → sm j < 8 ∧ gr j < 8 := jmWF_gr hw
  have hco : ∀ j, j < n → co j < 21 := jmWF_co hw
  refine lv_aload_n hx hb dX6_ofLine_0 rfl (lv_at hl 0 rfl) ?_
  refine lv_iload_n hx hb dX6_ofLine_1 rfl (lv_at hl 1 rfl) ?_
  refine jxw_callV (X := jW cI g P n st sm gr co en la ++ jF cI g fp fb fc fk fq ft pa ps fi bl sp gp sw gw ++ jT cI cM g rt cs ct jo ++ jD cI cO g rd le wk fa ++ jC g rf) (X' := jW cI g P n st sm gr co en la ++ jF cI g fp fb fc fk fq ft pa ps fi bl sp gp sw gw ++ jT cI cM g rt cs ct jo ++ jD cI cO g rd le wk fa ++ jC g rf) (wc := jW cI g P n st sm gr co en la ++ jC g rf) (wc' := jW cI g P n st sm gr co en la ++ jC g rf) (wr := jF cI g fp fb fc fk fq ft pa ps fi bl sp gp sw gw ++ jT cI cM g rt cs ct jo ++ jD cI cO g rd le wk fa) (N := 23) (As := [.int (nI i)]) (rest := []) ⟨hx, hb, hml, hown, hts⟩ (c_X6_demandLine l D cI g P n st sm gr co en la rf H.size hw i (by omega)) (cwV 1 hts gX6_ofLine_X6_demandLine rfl rfl rfl (by decide +kernel) ⟨Nat.le_of_ble_eq_true rfl, Nat.le_of_ble_eq_true rfl⟩) hN hP hD (hK.sub (tys' := [(cI, .int)]) [0] rfl) hS hA [0, 1, 2, 3, 4, 5, 22] [6, 7, 8, 9, 10, 11, 12, 13, 14, 15, 16, 17, 18, 19, 20, 21] rfl rfl rfl rfl rfl rfl (by decide) (by decide) 22 6 rfl rfl rfl (hK.sub (tys' := [(cI, .int)]) [0] rfl) rfl hl.1 rfl (Nat.le_of_ble_eq_true rfl) dX6_ofLine_2 ⟨Nat.zero_le _, Nat.zero_le _⟩ (fun H locs hP hS => ?_)
  have hD : va_D A (jW cI g P n st sm gr co en la ++ jF cI g fp fb fc fk fq ft pa ps fi bl sp gp sw gw ++ jT cI cM g rt cs ct jo ++ jD cI cO g rd le wk fa ++ jC g rf) := jxD hD0 rfl
  refine lv_iload_n hx hb dX6_ofLine_5 rfl (lv_at hl 2 rfl) ?_
  refine lv_bipush (v := nI 8) hx hb dX6_ofLine_6 (by decide) ?_
  refine jxw_callSv (X := jW cI g P n st sm gr co en la ++ jF cI g fp fb fc fk fq ft pa ps fi bl sp gp sw gw ++ jT cI cM g rt cs ct jo ++ jD cI cO g rd le wk fa ++ jC g rf) (X' := jW cI g P n st sm gr co en la ++ jF cI g fp fb fc fk fq ft pa ps fi bl sp gp sw gw ++ jT cI cM g rt cs ct jo ++ jD cI cO g rd le wk fa ++ jC g rf) (wc := []) (wc' := []) (wr := jW cI g P n st sm gr co en la ++ jF cI g fp fb fc fk fq ft pa ps fi bl sp gp sw gw ++ jT cI cM g rt cs ct jo ++ jD cI cO g rd le wk fa ++ jC g rf) (N := 23) (As := [.int (nI 4), .int (nI 8)]) (rest := []) ⟨hx, hb, hml, hown, hts⟩ (c_X6_demandWhat l D g H.size 4 8 (by omega) (by omega)) (va_cwS 2 hts gX6_ofLine_X6_demandWhat rfl rfl rfl (by decide +kernel) ⟨Nat.le_of_ble_eq_true rfl, Nat.le_of_ble_eq_true rfl⟩) hN hP hD (hK.sub (tys' := []) [] rfl) hS hA [] [0, 1, 2, 3, 4, 5, 6, 7, 8, 9, 10, 11, 12, 13, 14, 15, 16, 17, 18, 19, 20, 21, 22] rfl rfl rfl rfl rfl rfl (by decide) (by decide) rfl hl.1 rfl (Nat.le_of_ble_eq_true rfl) dX6_ofLine_8 ⟨Nat.zero_le _, Nat.zero_le _⟩ (fun H locs hP hS => ?_)
  have hD : va_D A (jW cI g P n st sm gr co en la ++ jF cI g fp fb fc fk fq ft pa ps fi bl sp gp sw gw ++ jT cI cM g rt cs ct jo ++ jD cI cO g rd le wk fa ++ jC g rf) := jxD hD0 rfl
  refine lv_iload_n hx hb dX6_ofLine_11 rfl (lv_at hl 2 rfl) ?_
  refine lv_tableIn (off := 98) (tgt := 110) hx hb dX6_ofLine_12 (by decide +kernel) (by decide +kernel) (by decide +kernel) (by decide) ?_
  refine lv_aload_n hx hb dX6_ofLine_110 rfl (lv_at hl 0 rfl) ?_
  refine va_get (D := D) (ci := 6) (v := .ref (g 10)) (C := RX6) (T := TX6) (N := 7) hx hb hts in_X6_ofLine_6 hown hK hP 22 rfl rfl 1 (by decide) (hts (.fieldLink RX6 21 "Twincuts" "falls" "LTwincuts$Falls;") (List.mem_of_getElem? (i := 2) (by decide +kernel))) (fun _ h9 => h9) rfl dX6_ofLine_111 ?_
  refine va_getN (D := D) (ci := 1) (v := .int (nI fb)) (C := RX1) (T := TX1) (N := 15) hx hb hts in_X6_ofLine_1 hown hK hP 6 rfl rfl 2 (by decide) (hN.use 27 rfl) (fun _ h9 => h9) rfl dX6_ofLine_114 ?_
  refine lv_iload_n hx hb dX6_ofLine_117 rfl (lv_at hl 1 rfl) ?_
  refine jx_callS (As := [.int (nI fb), .int (nI i)]) (rest := []) ⟨hx, hb, hml, hown, hts⟩ (c_X6_has l D fb i (by omega) (by omega)) (va_cwS 2 hts gX6_ofLine_X6_has rfl rfl rfl (by decide +kernel) ⟨Nat.le_of_ble_eq_true rfl, Nat.le_of_ble_eq_true rfl⟩) hN (hP.sub (ws' := []) [] rfl) (hK.sub (tys' := []) [] rfl) rfl hl.1 rfl (Nat.le_of_ble_eq_true rfl) dX6_ofLine_118 ⟨Nat.zero_le _, Nat.zero_le _⟩ (fun r hr => ?_)
  subst hr
  refine lv_if_eq (tgt := 128) hx hb dX6_ofLine_121 (by decide) (fun c121 => ?_) (fun c121 => ?_)
  · have c121 := jB_0 c121
    refine lv_iconst (v := nI 0) hx hb dX6_ofLine_128 (by decide) ?_
    exact hQ (nI 0) H locs _ _ dX6_ofLine_129 (by show nI 0 = nI (jB (fb.testBit i)); rw [c121]; rfl) hP hS
  · have c121 := jB_1 c121
    refine lv_iconst (v := nI 1) hx hb dX6_ofLine_124 (by decide) ?_
    refine lv_goto (tgt := 129) hx hb dX6_ofLine_125 (by decide) ?_
    exact hQ (nI 1) H locs _ _ dX6_ofLine_129 (by show nI 1 = nI (jB (fb.testBit i)); rw [c121]; rfl) hP hS
set_option maxHeartbeats 4000000 in
set_option maxRecDepth 100000 in
/-- ofLine(line, what), asked 5 -/
theorem c_X6_ofLine_5 (l : Launch) (D : va_G) (cI : ClassId) (cO : ClassId) (cM : ClassId) (g : Nat → Nat) (P n st : Nat) (sm gr co en la : Nat → Nat) (fp fb fc fk fq ft : Nat) (pa ps fi : Nat → Nat) (bl : Nat → Int32) (sp gp sw gw : Nat → Nat) (rt : Nat → Nat) (cs : Nat) (ct : Int32) (jo : Nat → Nat) (rd le : Nat → Nat) (wk : Nat) (fa : Nat → Int32) (rf : Int32) (sz : Nat) (hw : jmWF P n st sm gr co en la) (i : Nat) (hi : i < n) (hfb : fb < 65536) (hcs : cs < 65536) : jxWi l yX6_ofLine wsX6_ofLine ({ frames := 1, cells := 0, slots := 0, locals := 21 } : Room) D [(cI, .int), (cO, .array .int), (cM, .array .long)] (jW cI g P n st sm gr co en la ++ jF cI g fp fb fc fk fq ft pa ps fi bl sp gp sw gw ++ jT cI cM g rt cs ct jo ++ jD cI cO g rd le wk fa ++ jC g rf) [.ref (g 60), .int (nI i), .int (nI 5)] sz (fun r => r = jmOfL sm gr co st fb bl cs fa i 5) (jW cI g P n st sm gr co en la ++ jF cI g fp fb fc fk fq ft pa ps fi bl sp gp sw gw ++ jT cI cM g rt cs ct jo ++ jD cI cO g rd le wk fa ++ jC g rf) := by
  refine jxw_enter (by decide) rfl (Nat.le_of_ble_eq_true rfl) ?_
  intro p e s m args below meth c Q A ls hx hb hml hts hown hN hP hK hD hA hl hQ
  have hD0 := hD
  obtain ⟨H, hH⟩ : ∃ h, h = s.heap := ⟨_, rfl⟩
  have hS : va_S A s.heap H [] := by rw [hH]; exact va_S.rf
  rw [← hH] at hP ⊢
  obtain ⟨locs, hlocs⟩ : ∃ z : List Loc, z = [] := ⟨_, rfl⟩
  rw [← hlocs] at hS ⊢
  have hown : s.vm.findClass RX6 = some m.cls := hown
  have hl : lv_has ls 3 [(0, .ref (g 60)), (1, .int (nI i)), (2, .int (nI 5))] := hl
  have hP8 : P ≤ 8 := hw.1
  have hn16 : n ≤ 16 := hw.2.1
  have hst : st < 65536 := jmWF_st hw
  have hen : ∀ j, j < n → en j < 256 := jmWF_en hw
  have hla : ∀ q, q < P → la q < 65536 := jmWF_la hw
  have hgr : ∀ j, j < n → sm j < 8 ∧ gr j < 8 := jmWF_gr hw
  have hco : ∀ j, j < n → co j < 21 := jmWF_co hw
  refine lv_aload_n hx hb dX6_ofLine_0 rfl (lv_at hl 0 rfl) ?_
  refine lv_iload_n hx hb dX6_ofLine_1 rfl (lv_at hl 1 rfl) ?_
  refine jxw_callV (X := jW cI g P n st sm gr co en la ++ jF cI g fp fb fc fk fq ft pa ps fi bl sp gp sw gw ++ jT cI cM g rt cs ct jo ++ jD cI cO g rd le wk fa ++ jC g rf) (X' := jW cI g P n st sm gr co en la ++ jF cI g fp fb fc fk fq ft pa ps fi bl sp gp sw gw ++ jT cI cM g rt cs ct jo ++ jD cI cO g rd le wk fa ++ jC g rf) (wc := jW cI g P n st sm gr co en la ++ jC g rf) (wc' := jW cI g P n st sm gr co en la ++ jC g rf) (wr := jF cI g fp fb fc fk fq ft pa ps fi bl sp gp sw gw ++ jT cI cM g rt cs ct jo ++ jD cI cO g rd le wk fa) (N := 23) (As := [.int (nI i)]) (rest := []) ⟨hx, hb, hml, hown, hts⟩ (c_X6_demandLine l D cI g P n st sm gr co en la rf H.size hw i (by omega)) (cwV 1 hts gX6_ofLine_X6_demandLine rfl rfl rfl (by decide +kernel) ⟨Nat.le_of_ble_eq_true rfl, Nat.le_of_ble_eq_true rfl⟩) hN hP hD (hK.sub (tys' := [(cI, .int)]) [0] rfl) hS hA [0, 1, 2, 3, 4, 5, 22] [6, 7, 8, 9, 10, 11, 12, 13, 14, 15, 16, 17, 18, 19, 20, 21] rfl rfl rfl rfl rfl rfl (by decide) (by decide) 22 6 rfl rfl rfl (hK.sub (tys' := [(cI, .int)]) [0] rfl) rfl hl.1 rfl (Nat.le_of_ble_eq_true rfl) dX6_ofLine_2 ⟨Nat.zero_le _, Nat.zero_le _⟩ (fun H locs hP hS => ?_)
  have hD : va_D A (jW cI g P n st sm gr co en la ++ jF cI g fp fb fc fk fq ft pa ps fi bl sp gp sw gw ++ jT cI cM g rt cs ct jo ++ jD cI cO g rd le wk fa ++ jC g rf) := jxD hD0 rfl
  refine lv_iload_n hx hb dX6_ofLine_5 rfl (lv_at hl 2 rfl) ?_
  refine lv_bipush (v := nI 8) hx hb dX6_ofLine_6 (by decide) ?_
  refine jxw_callSv (X := jW cI g P n st sm gr co en la ++ jF cI g fp fb fc fk fq ft pa ps fi bl sp gp sw gw ++ jT cI cM g rt cs ct jo ++ jD cI cO g rd le wk fa ++ jC g rf) (X' := jW cI g P n st sm gr co en la ++ jF cI g fp fb fc fk fq ft pa ps fi bl sp gp sw gw ++ jT cI cM g rt cs ct jo ++ jD cI cO g rd le wk fa ++ jC g rf) (wc := []) (wc' := []) (wr := jW cI g P n st sm gr co en la ++ jF cI g fp fb fc fk fq ft pa ps fi bl sp gp sw gw ++ jT cI cM g rt cs ct jo ++ jD cI cO g rd le wk fa ++ jC g rf) (N := 23) (As := [.int (nI 5), .int (nI 8)]) (rest := []) ⟨hx, hb, hml, hown, hts⟩ (c_X6_demandWhat l D g H.size 5 8 (by omega) (by omega)) (va_cwS 2 hts gX6_ofLine_X6_demandWhat rfl rfl rfl (by decide +kernel) ⟨Nat.le_of_ble_eq_true rfl, Nat.le_of_ble_eq_true rfl⟩) hN hP hD (hK.sub (tys' := []) [] rfl) hS hA [] [0, 1, 2, 3, 4, 5, 6, 7, 8, 9, 10, 11, 12, 13, 14, 15, 16, 17, 18, 19, 20, 21, 22] rfl rfl rfl rfl rfl rfl (by decide) (by decide) rfl hl.1 rfl (Nat.le_of_ble_eq_true rfl) dX6_ofLine_8 ⟨Nat.zero_le _, Nat.zero_le _⟩ (fun H locs hP hS => ?_)
  have hD : va_D A (jW cI g P n st sm gr co en la ++ jF cI g fp fb fc fk fq ft pa ps fi bl sp gp sw gw ++ jT cI cM g rt cs ct jo ++ jD cI cO g rd le wk fa ++ jC g rf) := jxD hD0 rfl
  refine lv_iload_n hx hb dX6_ofLine_11 rfl (lv_at hl 2 rfl) ?_
  refine lv_tableIn (off := 118) (tgt := 130) hx hb dX6_ofLine_12 (by decide +kernel) (by decide +kernel) (by decide +kernel) (by decide) ?_
  refine lv_aload_n hx hb dX6_ofLine_130 rfl (lv_at hl 0 rfl) ?_
  refine va_get (D := D) (ci := 6) (v := .ref (g 10)) (C := RX6) (T := TX6) (N := 7) hx hb hts in_X6_ofLine_6 hown hK hP 22 rfl rfl 1 (by decide) (hts (.fieldLink RX6 21 "Twincuts" "falls" "LTwincuts$Falls;") (List.mem_of_getElem? (i := 2) (by decide +kernel))) (fun _ h9 => h9) rfl dX6_ofLine_131 ?_
  refine va_getN (D := D) (ci := 1) (v := .ref (g 14)) (C := RX1) (T := TX1) (N := 15) hx hb hts in_X6_ofLine_1 hown hK hP 6 rfl rfl 10 (by decide) (hN.use 33 rfl) (fun _ h9 => h9) rfl dX6_ofLine_134 ?_
  refine lv_iload_n hx hb dX6_ofLine_137 rfl (lv_at hl 1 rfl) ?_
  refine jx_iald hx hb hK hP 10 0 rfl rfl (by omega) (by decide) dX6_ofLine_138 ?_
  exact hQ (bl i) H locs _ _ dX6_ofLine_139 rfl hP hS
set_option maxHeartbeats 4000000 in
set_option maxRecDepth 100000 in
/-- ofLine(line, what), asked 6 -/
theorem c_X6_ofLine_6 (l : Launch) (D : va_G) (cI : ClassId) (cO : ClassId) (cM : ClassId) (g : Nat → Nat) (P n st : Nat) (sm gr co en la : Nat → Nat) (fp fb fc fk fq ft : Nat) (pa ps fi : Nat → Nat) (bl : Nat → Int32) (sp gp sw gw : Nat → Nat) (rt : Nat → Nat) (cs : Nat) (ct : Int32) (jo : Nat → Nat) (rd le : Nat → Nat) (wk : Nat) (fa : Nat → Int32) (rf : Int32) (sz : Nat) (hw : jmWF P n st sm gr co en la) (i : Nat) (hi : i < n) (hfb : fb < 65536) (hcs : cs < 65536) : jxWi l yX6_ofLine wsX6_ofLine ({ frames := 1, cells := 0, slots := 0, locals := 21 } : Room) D [(cI, .int), (cO, .array .int), (cM, .array .long)] (jW cI g P n st sm gr co en la ++ jF cI g fp fb fc fk fq ft pa ps fi bl sp gp sw gw ++ jT cI cM g rt cs ct jo ++ jD cI cO g rd le wk fa ++ jC g rf) [.ref (g 60), .int (nI i), .int (nI 6)] sz (fun r => r = jmOfL sm gr co st fb bl cs fa i 6) (jW cI g P n st sm gr co en la ++ jF cI g fp fb fc fk fq ft pa ps fi bl sp gp sw gw ++ jT cI cM g rt cs ct jo ++ jD cI cO g rd le wk fa ++ jC g rf) := by
  refine jxw_enter (by decide) rfl (Nat.le_of_ble_eq_true rfl) ?_
  intro p e s m args below meth c Q A ls hx hb hml hts hown hN hP hK hD hA hl hQ
  have hD0 := hD
  obtain ⟨H, hH⟩ : ∃ h, h = s.heap := ⟨_, rfl⟩
  have hS : va_S A s.heap H [] := by rw [hH]; exact va_S.rf
  rw [← hH] at hP ⊢
  obtain ⟨locs, hlocs⟩ : ∃ z : List Loc, z = [] := ⟨_, rfl⟩
  rw [← hlocs] at hS ⊢
  have hown : s.vm.findClass RX6 = some m.cls := hown
  have hl : lv_has ls 3 [(0, .ref (g 60)), (1, .int (nI i)), (2, .int (nI 6))] := hl
  have hP8 : P ≤ 8 := hw.1
  have hn16 : n ≤ 16 := hw.2.1
  have hst : st < 65536 := jmWF_st hw
  have hen : ∀ j, j < n → en j < 256 := jmWF_en hw
  have hla : ∀ q, q < P → la q < 65536 := jmWF_la hw
  have hgr : ∀ j, j < n → sm j < 8 ∧ gr j < 8 := jmWF_gr hw
  have hco : ∀ j, j < n → co j < 21 := jmWF_co hw
  refine lv_aload_n hx hb dX6_ofLine_0 rfl (lv_at hl 0 rfl) ?_
  refine lv_iload_n hx hb dX6_ofLine_1 rfl (lv_at hl 1 rfl) ?_
  refine jxw_callV (X := jW cI g P n st sm gr co en la ++ jF cI g fp fb fc fk fq ft pa ps fi bl sp gp sw gw ++ jT cI cM g rt cs ct jo ++ jD cI cO g rd le wk fa ++ jC g rf) (X' := jW cI g P n st sm gr co en la ++ jF cI g fp fb fc fk fq ft pa ps fi bl sp gp sw gw ++ jT cI cM g rt cs ct jo ++ jD cI cO g rd le wk fa ++ jC g rf) (wc := jW cI g P n st sm gr co en la ++ jC g rf) (wc' := jW cI g P n st sm gr co en la ++ jC g rf) (wr := jF cI g fp fb fc fk fq ft pa ps fi bl sp gp sw gw ++ jT cI cM g rt cs ct jo ++ jD cI cO g rd le wk fa) (N := 23) (As := [.int (nI i)]) (rest := []) ⟨hx, hb, hml, hown, hts⟩ (c_X6_demandLine l D cI g P n st sm gr co en la rf H.size hw i (by omega)) (cwV 1 hts gX6_ofLine_X6_demandLine rfl rfl rfl (by decide +kernel) ⟨Nat.le_of_ble_eq_true rfl, Nat.le_of_ble_eq_true rfl⟩) hN hP hD (hK.sub (tys' := [(cI, .int)]) [0] rfl) hS hA [0, 1, 2, 3, 4, 5, 22] [6, 7, 8, 9, 10, 11, 12, 13, 14, 15, 16, 17, 18, 19, 20, 21] rfl rfl rfl rfl rfl rfl (by decide) (by decide) 22 6 rfl rfl rfl (hK.sub (tys' := [(cI, .int)]) [0] rfl) rfl hl.1 rfl (Nat.le_of_ble_eq_true rfl) dX6_ofLine_2 ⟨Nat.zero_le _, Nat.zero_le _⟩ (fun H locs hP hS => ?_)
  have hD : va_D A (jW cI g P n st sm gr co en la ++ jF cI g fp fb fc fk fq ft pa ps fi bl sp gp sw gw ++ jT cI cM g rt cs ct jo ++ jD cI cO g rd le wk fa ++ jC g rf) := jxD hD0 rfl
  refine lv_iload_n hx hb dX6_ofLine_5 rfl (lv_at hl 2 rfl) ?_
  refine lv_bipush (v := nI 8) hx hb dX6_ofLine_6 (by decide) ?_
  refine jxw_callSv (X := jW cI g P n st sm gr co en la ++ jF cI g fp fb fc fk fq ft pa ps fi bl sp gp sw gw ++ jT cI cM g rt cs ct jo ++ jD cI cO g rd le wk fa ++ jC g rf) (X' := jW cI g P n st sm gr co en la ++ jF cI g fp fb fc fk fq ft pa ps fi bl sp gp sw gw ++ jT cI cM g rt cs ct jo ++ jD cI cO g rd le wk fa ++ jC g rf) (wc := []) (wc' := []) (wr := jW cI g P n st sm gr co en la ++ jF cI g fp fb fc fk fq ft pa ps fi bl sp gp sw gw ++ jT cI cM g rt cs ct jo ++ jD cI cO g rd le wk fa ++ jC g rf) (N := 23) (As := [.int (nI 6), .int (nI 8)]) (rest := []) ⟨hx, hb, hml, hown, hts⟩ (c_X6_demandWhat l D g H.size 6 8 (by omega) (by omega)) (va_cwS 2 hts gX6_ofLine_X6_demandWhat rfl rfl rfl (by decide +kernel) ⟨Nat.le_of_ble_eq_true rfl, Nat.le_of_ble_eq_true rfl⟩) hN hP hD (hK.sub (tys' := []) [] rfl) hS hA [] [0, 1, 2, 3, 4, 5, 6, 7, 8, 9, 10, 11, 12, 13, 14, 15, 16, 17, 18, 19, 20, 21, 22] rfl rfl rfl rfl rfl rfl (by decide) (by decide) rfl hl.1 rfl (Nat.le_of_ble_eq_true rfl) dX6_ofLine_8 ⟨Nat.zero_le _, Nat.zero_le _⟩ (fun H locs hP hS => ?_)
  have hD : va_D A (jW cI g P n st sm gr co en la ++ jF cI g fp fb fc fk fq ft pa ps fi bl sp gp sw gw ++ jT cI cM g rt cs ct jo ++ jD cI cO g rd le wk fa ++ jC g rf) := jxD hD0 rfl
  refine lv_iload_n hx hb dX6_ofLine_11 rfl (lv_at hl 2 rfl) ?_
  refine lv_tableIn (off := 128) (tgt := 140) hx hb dX6_ofLine_12 (by decide +kernel) (by decide +kernel) (by decide +kernel) (by decide) ?_
  refine lv_aload_n hx hb dX6_ofLine_140 rfl (lv_at hl 0 rfl) ?_
  refine va_get (D := D) (ci := 6) (v := .ref (g 30)) (C := RX6) (T := TX6) (N := 7) hx hb hts in_X6_ofLine_6 hown hK hP 22 rfl rfl 3 (by decide) (hts (.fieldLink RX6 35 "Twincuts" "forest" "LTwincuts$Forest;") (List.mem_of_getElem? (i := 3) (by decide +kernel))) (fun _ h9 => h9) rfl dX6_ofLine_141 ?_
  refine va_getN (D := D) (ci := 2) (v := .int (nI cs)) (C := RX2) (T := TX2) (N := 5) hx hb hts in_X6_ofLine_2 hown hK hP 15 rfl rfl 2 (by decide) (hN.use 34 rfl) (fun _ h9 => h9) rfl dX6_ofLine_144 ?_
  refine lv_iload_n hx hb dX6_ofLine_147 rfl (lv_at hl 1 rfl) ?_
  refine jx_callS (As := [.int (nI cs), .int (nI i)]) (rest := []) ⟨hx, hb, hml, hown, hts⟩ (c_X6_has l D cs i (by omega) (by omega)) (va_cwS 2 hts gX6_ofLine_X6_has rfl rfl rfl (by decide +kernel) ⟨Nat.le_of_ble_eq_true rfl, Nat.le_of_ble_eq_true rfl⟩) hN (hP.sub (ws' := []) [] rfl) (hK.sub (tys' := []) [] rfl) rfl hl.1 rfl (Nat.le_of_ble_eq_true rfl) dX6_ofLine_148 ⟨Nat.zero_le _, Nat.zero_le _⟩ (fun r hr => ?_)
  subst hr
  refine lv_if_eq (tgt := 158) hx hb dX6_ofLine_151 (by decide) (fun c151 => ?_) (fun c151 => ?_)
  · have c151 := jB_0 c151
    refine lv_iconst (v := nI 0) hx hb dX6_ofLine_158 (by decide) ?_
    exact hQ (nI 0) H locs _ _ dX6_ofLine_159 (by show nI 0 = nI (jB (cs.testBit i)); rw [c151]; rfl) hP hS
  · have c151 := jB_1 c151
    refine lv_iconst (v := nI 1) hx hb dX6_ofLine_154 (by decide) ?_
    refine lv_goto (tgt := 159) hx hb dX6_ofLine_155 (by decide) ?_
    exact hQ (nI 1) H locs _ _ dX6_ofLine_159 (by show nI 1 = nI (jB (cs.testBit i)); rw [c151]; rfl) hP hS
set_option maxHeartbeats 4000000 in
set_option maxRecDepth 100000 in
/-- ofLine(line, what), asked 7 -/
theorem c_X6_ofLine_7 (l : Launch) (D : va_G) (cI : ClassId) (cO : ClassId) (cM : ClassId) (g : Nat → Nat) (P n st : Nat) (sm gr co en la : Nat → Nat) (fp fb fc fk fq ft : Nat) (pa ps fi : Nat → Nat) (bl : Nat → Int32) (sp gp sw gw : Nat → Nat) (rt : Nat → Nat) (cs : Nat) (ct : Int32) (jo : Nat → Nat) (rd le : Nat → Nat) (wk : Nat) (fa : Nat → Int32) (rf : Int32) (sz : Nat) (hw : jmWF P n st sm gr co en la) (i : Nat) (hi : i < n) (hfb : fb < 65536) (hcs : cs < 65536) : jxWi l yX6_ofLine wsX6_ofLine ({ frames := 1, cells := 0, slots := 0, locals := 21 } : Room) D [(cI, .int), (cO, .array .int), (cM, .array .long)] (jW cI g P n st sm gr co en la ++ jF cI g fp fb fc fk fq ft pa ps fi bl sp gp sw gw ++ jT cI cM g rt cs ct jo ++ jD cI cO g rd le wk fa ++ jC g rf) [.ref (g 60), .int (nI i), .int (nI 7)] sz (fun r => r = jmOfL sm gr co st fb bl cs fa i 7) (jW cI g P n st sm gr co en la ++ jF cI g fp fb fc fk fq ft pa ps fi bl sp gp sw gw ++ jT cI cM g rt cs ct jo ++ jD cI cO g rd le wk fa ++ jC g rf) := by
  refine jxw_enter (by decide) rfl (Nat.le_of_ble_eq_true rfl) ?_
  intro p e s m args below meth c Q A ls hx hb hml hts hown hN hP hK hD hA hl hQ
  have hD0 := hD
  obtain ⟨H, hH⟩ : ∃ h, h = s.heap := ⟨_, rfl⟩
  have hS : va_S A s.heap H [] := by rw [hH]; exact va_S.rf
  rw [← hH] at hP ⊢
  obtain ⟨locs, hlocs⟩ : ∃ z : List Loc, z = [] := ⟨_, rfl⟩
  rw [← hlocs] at hS ⊢
  have hown : s.vm.findClass RX6 = some m.cls := hown
  have hl : lv_has ls 3 [(0, .ref (g 60)), (1, .int (nI i)), (2, .int (nI 7))] := hl
  have hP8 : P ≤ 8 := hw.1
  have hn16 : n ≤ 16 := hw.2.1
  have hst : st < 65536 := jmWF_st hw
  have hen : ∀ j, j < n → en j < 256 := jmWF_en hw
  have hla : ∀ q, q < P → la q < 65536 := jmWF_la hw
  have hgr : ∀ j, j < n → sm j < 8 ∧ gr j < 8 := jmWF_gr hw
  have hco : ∀ j, j < n → co j < 21 := jmWF_co hw
  refine lv_aload_n hx hb dX6_ofLine_0 rfl (lv_at hl 0 rfl) ?_
  refine lv_iload_n hx hb dX6_ofLine_1 rfl (lv_at hl 1 rfl) ?_
  refine jxw_callV (X := jW cI g P n st sm gr co en la ++ jF cI g fp fb fc fk fq ft pa ps fi bl sp gp sw gw ++ jT cI cM g rt cs ct jo ++ jD cI cO g rd le wk fa ++ jC g rf) (X' := jW cI g P n st sm gr co en la ++ jF cI g fp fb fc fk fq ft pa ps fi bl sp gp sw gw ++ jT cI cM g rt cs ct jo ++ jD cI cO g rd le wk fa ++ jC g rf) (wc := jW cI g P n st sm gr co en la ++ jC g rf) (wc' := jW cI g P n st sm gr co en la ++ jC g rf) (wr := jF cI g fp fb fc fk fq ft pa ps fi bl sp gp sw gw ++ jT cI cM g rt cs ct jo ++ jD cI cO g rd le wk fa) (N := 23) (As := [.int (nI i)]) (rest := []) ⟨hx, hb, hml, hown, hts⟩ (c_X6_demandLine l D cI g P n st sm gr co en la rf H.size hw i (by omega)) (cwV 1 hts gX6_ofLine_X6_demandLine rfl rfl rfl (by decide +kernel) ⟨Nat.le_of_ble_eq_true rfl, Nat.le_of_ble_eq_true rfl⟩) hN hP hD (hK.sub (tys' := [(cI, .int)]) [0] rfl) hS hA [0, 1, 2, 3, 4, 5, 22] [6, 7, 8, 9, 10, 11, 12, 13, 14, 15, 16, 17, 18, 19, 20, 21] rfl rfl rfl rfl rfl rfl (by decide) (by decide) 22 6 rfl rfl rfl (hK.sub (tys' := [(cI, .int)]) [0] rfl) rfl hl.1 rfl (Nat.le_of_ble_eq_true rfl) dX6_ofLine_2 ⟨Nat.zero_le _, Nat.zero_le _⟩ (fun H locs hP hS => ?_)
  have hD : va_D A (jW cI g P n st sm gr co en la ++ jF cI g fp fb fc fk fq ft pa ps fi bl sp gp sw gw ++ jT cI cM g rt cs ct jo ++ jD cI cO g rd le wk fa ++ jC g rf) := jxD hD0 rfl
  refine lv_iload_n hx hb dX6_ofLine_5 rfl (lv_at hl 2 rfl) ?_
  refine lv_bipush (v := nI 8) hx hb dX6_ofLine_6 (by decide) ?_
  refine jxw_callSv (X := jW cI g P n st sm gr co en la ++ jF cI g fp fb fc fk fq ft pa ps fi bl sp gp sw gw ++ jT cI cM g rt cs ct jo ++ jD cI cO g rd le wk fa ++ jC g rf) (X' := jW cI g P n st sm gr co en la ++ jF cI g fp fb fc fk fq ft pa ps fi bl sp gp sw gw ++ jT cI cM g rt cs ct jo ++ jD cI cO g rd le wk fa ++ jC g rf) (wc := []) (wc' := []) (wr := jW cI g P n st sm gr co en la ++ jF cI g fp fb fc fk fq ft pa ps fi bl sp gp sw gw ++ jT cI cM g rt cs ct jo ++ jD cI cO g rd le wk fa ++ jC g rf) (N := 23) (As := [.int (nI 7), .int (nI 8)]) (rest := []) ⟨hx, hb, hml, hown, hts⟩ (c_X6_demandWhat l D g H.size 7 8 (by omega) (by omega)) (va_cwS 2 hts gX6_ofLine_X6_demandWhat rfl rfl rfl (by decide +kernel) ⟨Nat.le_of_ble_eq_true rfl, Nat.le_of_ble_eq_true rfl⟩) hN hP hD (hK.sub (tys' := []) [] rfl) hS hA [] [0, 1, 2, 3, 4, 5, 6, 7, 8, 9, 10, 11, 12, 13, 14, 15, 16, 17, 18, 19, 20, 21, 22] rfl rfl rfl rfl rfl rfl (by decide) (by decide) rfl hl.1 rfl (Nat.le_of_ble_eq_true rfl) dX6_ofLine_8 ⟨Nat.zero_le _, Nat.zero_le _⟩ (fun H locs hP hS => ?_)
  have hD : va_D A (jW cI g P n st sm gr co en la ++ jF cI g fp fb fc fk fq ft pa ps fi bl sp gp sw gw ++ jT cI cM g rt cs ct jo ++ jD cI cO g rd le wk fa ++ jC g rf) := jxD hD0 rfl
  refine lv_iload_n hx hb dX6_ofLine_11 rfl (lv_at hl 2 rfl) ?_
  refine lv_tableIn (off := 148) (tgt := 160) hx hb dX6_ofLine_12 (by decide +kernel) (by decide +kernel) (by decide +kernel) (by decide) ?_
  refine lv_aload_n hx hb dX6_ofLine_160 rfl (lv_at hl 0 rfl) ?_
  refine va_get (D := D) (ci := 6) (v := .ref (g 50)) (C := RX6) (T := TX6) (N := 7) hx hb hts in_X6_ofLine_6 hown hK hP 22 rfl rfl 5 (by decide) (hts (.fieldLink RX6 49 "Twincuts" "drawing" "LTwincuts$Drawing;") (List.mem_of_getElem? (i := 4) (by decide +kernel))) (fun _ h9 => h9) rfl dX6_ofLine_161 ?_
  refine va_getN (D := D) (ci := 0) (v := .ref (g 53)) (C := RX0) (T := TX0) (N := 5) hx hb hts in_X6_ofLine_0 hown hK hP 18 rfl rfl 4 (by decide) (hN.use 39 rfl) (fun _ h9 => h9) rfl dX6_ofLine_164 ?_
  refine lv_iconst (v := nI 2) hx hb dX6_ofLine_167 (by decide) ?_
  refine lv_iload_n hx hb dX6_ofLine_168 rfl (lv_at hl 1 rfl) ?_
  refine lv_imul hx hb dX6_ofLine_169 ?_
  refine jx_val (z := (nI (2 * i))) (pk_mul _ _) ?_
  refine jx_iald hx hb hK hP 21 0 rfl rfl (by omega) (by decide) dX6_ofLine_170 ?_
  exact hQ (fa (2 * i)) H locs _ _ dX6_ofLine_171 rfl hP hS
set_option maxHeartbeats 4000000 in
set_option maxRecDepth 100000 in
/-- ofLine(line, what), asked 8 -/
theorem c_X6_ofLine_8 (l : Launch) (D : va_G) (cI : ClassId) (cO : ClassId) (cM : ClassId) (g : Nat → Nat) (P n st : Nat) (sm gr co en la : Nat → Nat) (fp fb fc fk fq ft : Nat) (pa ps fi : Nat → Nat) (bl : Nat → Int32) (sp gp sw gw : Nat → Nat) (rt : Nat → Nat) (cs : Nat) (ct : Int32) (jo : Nat → Nat) (rd le : Nat → Nat) (wk : Nat) (fa : Nat → Int32) (rf : Int32) (sz : Nat) (hw : jmWF P n st sm gr co en la) (i : Nat) (hi : i < n) (hfb : fb < 65536) (hcs : cs < 65536) : jxWi l yX6_ofLine wsX6_ofLine ({ frames := 1, cells := 0, slots := 0, locals := 21 } : Room) D [(cI, .int), (cO, .array .int), (cM, .array .long)] (jW cI g P n st sm gr co en la ++ jF cI g fp fb fc fk fq ft pa ps fi bl sp gp sw gw ++ jT cI cM g rt cs ct jo ++ jD cI cO g rd le wk fa ++ jC g rf) [.ref (g 60), .int (nI i), .int (nI 8)] sz (fun r => r = jmOfL sm gr co st fb bl cs fa i 8) (jW cI g P n st sm gr co en la ++ jF cI g fp fb fc fk fq ft pa ps fi bl sp gp sw gw ++ jT cI cM g rt cs ct jo ++ jD cI cO g rd le wk fa ++ jC g rf) := by
  refine jxw_enter (by decide) rfl (Nat.le_of_ble_eq_true rfl) ?_
  intro p e s m args below meth c Q A ls hx hb hml hts hown hN hP hK hD hA hl hQ
  have hD0 := hD
  obtain ⟨H, hH⟩ : ∃ h, h = s.heap := ⟨_, rfl⟩
  have hS : va_S A s.heap H [] := by rw [hH]; exact va_S.rf
  rw [← hH] at hP ⊢
  obtain ⟨locs, hlocs⟩ : ∃ z : List Loc, z = [] := ⟨_, rfl⟩
  rw [← hlocs] at hS ⊢
  have hown : s.vm.findClass RX6 = some m.cls := hown
  have hl : lv_has ls 3 [(0, .ref (g 60)), (1, .int (nI i)), (2, .int (nI 8))] := hl
  have hP8 : P ≤ 8 := hw.1
  have hn16 : n ≤ 16 := hw.2.1
  have hst : st < 65536 := jmWF_st hw
  have hen : ∀ j, j < n → en j < 256 := jmWF_en hw
  have hla : ∀ q, q < P → la q < 65536 := jmWF_la hw
  have hgr : ∀ j, j < n → sm j < 8 ∧ gr j < 8 := jmWF_gr hw
  have hco : ∀ j, j < n → co j < 21 := jmWF_co hw
  refine lv_aload_n hx hb dX6_ofLine_0 rfl (lv_at hl 0 rfl) ?_
  refine lv_iload_n hx hb dX6_ofLine_1 rfl (lv_at hl 1 rfl) ?_
  refine jxw_callV (X := jW cI g P n st sm gr co en la ++ jF cI g fp fb fc fk fq ft pa ps fi bl sp gp sw gw ++ jT cI cM g rt cs ct jo ++ jD cI cO g rd le wk fa ++ jC g rf) (X' := jW cI g P n st sm gr co en la ++ jF cI g fp fb fc fk fq ft pa ps fi bl sp gp sw gw ++ jT cI cM g rt cs ct jo ++ jD cI cO g rd le wk fa ++ jC g rf) (wc := jW cI g P n st sm gr co en la ++ jC g rf) (wc' := jW cI g P n st sm gr co en la ++ jC g rf) (wr := jF cI g fp fb fc fk fq ft pa ps fi bl sp gp sw gw ++ jT cI cM g rt cs ct jo ++ jD cI cO g rd le wk fa) (N := 23) (As := [.int (nI i)]) (rest := []) ⟨hx, hb, hml, hown, hts⟩ (c_X6_demandLine l D cI g P n st sm gr co en la rf H.size hw i (by omega)) (cwV 1 hts gX6_ofLine_X6_demandLine rfl rfl rfl (by decide +kernel) ⟨Nat.le_of_ble_eq_true rfl, Nat.le_of_ble_eq_true rfl⟩) hN hP hD (hK.sub (tys' := [(cI, .int)]) [0] rfl) hS hA [0, 1, 2, 3, 4, 5, 22] [6, 7, 8, 9, 10, 11, 12, 13, 14, 15, 16, 17, 18, 19, 20, 21] rfl rfl rfl rfl rfl rfl (by decide) (by decide) 22 6 rfl rfl rfl (hK.sub (tys' := [(cI, .int)]) [0] rfl) rfl hl.1 rfl (Nat.le_of_ble_eq_true rfl) dX6_ofLine_2 ⟨Nat.zero_le _, Nat.zero_le _⟩ (fun H locs hP hS => ?_)
  have hD : va_D A (jW cI g P n st sm gr co en la ++ jF cI g fp fb fc fk fq ft pa ps fi bl sp gp sw gw ++ jT cI cM g rt cs ct jo ++ jD cI cO g rd le wk fa ++ jC g rf) := jxD hD0 rfl
  refine lv_iload_n hx hb dX6_ofLine_5 rfl (lv_at hl 2 rfl) ?_
  refine lv_bipush (v := nI 8) hx hb dX6_ofLine_6 (by decide) ?_
  refine jxw_callSv (X := jW cI g P n st sm gr co en la ++ jF cI g fp fb fc fk fq ft pa ps fi bl sp gp sw gw ++ jT cI cM g rt cs ct jo ++ jD cI cO g rd le wk fa ++ jC g rf) (X' := jW cI g P n st sm gr co en la ++ jF cI g fp fb fc fk fq ft pa ps fi bl sp gp sw gw ++ jT cI cM g rt cs ct jo ++ jD cI cO g rd le wk fa ++ jC g rf) (wc := []) (wc' := []) (wr := jW cI g P n st sm gr co en la ++ jF cI g fp fb fc fk fq ft pa ps fi bl sp gp sw gw ++ jT cI cM g rt cs ct jo ++ jD cI cO g rd le wk fa ++ jC g rf) (N := 23) (As := [.int (nI 8), .int (nI 8)]) (rest := []) ⟨hx, hb, hml, hown, hts⟩ (c_X6_demandWhat l D g H.size 8 8 (by omega) (by omega)) (va_cwS 2 hts gX6_ofLine_X6_demandWhat rfl rfl rfl (by decide +kernel) ⟨Nat.le_of_ble_eq_true rfl, Nat.le_of_ble_eq_true rfl⟩) hN hP hD (hK.sub (tys' := []) [] rfl) hS hA [] [0, 1, 2, 3, 4, 5, 6, 7, 8, 9, 10, 11, 12, 13, 14, 15, 16, 17, 18, 19, 20, 21, 22] rfl rfl rfl rfl rfl rfl (by decide) (by decide) rfl hl.1 rfl (Nat.le_of_ble_eq_true rfl) dX6_ofLine_8 ⟨Nat.zero_le _, Nat.zero_le _⟩ (fun H locs hP hS => ?_)
  have hD : va_D A (jW cI g P n st sm gr co en la ++ jF cI g fp fb fc fk fq ft pa ps fi bl sp gp sw gw ++ jT cI cM g rt cs ct jo ++ jD cI cO g rd le wk fa ++ jC g rf) := jxD hD0 rfl
  refine lv_iload_n hx hb dX6_ofLine_11 rfl (lv_at hl 2 rfl) ?_
  refine lv_tableOut (tgt := 172) hx hb dX6_ofLine_12 (by decide +kernel) (by decide) ?_
  refine lv_aload_n hx hb dX6_ofLine_172 rfl (lv_at hl 0 rfl) ?_
  refine va_get (D := D) (ci := 6) (v := .ref (g 50)) (C := RX6) (T := TX6) (N := 7) hx hb hts in_X6_ofLine_6 hown hK hP 22 rfl rfl 5 (by decide) (hts (.fieldLink RX6 49 "Twincuts" "drawing" "LTwincuts$Drawing;") (List.mem_of_getElem? (i := 4) (by decide +kernel))) (fun _ h9 => h9) rfl dX6_ofLine_173 ?_
  refine va_getN (D := D) (ci := 0) (v := .ref (g 53)) (C := RX0) (T := TX0) (N := 5) hx hb hts in_X6_ofLine_0 hown hK hP 18 rfl rfl 4 (by decide) (hN.use 39 rfl) (fun _ h9 => h9) rfl dX6_ofLine_176 ?_
  refine lv_iconst (v := nI 2) hx hb dX6_ofLine_179 (by decide) ?_
  refine lv_iload_n hx hb dX6_ofLine_180 rfl (lv_at hl 1 rfl) ?_
  refine lv_imul hx hb dX6_ofLine_181 ?_
  refine jx_val (z := (nI (2 * i))) (pk_mul _ _) ?_
  refine lv_iconst (v := nI 1) hx hb dX6_ofLine_182 (by decide) ?_
  refine lv_iadd hx hb dX6_ofLine_183 ?_
  refine jx_val (z := (nI ((2 * i) + 1))) (nI_add _ _) ?_
  refine jx_iald hx hb hK hP 21 0 rfl rfl (by omega) (by decide) dX6_ofLine_184 ?_
  exact hQ (fa ((2 * i) + 1)) H locs _ _ dX6_ofLine_185 rfl hP hS
/-- ofLine(line, what), whatever is asked -/
theorem c_X6_ofLine (l : Launch) (D : va_G) (cI : ClassId) (cO : ClassId) (cM : ClassId) (g : Nat → Nat) (P n st : Nat) (sm gr co en la : Nat → Nat) (fp fb fc fk fq ft : Nat) (pa ps fi : Nat → Nat) (bl : Nat → Int32) (sp gp sw gw : Nat → Nat) (rt : Nat → Nat) (cs : Nat) (ct : Int32) (jo : Nat → Nat) (rd le : Nat → Nat) (wk : Nat) (fa : Nat → Int32) (rf : Int32) (sz : Nat) (hw : jmWF P n st sm gr co en la) (i : Nat) (hi : i < n) (hfb : fb < 65536) (hcs : cs < 65536) (w : Nat) (hw9 : w ≤ 8) : jxWi l yX6_ofLine wsX6_ofLine ({ frames := 1, cells := 0, slots := 0, locals := 21 } : Room) D [(cI, .int), (cO, .array .int), (cM, .array .long)] (jW cI g P n st sm gr co en la ++ jF cI g fp fb fc fk fq ft pa ps fi bl sp gp sw gw ++ jT cI cM g rt cs ct jo ++ jD cI cO g rd le wk fa ++ jC g rf) [.ref (g 60), .int (nI i), .int (nI w)] sz (fun r => r = jmOfL sm gr co st fb bl cs fa i w) (jW cI g P n st sm gr co en la ++ jF cI g fp fb fc fk fq ft pa ps fi bl sp gp sw gw ++ jT cI cM g rt cs ct jo ++ jD cI cO g rd le wk fa ++ jC g rf) := by
  have h9 : w = 0 ∨ w = 1 ∨ w = 2 ∨ w = 3 ∨ w = 4 ∨ w = 5 ∨ w = 6 ∨ w = 7 ∨ w = 8 := by omega
  rcases h9 with rfl | rfl | rfl | rfl | rfl | rfl | rfl | rfl | rfl
  · exact c_X6_ofLine_0 l D cI cO cM g P n st sm gr co en la fp fb fc fk fq ft pa ps fi bl sp gp sw gw rt cs ct jo rd le wk fa rf sz hw i hi hfb hcs
  · exact c_X6_ofLine_1 l D cI cO cM g P n st sm gr co en la fp fb fc fk fq ft pa ps fi bl sp gp sw gw rt cs ct jo rd le wk fa rf sz hw i hi hfb hcs
  · exact c_X6_ofLine_2 l D cI cO cM g P n st sm gr co en la fp fb fc fk fq ft pa ps fi bl sp gp sw gw rt cs ct jo rd le wk fa rf sz hw i hi hfb hcs
  · exact c_X6_ofLine_3 l D cI cO cM g P n st sm gr co en la fp fb fc fk fq ft pa ps fi bl sp gp sw gw rt cs ct jo rd le wk fa rf sz hw i hi hfb hcs
  · exact c_X6_ofLine_4 l D cI cO cM g P n st sm gr co en la fp fb fc fk fq ft pa ps fi bl sp gp sw gw rt cs ct jo rd le wk fa rf sz hw i hi hfb hcs
  · exact c_X6_ofLine_5 l D cI cO cM g P n st sm gr co en la fp fb fc fk fq ft pa ps fi bl sp gp sw gw rt cs ct jo rd le wk fa rf sz hw i hi hfb hcs
  · exact c_X6_ofLine_6 l D cI cO cM g P n st sm gr co en la fp fb fc fk fq ft pa ps fi bl sp gp sw gw rt cs ct jo rd le wk fa rf sz hw i hi hfb hcs
  · exact c_X6_ofLine_7 l D cI cO cM g P n st sm gr co en la fp fb fc fk fq ft pa ps fi bl sp gp sw gw rt cs ct jo rd le wk fa rf sz hw i hi hfb hcs
  · exact c_X6_ofLine_8 l D cI cO cM g P n st sm gr co en la fp fb fc fk fq ft pa ps fi bl sp gp sw gw rt cs ct jo rd le wk fa rf sz hw i hi hfb hcs
