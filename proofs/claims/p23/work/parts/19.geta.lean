set_option maxRecDepth 20000 in
theorem in_X6_handles_6 : ∀ w ∈ wsX60, w ∈ wsX6_handles := by decide +kernel
set_option maxRecDepth 20000 in
theorem in_X6_handles_1 : ∀ w ∈ wsX10, w ∈ wsX6_handles := by decide +kernel
set_option maxRecDepth 20000 in
theorem in_X6_handles_5 : ∀ w ∈ wsX50, w ∈ wsX6_handles := by decide +kernel
set_option maxRecDepth 20000 in
theorem in_X6_handles_0 : ∀ w ∈ wsX00, w ∈ wsX6_handles := by decide +kernel
set_option maxHeartbeats 4000000 in
set_option maxRecDepth 100000 in
/-- handles() -/
theorem c_X6_handles (l : Launch) (D : va_G) (cI : ClassId) (cO : ClassId) (g : Nat → Nat) (P n st : Nat) (sm gr co en la : Nat → Nat) (fp fb fc fk fq ft : Nat) (pa ps fi : Nat → Nat) (bl : Nat → Int32) (sp gp sw gw : Nat → Nat) (rd le : Nat → Nat) (wk : Nat) (fa : Nat → Int32) (rf : Int32) (hw : jmWF P n st sm gr co en la) (hfp : fp ≤ 16) (hwk : wk ≤ 32) : jxRO l yX6_handles wsX6_handles ({ frames := 2, cells := 0, slots := 0, locals := 43 } : Room) D [(cI, .int), (cO, .array .int)] (jW cI g P n st sm gr co en la ++ jF cI g fp fb fc fk fq ft pa ps fi bl sp gp sw gw ++ jD cI cO g rd le wk fa ++ jC g rf) [.ref (g 60)] (fun r => r = jmHandles la P st fp wk) := by
  refine jx_enter (by decide) rfl (Nat.le_of_ble_eq_true rfl) ?_
  intro p e s m args below meth c Q ls hx hb hml hts hown hN hP hK hl hQ
  have hown : s.vm.findClass RX6 = some m.cls := hown
  have hl : lv_has ls 2 [(0, .ref (g 60))] := hl
  have hP8 : P ≤ 8 := hw.1
  have hn16 : n ≤ 16 := hw.2.1
  have hst : st < 65536 := jmWF_st hw
  have hen : ∀ j, j < n → en j < 256 := jmWF_en hw
  have hla : ∀ q, q < P → la q < 65536 := jmWF_la hw
  have hgr : ∀ j, j < n → sm j < 8 ∧ gr j < 8 := jmWF_gr hw
  have hco : ∀ j, j < n → co j < 21 := jmWF_co hw
  have hiso := jmIso_le la st P
  refine lv_iconst (v := nI 2) hx hb dX6_handles_0 (by decide) ?_
  refine lv_aload_n hx hb dX6_handles_1 rfl (lv_at hl 0 rfl) ?_
  refine va_get (D := D) (ci := 6) (v := .ref (g 10)) (C := RX6) (T := TX6) (N := 7) hx hb hts in_X6_handles_6 hown hK hP 19 rfl rfl 1 (by decide) (hts (.fieldLink RX6 21 "Twincuts" "falls" "LTwincuts$Falls;") (List.mem_of_getElem? (i := 1) (by decide +kernel))) (fun _ h9 => h9) rfl dX6_handles_2 ?_
  refine va_getN (D := D) (ci := 1) (v := .int (nI fp)) (C := RX1) (T := TX1) (N := 15) hx hb hts in_X6_handles_1 hown hK hP 6 rfl rfl 1 (by decide) (hN.use 26 rfl) (fun _ h9 => h9) rfl dX6_handles_5 ?_
  refine lv_imul hx hb dX6_handles_8 ?_
  refine jx_val (z := (nI (2 * fp))) (pk_mul _ _) ?_
  refine lv_aload_n hx hb dX6_handles_9 rfl (lv_at hl 0 rfl) ?_
  refine va_get (D := D) (ci := 6) (v := .ref (g 0)) (C := RX6) (T := TX6) (N := 7) hx hb hts in_X6_handles_6 hown hK hP 19 rfl rfl 0 (by decide) (hts (.fieldLink RX6 10 "Twincuts" "web" "LTwincuts$Web;") (List.mem_of_getElem? (i := 2) (by decide +kernel))) (fun _ h9 => h9) rfl dX6_handles_10 ?_
  refine va_getN (D := D) (ci := 5) (v := .int (nI P)) (C := RX5) (T := TX5) (N := 8) hx hb hts in_X6_handles_5 hown hK hP 0 rfl rfl 0 (by decide) (hN.use 0 rfl) (fun _ h9 => h9) rfl dX6_handles_13 ?_
  refine lv_isub hx hb dX6_handles_16 ?_
  refine lv_aload_n hx hb dX6_handles_17 rfl (lv_at hl 0 rfl) ?_
  refine va_get (D := D) (ci := 6) (v := .ref (g 0)) (C := RX6) (T := TX6) (N := 7) hx hb hts in_X6_handles_6 hown hK hP 19 rfl rfl 0 (by decide) (hts (.fieldLink RX6 10 "Twincuts" "web" "LTwincuts$Web;") (List.mem_of_getElem? (i := 2) (by decide +kernel))) (fun _ h9 => h9) rfl dX6_handles_18 ?_
  refine va_getN (D := D) (ci := 5) (v := .int (nI st)) (C := RX5) (T := TX5) (N := 8) hx hb hts in_X6_handles_5 hown hK hP 0 rfl rfl 2 (by decide) (hN.use 15 rfl) (fun _ h9 => h9) rfl dX6_handles_21 ?_
  refine jx_callS (As := [.int (nI st)]) (rest := [.int ((nI (2 * fp)) - (nI P))]) ⟨hx, hb, hml, hown, hts⟩ (c_J6_bitCount_0f7a4 l D st hst) (va_cwS 1 hts gX6_handles_J6_bitCount_0f7a4 rfl rfl rfl (by decide +kernel) ⟨Nat.le_of_ble_eq_true rfl, Nat.le_of_ble_eq_true rfl⟩) hN (hP.sub (ws' := []) [] rfl) (hK.sub (tys' := []) [] rfl) rfl hl.1 rfl (Nat.le_of_ble_eq_true rfl) dX6_handles_24 ⟨Nat.zero_le _, Nat.zero_le _⟩ (fun r hr => ?_)
  subst hr
  refine lv_iadd hx hb dX6_handles_27 ?_
  refine lv_aload_n hx hb dX6_handles_28 rfl (lv_at hl 0 rfl) ?_
  refine va_get (D := D) (ci := 6) (v := .ref (g 50)) (C := RX6) (T := TX6) (N := 7) hx hb hts in_X6_handles_6 hown hK hP 19 rfl rfl 5 (by decide) (hts (.fieldLink RX6 49 "Twincuts" "drawing" "LTwincuts$Drawing;") (List.mem_of_getElem? (i := 3) (by decide +kernel))) (fun _ h9 => h9) rfl dX6_handles_29 ?_
  refine jx_callV (As := []) (rest := [.int (((nI (2 * fp)) - (nI P)) + (nI (jmPop st)))]) ⟨hx, hb, hml, hown, hts⟩ (c_X0_allFaces l D cI cO g P n st sm gr co en la rd le wk fa hw (by omega)) (cwV 0 hts gX6_handles_X0_allFaces rfl rfl rfl (by decide +kernel) ⟨Nat.le_of_ble_eq_true rfl, Nat.le_of_ble_eq_true rfl⟩) hN (hP.sub (ws' := jW cI g P n st sm gr co en la ++ jD cI cO g rd le wk fa) [0, 1, 2, 3, 4, 5, 15, 16, 17, 18] rfl) (hK.sub (tys' := [(cI, .int), (cO, .array .int)]) [0, 1] rfl) 6 0 rfl rfl rfl rfl hl.1 rfl (Nat.le_of_ble_eq_true rfl) dX6_handles_32 ⟨Nat.zero_le _, Nat.zero_le _⟩ (fun r hr => ?_)
  subst hr
  refine lv_isub hx hb dX6_handles_35 ?_
  refine lv_istore_n (lv' := [(1, .int ((((nI (2 * fp)) - (nI P)) + (nI (jmPop st))) - (nI (wk + jmIso la st P)))), (0, .ref (g 60))]) hx hb dX6_handles_36 rfl hl (by decide) rfl (fun ls hl => ?_)
  refine lv_iload_n hx hb dX6_handles_37 rfl (lv_at hl 0 rfl) ?_
  refine lv_iconst (v := nI 2) hx hb dX6_handles_38 (by decide) ?_
  refine lv_idiv hx hb dX6_handles_39 (by decide) ?_
  exact hQ (((((nI (2 * fp)) - (nI P)) + (nI (jmPop st))) - (nI (wk + jmIso la st P))) / (nI 2)) _ _ dX6_handles_40 rfl
set_option maxRecDepth 20000 in
theorem in_X6_net_6 : ∀ w ∈ wsX60, w ∈ wsX6_net := by decide +kernel
set_option maxRecDepth 20000 in
theorem in_X6_net_5 : ∀ w ∈ wsX50, w ∈ wsX6_net := by decide +kernel
set_option maxRecDepth 20000 in
theorem in_X6_net_1 : ∀ w ∈ wsX10, w ∈ wsX6_net := by decide +kernel
set_option maxRecDepth 20000 in
theorem in_X6_net_2 : ∀ w ∈ wsX20, w ∈ wsX6_net := by decide +kernel
set_option maxRecDepth 20000 in
theorem in_X6_net_3 : ∀ w ∈ wsX30, w ∈ wsX6_net := by decide +kernel
set_option maxRecDepth 20000 in
theorem in_X6_net_0 : ∀ w ∈ wsX00, w ∈ wsX6_net := by decide +kernel
set_option maxHeartbeats 4000000 in
set_option maxRecDepth 100000 in
/-- net(what), asked 0 -/
theorem c_X6_net_0 (l : Launch) (D : va_G) (cI : ClassId) (cO : ClassId) (cM : ClassId) (g : Nat → Nat) (P n st : Nat) (sm gr co en la : Nat → Nat) (fp fb fc fk fq ft : Nat) (pa ps fi : Nat → Nat) (bl : Nat → Int32) (sp gp sw gw : Nat → Nat) (rt : Nat → Nat) (cs : Nat) (ct : Int32) (jo : Nat → Nat) (pk : Nat) (cl : Nat → Nat) (rd le : Nat → Nat) (wk : Nat) (fa : Nat → Int32) (rf : Int32) (sz : Nat) (hw : jmWF P n st sm gr co en la) (hfp : fp ≤ 16) (hwk : wk ≤ 32) (hfb : fb < 65536) (hfc : fc < 65536) : jxWi l yX6_net wsX6_net ({ frames := 5, cells := 0, slots := 0, locals := 114 } : Room) D [(cI, .int), (cO, .array .int), (cM, .array .long)] (jW cI g P n st sm gr co en la ++ jF cI g fp fb fc fk fq ft pa ps fi bl sp gp sw gw ++ jT cI cM g rt cs ct jo ++ jP cI g pk cl ++ jD cI cO g rd le wk fa ++ jC g rf) [.ref (g 60), .int (nI 0)] sz (fun r => r = jmNet en la P n st fp fb fc fk fq ft ct pk wk rf 0) (jW cI g P n st sm gr co en la ++ jF cI g fp fb fc fk fq ft pa ps fi bl sp gp sw gw ++ jT cI cM g rt cs ct jo ++ jP cI g pk cl ++ jD cI cO g rd le wk fa ++ jC g rf) := by
  refine jxw_enter (by decide) rfl (Nat.le_of_ble_eq_true rfl) ?_
  intro p e s m args below meth c Q A ls hx hb hml hts hown hN hP hK hD hA hl hQ
  have hD0 := hD
  obtain ⟨H, hH⟩ : ∃ h, h = s.heap := ⟨_, rfl⟩
  have hS : va_S A s.heap H [] := by rw [hH]; exact va_S.rf
  rw [← hH] at hP ⊢
  obtain ⟨locs, hlocs⟩ : ∃ z : List Loc, z = [] := ⟨_, rfl⟩
  rw [← hlocs] at hS ⊢
  have hown : s.vm.findClass RX6 = some m.cls := hown
  have hl : lv_has ls 2 [(0, .ref (g 60)), (1, .int (nI 0))] := hl
  have hP8 : P ≤ 8 := hw.1
  have hn16 : n ≤ 16 := hw.2.1
  have hst : st < 65536 := jmWF_st hw
  have hen : ∀ j, j < n → en j < 256 := jmWF_en hw
  have hla : ∀ q, q < P → la q < 65536 := jmWF_la hw
  have hgr : ∀ j, j < n → sm j < 8 ∧ gr j < 8 := jmWF_gr hw
  have hco : ∀ j, j < n → co j < 21 := jmWF_co hw
  have hiso := jmIso_le la st P
  refine lv_iload_n hx hb dX6_net_0 rfl (lv_at hl 1 rfl) ?_
  refine lv_bipush (v := nI 14) hx hb dX6_net_1 (by decide) ?_
  refine jxw_callSv (X := jW cI g P n st sm gr co en la ++ jF cI g fp fb fc fk fq ft pa ps fi bl sp gp sw gw ++ jT cI cM g rt cs ct jo ++ jP cI g pk cl ++ jD cI cO g rd le wk fa ++ jC g rf) (X' := jW cI g P n st sm gr co en la ++ jF cI g fp fb fc fk fq ft pa ps fi bl sp gp sw gw ++ jT cI cM g rt cs ct jo ++ jP cI g pk cl ++ jD cI cO g rd le wk fa ++ jC g rf) (wc := []) (wc' := []) (wr := jW cI g P n st sm gr co en la ++ jF cI g fp fb fc fk fq ft pa ps fi bl sp gp sw gw ++ jT cI cM g rt cs ct jo ++ jP cI g pk cl ++ jD cI cO g rd le wk fa ++ jC g rf) (N := 25) (As := [.int (nI 0), .int (nI 14)]) (rest := []) ⟨hx, hb, hml, hown, hts⟩ (c_X6_demandWhat l D g H.size 0 14 (by omega) (by omega)) (va_cwS 2 hts gX6_net_X6_demandWhat rfl rfl rfl (by decide +kernel) ⟨Nat.le_of_ble_eq_true rfl, Nat.le_of_ble_eq_true rfl⟩) hN hP hD (hK.sub (tys' := []) [] rfl) hS hA [] [0, 1, 2, 3, 4, 5, 6, 7, 8, 9, 10, 11, 12, 13, 14, 15, 16, 17, 18, 19, 20, 21, 22, 23, 24] rfl rfl rfl rfl rfl rfl (by decide) (by decide) rfl hl.1 rfl (Nat.le_of_ble_eq_true rfl) dX6_net_3 ⟨Nat.zero_le _, Nat.zero_le _⟩ (fun H locs hP hS => ?_)
  have hD : va_D A (jW cI g P n st sm gr co en la ++ jF cI g fp fb fc fk fq ft pa ps fi bl sp gp sw gw ++ jT cI cM g rt cs ct jo ++ jP cI g pk cl ++ jD cI cO g rd le wk fa ++ jC g rf) := jxD hD0 rfl
  refine lv_iload_n hx hb dX6_net_6 rfl (lv_at hl 1 rfl) ?_
  refine lv_tableIn (off := 69) (tgt := 76) hx hb dX6_net_7 (by decide +kernel) (by decide +kernel) (by decide +kernel) (by decide) ?_
  refine lv_aload_n hx hb dX6_net_76 rfl (lv_at hl 0 rfl) ?_
  refine va_get (D := D) (ci := 6) (v := .ref (g 0)) (C := RX6) (T := TX6) (N := 7) hx hb hts in_X6_net_6 hown hK hP 24 rfl rfl 0 (by decide) (hts (.fieldLink RX6 10 "Twincuts" "web" "LTwincuts$Web;") (List.mem_of_getElem? (i := 1) (by decide +kernel))) (fun _ h9 => h9) rfl dX6_net_77 ?_
  refine va_getN (D := D) (ci := 5) (v := .int (nI P)) (C := RX5) (T := TX5) (N := 8) hx hb hts in_X6_net_5 hown hK hP 0 rfl rfl 0 (by decide) (hN.use 0 rfl) (fun _ h9 => h9) rfl dX6_net_80 ?_
  exact hQ (nI P) H locs _ _ dX6_net_83 rfl hP hS
set_option maxHeartbeats 4000000 in
set_option maxRecDepth 100000 in
/-- net(what), asked 1 -/
theorem c_X6_net_1 (l : Launch) (D : va_G) (cI : ClassId) (cO : ClassId) (cM : ClassId) (g : Nat → Nat) (P n st : Nat) (sm gr co en la : Nat → Nat) (fp fb fc fk fq ft : Nat) (pa ps fi : Nat → Nat) (bl : Nat → Int32) (sp gp sw gw : Nat → Nat) (rt : Nat → Nat) (cs : Nat) (ct : Int32) (jo : Nat → Nat) (pk : Nat) (cl : Nat → Nat) (rd le : Nat → Nat) (wk : Nat) (fa : Nat → Int32) (rf : Int32) (sz : Nat) (hw : jmWF P n st sm gr co en la) (hfp : fp ≤ 16) (hwk : wk ≤ 32) (hfb : fb < 65536) (hfc : fc < 65536) : jxWi l yX6_net wsX6_net ({ frames := 5, cells := 0, slots := 0, locals := 114 } : Room) D [(cI, .int), (cO, .array .int), (cM, .array .long)] (jW cI g P n st sm gr co en la ++ jF cI g fp fb fc fk fq ft pa ps fi bl sp gp sw gw ++ jT cI cM g rt cs ct jo ++ jP cI g pk cl ++ jD cI cO g rd le wk fa ++ jC g rf) [.ref (g 60), .int (nI 1)] sz (fun r => r = jmNet en la P n st fp fb fc fk fq ft ct pk wk rf 1) (jW cI g P n st sm gr co en la ++ jF cI g fp fb fc fk fq ft pa ps fi bl sp gp sw gw ++ jT cI cM g rt cs ct jo ++ jP cI g pk cl ++ jD cI cO g rd le wk fa ++ jC g rf) := by
  refine jxw_enter (by decide) rfl (Nat.le_of_ble_eq_true rfl) ?_
  intro p e s m args below meth c Q A ls hx hb hml hts hown hN hP hK hD hA hl hQ
  have hD0 := hD
  obtain ⟨H, hH⟩ : ∃ h, h = s.heap := ⟨_, rfl⟩
  have hS : va_S A s.heap H [] := by rw [hH]; exact va_S.rf
  rw [← hH] at hP ⊢
  obtain ⟨locs, hlocs⟩ : ∃ z : List Loc, z = [] := ⟨_, rfl⟩
  rw [← hlocs] at hS ⊢
  have hown : s.vm.findClass RX6 = some m.cls := hown
  have hl : lv_has ls 2 [(0, .ref (g 60)), (1, .int (nI 1))] := hl
  have hP8 : P ≤ 8 := hw.1
  have hn16 : n ≤ 16 := hw.2.1
  have hst : st < 65536 := jmWF_st hw
  have hen : ∀ j, j < n → en j < 256 := jmWF_en hw
  have hla : ∀ q, q < P → la q < 65536 := jmWF_la hw
  have hgr : ∀ j, j < n → sm j < 8 ∧ gr j < 8 := jmWF_gr hw
  have hco : ∀ j, j < n → co j < 21 := jmWF_co hw
  have hiso := jmIso_le la st P
  refine lv_iload_n hx hb dX6_net_0 rfl (lv_at hl 1 rfl) ?_
  refine lv_bipush (v := nI 14) hx hb dX6_net_1 (by decide) ?_
  refine jxw_callSv (X := jW cI g P n st sm gr co en la ++ jF cI g fp fb fc fk fq ft pa ps fi bl sp gp sw gw ++ jT cI cM g rt cs ct jo ++ jP cI g pk cl ++ jD cI cO g rd le wk fa ++ jC g rf) (X' := jW cI g P n st sm gr co en la ++ jF cI g fp fb fc fk fq ft pa ps fi bl sp gp sw gw ++ jT cI cM g rt cs ct jo ++ jP cI g pk cl ++ jD cI cO g rd le wk fa ++ jC g rf) (wc := []) (wc' := []) (wr := jW cI g P n st sm gr co en la ++ jF cI g fp fb fc fk fq ft pa ps fi bl sp gp sw gw ++ jT cI cM g rt cs ct jo ++ jP cI g pk cl ++ jD cI cO g rd le wk fa ++ jC g rf) (N := 25) (As := [.int (nI 1), .int (nI 14)]) (rest := []) ⟨hx, hb, hml, hown, hts⟩ (c_X6_demandWhat l D g H.size 1 14 (by omega) (by omega)) (va_cwS 2 hts gX6_net_X6_demandWhat rfl rfl rfl (by decide +kernel) ⟨Nat.le_of_ble_eq_true rfl, Nat.le_of_ble_eq_true rfl⟩) hN hP hD (hK.sub (tys' := []) [] rfl) hS hA [] [0, 1, 2, 3, 4, 5, 6, 7, 8, 9, 10, 11, 12, 13, 14, 15, 16, 17, 18, 19, 20, 21, 22, 23, 24] rfl rfl rfl rfl rfl rfl (by decide) (by decide) rfl hl.1 rfl (Nat.le_of_ble_eq_true rfl) dX6_net_3 ⟨Nat.zero_le _, Nat.zero_le _⟩ (fun H locs hP hS => ?_)
  have hD : va_D A (jW cI g P n st sm gr co en la ++ jF cI g fp fb fc fk fq ft pa ps fi bl sp gp sw gw ++ jT cI cM g rt cs ct jo ++ jP cI g pk cl ++ jD cI cO g rd le wk fa ++ jC g rf) := jxD hD0 rfl
  refine lv_iload_n hx hb dX6_net_6 rfl (lv_at hl 1 rfl) ?_
  refine lv_tableIn (off := 77) (tgt := 84) hx hb dX6_net_7 (by decide +kernel) (by decide +kernel) (by decide +kernel) (by decide) ?_
  refine lv_aload_n hx hb dX6_net_84 rfl (lv_at hl 0 rfl) ?_
  refine va_get (D := D) (ci := 6) (v := .ref (g 0)) (C := RX6) (T := TX6) (N := 7) hx hb hts in_X6_net_6 hown hK hP 24 rfl rfl 0 (by decide) (hts (.fieldLink RX6 10 "Twincuts" "web" "LTwincuts$Web;") (List.mem_of_getElem? (i := 1) (by decide +kernel))) (fun _ h9 => h9) rfl dX6_net_85 ?_
  refine va_getN (D := D) (ci := 5) (v := .int (nI n)) (C := RX5) (T := TX5) (N := 8) hx hb hts in_X6_net_5 hown hK hP 0 rfl rfl 1 (by decide) (hN.use 8 rfl) (fun _ h9 => h9) rfl dX6_net_88 ?_
  exact hQ (nI n) H locs _ _ dX6_net_91 rfl hP hS
set_option maxHeartbeats 4000000 in
set_option maxRecDepth 100000 in
/-- net(what), asked 2 -/
theorem c_X6_net_2 (l : Launch) (D : va_G) (cI : ClassId) (cO : ClassId) (cM : ClassId) (g : Nat → Nat) (P n st : Nat) (sm gr co en la : Nat → Nat) (fp fb fc fk fq ft : Nat) (pa ps fi : Nat → Nat) (bl : Nat → Int32) (sp gp sw gw : Nat → Nat) (rt : Nat → Nat) (cs : Nat) (ct : Int32) (jo : Nat → Nat) (pk : Nat) (cl : Nat → Nat) (rd le : Nat → Nat) (wk : Nat) (fa : Nat → Int32) (rf : Int32) (sz : Nat) (hw : jmWF P n st sm gr co en la) (hfp : fp ≤ 16) (hwk : wk ≤ 32) (hfb : fb < 65536) (hfc : fc < 65536) : jxWi l yX6_net wsX6_net ({ frames := 5, cells := 0, slots := 0, locals := 114 } : Room) D [(cI, .int), (cO, .array .int), (cM, .array .long)] (jW cI g P n st sm gr co en la ++ jF cI g fp fb fc fk fq ft pa ps fi bl sp gp sw gw ++ jT cI cM g rt cs ct jo ++ jP cI g pk cl ++ jD cI cO g rd le wk fa ++ jC g rf) [.ref (g 60), .int (nI 2)] sz (fun r => r = jmNet en la P n st fp fb fc fk fq ft ct pk wk rf 2) (jW cI g P n st sm gr co en la ++ jF cI g fp fb fc fk fq ft pa ps fi bl sp gp sw gw ++ jT cI cM g rt cs ct jo ++ jP cI g pk cl ++ jD cI cO g rd le wk fa ++ jC g rf) := by
  refine jxw_enter (by decide) rfl (Nat.le_of_ble_eq_true rfl) ?_
  intro p e s m args below meth c Q A ls hx hb hml hts hown hN hP hK hD hA hl hQ
  have hD0 := hD
  obtain ⟨H, hH⟩ : ∃ h, h = s.heap := ⟨_, rfl⟩
  have hS : va_S A s.heap H [] := by rw [hH]; exact va_S.rf
  rw [← hH] at hP ⊢
  obtain ⟨locs, hlocs⟩ : ∃ z : List Loc, z = [] := ⟨_, rfl⟩
  rw [← hlocs] at hS ⊢
  have hown : s.vm.findClass RX6 = some m.cls := hown
  have hl : lv_has ls 2 [(0, .ref (g 60)), (1, .int (nI 2))] := hl
  have hP8 : P ≤ 8 := hw.1
  have hn16 : n ≤ 16 := hw.2.1
  have hst : st < 65536 := jmWF_st hw
  have hen : ∀ j, j < n → en j < 256 := jmWF_en hw
  have hla : ∀ q, q < P → la q < 65536 := jmWF_la hw
  have hgr : ∀ j, j < n → sm j < 8 ∧ gr j < 8 := jmWF_gr hw
  have hco : ∀ j, j < n → co j < 21 := jmWF_co hw
  have hiso := jmIso_le la st P
  refine lv_iload_n hx hb dX6_net_0 rfl (lv_at hl 1 rfl) ?_
  refine lv_bipush (v := nI 14) hx hb dX6_net_1 (by decide) ?_
  refine jxw_callSv (X := jW cI g P n st sm gr co en la ++ jF cI g fp fb fc fk fq ft pa ps fi bl sp gp sw gw ++ jT cI cM g rt cs ct jo ++ jP cI g pk cl ++ jD cI cO g rd le wk fa ++ jC g rf) (X' := jW cI g P n st sm gr co en la ++ jF cI g fp fb fc fk fq ft pa ps fi bl sp gp sw gw ++ jT cI cM g rt cs ct jo ++ jP cI g pk cl ++ jD cI cO g rd le wk fa ++ jC g rf) (wc := []) (wc' := []) (wr := jW cI g P n st sm gr co en la ++ jF cI g fp fb fc fk fq ft pa ps fi bl sp gp sw gw ++ jT cI cM g rt cs ct jo ++ jP cI g pk cl ++ jD cI cO g rd le wk fa ++ jC g rf) (N := 25) (As := [.int (nI 2), .int (nI 14)]) (rest := []) ⟨hx, hb, hml, hown, hts⟩ (c_X6_demandWhat l D g H.size 2 14 (by omega) (by omega)) (va_cwS 2 hts gX6_net_X6_demandWhat rfl rfl rfl (by decide +kernel) ⟨Nat.le_of_ble_eq_true rfl, Nat.le_of_ble_eq_true rfl⟩) hN hP hD (hK.sub (tys' := []) [] rfl) hS hA [] [0, 1, 2, 3, 4, 5, 6, 7, 8, 9, 10, 11, 12, 13, 14, 15, 16, 17, 18, 19, 20, 21, 22, 23, 24] rfl rfl rfl rfl rfl rfl (by decide) (by decide) rfl hl.1 rfl (Nat.le_of_ble_eq_true rfl) dX6_net_3 ⟨Nat.zero_le _, Nat.zero_le _⟩ (fun H locs hP hS => ?_)
  have hD : va_D A (jW cI g P n st sm gr co en la ++ jF cI g fp fb fc fk fq ft pa ps fi bl sp gp sw gw ++ jT cI cM g rt cs ct jo ++ jP cI g pk cl ++ jD cI cO g rd le wk fa ++ jC g rf) := jxD hD0 rfl
  refine lv_iload_n hx hb dX6_net_6 rfl (lv_at hl 1 rfl) ?_
  refine lv_tableIn (off := 85) (tgt := 92) hx hb dX6_net_7 (by decide +kernel) (by decide +kernel) (by decide +kernel) (by decide) ?_
  refine lv_aload_n hx hb dX6_net_92 rfl (lv_at hl 0 rfl) ?_
  refine va_get (D := D) (ci := 6) (v := .ref (g 0)) (C := RX6) (T := TX6) (N := 7) hx hb hts in_X6_net_6 hown hK hP 24 rfl rfl 0 (by decide) (hts (.fieldLink RX6 10 "Twincuts" "web" "LTwincuts$Web;") (List.mem_of_getElem? (i := 1) (by decide +kernel))) (fun _ h9 => h9) rfl dX6_net_93 ?_
  refine va_getN (D := D) (ci := 5) (v := .int (nI st)) (C := RX5) (T := TX5) (N := 8) hx hb hts in_X6_net_5 hown hK hP 0 rfl rfl 2 (by decide) (hN.use 15 rfl) (fun _ h9 => h9) rfl dX6_net_96 ?_
  refine jx_callS (As := [.int (nI st)]) (rest := []) ⟨hx, hb, hml, hown, hts⟩ (c_J6_bitCount_0f7a4 l D st hst) (va_cwS 1 hts gX6_net_J6_bitCount_0f7a4 rfl rfl rfl (by decide +kernel) ⟨Nat.le_of_ble_eq_true rfl, Nat.le_of_ble_eq_true rfl⟩) hN (hP.sub (ws' := []) [] rfl) (hK.sub (tys' := []) [] rfl) rfl hl.1 rfl (Nat.le_of_ble_eq_true rfl) dX6_net_99 ⟨Nat.zero_le _, Nat.zero_le _⟩ (fun r hr => ?_)
  subst hr
  exact hQ (nI (jmPop st)) H locs _ _ dX6_net_102 rfl hP hS
set_option maxHeartbeats 4000000 in
set_option maxRecDepth 100000 in
/-- net(what), asked 3 -/
theorem c_X6_net_3 (l : Launch) (D : va_G) (cI : ClassId) (cO : ClassId) (cM : ClassId) (g : Nat → Nat) (P n st : Nat) (sm gr co en la : Nat → Nat) (fp fb fc fk fq ft : Nat) (pa ps fi : Nat → Nat) (bl : Nat → Int32) (sp gp sw gw : Nat → Nat) (rt : Nat → Nat) (cs : Nat) (ct : Int32) (jo : Nat → Nat) (pk : Nat) (cl : Nat → Nat) (rd le : Nat → Nat) (wk : Nat) (fa : Nat → Int32) (rf : Int32) (sz : Nat) (hw : jmWF P n st sm gr co en la) (hfp : fp ≤ 16) (hwk : wk ≤ 32) (hfb : fb < 65536) (hfc : fc < 65536) : jxWi l yX6_net wsX6_net ({ frames := 5, cells := 0, slots := 0, locals := 114 } : Room) D [(cI, .int), (cO, .array .int), (cM, .array .long)] (jW cI g P n st sm gr co en la ++ jF cI g fp fb fc fk fq ft pa ps fi bl sp gp sw gw ++ jT cI cM g rt cs ct jo ++ jP cI g pk cl ++ jD cI cO g rd le wk fa ++ jC g rf) [.ref (g 60), .int (nI 3)] sz (fun r => r = jmNet en la P n st fp fb fc fk fq ft ct pk wk rf 3) (jW cI g P n st sm gr co en la ++ jF cI g fp fb fc fk fq ft pa ps fi bl sp gp sw gw ++ jT cI cM g rt cs ct jo ++ jP cI g pk cl ++ jD cI cO g rd le wk fa ++ jC g rf) := by
  refine jxw_enter (by decide) rfl (Nat.le_of_ble_eq_true rfl) ?_
  intro p e s m args below meth c Q A ls hx hb hml hts hown hN hP hK hD hA hl hQ
  have hD0 := hD
  obtain ⟨H, hH⟩ : ∃ h, h = s.heap := ⟨_, rfl⟩
  have hS : va_S A s.heap H [] := by rw [hH]; exact va_S.rf
  rw [← hH] at hP ⊢
  obtain ⟨locs, hlocs⟩ : ∃ z : List Loc, z = [] := ⟨_, rfl⟩
  rw [← hlocs] at hS ⊢
  have hown : s.vm.findClass RX6 = some m.cls := hown
  have hl : lv_has ls 2 [(0, .ref (g 60)), (1, .int (nI 3))] := hl
  have hP8 : P ≤ 8 := hw.1
  have hn16 : n ≤ 16 := hw.2.1
  have hst : st < 65536 := jmWF_st hw
  have hen : ∀ j, j < n → en j < 256 := jmWF_en hw
  have hla : ∀ q, q < P → la q < 65536 := jmWF_la hw
  have hgr : ∀ j, j < n → sm j < 8 ∧ gr j < 8 := jmWF_gr hw
  have hco : ∀ j, j < n → co j < 21 := jmWF_co hw
  have hiso := jmIso_le la st P
  refine lv_iload_n hx hb dX6_net_0 rfl (lv_at hl 1 rfl) ?_
  refine lv_bipush (v := nI 14) hx hb dX6_net_1 (by decide) ?_
  refine jxw_callSv (X := jW cI g P n st sm gr co en la ++ jF cI g fp fb fc fk fq ft pa ps fi bl sp gp sw gw ++ jT cI cM g rt cs ct jo ++ jP cI g pk cl ++ jD cI cO g rd le wk fa ++ jC g rf) (X' := jW cI g P n st sm gr co en la ++ jF cI g fp fb fc fk fq ft pa ps fi bl sp gp sw gw ++ jT cI cM g rt cs ct jo ++ jP cI g pk cl ++ jD cI cO g rd le wk fa ++ jC g rf) (wc := []) (wc' := []) (wr := jW cI g P n st sm gr co en la ++ jF cI g fp fb fc fk fq ft pa ps fi bl sp gp sw gw ++ jT cI cM g rt cs ct jo ++ jP cI g pk cl ++ jD cI cO g rd le wk fa ++ jC g rf) (N := 25) (As := [.int (nI 3), .int (nI 14)]) (rest := []) ⟨hx, hb, hml, hown, hts⟩ (c_X6_demandWhat l D g H.size 3 14 (by omega) (by omega)) (va_cwS 2 hts gX6_net_X6_demandWhat rfl rfl rfl (by decide +kernel) ⟨Nat.le_of_ble_eq_true rfl, Nat.le_of_ble_eq_true rfl⟩) hN hP hD (hK.sub (tys' := []) [] rfl) hS hA [] [0, 1, 2, 3, 4, 5, 6, 7, 8, 9, 10, 11, 12, 13, 14, 15, 16, 17, 18, 19, 20, 21, 22, 23, 24] rfl rfl rfl rfl rfl rfl (by decide) (by decide) rfl hl.1 rfl (Nat.le_of_ble_eq_true rfl) dX6_net_3 ⟨Nat.zero_le _, Nat.zero_le _⟩ (fun H locs hP hS => ?_)
  have hD : va_D A (jW cI g P n st sm gr co en la ++ jF cI g fp fb fc fk fq ft pa ps fi bl sp gp sw gw ++ jT cI cM g rt cs ct jo ++ jP cI g pk cl ++ jD cI cO g rd le wk fa ++ jC g rf) := jxD hD0 rfl
  refine lv_iload_n hx hb dX6_net_6 rfl (lv_at hl 1 rfl) ?_
  refine lv_tableIn (off := 96) (tgt := 103) hx hb dX6_net_7 (by decide +kernel) (by decide +kernel) (by decide +kernel) (by decide) ?_
  refine lv_aload_n hx hb dX6_net_103 rfl (lv_at hl 0 rfl) ?_
  refine va_get (D := D) (ci := 6) (v := .ref (g 10)) (C := RX6) (T := TX6) (N := 7) hx hb hts in_X6_net_6 hown hK hP 24 rfl rfl 1 (by decide) (hts (.fieldLink RX6 21 "Twincuts" "falls" "LTwincuts$Falls;") (List.mem_of_getElem? (i := 2) (by decide +kernel))) (fun _ h9 => h9) rfl dX6_net_104 ?_
  refine va_getN (D := D) (ci := 1) (v := .int (nI fp)) (C := RX1) (T := TX1) (N := 15) hx hb hts in_X6_net_1 hown hK hP 6 rfl rfl 1 (by decide) (hN.use 26 rfl) (fun _ h9 => h9) rfl dX6_net_107 ?_
  exact hQ (nI fp) H locs _ _ dX6_net_110 rfl hP hS
set_option maxHeartbeats 4000000 in
set_option maxRecDepth 100000 in
/-- net(what), asked 4 -/
theorem c_X6_net_4 (l : Launch) (D : va_G) (cI : ClassId) (cO : ClassId) (cM : ClassId) (g : Nat → Nat) (P n st : Nat) (sm gr co en la : Nat → Nat) (fp fb fc fk fq ft : Nat) (pa ps fi : Nat → Nat) (bl : Nat → Int32) (sp gp sw gw : Nat → Nat) (rt : Nat → Nat) (cs : Nat) (ct : Int32) (jo : Nat → Nat) (pk : Nat) (cl : Nat → Nat) (rd le : Nat → Nat) (wk : Nat) (fa : Nat → Int32) (rf : Int32) (sz : Nat) (hw : jmWF P n st sm gr co en la) (hfp : fp ≤ 16) (hwk : wk ≤ 32) (hfb : fb < 65536) (hfc : fc < 65536) : jxWi l yX6_net wsX6_net ({ frames := 5, cells := 0, slots := 0, locals := 114 } : Room) D [(cI, .int), (cO, .array .int), (cM, .array .long)] (jW cI g P n st sm gr co en la ++ jF cI g fp fb fc fk fq ft pa ps fi bl sp gp sw gw ++ jT cI cM g rt cs ct jo ++ jP cI g pk cl ++ jD cI cO g rd le wk fa ++ jC g rf) [.ref (g 60), .int (nI 4)] sz (fun r => r = jmNet en la P n st fp fb fc fk fq ft ct pk wk rf 4) (jW cI g P n st sm gr co en la ++ jF cI g fp fb fc fk fq ft pa ps fi bl sp gp sw gw ++ jT cI cM g rt cs ct jo ++ jP cI g pk cl ++ jD cI cO g rd le wk fa ++ jC g rf) := by
  refine jxw_enter (by decide) rfl (Nat.le_of_ble_eq_true rfl) ?_
  intro p e s m args below meth c Q A ls hx hb hml hts hown hN hP hK hD hA hl hQ
  have hD0 := hD
  obtain ⟨H, hH⟩ : ∃ h, h = s.heap := ⟨_, rfl⟩
  have hS : va_S A s.heap H [] := by rw [hH]; exact va_S.rf
  rw [← hH] at hP ⊢
  obtain ⟨locs, hlocs⟩ : ∃ z : List Loc, z = [] := ⟨_, rfl⟩
  rw [← hlocs] at hS ⊢
  have hown : s.vm.findClass RX6 = some m.cls := hown
  have hl : lv_has ls 2 [(0, .ref (g 60)), (1, .int (nI 4))] := hl
  have hP8 : P ≤ 8 := hw.1
  have hn16 : n ≤ 16 := hw.2.1
  have hst : st < 65536 := jmWF_st hw
  have hen : ∀ j, j < n → en j < 256 := jmWF_en hw
  have hla : ∀ q, q < P → la q < 65536 := jmWF_la hw
  have hgr : ∀ j, j < n → sm j < 8 ∧ gr j < 8 := jmWF_gr hw
  have hco : ∀ j, j < n → co j < 21 := jmWF_co hw
  have hiso := jmIso_le la st P
  refine lv_iload_n hx hb dX6_net_0 rfl (lv_at hl 1 rfl) ?_
  refine lv_bipush (v := nI 14) hx hb dX6_net_1 (by decide) ?_
  refine jxw_callSv (X := jW cI g P n st sm gr co en la ++ jF cI g fp fb fc fk fq ft pa ps fi bl sp gp sw gw ++ jT cI cM g rt cs ct jo ++ jP cI g pk cl ++ jD cI cO g rd le wk fa ++ jC g rf) (X' := jW cI g P n st sm gr co en la ++ jF cI g fp fb fc fk fq ft pa ps fi bl sp gp sw gw ++ jT cI cM g rt cs ct jo ++ jP cI g pk cl ++ jD cI cO g rd le wk fa ++ jC g rf) (wc := []) (wc' := []) (wr := jW cI g P n st sm gr co en la ++ jF cI g fp fb fc fk fq ft pa ps fi bl sp gp sw gw ++ jT cI cM g rt cs ct jo ++ jP cI g pk cl ++ jD cI cO g rd le wk fa ++ jC g rf) (N := 25) (As := [.int (nI 4), .int (nI 14)]) (rest := []) ⟨hx, hb, hml, hown, hts⟩ (c_X6_demandWhat l D g H.size 4 14 (by omega) (by omega)) (va_cwS 2 hts gX6_net_X6_demandWhat rfl rfl rfl (by decide +kernel) ⟨Nat.le_of_ble_eq_true rfl, Nat.le_of_ble_eq_true rfl⟩) hN hP hD (hK.sub (tys' := []) [] rfl) hS hA [] [0, 1, 2, 3, 4, 5, 6, 7, 8, 9, 10, 11, 12, 13, 14, 15, 16, 17, 18, 19, 20, 21, 22, 23, 24] rfl rfl rfl rfl rfl rfl (by decide) (by decide) rfl hl.1 rfl (Nat.le_of_ble_eq_true rfl) dX6_net_3 ⟨Nat.zero_le _, Nat.zero_le _⟩ (fun H locs hP hS => ?_)
  have hD : va_D A (jW cI g P n st sm gr co en la ++ jF cI g fp fb fc fk fq ft pa ps fi bl sp gp sw gw ++ jT cI cM g rt cs ct jo ++ jP cI g pk cl ++ jD cI cO g rd le wk fa ++ jC g rf) := jxD hD0 rfl
  refine lv_iload_n hx hb dX6_net_6 rfl (lv_at hl 1 rfl) ?_
  refine lv_tableIn (off := 104) (tgt := 111) hx hb dX6_net_7 (by decide +kernel) (by decide +kernel) (by decide +kernel) (by decide) ?_
  refine lv_aload_n hx hb dX6_net_111 rfl (lv_at hl 0 rfl) ?_
  refine va_get (D := D) (ci := 6) (v := .ref (g 10)) (C := RX6) (T := TX6) (N := 7) hx hb hts in_X6_net_6 hown hK hP 24 rfl rfl 1 (by decide) (hts (.fieldLink RX6 21 "Twincuts" "falls" "LTwincuts$Falls;") (List.mem_of_getElem? (i := 2) (by decide +kernel))) (fun _ h9 => h9) rfl dX6_net_112 ?_
  refine va_getN (D := D) (ci := 1) (v := .int (nI fb)) (C := RX1) (T := TX1) (N := 15) hx hb hts in_X6_net_1 hown hK hP 6 rfl rfl 2 (by decide) (hN.use 27 rfl) (fun _ h9 => h9) rfl dX6_net_115 ?_
  refine jx_callS (As := [.int (nI fb)]) (rest := []) ⟨hx, hb, hml, hown, hts⟩ (c_J6_bitCount_0f7a4 l D fb hfb) (va_cwS 1 hts gX6_net_J6_bitCount_0f7a4 rfl rfl rfl (by decide +kernel) ⟨Nat.le_of_ble_eq_true rfl, Nat.le_of_ble_eq_true rfl⟩) hN (hP.sub (ws' := []) [] rfl) (hK.sub (tys' := []) [] rfl) rfl hl.1 rfl (Nat.le_of_ble_eq_true rfl) dX6_net_118 ⟨Nat.zero_le _, Nat.zero_le _⟩ (fun r hr => ?_)
  subst hr
  exact hQ (nI (jmPop fb)) H locs _ _ dX6_net_121 rfl hP hS
set_option maxHeartbeats 4000000 in
set_option maxRecDepth 100000 in
/-- net(what), asked 5 -/
theorem c_X6_net_5 (l : Launch) (D : va_G) (cI : ClassId) (cO : ClassId) (cM : ClassId) (g : Nat → Nat) (P n st : Nat) (sm gr co en la : Nat → Nat) (fp fb fc fk fq ft : Nat) (pa ps fi : Nat → Nat) (bl : Nat → Int32) (sp gp sw gw : Nat → Nat) (rt : Nat → Nat) (cs : Nat) (ct : Int32) (jo : Nat → Nat) (pk : Nat) (cl : Nat → Nat) (rd le : Nat → Nat) (wk : Nat) (fa : Nat → Int32) (rf : Int32) (sz : Nat) (hw : jmWF P n st sm gr co en la) (hfp : fp ≤ 16) (hwk : wk ≤ 32) (hfb : fb < 65536) (hfc : fc < 65536) : jxWi l yX6_net wsX6_net ({ frames := 5, cells := 0, slots := 0, locals := 114 } : Room) D [(cI, .int), (cO, .array .int), (cM, .array .long)] (jW cI g P n st sm gr co en la ++ jF cI g fp fb fc fk fq ft pa ps fi bl sp gp sw gw ++ jT cI cM g rt cs ct jo ++ jP cI g pk cl ++ jD cI cO g rd le wk fa ++ jC g rf) [.ref (g 60), .int (nI 5)] sz (fun r => r = jmNet en la P n st fp fb fc fk fq ft ct pk wk rf 5) (jW cI g P n st sm gr co en la ++ jF cI g fp fb fc fk fq ft pa ps fi bl sp gp sw gw ++ jT cI cM g rt cs ct jo ++ jP cI g pk cl ++ jD cI cO g rd le wk fa ++ jC g rf) := by
  refine jxw_enter (by decide) rfl (Nat.le_of_ble_eq_true rfl) ?_
  intro p e s m args below meth c Q A ls hx hb hml hts hown hN hP hK hD hA hl hQ
  have hD0 := hD
  obtain ⟨H, hH⟩ : ∃ h, h = s.heap := ⟨_, rfl⟩
  have hS : va_S A s.heap H [] := by rw [hH]; exact va_S.rf
  rw [← hH] at hP ⊢
  obtain ⟨locs, hlocs⟩ : ∃ z : List Loc, z = [] := ⟨_, rfl⟩
  rw [← hlocs] at hS ⊢
  have hown : s.vm.findClass RX6 = some m.cls := hown
  have hl : lv_has ls 2 [(0, .ref (g 60)), (1, .int (nI 5))] := hl
  have hP8 : P ≤ 8 := hw.1
  have hn16 : n ≤ 16 := hw.2.1
  have hst : st < 65536 := jmWF_st hw
  have hen : ∀ j, j < n → en j < 256 := jmWF_en hw
  have hla : ∀ q, q < P → la q < 65536 := jmWF_la hw
  have hgr : ∀ j, j < n → sm j < 8 ∧ gr j < 8 := jmWF_gr hw
  have hco : ∀ j, j < n → co j < 21 := jmWF_co hw
  have hiso := jmIso_le la st P
  refine lv_iload_n hx hb dX6_net_0 rfl (lv_at hl 1 rfl) ?_
  refine lv_bipush (v := nI 14) hx hb dX6_net_1 (by decide) ?_
  refine jxw_callSv (X := jW cI g P n st sm gr co en la ++ jF cI g fp fb fc fk fq ft pa ps fi bl sp gp sw gw ++ jT cI cM g rt cs ct jo ++ jP cI g pk cl ++ jD cI cO g rd le wk fa ++ jC g rf) (X' := jW cI g P n st sm gr co en la ++ jF cI g fp fb fc fk fq ft pa ps fi bl sp gp sw gw ++ jT cI cM g rt cs ct jo ++ jP cI g pk cl ++ jD cI cO g rd le wk fa ++ jC g rf) (wc := []) (wc' := []) (wr := jW cI g P n st sm gr co en la ++ jF cI g fp fb fc fk fq ft pa ps fi bl sp gp sw gw ++ jT cI cM g rt cs ct jo ++ jP cI g pk cl ++ jD cI cO g rd le wk fa ++ jC g rf) (N := 25) (As := [.int (nI 5), .int (nI 14)]) (rest := []) ⟨hx, hb, hml, hown, hts⟩ (c_X6_demandWhat l D g H.size 5 14 (by omega) (by omega)) (va_cwS 2 hts gX6_net_X6_demandWhat rfl rfl rfl (by decide +kernel) ⟨Nat.le_of_ble_eq_true rfl, Nat.le_of_ble_eq_true rfl⟩) hN hP hD (hK.sub (tys' := []) [] rfl) hS hA [] [0, 1, 2, 3, 4, 5, 6, 7, 8, 9, 10, 11, 12, 13, 14, 15, 16, 17, 18, 19, 20, 21, 22, 23, 24] rfl rfl rfl rfl rfl rfl (by decide) (by decide) rfl hl.1 rfl (Nat.le_of_ble_eq_true rfl) dX6_net_3 ⟨Nat.zero_le _, Nat.zero_le _⟩ (fun H locs hP hS => ?_)
  have hD : va_D A (jW cI g P n st sm gr co en la ++ jF cI g fp fb fc fk fq ft pa ps fi bl sp gp sw gw ++ jT cI cM g rt cs ct jo ++ jP cI g pk cl ++ jD cI cO g rd le wk fa ++ jC g rf) := jxD hD0 rfl
  refine lv_iload_n hx hb dX6_net_6 rfl (lv_at hl 1 rfl) ?_
  refine lv_tableIn (off := 115) (tgt := 122) hx hb dX6_net_7 (by decide +kernel) (by decide +kernel) (by decide +kernel) (by decide) ?_
  refine lv_aload_n hx hb dX6_net_122 rfl (lv_at hl 0 rfl) ?_
  refine va_get (D := D) (ci := 6) (v := .ref (g 10)) (C := RX6) (T := TX6) (N := 7) hx hb hts in_X6_net_6 hown hK hP 24 rfl rfl 1 (by decide) (hts (.fieldLink RX6 21 "Twincuts" "falls" "LTwincuts$Falls;") (List.mem_of_getElem? (i := 2) (by decide +kernel))) (fun _ h9 => h9) rfl dX6_net_123 ?_
  refine va_getN (D := D) (ci := 1) (v := .int (nI fc)) (C := RX1) (T := TX1) (N := 15) hx hb hts in_X6_net_1 hown hK hP 6 rfl rfl 3 (by decide) (hN.use 28 rfl) (fun _ h9 => h9) rfl dX6_net_126 ?_
  refine jx_callS (As := [.int (nI fc)]) (rest := []) ⟨hx, hb, hml, hown, hts⟩ (c_J6_bitCount_0f7a4 l D fc hfc) (va_cwS 1 hts gX6_net_J6_bitCount_0f7a4 rfl rfl rfl (by decide +kernel) ⟨Nat.le_of_ble_eq_true rfl, Nat.le_of_ble_eq_true rfl⟩) hN (hP.sub (ws' := []) [] rfl) (hK.sub (tys' := []) [] rfl) rfl hl.1 rfl (Nat.le_of_ble_eq_true rfl) dX6_net_129 ⟨Nat.zero_le _, Nat.zero_le _⟩ (fun r hr => ?_)
  subst hr
  exact hQ (nI (jmPop fc)) H locs _ _ dX6_net_132 rfl hP hS
set_option maxHeartbeats 4000000 in
set_option maxRecDepth 100000 in
/-- net(what), asked 6 -/
theorem c_X6_net_6 (l : Launch) (D : va_G) (cI : ClassId) (cO : ClassId) (cM : ClassId) (g : Nat → Nat) (P n st : Nat) (sm gr co en la : Nat → Nat) (fp fb fc fk fq ft : Nat) (pa ps fi : Nat → Nat) (bl : Nat → Int32) (sp gp sw gw : Nat → Nat) (rt : Nat → Nat) (cs : Nat) (ct : Int32) (jo : Nat → Nat) (pk : Nat) (cl : Nat → Nat) (rd le : Nat → Nat) (wk : Nat) (fa : Nat → Int32) (rf : Int32) (sz : Nat) (hw : jmWF P n st sm gr co en la) (hfp : fp ≤ 16) (hwk : wk ≤ 32) (hfb : fb < 65536) (hfc : fc < 65536) : jxWi l yX6_net wsX6_net ({ frames := 5, cells := 0, slots := 0, locals := 114 } : Room) D [(cI, .int), (cO, .array .int), (cM, .array .long)] (jW cI g P n st sm gr co en la ++ jF cI g fp fb fc fk fq ft pa ps fi bl sp gp sw gw ++ jT cI cM g rt cs ct jo ++ jP cI g pk cl ++ jD cI cO g rd le wk fa ++ jC g rf) [.ref (g 60), .int (nI 6)] sz (fun r => r = jmNet en la P n st fp fb fc fk fq ft ct pk wk rf 6) (jW cI g P n st sm gr co en la ++ jF cI g fp fb fc fk fq ft pa ps fi bl sp gp sw gw ++ jT cI cM g rt cs ct jo ++ jP cI g pk cl ++ jD cI cO g rd le wk fa ++ jC g rf) := by
  refine jxw_enter (by decide) rfl (Nat.le_of_ble_eq_true rfl) ?_
  intro p e s m args below meth c Q A ls hx hb hml hts hown hN hP hK hD hA hl hQ
  have hD0 := hD
  obtain ⟨H, hH⟩ : ∃ h, h = s.heap := ⟨_, rfl⟩
  have hS : va_S A s.heap H [] := by rw [hH]; exact va_S.rf
  rw [← hH] at hP ⊢
  obtain ⟨locs, hlocs⟩ : ∃ z : List Loc, z = [] := ⟨_, rfl⟩
  rw [← hlocs] at hS ⊢
  have hown : s.vm.findClass RX6 = some m.cls := hown
  have hl : lv_has ls 2 [(0, .ref (g 60)), (1, .int (nI 6))] := hl
  have hP8 : P ≤ 8 := hw.1
  have hn16 : n ≤ 16 := hw.2.1
  have hst : st < 65536 := jmWF_st hw
  have hen : ∀ j, j < n → en j < 256 := jmWF_en hw
  have hla : ∀ q, q < P → la q < 65536 := jmWF_la hw
  have hgr : ∀ j, j < n → sm j < 8 ∧ gr j < 8 := jmWF_gr hw
  have hco : ∀ j, j < n → co j < 21 := jmWF_co hw
  have hiso := jmIso_le la st P
  refine lv_iload_n hx hb dX6_net_0 rfl (lv_at hl 1 rfl) ?_
  refine lv_bipush (v := nI 14) hx hb dX6_net_1 (by decide) ?_
  refine jxw_callSv (X := jW cI g P n st sm gr co en la ++ jF cI g fp fb fc fk fq ft pa ps fi bl sp gp sw gw ++ jT cI cM g rt cs ct jo ++ jP cI g pk cl ++ jD cI cO g rd le wk fa ++ jC g rf) (X' := jW cI g P n st sm gr co en la ++ jF cI g fp fb fc fk fq ft pa ps fi bl sp gp sw gw ++ jT cI cM g rt cs ct jo ++ jP cI g pk cl ++ jD cI cO g rd le wk fa ++ jC g rf) (wc := []) (wc' := []) (wr := jW cI g P n st sm gr co en la ++ jF cI g fp fb fc fk fq ft pa ps fi bl sp gp sw gw ++ jT cI cM g rt cs ct jo ++ jP cI g pk cl ++ jD cI cO g rd le wk fa ++ jC g rf) (N := 25) (As := [.int (nI 6), .int (nI 14)]) (rest := []) ⟨hx, hb, hml, hown, hts⟩ (c_X6_demandWhat l D g H.size 6 14 (by omega) (by omega)) (va_cwS 2 hts gX6_net_X6_demandWhat rfl rfl rfl (by decide +kernel) ⟨Nat.le_of_ble_eq_true rfl, Nat.le_of_ble_eq_true rfl⟩) hN hP hD (hK.sub (tys' := []) [] rfl) hS hA [] [0, 1, 2, 3, 4, 5, 6, 7, 8, 9, 10, 11, 12, 13, 14, 15, 16, 17, 18, 19, 20, 21, 22, 23, 24] rfl rfl rfl rfl rfl rfl (by decide) (by decide) rfl hl.1 rfl (Nat.le_of_ble_eq_true rfl) dX6_net_3 ⟨Nat.zero_le _, Nat.zero_le _⟩ (fun H locs hP hS => ?_)
  have hD : va_D A (jW cI g P n st sm gr co en la ++ jF cI g fp fb fc fk fq ft pa ps fi bl sp gp sw gw ++ jT cI cM g rt cs ct jo ++ jP cI g pk cl ++ jD cI cO g rd le wk fa ++ jC g rf) := jxD hD0 rfl
  refine lv_iload_n hx hb dX6_net_6 rfl (lv_at hl 1 rfl) ?_
  refine lv_tableIn (off := 126) (tgt := 133) hx hb dX6_net_7 (by decide +kernel) (by decide +kernel) (by decide +kernel) (by decide) ?_
  refine lv_aload_n hx hb dX6_net_133 rfl (lv_at hl 0 rfl) ?_
  refine va_get (D := D) (ci := 6) (v := .ref (g 10)) (C := RX6) (T := TX6) (N := 7) hx hb hts in_X6_net_6 hown hK hP 24 rfl rfl 1 (by decide) (hts (.fieldLink RX6 21 "Twincuts" "falls" "LTwincuts$Falls;") (List.mem_of_getElem? (i := 2) (by decide +kernel))) (fun _ h9 => h9) rfl dX6_net_134 ?_
  refine va_getN (D := D) (ci := 1) (v := .int (nI fk)) (C := RX1) (T := TX1) (N := 15) hx hb hts in_X6_net_1 hown hK hP 6 rfl rfl 4 (by decide) (hN.use 29 rfl) (fun _ h9 => h9) rfl dX6_net_137 ?_
  exact hQ (nI fk) H locs _ _ dX6_net_140 rfl hP hS
set_option maxHeartbeats 4000000 in
set_option maxRecDepth 100000 in
/-- net(what), asked 7 -/
theorem c_X6_net_7 (l : Launch) (D : va_G) (cI : ClassId) (cO : ClassId) (cM : ClassId) (g : Nat → Nat) (P n st : Nat) (sm gr co en la : Nat → Nat) (fp fb fc fk fq ft : Nat) (pa ps fi : Nat → Nat) (bl : Nat → Int32) (sp gp sw gw : Nat → Nat) (rt : Nat → Nat) (cs : Nat) (ct : Int32) (jo : Nat → Nat) (pk : Nat) (cl : Nat → Nat) (rd le : Nat → Nat) (wk : Nat) (fa : Nat → Int32) (rf : Int32) (sz : Nat) (hw : jmWF P n st sm gr co en la) (hfp : fp ≤ 16) (hwk : wk ≤ 32) (hfb : fb < 65536) (hfc : fc < 65536) : jxWi l yX6_net wsX6_net ({ frames := 5, cells := 0, slots := 0, locals := 114 } : Room) D [(cI, .int), (cO, .array .int), (cM, .array .long)] (jW cI g P n st sm gr co en la ++ jF cI g fp fb fc fk fq ft pa ps fi bl sp gp sw gw ++ jT cI cM g rt cs ct jo ++ jP cI g pk cl ++ jD cI cO g rd le wk fa ++ jC g rf) [.ref (g 60), .int (nI 7)] sz (fun r => r = jmNet en la P n st fp fb fc fk fq ft ct pk wk rf 7) (jW cI g P n st sm gr co en la ++ jF cI g fp fb fc fk fq ft pa ps fi bl sp gp sw gw ++ jT cI cM g rt cs ct jo ++ jP cI g pk cl ++ jD cI cO g rd le wk fa ++ jC g rf) := by
  refine jxw_enter (by decide) rfl (Nat.le_of_ble_eq_true rfl) ?_
  intro p e s m args below meth c Q A ls hx hb hml hts hown hN hP hK hD hA hl hQ
  have hD0 := hD
  obtain ⟨H, hH⟩ : ∃ h, h = s.heap := ⟨_, rfl⟩
  have hS : va_S A s.heap H [] := by rw [hH]; exact va_S.rf
  rw [← hH] at hP ⊢
  obtain ⟨locs, hlocs⟩ : ∃ z : List Loc, z = [] := ⟨_, rfl⟩
  rw [← hlocs] at hS ⊢
  have hown : s.vm.findClass RX6 = some m.cls := hown
  have hl : lv_has ls 2 [(0, .ref (g 60)), (1, .int (nI 7))] := hl
  have hP8 : P ≤ 8 := hw.1
  have hn16 : n ≤ 16 := hw.2.1
  have hst : st < 65536 := jmWF_st hw
  have hen : ∀ j, j < n → en j < 256 := jmWF_en hw
  have hla : ∀ q, q < P → la q < 65536 := jmWF_la hw
  have hgr : ∀ j, j < n → sm j < 8 ∧ gr j < 8 := jmWF_gr hw
  have hco : ∀ j, j < n → co j < 21 := jmWF_co hw
  have hiso := jmIso_le la st P
  refine lv_iload_n hx hb dX6_net_0 rfl (lv_at hl 1 rfl) ?_
  refine lv_bipush (v := nI 14) hx hb dX6_net_1 (by decide) ?_
  refine jxw_callSv (X := jW cI g P n st sm gr co en la ++ jF cI g fp fb fc fk fq ft pa ps fi bl sp gp sw gw ++ jT cI cM g rt cs ct jo ++ jP cI g pk cl ++ jD cI cO g rd le wk fa ++ jC g rf) (X' := jW cI g P n st sm gr co en la ++ jF cI g fp fb fc fk fq ft pa ps fi bl sp gp sw gw ++ jT cI cM g rt cs ct jo ++ jP cI g pk cl ++ jD cI cO g rd le wk fa ++ jC g rf) (wc := []) (wc' := []) (wr := jW cI g P n st sm gr co en la ++ jF cI g fp fb fc fk fq ft pa ps fi bl sp gp sw gw ++ jT cI cM g rt cs ct jo ++ jP cI g pk cl ++ jD cI cO g rd le wk fa ++ jC g rf) (N := 25) (As := [.int (nI 7), .int (nI 14)]) (rest := []) ⟨hx, hb, hml, hown, hts⟩ (c_X6_demandWhat l D g H.size 7 14 (by omega) (by omega)) (va_cwS 2 hts gX6_net_X6_demandWhat rfl rfl rfl (by decide +kernel) ⟨Nat.le_of_ble_eq_true rfl, Nat.le_of_ble_eq_true rfl⟩) hN hP hD (hK.sub (tys' := []) [] rfl) hS hA [] [0, 1, 2, 3, 4, 5, 6, 7, 8, 9, 10, 11, 12, 13, 14, 15, 16, 17, 18, 19, 20, 21, 22, 23, 24] rfl rfl rfl rfl rfl rfl (by decide) (by decide) rfl hl.1 rfl (Nat.le_of_ble_eq_true rfl) dX6_net_3 ⟨Nat.zero_le _, Nat.zero_le _⟩ (fun H locs hP hS => ?_)
  have hD : va_D A (jW cI g P n st sm gr co en la ++ jF cI g fp fb fc fk fq ft pa ps fi bl sp gp sw gw ++ jT cI cM g rt cs ct jo ++ jP cI g pk cl ++ jD cI cO g rd le wk fa ++ jC g rf) := jxD hD0 rfl
  refine lv_iload_n hx hb dX6_net_6 rfl (lv_at hl 1 rfl) ?_
  refine lv_tableIn (off := 134) (tgt := 141) hx hb dX6_net_7 (by decide +kernel) (by decide +kernel) (by decide +kernel) (by decide) ?_
  refine lv_aload_n hx hb dX6_net_141 rfl (lv_at hl 0 rfl) ?_
  refine va_get (D := D) (ci := 6) (v := .ref (g 10)) (C := RX6) (T := TX6) (N := 7) hx hb hts in_X6_net_6 hown hK hP 24 rfl rfl 1 (by decide) (hts (.fieldLink RX6 21 "Twincuts" "falls" "LTwincuts$Falls;") (List.mem_of_getElem? (i := 2) (by decide +kernel))) (fun _ h9 => h9) rfl dX6_net_142 ?_
  refine va_getN (D := D) (ci := 1) (v := .int (nI fq)) (C := RX1) (T := TX1) (N := 15) hx hb hts in_X6_net_1 hown hK hP 6 rfl rfl 5 (by decide) (hN.use 30 rfl) (fun _ h9 => h9) rfl dX6_net_145 ?_
  exact hQ (nI fq) H locs _ _ dX6_net_148 rfl hP hS
set_option maxHeartbeats 4000000 in
set_option maxRecDepth 100000 in
/-- net(what), asked 8 -/
theorem c_X6_net_8 (l : Launch) (D : va_G) (cI : ClassId) (cO : ClassId) (cM : ClassId) (g : Nat → Nat) (P n st : Nat) (sm gr co en la : Nat → Nat) (fp fb fc fk fq ft : Nat) (pa ps fi : Nat → Nat) (bl : Nat → Int32) (sp gp sw gw : Nat → Nat) (rt : Nat → Nat) (cs : Nat) (ct : Int32) (jo : Nat → Nat) (pk : Nat) (cl : Nat → Nat) (rd le : Nat → Nat) (wk : Nat) (fa : Nat → Int32) (rf : Int32) (sz : Nat) (hw : jmWF P n st sm gr co en la) (hfp : fp ≤ 16) (hwk : wk ≤ 32) (hfb : fb < 65536) (hfc : fc < 65536) : jxWi l yX6_net wsX6_net ({ frames := 5, cells := 0, slots := 0, locals := 114 } : Room) D [(cI, .int), (cO, .array .int), (cM, .array .long)] (jW cI g P n st sm gr co en la ++ jF cI g fp fb fc fk fq ft pa ps fi bl sp gp sw gw ++ jT cI cM g rt cs ct jo ++ jP cI g pk cl ++ jD cI cO g rd le wk fa ++ jC g rf) [.ref (g 60), .int (nI 8)] sz (fun r => r = jmNet en la P n st fp fb fc fk fq ft ct pk wk rf 8) (jW cI g P n st sm gr co en la ++ jF cI g fp fb fc fk fq ft pa ps fi bl sp gp sw gw ++ jT cI cM g rt cs ct jo ++ jP cI g pk cl ++ jD cI cO g rd le wk fa ++ jC g rf) := by
  refine jxw_enter (by decide) rfl (Nat.le_of_ble_eq_true rfl) ?_
  intro p e s m args below meth c Q A ls hx hb hml hts hown hN hP hK hD hA hl hQ
  have hD0 := hD
  obtain ⟨H, hH⟩ : ∃ h, h = s.heap := ⟨_, rfl⟩
  have hS : va_S A s.heap H [] := by rw [hH]; exact va_S.rf
  rw [← hH] at hP ⊢
  obtain ⟨locs, hlocs⟩ : ∃ z : List Loc, z = [] := ⟨_, rfl⟩
  rw [← hlocs] at hS ⊢
  have hown : s.vm.findClass RX6 = some m.cls := hown
  have hl : lv_has ls 2 [(0, .ref (g 60)), (1, .int (nI 8))] := hl
  have hP8 : P ≤ 8 := hw.1
  have hn16 : n ≤ 16 := hw.2.1
  have hst : st < 65536 := jmWF_st hw
  have hen : ∀ j, j < n → en j < 256 := jmWF_en hw
  have hla : ∀ q, q < P → la q < 65536 := jmWF_la hw
  have hgr : ∀ j, j < n → sm j < 8 ∧ gr j < 8 := jmWF_gr hw
  have hco : ∀ j, j < n → co j < 21 := jmWF_co hw
  have hiso := jmIso_le la st P
  refine lv_iload_n hx hb dX6_net_0 rfl (lv_at hl 1 rfl) ?_
  refine lv_bipush (v := nI 14) hx hb dX6_net_1 (by decide) ?_
  refine jxw_callSv (X := jW cI g P n st sm gr co en la ++ jF cI g fp fb fc fk fq ft pa ps fi bl sp gp sw gw ++ jT cI cM g rt cs ct jo ++ jP cI g pk cl ++ jD cI cO g rd le wk fa ++ jC g rf) (X' := jW cI g P n st sm gr co en la ++ jF cI g fp fb fc fk fq ft pa ps fi bl sp gp sw gw ++ jT cI cM g rt cs ct jo ++ jP cI g pk cl ++ jD cI cO g rd le wk fa ++ jC g rf) (wc := []) (wc' := []) (wr := jW cI g P n st sm gr co en la ++ jF cI g fp fb fc fk fq ft pa ps fi bl sp gp sw gw ++ jT cI cM g rt cs ct jo ++ jP cI g pk cl ++ jD cI cO g rd le wk fa ++ jC g rf) (N := 25) (As := [.int (nI 8), .int (nI 14)]) (rest := []) ⟨hx, hb, hml, hown, hts⟩ (c_X6_demandWhat l D g H.size 8 14 (by omega) (by omega)) (va_cwS 2 hts gX6_net_X6_demandWhat rfl rfl rfl (by decide +kernel) ⟨Nat.le_of_ble_eq_true rfl, Nat.le_of_ble_eq_true rfl⟩) hN hP hD (hK.sub (tys' := []) [] rfl) hS hA [] [0, 1, 2, 3, 4, 5, 6, 7, 8, 9, 10, 11, 12, 13, 14, 15, 16, 17, 18, 19, 20, 21, 22, 23, 24] rfl rfl rfl rfl rfl rfl (by decide) (by decide) rfl hl.1 rfl (Nat.le_of_ble_eq_true rfl) dX6_net_3 ⟨Nat.zero_le _, Nat.zero_le _⟩ (fun H locs hP hS => ?_)
  have hD : va_D A (jW cI g P n st sm gr co en la ++ jF cI g fp fb fc fk fq ft pa ps fi bl sp gp sw gw ++ jT cI cM g rt cs ct jo ++ jP cI g pk cl ++ jD cI cO g rd le wk fa ++ jC g rf) := jxD hD0 rfl
  refine lv_iload_n hx hb dX6_net_6 rfl (lv_at hl 1 rfl) ?_
  refine lv_tableIn (off := 142) (tgt := 149) hx hb dX6_net_7 (by decide +kernel) (by decide +kernel) (by decide +kernel) (by decide) ?_
  refine lv_aload_n hx hb dX6_net_149 rfl (lv_at hl 0 rfl) ?_
  refine va_get (D := D) (ci := 6) (v := .ref (g 10)) (C := RX6) (T := TX6) (N := 7) hx hb hts in_X6_net_6 hown hK hP 24 rfl rfl 1 (by decide) (hts (.fieldLink RX6 21 "Twincuts" "falls" "LTwincuts$Falls;") (List.mem_of_getElem? (i := 2) (by decide +kernel))) (fun _ h9 => h9) rfl dX6_net_150 ?_
  refine va_getN (D := D) (ci := 1) (v := .int (nI ft)) (C := RX1) (T := TX1) (N := 15) hx hb hts in_X6_net_1 hown hK hP 6 rfl rfl 6 (by decide) (hN.use 31 rfl) (fun _ h9 => h9) rfl dX6_net_153 ?_
  exact hQ (nI ft) H locs _ _ dX6_net_156 rfl hP hS
set_option maxHeartbeats 4000000 in
set_option maxRecDepth 100000 in
/-- net(what), asked 9 -/
theorem c_X6_net_9 (l : Launch) (D : va_G) (cI : ClassId) (cO : ClassId) (cM : ClassId) (g : Nat → Nat) (P n st : Nat) (sm gr co en la : Nat → Nat) (fp fb fc fk fq ft : Nat) (pa ps fi : Nat → Nat) (bl : Nat → Int32) (sp gp sw gw : Nat → Nat) (rt : Nat → Nat) (cs : Nat) (ct : Int32) (jo : Nat → Nat) (pk : Nat) (cl : Nat → Nat) (rd le : Nat → Nat) (wk : Nat) (fa : Nat → Int32) (rf : Int32) (sz : Nat) (hw : jmWF P n st sm gr co en la) (hfp : fp ≤ 16) (hwk : wk ≤ 32) (hfb : fb < 65536) (hfc : fc < 65536) : jxWi l yX6_net wsX6_net ({ frames := 5, cells := 0, slots := 0, locals := 114 } : Room) D [(cI, .int), (cO, .array .int), (cM, .array .long)] (jW cI g P n st sm gr co en la ++ jF cI g fp fb fc fk fq ft pa ps fi bl sp gp sw gw ++ jT cI cM g rt cs ct jo ++ jP cI g pk cl ++ jD cI cO g rd le wk fa ++ jC g rf) [.ref (g 60), .int (nI 9)] sz (fun r => r = jmNet en la P n st fp fb fc fk fq ft ct pk wk rf 9) (jW cI g P n st sm gr co en la ++ jF cI g fp fb fc fk fq ft pa ps fi bl sp gp sw gw ++ jT cI cM g rt cs ct jo ++ jP cI g pk cl ++ jD cI cO g rd le wk fa ++ jC g rf) := by
  refine jxw_enter (by decide) rfl (Nat.le_of_ble_eq_true rfl) ?_
  intro p e s m args below meth c Q A ls hx hb hml hts hown hN hP hK hD hA hl hQ
  have hD0 := hD
  obtain ⟨H, hH⟩ : ∃ h, h = s.heap := ⟨_, rfl⟩
  have hS : va_S A s.heap H [] := by rw [hH]; exact va_S.rf
  rw [← hH] at hP ⊢
  obtain ⟨locs, hlocs⟩ : ∃ z : List Loc, z = [] := ⟨_, rfl⟩
  rw [← hlocs] at hS ⊢
  have hown : s.vm.findClass RX6 = some m.cls := hown
  have hl : lv_has ls 2 [(0, .ref (g 60)), (1, .int (nI 9))] := hl
  have hP8 : P ≤ 8 := hw.1
  have hn16 : n ≤ 16 := hw.2.1
  have hst : st < 65536 := jmWF_st hw
  have hen : ∀ j, j < n → en j < 256 := jmWF_en hw
  have hla : ∀ q, q < P → la q < 65536 := jmWF_la hw
  have hgr : ∀ j, j < n → sm j < 8 ∧ gr j < 8 := jmWF_gr hw
  have hco : ∀ j, j < n → co j < 21 := jmWF_co hw
  have hiso := jmIso_le la st P
  refine lv_iload_n hx hb dX6_net_0 rfl (lv_at hl 1 rfl) ?_
  refine lv_bipush (v := nI 14) hx hb dX6_net_1 (by decide) ?_
  refine jxw_callSv (X := jW cI g P n st sm gr co en la ++ jF cI g fp fb fc fk fq ft pa ps fi bl sp gp sw gw ++ jT cI cM g rt cs ct jo ++ jP cI g pk cl ++ jD cI cO g rd le wk fa ++ jC g rf) (X' := jW cI g P n st sm gr co en la ++ jF cI g fp fb fc fk fq ft pa ps fi bl sp gp sw gw ++ jT cI cM g rt cs ct jo ++ jP cI g pk cl ++ jD cI cO g rd le wk fa ++ jC g rf) (wc := []) (wc' := []) (wr := jW cI g P n st sm gr co en la ++ jF cI g fp fb fc fk fq ft pa ps fi bl sp gp sw gw ++ jT cI cM g rt cs ct jo ++ jP cI g pk cl ++ jD cI cO g rd le wk fa ++ jC g rf) (N := 25) (As := [.int (nI 9), .int (nI 14)]) (rest := []) ⟨hx, hb, hml, hown, hts⟩ (c_X6_demandWhat l D g H.size 9 14 (by omega) (by omega)) (va_cwS 2 hts gX6_net_X6_demandWhat rfl rfl rfl (by decide +kernel) ⟨Nat.le_of_ble_eq_true rfl, Nat.le_of_ble_eq_true rfl⟩) hN hP hD (hK.sub (tys' := []) [] rfl) hS hA [] [0, 1, 2, 3, 4, 5, 6, 7, 8, 9, 10, 11, 12, 13, 14, 15, 16, 17, 18, 19, 20, 21, 22, 23, 24] rfl rfl rfl rfl rfl rfl (by decide) (by decide) rfl hl.1 rfl (Nat.le_of_ble_eq_true rfl) dX6_net_3 ⟨Nat.zero_le _, Nat.zero_le _⟩ (fun H locs hP hS => ?_)
  have hD : va_D A (jW cI g P n st sm gr co en la ++ jF cI g fp fb fc fk fq ft pa ps fi bl sp gp sw gw ++ jT cI cM g rt cs ct jo ++ jP cI g pk cl ++ jD cI cO g rd le wk fa ++ jC g rf) := jxD hD0 rfl
  refine lv_iload_n hx hb dX6_net_6 rfl (lv_at hl 1 rfl) ?_
  refine lv_tableIn (off := 150) (tgt := 157) hx hb dX6_net_7 (by decide +kernel) (by decide +kernel) (by decide +kernel) (by decide) ?_
  refine lv_aload_n hx hb dX6_net_157 rfl (lv_at hl 0 rfl) ?_
  refine va_get (D := D) (ci := 6) (v := .ref (g 30)) (C := RX6) (T := TX6) (N := 7) hx hb hts in_X6_net_6 hown hK hP 24 rfl rfl 3 (by decide) (hts (.fieldLink RX6 35 "Twincuts" "forest" "LTwincuts$Forest;") (List.mem_of_getElem? (i := 3) (by decide +kernel))) (fun _ h9 => h9) rfl dX6_net_158 ?_
  refine va_getN (D := D) (ci := 2) (v := .int ct) (C := RX2) (T := TX2) (N := 5) hx hb hts in_X6_net_2 hown hK hP 15 rfl rfl 3 (by decide) (hN.use 35 rfl) (fun _ h9 => h9) rfl dX6_net_161 ?_
  exact hQ ct H locs _ _ dX6_net_164 rfl hP hS
set_option maxHeartbeats 4000000 in
set_option maxRecDepth 100000 in
/-- net(what), asked 10 -/
theorem c_X6_net_10 (l : Launch) (D : va_G) (cI : ClassId) (cO : ClassId) (cM : ClassId) (g : Nat → Nat) (P n st : Nat) (sm gr co en la : Nat → Nat) (fp fb fc fk fq ft : Nat) (pa ps fi : Nat → Nat) (bl : Nat → Int32) (sp gp sw gw : Nat → Nat) (rt : Nat → Nat) (cs : Nat) (ct : Int32) (jo : Nat → Nat) (pk : Nat) (cl : Nat → Nat) (rd le : Nat → Nat) (wk : Nat) (fa : Nat → Int32) (rf : Int32) (sz : Nat) (hw : jmWF P n st sm gr co en la) (hfp : fp ≤ 16) (hwk : wk ≤ 32) (hfb : fb < 65536) (hfc : fc < 65536) : jxWi l yX6_net wsX6_net ({ frames := 5, cells := 0, slots := 0, locals := 114 } : Room) D [(cI, .int), (cO, .array .int), (cM, .array .long)] (jW cI g P n st sm gr co en la ++ jF cI g fp fb fc fk fq ft pa ps fi bl sp gp sw gw ++ jT cI cM g rt cs ct jo ++ jP cI g pk cl ++ jD cI cO g rd le wk fa ++ jC g rf) [.ref (g 60), .int (nI 10)] sz (fun r => r = jmNet en la P n st fp fb fc fk fq ft ct pk wk rf 10) (jW cI g P n st sm gr co en la ++ jF cI g fp fb fc fk fq ft pa ps fi bl sp gp sw gw ++ jT cI cM g rt cs ct jo ++ jP cI g pk cl ++ jD cI cO g rd le wk fa ++ jC g rf) := by
  refine jxw_enter (by decide) rfl (Nat.le_of_ble_eq_true rfl) ?_
  intro p e s m args below meth c Q A ls hx hb hml hts hown hN hP hK hD hA hl hQ
  have hD0 := hD
  obtain ⟨H, hH⟩ : ∃ h, h = s.heap := ⟨_, rfl⟩
  have hS : va_S A s.heap H [] := by rw [hH]; exact va_S.rf
  rw [← hH] at hP ⊢
  obtain ⟨locs, hlocs⟩ : ∃ z : List Loc, z = [] := ⟨_, rfl⟩
  rw [← hlocs] at hS ⊢
  have hown : s.vm.findClass RX6 = some m.cls := hown
  have hl : lv_has ls 2 [(0, .ref (g 60)), (1, .int (nI 10))] := hl
  have hP8 : P ≤ 8 := hw.1
  have hn16 : n ≤ 16 := hw.2.1
  have hst : st < 65536 := jmWF_st hw
  have hen : ∀ j, j < n → en j < 256 := jmWF_en hw
  have hla : ∀ q, q < P → la q < 65536 := jmWF_la hw
  have hgr : ∀ j, j < n → sm j < 8 ∧ gr j < 8 := jmWF_gr hw
  have hco : ∀ j, j < n → co j < 21 := jmWF_co hw
  have hiso := jmIso_le la st P
  refine lv_iload_n hx hb dX6_net_0 rfl (lv_at hl 1 rfl) ?_
  refine lv_bipush (v := nI 14) hx hb dX6_net_1 (by decide) ?_
  refine jxw_callSv (X := jW cI g P n st sm gr co en la ++ jF cI g fp fb fc fk fq ft pa ps fi bl sp gp sw gw ++ jT cI cM g rt cs ct jo ++ jP cI g pk cl ++ jD cI cO g rd le wk fa ++ jC g rf) (X' := jW cI g P n st sm gr co en la ++ jF cI g fp fb fc fk fq ft pa ps fi bl sp gp sw gw ++ jT cI cM g rt cs ct jo ++ jP cI g pk cl ++ jD cI cO g rd le wk fa ++ jC g rf) (wc := []) (wc' := []) (wr := jW cI g P n st sm gr co en la ++ jF cI g fp fb fc fk fq ft pa ps fi bl sp gp sw gw ++ jT cI cM g rt cs ct jo ++ jP cI g pk cl ++ jD cI cO g rd le wk fa ++ jC g rf) (N := 25) (As := [.int (nI 10), .int (nI 14)]) (rest := []) ⟨hx, hb, hml, hown, hts⟩ (c_X6_demandWhat l D g H.size 10 14 (by omega) (by omega)) (va_cwS 2 hts gX6_net_X6_demandWhat rfl rfl rfl (by decide +kernel) ⟨Nat.le_of_ble_eq_true rfl, Nat.le_of_ble_eq_true rfl⟩) hN hP hD (hK.sub (tys' := []) [] rfl) hS hA [] [0, 1, 2, 3, 4, 5, 6, 7, 8, 9, 10, 11, 12, 13, 14, 15, 16, 17, 18, 19, 20, 21, 22, 23, 24] rfl rfl rfl rfl rfl rfl (by decide) (by decide) rfl hl.1 rfl (Nat.le_of_ble_eq_true rfl) dX6_net_3 ⟨Nat.zero_le _, Nat.zero_le _⟩ (fun H locs hP hS => ?_)
  have hD : va_D A (jW cI g P n st sm gr co en la ++ jF cI g fp fb fc fk fq ft pa ps fi bl sp gp sw gw ++ jT cI cM g rt cs ct jo ++ jP cI g pk cl ++ jD cI cO g rd le wk fa ++ jC g rf) := jxD hD0 rfl
  refine lv_iload_n hx hb dX6_net_6 rfl (lv_at hl 1 rfl) ?_
  refine lv_tableIn (off := 158) (tgt := 165) hx hb dX6_net_7 (by decide +kernel) (by decide +kernel) (by decide +kernel) (by decide) ?_
  refine lv_aload_n hx hb dX6_net_165 rfl (lv_at hl 0 rfl) ?_
  refine va_get (D := D) (ci := 6) (v := .ref (g 40)) (C := RX6) (T := TX6) (N := 7) hx hb hts in_X6_net_6 hown hK hP 24 rfl rfl 4 (by decide) (hts (.fieldLink RX6 42 "Twincuts" "palette" "LTwincuts$Palette;") (List.mem_of_getElem? (i := 4) (by decide +kernel))) (fun _ h9 => h9) rfl dX6_net_166 ?_
  refine va_getN (D := D) (ci := 3) (v := .int (nI pk)) (C := RX3) (T := TX3) (N := 3) hx hb hts in_X6_net_3 hown hK hP 18 rfl rfl 1 (by decide) (hN.use 36 rfl) (fun _ h9 => h9) rfl dX6_net_169 ?_
  exact hQ (nI pk) H locs _ _ dX6_net_172 rfl hP hS
set_option maxHeartbeats 4000000 in
set_option maxRecDepth 100000 in
/-- net(what), asked 11 -/
theorem c_X6_net_11 (l : Launch) (D : va_G) (cI : ClassId) (cO : ClassId) (cM : ClassId) (g : Nat → Nat) (P n st : Nat) (sm gr co en la : Nat → Nat) (fp fb fc fk fq ft : Nat) (pa ps fi : Nat → Nat) (bl : Nat → Int32) (sp gp sw gw : Nat → Nat) (rt : Nat → Nat) (cs : Nat) (ct : Int32) (jo : Nat → Nat) (pk : Nat) (cl : Nat → Nat) (rd le : Nat → Nat) (wk : Nat) (fa : Nat → Int32) (rf : Int32) (sz : Nat) (hw : jmWF P n st sm gr co en la) (hfp : fp ≤ 16) (hwk : wk ≤ 32) (hfb : fb < 65536) (hfc : fc < 65536) : jxWi l yX6_net wsX6_net ({ frames := 5, cells := 0, slots := 0, locals := 114 } : Room) D [(cI, .int), (cO, .array .int), (cM, .array .long)] (jW cI g P n st sm gr co en la ++ jF cI g fp fb fc fk fq ft pa ps fi bl sp gp sw gw ++ jT cI cM g rt cs ct jo ++ jP cI g pk cl ++ jD cI cO g rd le wk fa ++ jC g rf) [.ref (g 60), .int (nI 11)] sz (fun r => r = jmNet en la P n st fp fb fc fk fq ft ct pk wk rf 11) (jW cI g P n st sm gr co en la ++ jF cI g fp fb fc fk fq ft pa ps fi bl sp gp sw gw ++ jT cI cM g rt cs ct jo ++ jP cI g pk cl ++ jD cI cO g rd le wk fa ++ jC g rf) := by
  refine jxw_enter (by decide) rfl (Nat.le_of_ble_eq_true rfl) ?_
  intro p e s m args below meth c Q A ls hx hb hml hts hown hN hP hK hD hA hl hQ
  have hD0 := hD
  obtain ⟨H, hH⟩ : ∃ h, h = s.heap := ⟨_, rfl⟩
  have hS : va_S A s.heap H [] := by rw [hH]; exact va_S.rf
  rw [← hH] at hP ⊢
  obtain ⟨locs, hlocs⟩ : ∃ z : List Loc, z = [] := ⟨_, rfl⟩
  rw [← hlocs] at hS ⊢
  have hown : s.vm.findClass RX6 = some m.cls := hown
  have hl : lv_has ls 2 [(0, .ref (g 60)), (1, .int (nI 11))] := hl
  have hP8 : P ≤ 8 := hw.1
  have hn16 : n ≤ 16 := hw.2.1
  have hst : st < 65536 := jmWF_st hw
  have hen : ∀ j, j < n → en j < 256 := jmWF_en hw
  have hla : ∀ q, q < P → la q < 65536 := jmWF_la hw
  have hgr : ∀ j, j < n → sm j < 8 ∧ gr j < 8 := jmWF_gr hw
  have hco : ∀ j, j < n → co j < 21 := jmWF_co hw
  have hiso := jmIso_le la st P
  refine lv_iload_n hx hb dX6_net_0 rfl (lv_at hl 1 rfl) ?_
  refine lv_bipush (v := nI 14) hx hb dX6_net_1 (by decide) ?_
  refine jxw_callSv (X := jW cI g P n st sm gr co en la ++ jF cI g fp fb fc fk fq ft pa ps fi bl sp gp sw gw ++ jT cI cM g rt cs ct jo ++ jP cI g pk cl ++ jD cI cO g rd le wk fa ++ jC g rf) (X' := jW cI g P n st sm gr co en la ++ jF cI g fp fb fc fk fq ft pa ps fi bl sp gp sw gw ++ jT cI cM g rt cs ct jo ++ jP cI g pk cl ++ jD cI cO g rd le wk fa ++ jC g rf) (wc := []) (wc' := []) (wr := jW cI g P n st sm gr co en la ++ jF cI g fp fb fc fk fq ft pa ps fi bl sp gp sw gw ++ jT cI cM g rt cs ct jo ++ jP cI g pk cl ++ jD cI cO g rd le wk fa ++ jC g rf) (N := 25) (As := [.int (nI 11), .int (nI 14)]) (rest := []) ⟨hx, hb, hml, hown, hts⟩ (c_X6_demandWhat l D g H.size 11 14 (by omega) (by omega)) (va_cwS 2 hts gX6_net_X6_demandWhat rfl rfl rfl (by decide +kernel) ⟨Nat.le_of_ble_eq_true rfl, Nat.le_of_ble_eq_true rfl⟩) hN hP hD (hK.sub (tys' := []) [] rfl) hS hA [] [0, 1, 2, 3, 4, 5, 6, 7, 8, 9, 10, 11, 12, 13, 14, 15, 16, 17, 18, 19, 20, 21, 22, 23, 24] rfl rfl rfl rfl rfl rfl (by decide) (by decide) rfl hl.1 rfl (Nat.le_of_ble_eq_true rfl) dX6_net_3 ⟨Nat.zero_le _, Nat.zero_le _⟩ (fun H locs hP hS => ?_)
  have hD : va_D A (jW cI g P n st sm gr co en la ++ jF cI g fp fb fc fk fq ft pa ps fi bl sp gp sw gw ++ jT cI cM g rt cs ct jo ++ jP cI g pk cl ++ jD cI cO g rd le wk fa ++ jC g rf) := jxD hD0 rfl
  refine lv_iload_n hx hb dX6_net_6 rfl (lv_at hl 1 rfl) ?_
  refine lv_tableIn (off := 166) (tgt := 173) hx hb dX6_net_7 (by decide +kernel) (by decide +kernel) (by decide +kernel) (by decide) ?_
  refine lv_aload_n hx hb dX6_net_173 rfl (lv_at hl 0 rfl) ?_
  refine va_get (D := D) (ci := 6) (v := .ref (g 50)) (C := RX6) (T := TX6) (N := 7) hx hb hts in_X6_net_6 hown hK hP 24 rfl rfl 5 (by decide) (hts (.fieldLink RX6 49 "Twincuts" "drawing" "LTwincuts$Drawing;") (List.mem_of_getElem? (i := 5) (by decide +kernel))) (fun _ h9 => h9) rfl dX6_net_174 ?_
  refine jx_callV (As := []) (rest := []) ⟨hx, hb, hml, hown, hts⟩ (c_X0_allFaces l D cI cO g P n st sm gr co en la rd le wk fa hw (by omega)) (cwV 0 hts gX6_net_X0_allFaces rfl rfl rfl (by decide +kernel) ⟨Nat.le_of_ble_eq_true rfl, Nat.le_of_ble_eq_true rfl⟩) hN (hP.sub (ws' := jW cI g P n st sm gr co en la ++ jD cI cO g rd le wk fa) [0, 1, 2, 3, 4, 5, 20, 21, 22, 23] rfl) (hK.sub (tys' := [(cI, .int), (cO, .array .int)]) [0, 1] rfl) 6 0 rfl rfl rfl rfl hl.1 rfl (Nat.le_of_ble_eq_true rfl) dX6_net_177 ⟨Nat.zero_le _, Nat.zero_le _⟩ (fun r hr => ?_)
  subst hr
  exact hQ (nI (wk + jmIso la st P)) H locs _ _ dX6_net_180 rfl hP hS
set_option maxHeartbeats 4000000 in
set_option maxRecDepth 100000 in
/-- net(what), asked 12 -/
theorem c_X6_net_12 (l : Launch) (D : va_G) (cI : ClassId) (cO : ClassId) (cM : ClassId) (g : Nat → Nat) (P n st : Nat) (sm gr co en la : Nat → Nat) (fp fb fc fk fq ft : Nat) (pa ps fi : Nat → Nat) (bl : Nat → Int32) (sp gp sw gw : Nat → Nat) (rt : Nat → Nat) (cs : Nat) (ct : Int32) (jo : Nat → Nat) (pk : Nat) (cl : Nat → Nat) (rd le : Nat → Nat) (wk : Nat) (fa : Nat → Int32) (rf : Int32) (sz : Nat) (hw : jmWF P n st sm gr co en la) (hfp : fp ≤ 16) (hwk : wk ≤ 32) (hfb : fb < 65536) (hfc : fc < 65536) : jxWi l yX6_net wsX6_net ({ frames := 5, cells := 0, slots := 0, locals := 114 } : Room) D [(cI, .int), (cO, .array .int), (cM, .array .long)] (jW cI g P n st sm gr co en la ++ jF cI g fp fb fc fk fq ft pa ps fi bl sp gp sw gw ++ jT cI cM g rt cs ct jo ++ jP cI g pk cl ++ jD cI cO g rd le wk fa ++ jC g rf) [.ref (g 60), .int (nI 12)] sz (fun r => r = jmNet en la P n st fp fb fc fk fq ft ct pk wk rf 12) (jW cI g P n st sm gr co en la ++ jF cI g fp fb fc fk fq ft pa ps fi bl sp gp sw gw ++ jT cI cM g rt cs ct jo ++ jP cI g pk cl ++ jD cI cO g rd le wk fa ++ jC g rf) := by
  refine jxw_enter (by decide) rfl (Nat.le_of_ble_eq_true rfl) ?_
  intro p e s m args below meth c Q A ls hx hb hml hts hown hN hP hK hD hA hl hQ
  have hD0 := hD
  obtain ⟨H, hH⟩ : ∃ h, h = s.heap := ⟨_, rfl⟩
  have hS : va_S A s.heap H [] := by rw [hH]; exact va_S.rf
  rw [← hH] at hP ⊢
  obtain ⟨locs, hlocs⟩ : ∃ z : List Loc, z = [] := ⟨_, rfl⟩
  rw [← hlocs] at hS ⊢
  have hown : s.vm.findClass RX6 = some m.cls := hown
  have hl : lv_has ls 2 [(0, .ref (g 60)), (1, .int (nI 12))] := hl
  have hP8 : P ≤ 8 := hw.1
  have hn16 : n ≤ 16 := hw.2.1
  have hst : st < 65536 := jmWF_st hw
  have hen : ∀ j, j < n → en j < 256 := jmWF_en hw
  have hla : ∀ q, q < P → la q < 65536 := jmWF_la hw
  have hgr : ∀ j, j < n → sm j < 8 ∧ gr j < 8 := jmWF_gr hw
  have hco : ∀ j, j < n → co j < 21 := jmWF_co hw
  have hiso := jmIso_le la st P
  refine lv_iload_n hx hb dX6_net_0 rfl (lv_at hl 1 rfl) ?_
  refine lv_bipush (v := nI 14) hx hb dX6_net_1 (by decide) ?_
  refine jxw_callSv (X := jW cI g P n st sm gr co en la ++ jF cI g fp fb fc fk fq ft pa ps fi bl sp gp sw gw ++ jT cI cM g rt cs ct jo ++ jP cI g pk cl ++ jD cI cO g rd le wk fa ++ jC g rf) (X' := jW cI g P n st sm gr co en la ++ jF cI g fp fb fc fk fq ft pa ps fi bl sp gp sw gw ++ jT cI cM g rt cs ct jo ++ jP cI g pk cl ++ jD cI cO g rd le wk fa ++ jC g rf) (wc := []) (wc' := []) (wr := jW cI g P n st sm gr co en la ++ jF cI g fp fb fc fk fq ft pa ps fi bl sp gp sw gw ++ jT cI cM g rt cs ct jo ++ jP cI g pk cl ++ jD cI cO g rd le wk fa ++ jC g rf) (N := 25) (As := [.int (nI 12), .int (nI 14)]) (rest := []) ⟨hx, hb, hml, hown, hts⟩ (c_X6_demandWhat l D g H.size 12 14 (by omega) (by omega)) (va_cwS 2 hts gX6_net_X6_demandWhat rfl rfl rfl (by decide +kernel) ⟨Nat.le_of_ble_eq_true rfl, Nat.le_of_ble_eq_true rfl⟩) hN hP hD (hK.sub (tys' := []) [] rfl) hS hA [] [0, 1, 2, 3, 4, 5, 6, 7, 8, 9, 10, 11, 12, 13, 14, 15, 16, 17, 18, 19, 20, 21, 22, 23, 24] rfl rfl rfl rfl rfl rfl (by decide) (by decide) rfl hl.1 rfl (Nat.le_of_ble_eq_true rfl) dX6_net_3 ⟨Nat.zero_le _, Nat.zero_le _⟩ (fun H locs hP hS => ?_)
  have hD : va_D A (jW cI g P n st sm gr co en la ++ jF cI g fp fb fc fk fq ft pa ps fi bl sp gp sw gw ++ jT cI cM g rt cs ct jo ++ jP cI g pk cl ++ jD cI cO g rd le wk fa ++ jC g rf) := jxD hD0 rfl
  refine lv_iload_n hx hb dX6_net_6 rfl (lv_at hl 1 rfl) ?_
  refine lv_tableIn (off := 174) (tgt := 181) hx hb dX6_net_7 (by decide +kernel) (by decide +kernel) (by decide +kernel) (by decide) ?_
  refine lv_aload_n hx hb dX6_net_181 rfl (lv_at hl 0 rfl) ?_
  refine jx_callV (As := []) (rest := []) ⟨hx, hb, hml, hown, hts⟩ (c_X6_handles l D cI cO g P n st sm gr co en la fp fb fc fk fq ft pa ps fi bl sp gp sw gw rd le wk fa rf hw (by omega) (by omega)) (cwV 0 hts gX6_net_X6_handles rfl rfl rfl (by decide +kernel) ⟨Nat.le_of_ble_eq_true rfl, Nat.le_of_ble_eq_true rfl⟩) hN (hP.sub (ws' := jW cI g P n st sm gr co en la ++ jF cI g fp fb fc fk fq ft pa ps fi bl sp gp sw gw ++ jD cI cO g rd le wk fa ++ jC g rf) [0, 1, 2, 3, 4, 5, 6, 7, 8, 9, 10, 11, 12, 13, 14, 20, 21, 22, 23, 24] rfl) (hK.sub (tys' := [(cI, .int), (cO, .array .int)]) [0, 1] rfl) 19 6 rfl rfl rfl rfl hl.1 rfl (Nat.le_of_ble_eq_true rfl) dX6_net_182 ⟨Nat.zero_le _, Nat.zero_le _⟩ (fun r hr => ?_)
  subst hr
  exact hQ (jmHandles la P st fp wk) H locs _ _ dX6_net_185 rfl hP hS
set_option maxHeartbeats 4000000 in
set_option maxRecDepth 100000 in
/-- net(what), asked 13 -/
theorem c_X6_net_13 (l : Launch) (D : va_G) (cI : ClassId) (cO : ClassId) (cM : ClassId) (g : Nat → Nat) (P n st : Nat) (sm gr co en la : Nat → Nat) (fp fb fc fk fq ft : Nat) (pa ps fi : Nat → Nat) (bl : Nat → Int32) (sp gp sw gw : Nat → Nat) (rt : Nat → Nat) (cs : Nat) (ct : Int32) (jo : Nat → Nat) (pk : Nat) (cl : Nat → Nat) (rd le : Nat → Nat) (wk : Nat) (fa : Nat → Int32) (rf : Int32) (sz : Nat) (hw : jmWF P n st sm gr co en la) (hfp : fp ≤ 16) (hwk : wk ≤ 32) (hfb : fb < 65536) (hfc : fc < 65536) : jxWi l yX6_net wsX6_net ({ frames := 5, cells := 0, slots := 0, locals := 114 } : Room) D [(cI, .int), (cO, .array .int), (cM, .array .long)] (jW cI g P n st sm gr co en la ++ jF cI g fp fb fc fk fq ft pa ps fi bl sp gp sw gw ++ jT cI cM g rt cs ct jo ++ jP cI g pk cl ++ jD cI cO g rd le wk fa ++ jC g rf) [.ref (g 60), .int (nI 13)] sz (fun r => r = jmNet en la P n st fp fb fc fk fq ft ct pk wk rf 13) (jW cI g P n st sm gr co en la ++ jF cI g fp fb fc fk fq ft pa ps fi bl sp gp sw gw ++ jT cI cM g rt cs ct jo ++ jP cI g pk cl ++ jD cI cO g rd le wk fa ++ jC g rf) := by
  refine jxw_enter (by decide) rfl (Nat.le_of_ble_eq_true rfl) ?_
  intro p e s m args below meth c Q A ls hx hb hml hts hown hN hP hK hD hA hl hQ
  have hD0 := hD
  obtain ⟨H, hH⟩ : ∃ h, h = s.heap := ⟨_, rfl⟩
  have hS : va_S A s.heap H [] := by rw [hH]; exact va_S.rf
  rw [← hH] at hP ⊢
  obtain ⟨locs, hlocs⟩ : ∃ z : List Loc, z = [] := ⟨_, rfl⟩
  rw [← hlocs] at hS ⊢
  have hown : s.vm.findClass RX6 = some m.cls := hown
  have hl : lv_has ls 2 [(0, .ref (g 60)), (1, .int (nI 13))] := hl
  have hP8 : P ≤ 8 := hw.1
  have hn16 : n ≤ 16 := hw.2.1
  have hst : st < 65536 := jmWF_st hw
  have hen : ∀ j, j < n → en j < 256 := jmWF_en hw
  have hla : ∀ q, q < P → la q < 65536 := jmWF_la hw
  have hgr : ∀ j, j < n → sm j < 8 ∧ gr j < 8 := jmWF_gr hw
  have hco : ∀ j, j < n → co j < 21 := jmWF_co hw
  have hiso := jmIso_le la st P
  refine lv_iload_n hx hb dX6_net_0 rfl (lv_at hl 1 rfl) ?_
  refine lv_bipush (v := nI 14) hx hb dX6_net_1 (by decide) ?_
  refine jxw_callSv (X := jW cI g P n st sm gr co en la ++ jF cI g fp fb fc fk fq ft pa ps fi bl sp gp sw gw ++ jT cI cM g rt cs ct jo ++ jP cI g pk cl ++ jD cI cO g rd le wk fa ++ jC g rf) (X' := jW cI g P n st sm gr co en la ++ jF cI g fp fb fc fk fq ft pa ps fi bl sp gp sw gw ++ jT cI cM g rt cs ct jo ++ jP cI g pk cl ++ jD cI cO g rd le wk fa ++ jC g rf) (wc := []) (wc' := []) (wr := jW cI g P n st sm gr co en la ++ jF cI g fp fb fc fk fq ft pa ps fi bl sp gp sw gw ++ jT cI cM g rt cs ct jo ++ jP cI g pk cl ++ jD cI cO g rd le wk fa ++ jC g rf) (N := 25) (As := [.int (nI 13), .int (nI 14)]) (rest := []) ⟨hx, hb, hml, hown, hts⟩ (c_X6_demandWhat l D g H.size 13 14 (by omega) (by omega)) (va_cwS 2 hts gX6_net_X6_demandWhat rfl rfl rfl (by decide +kernel) ⟨Nat.le_of_ble_eq_true rfl, Nat.le_of_ble_eq_true rfl⟩) hN hP hD (hK.sub (tys' := []) [] rfl) hS hA [] [0, 1, 2, 3, 4, 5, 6, 7, 8, 9, 10, 11, 12, 13, 14, 15, 16, 17, 18, 19, 20, 21, 22, 23, 24] rfl rfl rfl rfl rfl rfl (by decide) (by decide) rfl hl.1 rfl (Nat.le_of_ble_eq_true rfl) dX6_net_3 ⟨Nat.zero_le _, Nat.zero_le _⟩ (fun H locs hP hS => ?_)
  have hD : va_D A (jW cI g P n st sm gr co en la ++ jF cI g fp fb fc fk fq ft pa ps fi bl sp gp sw gw ++ jT cI cM g rt cs ct jo ++ jP cI g pk cl ++ jD cI cO g rd le wk fa ++ jC g rf) := jxD hD0 rfl
  refine lv_iload_n hx hb dX6_net_6 rfl (lv_at hl 1 rfl) ?_
  refine lv_tableIn (off := 179) (tgt := 186) hx hb dX6_net_7 (by decide +kernel) (by decide +kernel) (by decide +kernel) (by decide) ?_
  refine lv_aload_n hx hb dX6_net_186 rfl (lv_at hl 0 rfl) ?_
  refine va_get (D := D) (ci := 6) (v := .ref (g 0)) (C := RX6) (T := TX6) (N := 7) hx hb hts in_X6_net_6 hown hK hP 24 rfl rfl 0 (by decide) (hts (.fieldLink RX6 10 "Twincuts" "web" "LTwincuts$Web;") (List.mem_of_getElem? (i := 1) (by decide +kernel))) (fun _ h9 => h9) rfl dX6_net_187 ?_
  refine jx_callV (As := []) (rest := []) ⟨hx, hb, hml, hown, hts⟩ (c_X5_greatestDistance l D cI g P n st sm gr co en la hw ) (cwV 0 hts gX6_net_X5_greatestDistance rfl rfl rfl (by decide +kernel) ⟨Nat.le_of_ble_eq_true rfl, Nat.le_of_ble_eq_true rfl⟩) hN (hP.sub (ws' := jW cI g P n st sm gr co en la) [0, 1, 2, 3, 4, 5] rfl) (hK.sub (tys' := [(cI, .int)]) [0] rfl) 0 5 rfl rfl rfl rfl hl.1 rfl (Nat.le_of_ble_eq_true rfl) dX6_net_190 ⟨Nat.zero_le _, Nat.zero_le _⟩ (fun r hr => ?_)
  subst hr
  exact hQ (jmGD en la P st n P) H locs _ _ dX6_net_193 rfl hP hS
set_option maxHeartbeats 4000000 in
set_option maxRecDepth 100000 in
/-- net(what), asked 14 -/
theorem c_X6_net_14 (l : Launch) (D : va_G) (cI : ClassId) (cO : ClassId) (cM : ClassId) (g : Nat → Nat) (P n st : Nat) (sm gr co en la : Nat → Nat) (fp fb fc fk fq ft : Nat) (pa ps fi : Nat → Nat) (bl : Nat → Int32) (sp gp sw gw : Nat → Nat) (rt : Nat → Nat) (cs : Nat) (ct : Int32) (jo : Nat → Nat) (pk : Nat) (cl : Nat → Nat) (rd le : Nat → Nat) (wk : Nat) (fa : Nat → Int32) (rf : Int32) (sz : Nat) (hw : jmWF P n st sm gr co en la) (hfp : fp ≤ 16) (hwk : wk ≤ 32) (hfb : fb < 65536) (hfc : fc < 65536) : jxWi l yX6_net wsX6_net ({ frames := 5, cells := 0, slots := 0, locals := 114 } : Room) D [(cI, .int), (cO, .array .int), (cM, .array .long)] (jW cI g P n st sm gr co en la ++ jF cI g fp fb fc fk fq ft pa ps fi bl sp gp sw gw ++ jT cI cM g rt cs ct jo ++ jP cI g pk cl ++ jD cI cO g rd le wk fa ++ jC g rf) [.ref (g 60), .int (nI 14)] sz (fun r => r = jmNet en la P n st fp fb fc fk fq ft ct pk wk rf 14) (jW cI g P n st sm gr co en la ++ jF cI g fp fb fc fk fq ft pa ps fi bl sp gp sw gw ++ jT cI cM g rt cs ct jo ++ jP cI g pk cl ++ jD cI cO g rd le wk fa ++ jC g rf) := by
  refine jxw_enter (by decide) rfl (Nat.le_of_ble_eq_true rfl) ?_
  intro p e s m args below meth c Q A ls hx hb hml hts hown hN hP hK hD hA hl hQ
  have hD0 := hD
  obtain ⟨H, hH⟩ : ∃ h, h = s.heap := ⟨_, rfl⟩
  have hS : va_S A s.heap H [] := by rw [hH]; exact va_S.rf
  rw [← hH] at hP ⊢
  obtain ⟨locs, hlocs⟩ : ∃ z : List Loc, z = [] := ⟨_, rfl⟩
  rw [← hlocs] at hS ⊢
  have hown : s.vm.findClass RX6 = some m.cls := hown
  have hl : lv_has ls 2 [(0, .ref (g 60)), (1, .int (nI 14))] := hl
  have hP8 : P ≤ 8 := hw.1
  have hn16 : n ≤ 16 := hw.2.1
  have hst : st < 65536 := jmWF_st hw
  have hen : ∀ j, j < n → en j < 256 := jmWF_en hw
  have hla : ∀ q, q < P → la q < 65536 := jmWF_la hw
  have hgr : ∀ j, j < n → sm j < 8 ∧ gr j < 8 := jmWF_gr hw
  have hco : ∀ j, j < n → co j < 21 := jmWF_co hw
  have hiso := jmIso_le la st P
  refine lv_iload_n hx hb dX6_net_0 rfl (lv_at hl 1 rfl) ?_
  refine lv_bipush (v := nI 14) hx hb dX6_net_1 (by decide) ?_
  refine jxw_callSv (X := jW cI g P n st sm gr co en la ++ jF cI g fp fb fc fk fq ft pa ps fi bl sp gp sw gw ++ jT cI cM g rt cs ct jo ++ jP cI g pk cl ++ jD cI cO g rd le wk fa ++ jC g rf) (X' := jW cI g P n st sm gr co en la ++ jF cI g fp fb fc fk fq ft pa ps fi bl sp gp sw gw ++ jT cI cM g rt cs ct jo ++ jP cI g pk cl ++ jD cI cO g rd le wk fa ++ jC g rf) (wc := []) (wc' := []) (wr := jW cI g P n st sm gr co en la ++ jF cI g fp fb fc fk fq ft pa ps fi bl sp gp sw gw ++ jT cI cM g rt cs ct jo ++ jP cI g pk cl ++ jD cI cO g rd le wk fa ++ jC g rf) (N := 25) (As := [.int (nI 14), .int (nI 14)]) (rest := []) ⟨hx, hb, hml, hown, hts⟩ (c_X6_demandWhat l D g H.size 14 14 (by omega) (by omega)) (va_cwS 2 hts gX6_net_X6_demandWhat rfl rfl rfl (by decide +kernel) ⟨Nat.le_of_ble_eq_true rfl, Nat.le_of_ble_eq_true rfl⟩) hN hP hD (hK.sub (tys' := []) [] rfl) hS hA [] [0, 1, 2, 3, 4, 5, 6, 7, 8, 9, 10, 11, 12, 13, 14, 15, 16, 17, 18, 19, 20, 21, 22, 23, 24] rfl rfl rfl rfl rfl rfl (by decide) (by decide) rfl hl.1 rfl (Nat.le_of_ble_eq_true rfl) dX6_net_3 ⟨Nat.zero_le _, Nat.zero_le _⟩ (fun H locs hP hS => ?_)
  have hD : va_D A (jW cI g P n st sm gr co en la ++ jF cI g fp fb fc fk fq ft pa ps fi bl sp gp sw gw ++ jT cI cM g rt cs ct jo ++ jP cI g pk cl ++ jD cI cO g rd le wk fa ++ jC g rf) := jxD hD0 rfl
  refine lv_iload_n hx hb dX6_net_6 rfl (lv_at hl 1 rfl) ?_
  refine lv_tableOut (tgt := 194) hx hb dX6_net_7 (by decide +kernel) (by decide) ?_
  refine lv_aload_n hx hb dX6_net_194 rfl (lv_at hl 0 rfl) ?_
  refine va_get (D := D) (ci := 6) (v := .int rf) (C := RX6) (T := TX6) (N := 7) hx hb hts in_X6_net_6 hown hK hP 24 rfl rfl 6 (by decide) (hts (.fieldLink RX6 53 "Twincuts" "refused" "I") (List.mem_of_getElem? (i := 6) (by decide +kernel))) (fun _ h9 => h9) rfl dX6_net_195 ?_
  exact hQ rf H locs _ _ dX6_net_198 rfl hP hS
/-- net(what), whatever is asked -/
theorem c_X6_net (l : Launch) (D : va_G) (cI : ClassId) (cO : ClassId) (cM : ClassId) (g : Nat → Nat) (P n st : Nat) (sm gr co en la : Nat → Nat) (fp fb fc fk fq ft : Nat) (pa ps fi : Nat → Nat) (bl : Nat → Int32) (sp gp sw gw : Nat → Nat) (rt : Nat → Nat) (cs : Nat) (ct : Int32) (jo : Nat → Nat) (pk : Nat) (cl : Nat → Nat) (rd le : Nat → Nat) (wk : Nat) (fa : Nat → Int32) (rf : Int32) (sz : Nat) (hw : jmWF P n st sm gr co en la) (hfp : fp ≤ 16) (hwk : wk ≤ 32) (hfb : fb < 65536) (hfc : fc < 65536) (w : Nat) (hw9 : w ≤ 14) : jxWi l yX6_net wsX6_net ({ frames := 5, cells := 0, slots := 0, locals := 114 } : Room) D [(cI, .int), (cO, .array .int), (cM, .array .long)] (jW cI g P n st sm gr co en la ++ jF cI g fp fb fc fk fq ft pa ps fi bl sp gp sw gw ++ jT cI cM g rt cs ct jo ++ jP cI g pk cl ++ jD cI cO g rd le wk fa ++ jC g rf) [.ref (g 60), .int (nI w)] sz (fun r => r = jmNet en la P n st fp fb fc fk fq ft ct pk wk rf w) (jW cI g P n st sm gr co en la ++ jF cI g fp fb fc fk fq ft pa ps fi bl sp gp sw gw ++ jT cI cM g rt cs ct jo ++ jP cI g pk cl ++ jD cI cO g rd le wk fa ++ jC g rf) := by
  have h9 : w = 0 ∨ w = 1 ∨ w = 2 ∨ w = 3 ∨ w = 4 ∨ w = 5 ∨ w = 6 ∨ w = 7 ∨ w = 8 ∨ w = 9 ∨ w = 10 ∨ w = 11 ∨ w = 12 ∨ w = 13 ∨ w = 14 := by omega
  rcases h9 with rfl | rfl | rfl | rfl | rfl | rfl | rfl | rfl | rfl | rfl | rfl | rfl | rfl | rfl | rfl
  · exact c_X6_net_0 l D cI cO cM g P n st sm gr co en la fp fb fc fk fq ft pa ps fi bl sp gp sw gw rt cs ct jo pk cl rd le wk fa rf sz hw hfp hwk hfb hfc
  · exact c_X6_net_1 l D cI cO cM g P n st sm gr co en la fp fb fc fk fq ft pa ps fi bl sp gp sw gw rt cs ct jo pk cl rd le wk fa rf sz hw hfp hwk hfb hfc
  · exact c_X6_net_2 l D cI cO cM g P n st sm gr co en la fp fb fc fk fq ft pa ps fi bl sp gp sw gw rt cs ct jo pk cl rd le wk fa rf sz hw hfp hwk hfb hfc
  · exact c_X6_net_3 l D cI cO cM g P n st sm gr co en la fp fb fc fk fq ft pa ps fi bl sp gp sw gw rt cs ct jo pk cl rd le wk fa rf sz hw hfp hwk hfb hfc
  · exact c_X6_net_4 l D cI cO cM g P n st sm gr co en la fp fb fc fk fq ft pa ps fi bl sp gp sw gw rt cs ct jo pk cl rd le wk fa rf sz hw hfp hwk hfb hfc
  · exact c_X6_net_5 l D cI cO cM g P n st sm gr co en la fp fb fc fk fq ft pa ps fi bl sp gp sw gw rt cs ct jo pk cl rd le wk fa rf sz hw hfp hwk hfb hfc
  · exact c_X6_net_6 l D cI cO cM g P n st sm gr co en la fp fb fc fk fq ft pa ps fi bl sp gp sw gw rt cs ct jo pk cl rd le wk fa rf sz hw hfp hwk hfb hfc
  · exact c_X6_net_7 l D cI cO cM g P n st sm gr co en la fp fb fc fk fq ft pa ps fi bl sp gp sw gw rt cs ct jo pk cl rd le wk fa rf sz hw hfp hwk hfb hfc
  · exact c_X6_net_8 l D cI cO cM g P n st sm gr co en la fp fb fc fk fq ft pa ps fi bl sp gp sw gw rt cs ct jo pk cl rd le wk fa rf sz hw hfp hwk hfb hfc
  · exact c_X6_net_9 l D cI cO cM g P n st sm gr co en la fp fb fc fk fq ft pa ps fi bl sp gp sw gw rt cs ct jo pk cl rd le wk fa rf sz hw hfp hwk hfb hfc
  · exact c_X6_net_10 l D cI cO cM g P n st sm gr co en la fp fb fc fk fq ft pa ps fi bl sp gp sw gw rt cs ct jo pk cl rd le wk fa rf sz hw hfp hwk hfb hfc
  · exact c_X6_net_11 l D cI cO cM g P n st sm gr co en la fp fb fc fk fq ft pa ps fi bl sp gp sw gw rt cs ct jo pk cl rd le wk fa rf sz hw hfp hwk hfb hfc
  · exact c_X6_net_12 l D cI cO cM g P n st sm gr co en la fp fb fc fk fq ft pa ps fi bl sp gp sw gw rt cs ct jo pk cl rd le wk fa rf sz hw hfp hwk hfb hfc
  · exact c_X6_net_13 l D cI cO cM g P n st sm gr co en la fp fb fc fk fq ft pa ps fi bl sp gp sw gw rt cs ct jo pk cl rd le wk fa rf sz hw hfp hwk hfb hfc
  · exact c_X6_net_14 l D cI cO cM g P n st sm gr co en la fp fb fc fk fq ft pa ps fi bl sp gp sw gw rt cs ct jo pk cl rd le wk fa rf sz hw hfp hwk hfb hfc
