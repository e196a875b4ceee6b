set_option maxRecDepth 20000 in
theorem in_X6_between_6 : ∀ w ∈ wsX60, w ∈ wsX6_between := by decide +kernel
set_option maxRecDepth 20000 in
theorem in_X6_between_5 : ∀ w ∈ wsX50, w ∈ wsX6_between := by decide +kernel
set_option maxRecDepth 20000 in
theorem in_X6_between_4 : ∀ w ∈ wsX40, w ∈ wsX6_between := by decide +kernel
set_option maxHeartbeats 4000000 in
set_option maxRecDepth 100000 in
/-- between(one, other, what), asked 0 -/
theorem c_X6_between_0 (l : Launch) (D : va_G) (cI : ClassId) (cO : ClassId) (g : Nat → Nat) (P n st : Nat) (sm gr co en la : Nat → Nat) (ro : Nat → Nat) (ca : Nat → Int32) (qu : Nat → Nat) (rm : Nat → Nat → Int32) (rf : Int32) (sz : Nat) (hw : jmWF P n st sm gr co en la) (a o : Nat) (ha : a < P) (ho : o < P) (hao : a ≠ o) (hqu : ∀ j, j < 16 → qu j < 16) : jxWi l yX6_between wsX6_between ({ frames := 4, cells := 0, slots := 0, locals := 91 } : Room) D [(cI, .int), (cO, .array .int)] (jW cI g P n st sm gr co en la ++ jY cI cO g ro ca qu ++ jRI cI 16 16 ro rm ++ jC g rf) [.ref (g 60), .int (nI a), .int (nI o), .int (nI 0)] sz (fun r => r = jmBt sm gr en la P n st a o 0) (jW cI g P n st sm gr co en la ++ jY cI cO g ro ((jmBs sm gr P n st a o 0 rm ca qu).2.1) ((jmBs sm gr P n st a o 0 rm ca qu).2.2) ++ jRI cI 16 16 ro ((jmBs sm gr P n st a o 0 rm ca qu).1) ++ jC g rf) := by
  refine jxw_enter (by decide) rfl (Nat.le_of_ble_eq_true rfl) ?_
  intro p e s m args below meth c Q A ls hx hb hml hts hown hN hP hK hD hA hl hQ
  have hD0 := hD
  obtain ⟨H, hH⟩ : ∃ h, h = s.heap := ⟨_, rfl⟩
  have hS : va_S A s.heap H [] := by rw [hH]; exact va_S.rf
  rw [← hH] at hP ⊢
  obtain ⟨locs, hlocs⟩ : ∃ z : List Loc, z = [] := ⟨_, rfl⟩
  rw [← hlocs] at hS ⊢
  have hown : s.vm.findClass RX6 = some m.cls := hown
  have hl : lv_has ls 4 [(0, .ref (g 60)), (1, .int (nI a)), (2, .int (nI o)), (3, .int (nI 0))] := hl
  have hP8 : P ≤ 8 := hw.1
  have hn16 : n ≤ 16 := hw.2.1
  have hst : st < 65536 := jmWF_st hw
  have hen : ∀ j, j < n → en j < 256 := jmWF_en hw
  have hla : ∀ q, q < P → la q < 65536 := jmWF_la hw
  have hgr : ∀ j, j < n → sm j < 8 ∧ gr j < 8 := jmWF_gr hw
  have hco : ∀ j, j < n → co j < 21 := jmWF_co hw
  have hP1 := Nat.one_le_two_pow (n := P)
  have hP2 := jx_pow256 hP8
  have hsd : jmSide la P st a o < 2 ^ P := jmSideF_lt ha (Nat.le_refl _)
  refine lv_aload_n hx hb dX6_between_0 rfl (lv_at hl 0 rfl) ?_
  refine lv_iload_n hx hb dX6_between_1 rfl (lv_at hl 1 rfl) ?_
  refine jxw_callV (X := jW cI g P n st sm gr co en la ++ jY cI cO g ro ca qu ++ jRI cI 16 16 ro rm ++ jC g rf) (X' := jW cI g P n st sm gr co en la ++ jY cI cO g ro ca qu ++ jRI cI 16 16 ro rm ++ jC g rf) (wc := jW cI g P n st sm gr co en la ++ jC g rf) (wc' := jW cI g P n st sm gr co en la ++ jC g rf) (wr := jY cI cO g ro ca qu ++ jRI cI 16 16 ro rm) (N := 27) (As := [.int (nI a)]) (rest := []) ⟨hx, hb, hml, hown, hts⟩ (c_X6_demandPoint l D cI g P n st sm gr co en la rf H.size hw a (by omega)) (cwV 1 hts gX6_between_X6_demandPoint rfl rfl rfl (by decide +kernel) ⟨Nat.le_of_ble_eq_true rfl, Nat.le_of_ble_eq_true rfl⟩) hN hP hD (hK.sub (tys' := [(cI, .int)]) [0] rfl) hS hA [0, 1, 2, 3, 4, 5, 26] [6, 7, 8, 9, 10, 11, 12, 13, 14, 15, 16, 17, 18, 19, 20, 21, 22, 23, 24, 25] rfl rfl rfl rfl rfl rfl (by decide) (by decide) 26 6 rfl rfl rfl (hK.sub (tys' := [(cI, .int)]) [0] rfl) rfl hl.1 rfl (Nat.le_of_ble_eq_true rfl) dX6_between_2 ⟨Nat.zero_le _, Nat.zero_le _⟩ (fun H locs hP hS => ?_)
  have hD : va_D A (jW cI g P n st sm gr co en la ++ jY cI cO g ro ca qu ++ jRI cI 16 16 ro rm ++ jC g rf) := jxD hD0 rfl
  refine lv_aload_n hx hb dX6_between_5 rfl (lv_at hl 0 rfl) ?_
  refine lv_iload_n hx hb dX6_between_6 rfl (lv_at hl 2 rfl) ?_
  refine jxw_callV (X := jW cI g P n st sm gr co en la ++ jY cI cO g ro ca qu ++ jRI cI 16 16 ro rm ++ jC g rf) (X' := jW cI g P n st sm gr co en la ++ jY cI cO g ro ca qu ++ jRI cI 16 16 ro rm ++ jC g rf) (wc := jW cI g P n st sm gr co en la ++ jC g rf) (wc' := jW cI g P n st sm gr co en la ++ jC g rf) (wr := jY cI cO g ro ca qu ++ jRI cI 16 16 ro rm) (N := 27) (As := [.int (nI o)]) (rest := []) ⟨hx, hb, hml, hown, hts⟩ (c_X6_demandPoint l D cI g P n st sm gr co en la rf H.size hw o (by omega)) (cwV 1 hts gX6_between_X6_demandPoint rfl rfl rfl (by decide +kernel) ⟨Nat.le_of_ble_eq_true rfl, Nat.le_of_ble_eq_true rfl⟩) hN hP hD (hK.sub (tys' := [(cI, .int)]) [0] rfl) hS hA [0, 1, 2, 3, 4, 5, 26] [6, 7, 8, 9, 10, 11, 12, 13, 14, 15, 16, 17, 18, 19, 20, 21, 22, 23, 24, 25] rfl rfl rfl rfl rfl rfl (by decide) (by decide) 26 6 rfl rfl rfl (hK.sub (tys' := [(cI, .int)]) [0] rfl) rfl hl.1 rfl (Nat.le_of_ble_eq_true rfl) dX6_between_7 ⟨Nat.zero_le _, Nat.zero_le _⟩ (fun H locs hP hS => ?_)
  have hD : va_D A (jW cI g P n st sm gr co en la ++ jY cI cO g ro ca qu ++ jRI cI 16 16 ro rm ++ jC g rf) := jxD hD0 rfl
  refine lv_iload_n hx hb dX6_between_10 rfl (lv_at hl 1 rfl) ?_
  refine lv_iload_n hx hb dX6_between_11 rfl (lv_at hl 2 rfl) ?_
  refine jxw_callSv (X := jW cI g P n st sm gr co en la ++ jY cI cO g ro ca qu ++ jRI cI 16 16 ro rm ++ jC g rf) (X' := jW cI g P n st sm gr co en la ++ jY cI cO g ro ca qu ++ jRI cI 16 16 ro rm ++ jC g rf) (wc := []) (wc' := []) (wr := jW cI g P n st sm gr co en la ++ jY cI cO g ro ca qu ++ jRI cI 16 16 ro rm ++ jC g rf) (N := 27) (As := [.int (nI a), .int (nI o)]) (rest := []) ⟨hx, hb, hml, hown, hts⟩ (c_X6_demandUnlike l D g H.size a o hao (by omega) (by omega)) (va_cwS 2 hts gX6_between_X6_demandUnlike rfl rfl rfl (by decide +kernel) ⟨Nat.le_of_ble_eq_true rfl, Nat.le_of_ble_eq_true rfl⟩) hN hP hD (hK.sub (tys' := []) [] rfl) hS hA [] [0, 1, 2, 3, 4, 5, 6, 7, 8, 9, 10, 11, 12, 13, 14, 15, 16, 17, 18, 19, 20, 21, 22, 23, 24, 25, 26] rfl rfl rfl rfl rfl rfl (by decide) (by decide) rfl hl.1 rfl (Nat.le_of_ble_eq_true rfl) dX6_between_12 ⟨Nat.zero_le _, Nat.zero_le _⟩ (fun H locs hP hS => ?_)
  have hD : va_D A (jW cI g P n st sm gr co en la ++ jY cI cO g ro ca qu ++ jRI cI 16 16 ro rm ++ jC g rf) := jxD hD0 rfl
  refine lv_iload_n hx hb dX6_between_15 rfl (lv_at hl 3 rfl) ?_
  refine lv_iconst (v := nI 5) hx hb dX6_between_16 (by decide) ?_
  refine jxw_callSv (X := jW cI g P n st sm gr co en la ++ jY cI cO g ro ca qu ++ jRI cI 16 16 ro rm ++ jC g rf) (X' := jW cI g P n st sm gr co en la ++ jY cI cO g ro ca qu ++ jRI cI 16 16 ro rm ++ jC g rf) (wc := []) (wc' := []) (wr := jW cI g P n st sm gr co en la ++ jY cI cO g ro ca qu ++ jRI cI 16 16 ro rm ++ jC g rf) (N := 27) (As := [.int (nI 0), .int (nI 5)]) (rest := []) ⟨hx, hb, hml, hown, hts⟩ (c_X6_demandWhat l D g H.size 0 5 (by omega) (by omega)) (va_cwS 2 hts gX6_between_X6_demandWhat rfl rfl rfl (by decide +kernel) ⟨Nat.le_of_ble_eq_true rfl, Nat.le_of_ble_eq_true rfl⟩) hN hP hD (hK.sub (tys' := []) [] rfl) hS hA [] [0, 1, 2, 3, 4, 5, 6, 7, 8, 9, 10, 11, 12, 13, 14, 15, 16, 17, 18, 19, 20, 21, 22, 23, 24, 25, 26] rfl rfl rfl rfl rfl rfl (by decide) (by decide) rfl hl.1 rfl (Nat.le_of_ble_eq_true rfl) dX6_between_17 ⟨Nat.zero_le _, Nat.zero_le _⟩ (fun H locs hP hS => ?_)
  have hD : va_D A (jW cI g P n st sm gr co en la ++ jY cI cO g ro ca qu ++ jRI cI 16 16 ro rm ++ jC g rf) := jxD hD0 rfl
  refine lv_iload_n hx hb dX6_between_20 rfl (lv_at hl 3 rfl) ?_
  refine lv_tableIn (off := 35) (tgt := 56) hx hb dX6_between_21 (by decide +kernel) (by decide +kernel) (by decide +kernel) (by decide) ?_
  refine lv_aload_n hx hb dX6_between_56 rfl (lv_at hl 0 rfl) ?_
  refine va_get (D := D) (ci := 6) (v := .ref (g 20)) (C := RX6) (T := TX6) (N := 7) hx hb hts in_X6_between_6 hown hK hP 26 rfl rfl 2 (by decide) (hts (.fieldLink RX6 28 "Twincuts" "ways" "LTwincuts$Ways;") (List.mem_of_getElem? (i := 1) (by decide +kernel))) (fun _ h9 => h9) rfl dX6_between_57 ?_
  refine lv_iload_n hx hb dX6_between_60 rfl (lv_at hl 1 rfl) ?_
  refine lv_iload_n hx hb dX6_between_61 rfl (lv_at hl 2 rfl) ?_
  refine jxw_callVi (X := jW cI g P n st sm gr co en la ++ jY cI cO g ro ca qu ++ jRI cI 16 16 ro rm ++ jC g rf) (X' := jW cI g P n st sm gr co en la ++ jY cI cO g ro ((jmCFS a o (jmC2 sm gr st (jmC1 a o P) n) ca qu).2.2.1) ((jmCFS a o (jmC2 sm gr st (jmC1 a o P) n) ca qu).2.2.2) ++ jRI cI 16 16 ro ((jmCFS a o (jmC2 sm gr st (jmC1 a o P) n) ca qu).2.1) ++ jC g rf) (wc := jW cI g P n st sm gr co en la ++ jY cI cO g ro ca qu ++ jRI cI 16 16 ro rm) (wc' := jW cI g P n st sm gr co en la ++ jY cI cO g ro ((jmCFS a o (jmC2 sm gr st (jmC1 a o P) n) ca qu).2.2.1) ((jmCFS a o (jmC2 sm gr st (jmC1 a o P) n) ca qu).2.2.2) ++ jRI cI 16 16 ro ((jmCFS a o (jmC2 sm gr st (jmC1 a o P) n) ca qu).2.1)) (wr := jC g rf) (N := 27) (As := [.int (nI a), .int (nI o)]) (rest := []) ⟨hx, hb, hml, hown, hts⟩ (c_X4_countWays l D cI cO g P n st sm gr co en la ro ca qu rm H.size hw a o (by omega) (by omega) hqu) (cwV 2 hts gX6_between_X4_countWays rfl rfl rfl (by decide +kernel) ⟨Nat.le_of_ble_eq_true rfl, Nat.le_of_ble_eq_true rfl⟩) hN hP hD (hK.sub (tys' := [(cI, .int), (cO, .array .int)]) [0, 1] rfl) hS hA [0, 1, 2, 3, 4, 5, 6, 7, 8, 9, 10, 11, 12, 13, 14, 15, 16, 17, 18, 19, 20, 21, 22, 23, 24, 25] [26] rfl rfl rfl rfl rfl rfl (by decide) (by decide) 6 4 rfl rfl rfl (hK.sub (tys' := [(cI, .int), (cO, .array .int)]) [0, 1] rfl) rfl hl.1 rfl (Nat.le_of_ble_eq_true rfl) dX6_between_62 ⟨Nat.zero_le _, Nat.zero_le _⟩ (fun r H locs hr hP hS => ?_)
  have hD : va_D A (jW cI g P n st sm gr co en la ++ jY cI cO g ro ((jmCFS a o (jmC2 sm gr st (jmC1 a o P) n) ca qu).2.2.1) ((jmCFS a o (jmC2 sm gr st (jmC1 a o P) n) ca qu).2.2.2) ++ jRI cI 16 16 ro ((jmCFS a o (jmC2 sm gr st (jmC1 a o P) n) ca qu).2.1) ++ jC g rf) := jxD hD0 rfl
  subst hr
  have ev_1 : (jmCFS a o (jmC2 sm gr st (jmC1 a o P) n) ca qu).2.2.1 = (jmBs sm gr P n st a o 0 rm ca qu).2.1 := by rfl
  have ev_2 : (jmCFS a o (jmC2 sm gr st (jmC1 a o P) n) ca qu).2.2.2 = (jmBs sm gr P n st a o 0 rm ca qu).2.2 := by rfl
  have ev_3 : (jmCFS a o (jmC2 sm gr st (jmC1 a o P) n) ca qu).2.1 = (jmBs sm gr P n st a o 0 rm ca qu).1 := by rfl
  exact hQ (nI ((jmCFS a o (jmC2 sm gr st (jmC1 a o P) n) ca qu).1)) H locs _ _ dX6_between_65 (congrArg nI (jmWy_c _ _ _ _ _ _ _ _ _)) (by rw [← ev_1, ← ev_2, ← ev_3]; exact hP) hS
set_option maxHeartbeats 4000000 in
set_option maxRecDepth 100000 in
/-- between(one, other, what), asked 1 -/
theorem c_X6_between_1 (l : Launch) (D : va_G) (cI : ClassId) (cO : ClassId) (g : Nat → Nat) (P n st : Nat) (sm gr co en la : Nat → Nat) (ro : Nat → Nat) (ca : Nat → Int32) (qu : Nat → Nat) (rm : Nat → Nat → Int32) (rf : Int32) (sz : Nat) (hw : jmWF P n st sm gr co en la) (a o : Nat) (ha : a < P) (ho : o < P) (hao : a ≠ o) (hqu : ∀ j, j < 16 → qu j < 16) : jxWi l yX6_between wsX6_between ({ frames := 4, cells := 0, slots := 0, locals := 91 } : Room) D [(cI, .int), (cO, .array .int)] (jW cI g P n st sm gr co en la ++ jY cI cO g ro ca qu ++ jRI cI 16 16 ro rm ++ jC g rf) [.ref (g 60), .int (nI a), .int (nI o), .int (nI 1)] sz (fun r => r = jmBt sm gr en la P n st a o 1) (jW cI g P n st sm gr co en la ++ jY cI cO g ro ((jmBs sm gr P n st a o 1 rm ca qu).2.1) ((jmBs sm gr P n st a o 1 rm ca qu).2.2) ++ jRI cI 16 16 ro ((jmBs sm gr P n st a o 1 rm ca qu).1) ++ jC g rf) := by
  refine jxw_enter (by decide) rfl (Nat.le_of_ble_eq_true rfl) ?_
  intro p e s m args below meth c Q A ls hx hb hml hts hown hN hP hK hD hA hl hQ
  have hD0 := hD
  obtain ⟨H, hH⟩ : ∃ h, h = s.heap := ⟨_, rfl⟩
  have hS : va_S A s.heap H [] := by rw [hH]; exact va_S.rf
  rw [← hH] at hP ⊢
  obtain ⟨locs, hlocs⟩ : ∃ z : List Loc, z = [] := ⟨_, rfl⟩
  rw [← hlocs] at hS ⊢
  have hown : s.vm.findClass RX6 = some m.cls := hown
  have hl : lv_has ls 4 [(0, .ref (g 60)), (1, .int (nI a)), (2, .int (nI o)), (3, .int (nI 1))] := hl
  have hP8 : P ≤ 8 := hw.1
  have hn16 : n ≤ 16 := hw.2.1
  have hst : st < 65536 := jmWF_st hw
  have hen : ∀ j, j < n → en j < 256 := jmWF_en hw
  have hla : ∀ q, q < P → la q < 65536 := jmWF_la hw
  have hgr : ∀ j, j < n → sm j < 8 ∧ gr j < 8 := jmWF_gr hw
  have hco : ∀ j, j < n → co j < 21 := jmWF_co hw
  have hP1 := Nat.one_le_two_pow (n := P)
  have hP2 := jx_pow256 hP8
  have hsd : jmSide la P st a o < 2 ^ P := jmSideF_lt ha (Nat.le_refl _)
  refine lv_aload_n hx hb dX6_between_0 rfl (lv_at hl 0 rfl) ?_
  refine lv_iload_n hx hb dX6_between_1 rfl (lv_at hl 1 rfl) ?_
  refine jxw_callV (X := jW cI g P n st sm gr co en la ++ jY cI cO g ro ca qu ++ jRI cI 16 16 ro rm ++ jC g rf) (X' := jW cI g P n st sm gr co en la ++ jY cI cO g ro ca qu ++ jRI cI 16 16 ro rm ++ jC g rf) (wc := jW cI g P n st sm gr co en la ++ jC g rf) (wc' := jW cI g P n st sm gr co en la ++ jC g rf) (wr := jY cI cO g ro ca qu ++ jRI cI 16 16 ro rm) (N := 27) (As := [.int (nI a)]) (rest := []) ⟨hx, hb, hml, hown, hts⟩ (c_X6_demandPoint l D cI g P n st sm gr co en la rf H.size hw a (by omega)) (cwV 1 hts gX6_between_X6_demandPoint rfl rfl rfl (by decide +kernel) ⟨Nat.le_of_ble_eq_true rfl, Nat.le_of_ble_eq_true rfl⟩) hN hP hD (hK.sub (tys' := [(cI, .int)]) [0] rfl) hS hA [0, 1, 2, 3, 4, 5, 26] [6, 7, 8, 9, 10, 11, 12, 13, 14, 15, 16, 17, 18, 19, 20, 21, 22, 23, 24, 25] rfl rfl rfl rfl rfl rfl (by decide) (by decide) 26 6 rfl rfl rfl (hK.sub (tys' := [(cI, .int)]) [0] rfl) rfl hl.1 rfl (Nat.le_of_ble_eq_true rfl) dX6_between_2 ⟨Nat.zero_le _, Nat.zero_le _⟩ (fun H locs hP hS => ?_)
  have hD : va_D A (jW cI g P n st sm gr co en la ++ jY cI cO g ro ca qu ++ jRI cI 16 16 ro rm ++ jC g rf) := jxD hD0 rfl
  refine lv_aload_n hx hb dX6_between_5 rfl (lv_at hl 0 rfl) ?_
  refine lv_iload_n hx hb dX6_between_6 rfl (lv_at hl 2 rfl) ?_
  refine jxw_callV (X := jW cI g P n st sm gr co en la ++ jY cI cO g ro ca qu ++ jRI cI 16 16 ro rm ++ jC g rf) (X' := jW cI g P n st sm gr co en la ++ jY cI cO g ro ca qu ++ jRI cI 16 16 ro rm ++ jC g rf) (wc := jW cI g P n st sm gr co en la ++ jC g rf) (wc' := jW cI g P n st sm gr co en la ++ jC g rf) (wr := jY cI cO g ro ca qu ++ jRI cI 16 16 ro rm) (N := 27) (As := [.int (nI o)]) (rest := []) ⟨hx, hb, hml, hown, hts⟩ (c_X6_demandPoint l D cI g P n st sm gr co en la rf H.size hw o (by omega)) (cwV 1 hts gX6_between_X6_demandPoint rfl rfl rfl (by decide +kernel) ⟨Nat.le_of_ble_eq_true rfl, Nat.le_of_ble_eq_true rfl⟩) hN hP hD (hK.sub (tys' := [(cI, .int)]) [0] rfl) hS hA [0, 1, 2, 3, 4, 5, 26] [6, 7, 8, 9, 10, 11, 12, 13, 14, 15, 16, 17, 18, 19, 20, 21, 22, 23, 24, 25] rfl rfl rfl rfl rfl rfl (by decide) (by decide) 26 6 rfl rfl rfl (hK.sub (tys' := [(cI, .int)]) [0] rfl) rfl hl.1 rfl (Nat.le_of_ble_eq_true rfl) dX6_between_7 ⟨Nat.zero_le _, Nat.zero_le _⟩ (fun H locs hP hS => ?_)
  have hD : va_D A (jW cI g P n st sm gr co en la ++ jY cI cO g ro ca qu ++ jRI cI 16 16 ro rm ++ jC g rf) := jxD hD0 rfl
  refine lv_iload_n hx hb dX6_between_10 rfl (lv_at hl 1 rfl) ?_
  refine lv_iload_n hx hb dX6_between_11 rfl (lv_at hl 2 rfl) ?_
  refine jxw_callSv (X := jW cI g P n st sm gr co en la ++ jY cI cO g ro ca qu ++ jRI cI 16 16 ro rm ++ jC g rf) (X' := jW cI g P n st sm gr co en la ++ jY cI cO g ro ca qu ++ jRI cI 16 16 ro rm ++ jC g rf) (wc := []) (wc' := []) (wr := jW cI g P n st sm gr co en la ++ jY cI cO g ro ca qu ++ jRI cI 16 16 ro rm ++ jC g rf) (N := 27) (As := [.int (nI a), .int (nI o)]) (rest := []) ⟨hx, hb, hml, hown, hts⟩ (c_X6_demandUnlike l D g H.size a o hao (by omega) (by omega)) (va_cwS 2 hts gX6_between_X6_demandUnlike rfl rfl rfl (by decide +kernel) ⟨Nat.le_of_ble_eq_true rfl, Nat.le_of_ble_eq_true rfl⟩) hN hP hD (hK.sub (tys' := []) [] rfl) hS hA [] [0, 1, 2, 3, 4, 5, 6, 7, 8, 9, 10, 11, 12, 13, 14, 15, 16, 17, 18, 19, 20, 21, 22, 23, 24, 25, 26] rfl rfl rfl rfl rfl rfl (by decide) (by decide) rfl hl.1 rfl (Nat.le_of_ble_eq_true rfl) dX6_between_12 ⟨Nat.zero_le _, Nat.zero_le _⟩ (fun H locs hP hS => ?_)
  have hD : va_D A (jW cI g P n st sm gr co en la ++ jY cI cO g ro ca qu ++ jRI cI 16 16 ro rm ++ jC g rf) := jxD hD0 rfl
  refine lv_iload_n hx hb dX6_between_15 rfl (lv_at hl 3 rfl) ?_
  refine lv_iconst (v := nI 5) hx hb dX6_between_16 (by decide) ?_
  refine jxw_callSv (X := jW cI g P n st sm gr co en la ++ jY cI cO g ro ca qu ++ jRI cI 16 16 ro rm ++ jC g rf) (X' := jW cI g P n st sm gr co en la ++ jY cI cO g ro ca qu ++ jRI cI 16 16 ro rm ++ jC g rf) (wc := []) (wc' := []) (wr := jW cI g P n st sm gr co en la ++ jY cI cO g ro ca qu ++ jRI cI 16 16 ro rm ++ jC g rf) (N := 27) (As := [.int (nI 1), .int (nI 5)]) (rest := []) ⟨hx, hb, hml, hown, hts⟩ (c_X6_demandWhat l D g H.size 1 5 (by omega) (by omega)) (va_cwS 2 hts gX6_between_X6_demandWhat rfl rfl rfl (by decide +kernel) ⟨Nat.le_of_ble_eq_true rfl, Nat.le_of_ble_eq_true rfl⟩) hN hP hD (hK.sub (tys' := []) [] rfl) hS hA [] [0, 1, 2, 3, 4, 5, 6, 7, 8, 9, 10, 11, 12, 13, 14, 15, 16, 17, 18, 19, 20, 21, 22, 23, 24, 25, 26] rfl rfl rfl rfl rfl rfl (by decide) (by decide) rfl hl.1 rfl (Nat.le_of_ble_eq_true rfl) dX6_between_17 ⟨Nat.zero_le _, Nat.zero_le _⟩ (fun H locs hP hS => ?_)
  have hD : va_D A (jW cI g P n st sm gr co en la ++ jY cI cO g ro ca qu ++ jRI cI 16 16 ro rm ++ jC g rf) := jxD hD0 rfl
  refine lv_iload_n hx hb dX6_between_20 rfl (lv_at hl 3 rfl) ?_
  refine lv_tableIn (off := 45) (tgt := 66) hx hb dX6_between_21 (by decide +kernel) (by decide +kernel) (by decide +kernel) (by decide) ?_
  refine lv_aload_n hx hb dX6_between_66 rfl (lv_at hl 0 rfl) ?_
  refine va_get (D := D) (ci := 6) (v := .ref (g 20)) (C := RX6) (T := TX6) (N := 7) hx hb hts in_X6_between_6 hown hK hP 26 rfl rfl 2 (by decide) (hts (.fieldLink RX6 28 "Twincuts" "ways" "LTwincuts$Ways;") (List.mem_of_getElem? (i := 1) (by decide +kernel))) (fun _ h9 => h9) rfl dX6_between_67 ?_
  refine lv_iload_n hx hb dX6_between_70 rfl (lv_at hl 1 rfl) ?_
  refine lv_iload_n hx hb dX6_between_71 rfl (lv_at hl 2 rfl) ?_
  refine jxw_callVi (X := jW cI g P n st sm gr co en la ++ jY cI cO g ro ca qu ++ jRI cI 16 16 ro rm ++ jC g rf) (X' := jW cI g P n st sm gr co en la ++ jY cI cO g ro ((jmCFS a o (jmC3 sm gr st (fun _ _ => 0) n) ca qu).2.2.1) ((jmCFS a o (jmC3 sm gr st (fun _ _ => 0) n) ca qu).2.2.2) ++ jRI cI 16 16 ro ((jmCFS a o (jmC3 sm gr st (fun _ _ => 0) n) ca qu).2.1) ++ jC g rf) (wc := jW cI g P n st sm gr co en la ++ jY cI cO g ro ca qu ++ jRI cI 16 16 ro rm) (wc' := jW cI g P n st sm gr co en la ++ jY cI cO g ro ((jmCFS a o (jmC3 sm gr st (fun _ _ => 0) n) ca qu).2.2.1) ((jmCFS a o (jmC3 sm gr st (fun _ _ => 0) n) ca qu).2.2.2) ++ jRI cI 16 16 ro ((jmCFS a o (jmC3 sm gr st (fun _ _ => 0) n) ca qu).2.1)) (wr := jC g rf) (N := 27) (As := [.int (nI a), .int (nI o)]) (rest := []) ⟨hx, hb, hml, hown, hts⟩ (c_X4_countLineWays l D cI cO g P n st sm gr co en la ro ca qu rm H.size hw a o (by omega) (by omega) hqu) (cwV 2 hts gX6_between_X4_countLineWays rfl rfl rfl (by decide +kernel) ⟨Nat.le_of_ble_eq_true rfl, Nat.le_of_ble_eq_true rfl⟩) hN hP hD (hK.sub (tys' := [(cI, .int), (cO, .array .int)]) [0, 1] rfl) hS hA [0, 1, 2, 3, 4, 5, 6, 7, 8, 9, 10, 11, 12, 13, 14, 15, 16, 17, 18, 19, 20, 21, 22, 23, 24, 25] [26] rfl rfl rfl rfl rfl rfl (by decide) (by decide) 6 4 rfl rfl rfl (hK.sub (tys' := [(cI, .int), (cO, .array .int)]) [0, 1] rfl) rfl hl.1 rfl (Nat.le_of_ble_eq_true rfl) dX6_between_72 ⟨Nat.zero_le _, Nat.zero_le _⟩ (fun r H locs hr hP hS => ?_)
  have hD : va_D A (jW cI g P n st sm gr co en la ++ jY cI cO g ro ((jmCFS a o (jmC3 sm gr st (fun _ _ => 0) n) ca qu).2.2.1) ((jmCFS a o (jmC3 sm gr st (fun _ _ => 0) n) ca qu).2.2.2) ++ jRI cI 16 16 ro ((jmCFS a o (jmC3 sm gr st (fun _ _ => 0) n) ca qu).2.1) ++ jC g rf) := jxD hD0 rfl
  subst hr
  have ev_1 : (jmCFS a o (jmC3 sm gr st (fun _ _ => 0) n) ca qu).2.2.1 = (jmBs sm gr P n st a o 1 rm ca qu).2.1 := by rfl
  have ev_2 : (jmCFS a o (jmC3 sm gr st (fun _ _ => 0) n) ca qu).2.2.2 = (jmBs sm gr P n st a o 1 rm ca qu).2.2 := by rfl
  have ev_3 : (jmCFS a o (jmC3 sm gr st (fun _ _ => 0) n) ca qu).2.1 = (jmBs sm gr P n st a o 1 rm ca qu).1 := by rfl
  exact hQ (nI ((jmCFS a o (jmC3 sm gr st (fun _ _ => 0) n) ca qu).1)) H locs _ _ dX6_between_75 (congrArg nI (jmLy_c _ _ _ _ _ _ _ _)) (by rw [← ev_1, ← ev_2, ← ev_3]; exact hP) hS
set_option maxHeartbeats 4000000 in
set_option maxRecDepth 100000 in
/-- between(one, other, what), asked 2 -/
theorem c_X6_between_2 (l : Launch) (D : va_G) (cI : ClassId) (cO : ClassId) (g : Nat → Nat) (P n st : Nat) (sm gr co en la : Nat → Nat) (ro : Nat → Nat) (ca : Nat → Int32) (qu : Nat → Nat) (rm : Nat → Nat → Int32) (rf : Int32) (sz : Nat) (hw : jmWF P n st sm gr co en la) (a o : Nat) (ha : a < P) (ho : o < P) (hao : a ≠ o) (hqu : ∀ j, j < 16 → qu j < 16) : jxWi l yX6_between wsX6_between ({ frames := 4, cells := 0, slots := 0, locals := 91 } : Room) D [(cI, .int), (cO, .array .int)] (jW cI g P n st sm gr co en la ++ jY cI cO g ro ca qu ++ jRI cI 16 16 ro rm ++ jC g rf) [.ref (g 60), .int (nI a), .int (nI o), .int (nI 2)] sz (fun r => r = jmBt sm gr en la P n st a o 2) (jW cI g P n st sm gr co en la ++ jY cI cO g ro ((jmBs sm gr P n st a o 2 rm ca qu).2.1) ((jmBs sm gr P n st a o 2 rm ca qu).2.2) ++ jRI cI 16 16 ro ((jmBs sm gr P n st a o 2 rm ca qu).1) ++ jC g rf) := by
  refine jxw_enter (by decide) rfl (Nat.le_of_ble_eq_true rfl) ?_
  intro p e s m args below meth c Q A ls hx hb hml hts hown hN hP hK hD hA hl hQ
  have hD0 := hD
  obtain ⟨H, hH⟩ : ∃ h, h = s.heap := ⟨_, rfl⟩
  have hS : va_S A s.heap H [] := by rw [hH]; exact va_S.rf
  rw [← hH] at hP ⊢
  obtain ⟨locs, hlocs⟩ : ∃ z : List Loc, z = [] := ⟨_, rfl⟩
  rw [← hlocs] at hS ⊢
  have hown : s.vm.findClass RX6 = some m.cls := hown
  have hl : lv_has ls 4 [(0, .ref (g 60)), (1, .int (nI a)), (2, .int (nI o)), (3, .int (nI 2))] := hl
  have hP8 : P ≤ 8 := hw.1
  have hn16 : n ≤ 16 := hw.2.1
  have hst : st < 65536 := jmWF_st hw
  have hen : ∀ j, j < n → en j < 256 := jmWF_en hw
  have hla : ∀ q, q < P → la q < 65536 := jmWF_la hw
  have hgr : ∀ j, j < n → sm j < 8 ∧ gr j < 8 := jmWF_gr hw
  have hco : ∀ j, j < n → co j < 21 := jmWF_co hw
  have hP1 := Nat.one_le_two_pow (n := P)
  have hP2 := jx_pow256 hP8
  have hsd : jmSide la P st a o < 2 ^ P := jmSideF_lt ha (Nat.le_refl _)
  refine lv_aload_n hx hb dX6_between_0 rfl (lv_at hl 0 rfl) ?_
  refine lv_iload_n hx hb dX6_between_1 rfl (lv_at hl 1 rfl) ?_
  refine jxw_callV (X := jW cI g P n st sm gr co en la ++ jY cI cO g ro ca qu ++ jRI cI 16 16 ro rm ++ jC g rf) (X' := jW cI g P n st sm gr co en la ++ jY cI cO g ro ca qu ++ jRI cI 16 16 ro rm ++ jC g rf) (wc := jW cI g P n st sm gr co en la ++ jC g rf) (wc' := jW cI g P n st sm gr co en la ++ jC g rf) (wr := jY cI cO g ro ca qu ++ jRI cI 16 16 ro rm) (N := 27) (As := [.int (nI a)]) (rest := []) ⟨hx, hb, hml, hown, hts⟩ (c_X6_demandPoint l D cI g P n st sm gr co en la rf H.size hw a (by omega)) (cwV 1 hts gX6_between_X6_demandPoint rfl rfl rfl (by decide +kernel) ⟨Nat.le_of_ble_eq_true rfl, Nat.le_of_ble_eq_true rfl⟩) hN hP hD (hK.sub (tys' := [(cI, .int)]) [0] rfl) hS hA [0, 1, 2, 3, 4, 5, 26] [6, 7, 8, 9, 10, 11, 12, 13, 14, 15, 16, 17, 18, 19, 20, 21, 22, 23, 24, 25] rfl rfl rfl rfl rfl rfl (by decide) (by decide) 26 6 rfl rfl rfl (hK.sub (tys' := [(cI, .int)]) [0] rfl) rfl hl.1 rfl (Nat.le_of_ble_eq_true rfl) dX6_between_2 ⟨Nat.zero_le _, Nat.zero_le _⟩ (fun H locs hP hS => ?_)
  have hD : va_D A (jW cI g P n st sm gr co en la ++ jY cI cO g ro ca qu ++ jRI cI 16 16 ro rm ++ jC g rf) := jxD hD0 rfl
  refine lv_aload_n hx hb dX6_between_5 rfl (lv_at hl 0 rfl) ?_
  refine lv_iload_n hx hb dX6_between_6 rfl (lv_at hl 2 rfl) ?_
  refine jxw_callV (X := jW cI g P n st sm gr co en la ++ jY cI cO g ro ca qu ++ jRI cI 16 16 ro rm ++ jC g rf) (X' := jW cI g P n st sm gr co en la ++ jY cI cO g ro ca qu ++ jRI cI 16 16 ro rm ++ jC g rf) (wc := jW cI g P n st sm gr co en la ++ jC g rf) (wc' := jW cI g P n st sm gr co en la ++ jC g rf) (wr := jY cI cO g ro ca qu ++ jRI cI 16 16 ro rm) (N := 27) (As := [.int (nI o)]) (rest := []) ⟨hx, hb, hml, hown, hts⟩ (c_X6_demandPoint l D cI g P n st sm gr co en la rf H.size hw o (by omega)) (cwV 1 hts gX6_between_X6_demandPoint rfl rfl rfl (by decide +kernel) ⟨Nat.le_of_ble_eq_true rfl, Nat.le_of_ble_eq_true rfl⟩) hN hP hD (hK.sub (tys' := [(cI, .int)]) [0] rfl) hS hA [0, 1, 2, 3, 4, 5, 26] [6, 7, 8, 9, 10, 11, 12, 13, 14, 15, 16, 17, 18, 19, 20, 21, 22, 23, 24, 25] rfl rfl rfl rfl rfl rfl (by decide) (by decide) 26 6 rfl rfl rfl (hK.sub (tys' := [(cI, .int)]) [0] rfl) rfl hl.1 rfl (Nat.le_of_ble_eq_true rfl) dX6_between_7 ⟨Nat.zero_le _, Nat.zero_le _⟩ (fun H locs hP hS => ?_)
  have hD : va_D A (jW cI g P n st sm gr co en la ++ jY cI cO g ro ca qu ++ jRI cI 16 16 ro rm ++ jC g rf) := jxD hD0 rfl
  refine lv_iload_n hx hb dX6_between_10 rfl (lv_at hl 1 rfl) ?_
  refine lv_iload_n hx hb dX6_between_11 rfl (lv_at hl 2 rfl) ?_
  refine jxw_callSv (X := jW cI g P n st sm gr co en la ++ jY cI cO g ro ca qu ++ jRI cI 16 16 ro rm ++ jC g rf) (X' := jW cI g P n st sm gr co en la ++ jY cI cO g ro ca qu ++ jRI cI 16 16 ro rm ++ jC g rf) (wc := []) (wc' := []) (wr := jW cI g P n st sm gr co en la ++ jY cI cO g ro ca qu ++ jRI cI 16 16 ro rm ++ jC g rf) (N := 27) (As := [.int (nI a), .int (nI o)]) (rest := []) ⟨hx, hb, hml, hown, hts⟩ (c_X6_demandUnlike l D g H.size a o hao (by omega) (by omega)) (va_cwS 2 hts gX6_between_X6_demandUnlike rfl rfl rfl (by decide +kernel) ⟨Nat.le_of_ble_eq_true rfl, Nat.le_of_ble_eq_true rfl⟩) hN hP hD (hK.sub (tys' := []) [] rfl) hS hA [] [0, 1, 2, 3, 4, 5, 6, 7, 8, 9, 10, 11, 12, 13, 14, 15, 16, 17, 18, 19, 20, 21, 22, 23, 24, 25, 26] rfl rfl rfl rfl rfl rfl (by decide) (by decide) rfl hl.1 rfl (Nat.le_of_ble_eq_true rfl) dX6_between_12 ⟨Nat.zero_le _, Nat.zero_le _⟩ (fun H locs hP hS => ?_)
  have hD : va_D A (jW cI g P n st sm gr co en la ++ jY cI cO g ro ca qu ++ jRI cI 16 16 ro rm ++ jC g rf) := jxD hD0 rfl
  refine lv_iload_n hx hb dX6_between_15 rfl (lv_at hl 3 rfl) ?_
  refine lv_iconst (v := nI 5) hx hb dX6_between_16 (by decide) ?_
  refine jxw_callSv (X := jW cI g P n st sm gr co en la ++ jY cI cO g ro ca qu ++ jRI cI 16 16 ro rm ++ jC g rf) (X' := jW cI g P n st sm gr co en la ++ jY cI cO g ro ca qu ++ jRI cI 16 16 ro rm ++ jC g rf) (wc := []) (wc' := []) (wr := jW cI g P n st sm gr co en la ++ jY cI cO g ro ca qu ++ jRI cI 16 16 ro rm ++ jC g rf) (N := 27) (As := [.int (nI 2), .int (nI 5)]) (rest := []) ⟨hx, hb, hml, hown, hts⟩ (c_X6_demandWhat l D g H.size 2 5 (by omega) (by omega)) (va_cwS 2 hts gX6_between_X6_demandWhat rfl rfl rfl (by decide +kernel) ⟨Nat.le_of_ble_eq_true rfl, Nat.le_of_ble_eq_true rfl⟩) hN hP hD (hK.sub (tys' := []) [] rfl) hS hA [] [0, 1, 2, 3, 4, 5, 6, 7, 8, 9, 10, 11, 12, 13, 14, 15, 16, 17, 18, 19, 20, 21, 22, 23, 24, 25, 26] rfl rfl rfl rfl rfl rfl (by decide) (by decide) rfl hl.1 rfl (Nat.le_of_ble_eq_true rfl) dX6_between_17 ⟨Nat.zero_le _, Nat.zero_le _⟩ (fun H locs hP hS => ?_)
  have hD : va_D A (jW cI g P n st sm gr co en la ++ jY cI cO g ro ca qu ++ jRI cI 16 16 ro rm ++ jC g rf) := jxD hD0 rfl
  refine lv_iload_n hx hb dX6_between_20 rfl (lv_at hl 3 rfl) ?_
  refine lv_tableIn (off := 55) (tgt := 76) hx hb dX6_between_21 (by decide +kernel) (by decide +kernel) (by decide +kernel) (by decide) ?_
  refine lv_aload_n hx hb dX6_between_76 rfl (lv_at hl 0 rfl) ?_
  refine va_get (D := D) (ci := 6) (v := .ref (g 0)) (C := RX6) (T := TX6) (N := 7) hx hb hts in_X6_between_6 hown hK hP 26 rfl rfl 0 (by decide) (hts (.fieldLink RX6 10 "Twincuts" "web" "LTwincuts$Web;") (List.mem_of_getElem? (i := 2) (by decide +kernel))) (fun _ h9 => h9) rfl dX6_between_77 ?_
  refine lv_iload_n hx hb dX6_between_80 rfl (lv_at hl 1 rfl) ?_
  refine lv_iload_n hx hb dX6_between_81 rfl (lv_at hl 2 rfl) ?_
  refine jx_callV (As := [.int (nI a), .int (nI o)]) (rest := []) ⟨hx, hb, hml, hown, hts⟩ (c_X5_distance l D cI g P n st sm gr co en la hw a o (by omega) (by omega)) (cwV 2 hts gX6_between_X5_distance rfl rfl rfl (by decide +kernel) ⟨Nat.le_of_ble_eq_true rfl, Nat.le_of_ble_eq_true rfl⟩) hN (hP.sub (ws' := jW cI g P n st sm gr co en la) [0, 1, 2, 3, 4, 5] rfl) (hK.sub (tys' := [(cI, .int)]) [0] rfl) 0 5 rfl rfl rfl rfl hl.1 rfl (Nat.le_of_ble_eq_true rfl) dX6_between_82 ⟨Nat.zero_le _, Nat.zero_le _⟩ (fun r hr => ?_)
  subst hr
  have ev_1 : ca = (jmBs sm gr P n st a o 2 rm ca qu).2.1 := by rfl
  have ev_2 : qu = (jmBs sm gr P n st a o 2 rm ca qu).2.2 := by rfl
  have ev_3 : rm = (jmBs sm gr P n st a o 2 rm ca qu).1 := by rfl
  exact hQ (jmDist en la P st n a o) H locs _ _ dX6_between_85 rfl (by rw [← ev_1, ← ev_2, ← ev_3]; exact hP) hS
set_option maxHeartbeats 4000000 in
set_option maxRecDepth 100000 in
/-- between(one, other, what), asked 3 -/
theorem c_X6_between_3 (l : Launch) (D : va_G) (cI : ClassId) (cO : ClassId) (g : Nat → Nat) (P n st : Nat) (sm gr co en la : Nat → Nat) (ro : Nat → Nat) (ca : Nat → Int32) (qu : Nat → Nat) (rm : Nat → Nat → Int32) (rf : Int32) (sz : Nat) (hw : jmWF P n st sm gr co en la) (a o : Nat) (ha : a < P) (ho : o < P) (hao : a ≠ o) (hqu : ∀ j, j < 16 → qu j < 16) : jxWi l yX6_between wsX6_between ({ frames := 4, cells := 0, slots := 0, locals := 91 } : Room) D [(cI, .int), (cO, .array .int)] (jW cI g P n st sm gr co en la ++ jY cI cO g ro ca qu ++ jRI cI 16 16 ro rm ++ jC g rf) [.ref (g 60), .int (nI a), .int (nI o), .int (nI 3)] sz (fun r => r = jmBt sm gr en la P n st a o 3) (jW cI g P n st sm gr co en la ++ jY cI cO g ro ((jmBs sm gr P n st a o 3 rm ca qu).2.1) ((jmBs sm gr P n st a o 3 rm ca qu).2.2) ++ jRI cI 16 16 ro ((jmBs sm gr P n st a o 3 rm ca qu).1) ++ jC g rf) := by
  refine jxw_enter (by decide) rfl (Nat.le_of_ble_eq_true rfl) ?_
  intro p e s m args below meth c Q A ls hx hb hml hts hown hN hP hK hD hA hl hQ
  have hD0 := hD
  obtain ⟨H, hH⟩ : ∃ h, h = s.heap := ⟨_, rfl⟩
  have hS : va_S A s.heap H [] := by rw [hH]; exact va_S.rf
  rw [← hH] at hP ⊢
  obtain ⟨locs, hlocs⟩ : ∃ z : List Loc, z = [] := ⟨_, rfl⟩
  rw [← hlocs] at hS ⊢
  have hown : s.vm.findClass RX6 = some m.cls := hown
  have hl : lv_has ls 4 [(0, .ref (g 60)), (1, .int (nI a)), (2, .int (nI o)), (3, .int (nI 3))] := hl
  have hP8 : P ≤ 8 := hw.1
  have hn16 : n ≤ 16 := hw.2.1
  have hst : st < 65536 := jmWF_st hw
  have hen : ∀ j, j < n → en j < 256 := jmWF_en hw
  have hla : ∀ q, q < P → la q < 65536 := jmWF_la hw
  have hgr : ∀ j, j < n → sm j < 8 ∧ gr j < 8 := jmWF_gr hw
  have hco : ∀ j, j < n → co j < 21 := jmWF_co hw
  have hP1 := Nat.one_le_two_pow (n := P)
  have hP2 := jx_pow256 hP8
  have hsd : jmSide la P st a o < 2 ^ P := jmSideF_lt ha (Nat.le_refl _)
  refine lv_aload_n hx hb dX6_between_0 rfl (lv_at hl 0 rfl) ?_
  refine lv_iload_n hx hb dX6_between_1 rfl (lv_at hl 1 rfl) ?_
  refine jxw_callV (X := jW cI g P n st sm gr co en la ++ jY cI cO g ro ca qu ++ jRI cI 16 16 ro rm ++ jC g rf) (X' := jW cI g P n st sm gr co en la ++ jY cI cO g ro ca qu ++ jRI cI 16 16 ro rm ++ jC g rf) (wc := jW cI g P n st sm gr co en la ++ jC g rf) (wc' := jW cI g P n st sm gr co en la ++ jC g rf) (wr := jY cI cO g ro ca qu ++ jRI cI 16 16 ro rm) (N := 27) (As := [.int (nI a)]) (rest := []) ⟨hx, hb, hml, hown, hts⟩ (c_X6_demandPoint l D cI g P n st sm gr co en la rf H.size hw a (by omega)) (cwV 1 hts gX6_between_X6_demandPoint rfl rfl rfl (by decide +kernel) ⟨Nat.le_of_ble_eq_true rfl, Nat.le_of_ble_eq_true rfl⟩) hN hP hD (hK.sub (tys' := [(cI, .int)]) [0] rfl) hS hA [0, 1, 2, 3, 4, 5, 26] [6, 7, 8, 9, 10, 11, 12, 13, 14, 15, 16, 17, 18, 19, 20, 21, 22, 23, 24, 25] rfl rfl rfl rfl rfl rfl (by decide) (by decide) 26 6 rfl rfl rfl (hK.sub (tys' := [(cI, .int)]) [0] rfl) rfl hl.1 rfl (Nat.le_of_ble_eq_true rfl) dX6_between_2 ⟨Nat.zero_le _, Nat.zero_le _⟩ (fun H locs hP hS => ?_)
  have hD : va_D A (jW cI g P n st sm gr co en la ++ jY cI cO g ro ca qu ++ jRI cI 16 16 ro rm ++ jC g rf) := jxD hD0 rfl
  refine lv_aload_n hx hb dX6_between_5 rfl (lv_at hl 0 rfl) ?_
  refine lv_iload_n hx hb dX6_between_6 rfl (lv_at hl 2 rfl) ?_
  refine jxw_callV (X := jW cI g P n st sm gr co en la ++ jY cI cO g ro ca qu ++ jRI cI 16 16 ro rm ++ jC g rf) (X' := jW cI g P n st sm gr co en la ++ jY cI cO g ro ca qu ++ jRI cI 16 16 ro rm ++ jC g rf) (wc := jW cI g P n st sm gr co en la ++ jC g rf) (wc' := jW cI g P n st sm gr co en la ++ jC g rf) (wr := jY cI cO g ro ca qu ++ jRI cI 16 16 ro rm) (N := 27) (As := [.int (nI o)]) (rest := []) ⟨hx, hb, hml, hown, hts⟩ (c_X6_demandPoint l D cI g P n st sm gr co en la rf H.size hw o (by omega)) (cwV 1 hts gX6_between_X6_demandPoint rfl rfl rfl (by decide +kernel) ⟨Nat.le_of_ble_eq_true rfl, Nat.le_of_ble_eq_true rfl⟩) hN hP hD (hK.sub (tys' := [(cI, .int)]) [0] rfl) hS hA [0, 1, 2, 3, 4, 5, 26] [6, 7, 8, 9, 10, 11, 12, 13, 14, 15, 16, 17, 18, 19, 20, 21, 22, 23, 24, 25] rfl rfl rfl rfl rfl rfl (by decide) (by decide) 26 6 rfl rfl rfl (hK.sub (tys' := [(cI, .int)]) [0] rfl) rfl hl.1 rfl (Nat.le_of_ble_eq_true rfl) dX6_between_7 ⟨Nat.zero_le _, Nat.zero_le _⟩ (fun H locs hP hS => ?_)
  have hD : va_D A (jW cI g P n st sm gr co en la ++ jY cI cO g ro ca qu ++ jRI cI 16 16 ro rm ++ jC g rf) := jxD hD0 rfl
  refine lv_iload_n hx hb dX6_between_10 rfl (lv_at hl 1 rfl) ?_
  refine lv_iload_n hx hb dX6_between_11 rfl (lv_at hl 2 rfl) ?_
  refine jxw_callSv (X := jW cI g P n st sm gr co en la ++ jY cI cO g ro ca qu ++ jRI cI 16 16 ro rm ++ jC g rf) (X' := jW cI g P n st sm gr co en la ++ jY cI cO g ro ca qu ++ jRI cI 16 16 ro rm ++ jC g rf) (wc := []) (wc' := []) (wr := jW cI g P n st sm gr co en la ++ jY cI cO g ro ca qu ++ jRI cI 16 16 ro rm ++ jC g rf) (N := 27) (As := [.int (nI a), .int (nI o)]) (rest := []) ⟨hx, hb, hml, hown, hts⟩ (c_X6_demandUnlike l D g H.size a o hao (by omega) (by omega)) (va_cwS 2 hts gX6_between_X6_demandUnlike rfl rfl rfl (by decide +kernel) ⟨Nat.le_of_ble_eq_true rfl, Nat.le_of_ble_eq_true rfl⟩) hN hP hD (hK.sub (tys' := []) [] rfl) hS hA [] [0, 1, 2, 3, 4, 5, 6, 7, 8, 9, 10, 11, 12, 13, 14, 15, 16, 17, 18, 19, 20, 21, 22, 23, 24, 25, 26] rfl rfl rfl rfl rfl rfl (by decide) (by decide) rfl hl.1 rfl (Nat.le_of_ble_eq_true rfl) dX6_between_12 ⟨Nat.zero_le _, Nat.zero_le _⟩ (fun H locs hP hS => ?_)
  have hD : va_D A (jW cI g P n st sm gr co en la ++ jY cI cO g ro ca qu ++ jRI cI 16 16 ro rm ++ jC g rf) := jxD hD0 rfl
  refine lv_iload_n hx hb dX6_between_15 rfl (lv_at hl 3 rfl) ?_
  refine lv_iconst (v := nI 5) hx hb dX6_between_16 (by decide) ?_
  refine jxw_callSv (X := jW cI g P n st sm gr co en la ++ jY cI cO g ro ca qu ++ jRI cI 16 16 ro rm ++ jC g rf) (X' := jW cI g P n st sm gr co en la ++ jY cI cO g ro ca qu ++ jRI cI 16 16 ro rm ++ jC g rf) (wc := []) (wc' := []) (wr := jW cI g P n st sm gr co en la ++ jY cI cO g ro ca qu ++ jRI cI 16 16 ro rm ++ jC g rf) (N := 27) (As := [.int (nI 3), .int (nI 5)]) (rest := []) ⟨hx, hb, hml, hown, hts⟩ (c_X6_demandWhat l D g H.size 3 5 (by omega) (by omega)) (va_cwS 2 hts gX6_between_X6_demandWhat rfl rfl rfl (by decide +kernel) ⟨Nat.le_of_ble_eq_true rfl, Nat.le_of_ble_eq_true rfl⟩) hN hP hD (hK.sub (tys' := []) [] rfl) hS hA [] [0, 1, 2, 3, 4, 5, 6, 7, 8, 9, 10, 11, 12, 13, 14, 15, 16, 17, 18, 19, 20, 21, 22, 23, 24, 25, 26] rfl rfl rfl rfl rfl rfl (by decide) (by decide) rfl hl.1 rfl (Nat.le_of_ble_eq_true rfl) dX6_between_17 ⟨Nat.zero_le _, Nat.zero_le _⟩ (fun H locs hP hS => ?_)
  have hD : va_D A (jW cI g P n st sm gr co en la ++ jY cI cO g ro ca qu ++ jRI cI 16 16 ro rm ++ jC g rf) := jxD hD0 rfl
  refine lv_iload_n hx hb dX6_between_20 rfl (lv_at hl 3 rfl) ?_
  refine lv_tableIn (off := 65) (tgt := 86) hx hb dX6_between_21 (by decide +kernel) (by decide +kernel) (by decide +kernel) (by decide) ?_
  refine lv_aload_n hx hb dX6_between_86 rfl (lv_at hl 0 rfl) ?_
  refine va_get (D := D) (ci := 6) (v := .ref (g 20)) (C := RX6) (T := TX6) (N := 7) hx hb hts in_X6_between_6 hown hK hP 26 rfl rfl 2 (by decide) (hts (.fieldLink RX6 28 "Twincuts" "ways" "LTwincuts$Ways;") (List.mem_of_getElem? (i := 1) (by decide +kernel))) (fun _ h9 => h9) rfl dX6_between_87 ?_
  refine lv_iload_n hx hb dX6_between_90 rfl (lv_at hl 1 rfl) ?_
  refine lv_iload_n hx hb dX6_between_91 rfl (lv_at hl 2 rfl) ?_
  refine jx_callV (As := [.int (nI a), .int (nI o)]) (rest := []) ⟨hx, hb, hml, hown, hts⟩ (c_X4_gap l D cI cO g P n st sm gr co en la ro ca qu hw a o (by omega) (by omega)) (cwV 2 hts gX6_between_X4_gap rfl rfl rfl (by decide +kernel) ⟨Nat.le_of_ble_eq_true rfl, Nat.le_of_ble_eq_true rfl⟩) hN (hP.sub (ws' := jW cI g P n st sm gr co en la ++ jY cI cO g ro ca qu) [0, 1, 2, 3, 4, 5, 6, 7, 8, 9] rfl) (hK.sub (tys' := [(cI, .int), (cO, .array .int)]) [0, 1] rfl) 6 4 rfl rfl rfl rfl hl.1 rfl (Nat.le_of_ble_eq_true rfl) dX6_between_92 ⟨Nat.zero_le _, Nat.zero_le _⟩ (fun r hr => ?_)
  subst hr
  have ev_1 : ca = (jmBs sm gr P n st a o 3 rm ca qu).2.1 := by rfl
  have ev_2 : qu = (jmBs sm gr P n st a o 3 rm ca qu).2.2 := by rfl
  have ev_3 : rm = (jmBs sm gr P n st a o 3 rm ca qu).1 := by rfl
  exact hQ (jmGap en la P n st a o) H locs _ _ dX6_between_95 rfl (by rw [← ev_1, ← ev_2, ← ev_3]; exact hP) hS
set_option maxHeartbeats 4000000 in
set_option maxRecDepth 100000 in
/-- between(one, other, what), asked 4 -/
theorem c_X6_between_4 (l : Launch) (D : va_G) (cI : ClassId) (cO : ClassId) (g : Nat → Nat) (P n st : Nat) (sm gr co en la : Nat → Nat) (ro : Nat → Nat) (ca : Nat → Int32) (qu : Nat → Nat) (rm : Nat → Nat → Int32) (rf : Int32) (sz : Nat) (hw : jmWF P n st sm gr co en la) (a o : Nat) (ha : a < P) (ho : o < P) (hao : a ≠ o) (hqu : ∀ j, j < 16 → qu j < 16) : jxWi l yX6_between wsX6_between ({ frames := 4, cells := 0, slots := 0, locals := 91 } : Room) D [(cI, .int), (cO, .array .int)] (jW cI g P n st sm gr co en la ++ jY cI cO g ro ca qu ++ jRI cI 16 16 ro rm ++ jC g rf) [.ref (g 60), .int (nI a), .int (nI o), .int (nI 4)] sz (fun r => r = jmBt sm gr en la P n st a o 4) (jW cI g P n st sm gr co en la ++ jY cI cO g ro ((jmBs sm gr P n st a o 4 rm ca qu).2.1) ((jmBs sm gr P n st a o 4 rm ca qu).2.2) ++ jRI cI 16 16 ro ((jmBs sm gr P n st a o 4 rm ca qu).1) ++ jC g rf) := by
  refine jxw_enter (by decide) rfl (Nat.le_of_ble_eq_true rfl) ?_
  intro p e s m args below meth c Q A ls hx hb hml hts hown hN hP hK hD hA hl hQ
  have hD0 := hD
  obtain ⟨H, hH⟩ : ∃ h, h = s.heap := ⟨_, rfl⟩
  have hS : va_S A s.heap H [] := by rw [hH]; exact va_S.rf
  rw [← hH] at hP ⊢
  obtain ⟨locs, hlocs⟩ : ∃ z : List Loc, z = [] := ⟨_, rfl⟩
  rw [← hlocs] at hS ⊢
  have hown : s.vm.findClass RX6 = some m.cls := hown
  have hl : lv_has ls 4 [(0, .ref (g 60)), (1, .int (nI a)), (2, .int (nI o)), (3, .int (nI 4))] := hl
  have hP8 : P ≤ 8 := hw.1
  have hn16 : n ≤ 16 := hw.2.1
  have hst : st < 65536 := jmWF_st hw
  have hen : ∀ j, j < n → en j < 256 := jmWF_en hw
  have hla : ∀ q, q < P → la q < 65536 := jmWF_la hw
  have hgr : ∀ j, j < n → sm j < 8 ∧ gr j < 8 := jmWF_gr hw
  have hco : ∀ j, j < n → co j < 21 := jmWF_co hw
  have hP1 := Nat.one_le_two_pow (n := P)
  have hP2 := jx_pow256 hP8
  have hsd : jmSide la P st a o < 2 ^ P := jmSideF_lt ha (Nat.le_refl _)
  refine lv_aload_n hx hb dX6_between_0 rfl (lv_at hl 0 rfl) ?_
  refine lv_iload_n hx hb dX6_between_1 rfl (lv_at hl 1 rfl) ?_
  refine jxw_callV (X := jW cI g P n st sm gr co en la ++ jY cI cO g ro ca qu ++ jRI cI 16 16 ro rm ++ jC g rf) (X' := jW cI g P n st sm gr co en la ++ jY cI cO g ro ca qu ++ jRI cI 16 16 ro rm ++ jC g rf) (wc := jW cI g P n st sm gr co en la ++ jC g rf) (wc' := jW cI g P n st sm gr co en la ++ jC g rf) (wr := jY cI cO g ro ca qu ++ jRI cI 16 16 ro rm) (N := 27) (As := [.int (nI a)]) (rest := []) ⟨hx, hb, hml, hown, hts⟩ (c_X6_demandPoint l D cI g P n st sm gr co en la rf H.size hw a (by omega)) (cwV 1 hts gX6_between_X6_demandPoint rfl rfl rfl (by decide +kernel) ⟨Nat.le_of_ble_eq_true rfl, Nat.le_of_ble_eq_true rfl⟩) hN hP hD (hK.sub (tys' := [(cI, .int)]) [0] rfl) hS hA [0, 1, 2, 3, 4, 5, 26] [6, 7, 8, 9, 10, 11, 12, 13, 14, 15, 16, 17, 18, 19, 20, 21, 22, 23, 24, 25] rfl rfl rfl rfl rfl rfl (by decide) (by decide) 26 6 rfl rfl rfl (hK.sub (tys' := [(cI, .int)]) [0] rfl) rfl hl.1 rfl (Nat.le_of_ble_eq_true rfl) dX6_between_2 ⟨Nat.zero_le _, Nat.zero_le _⟩ (fun H locs hP hS => ?_)
  have hD : va_D A (jW cI g P n st sm gr co en la ++ jY cI cO g ro ca qu ++ jRI cI 16 16 ro rm ++ jC g rf) := jxD hD0 rfl
  refine lv_aload_n hx hb dX6_between_5 rfl (lv_at hl 0 rfl) ?_
  refine lv_iload_n hx hb dX6_between_6 rfl (lv_at hl 2 rfl) ?_
  refine jxw_callV (X := jW cI g P n st sm gr co en la ++ jY cI cO g ro ca qu ++ jRI cI 16 16 ro rm ++ jC g rf) (X' := jW cI g P n st sm gr co en la ++ jY cI cO g ro ca qu ++ jRI cI 16 16 ro rm ++ jC g rf) (wc := jW cI g P n st sm gr co en la ++ jC g rf) (wc' := jW cI g P n st sm gr co en la ++ jC g rf) (wr := jY cI cO g ro ca qu ++ jRI cI 16 16 ro rm) (N := 27) (As := [.int (nI o)]) (rest := []) ⟨hx, hb, hml, hown, hts⟩ (c_X6_demandPoint l D cI g P n st sm gr co en la rf H.size hw o (by omega)) (cwV 1 hts gX6_between_X6_demandPoint rfl rfl rfl (by decide +kernel) ⟨Nat.le_of_ble_eq_true rfl, Nat.le_of_ble_eq_true rfl⟩) hN hP hD (hK.sub (tys' := [(cI, .int)]) [0] rfl) hS hA [0, 1, 2, 3, 4, 5, 26] [6, 7, 8, 9, 10, 11, 12, 13, 14, 15, 16, 17, 18, 19, 20, 21, 22, 23, 24, 25] rfl rfl rfl rfl rfl rfl (by decide) (by decide) 26 6 rfl rfl rfl (hK.sub (tys' := [(cI, .int)]) [0] rfl) rfl hl.1 rfl (Nat.le_of_ble_eq_true rfl) dX6_between_7 ⟨Nat.zero_le _, Nat.zero_le _⟩ (fun H locs hP hS => ?_)
  have hD : va_D A (jW cI g P n st sm gr co en la ++ jY cI cO g ro ca qu ++ jRI cI 16 16 ro rm ++ jC g rf) := jxD hD0 rfl
  refine lv_iload_n hx hb dX6_between_10 rfl (lv_at hl 1 rfl) ?_
  refine lv_iload_n hx hb dX6_between_11 rfl (lv_at hl 2 rfl) ?_
  refine jxw_callSv (X := jW cI g P n st sm gr co en la ++ jY cI cO g ro ca qu ++ jRI cI 16 16 ro rm ++ jC g rf) (X' := jW cI g P n st sm gr co en la ++ jY cI cO g ro ca qu ++ jRI cI 16 16 ro rm ++ jC g rf) (wc := []) (wc' := []) (wr := jW cI g P n st sm gr co en la ++ jY cI cO g ro ca qu ++ jRI cI 16 16 ro rm ++ jC g rf) (N := 27) (As := [.int (nI a), .int (nI o)]) (rest := []) ⟨hx, hb, hml, hown, hts⟩ (c_X6_demandUnlike l D g H.size a o hao (by omega) (by omega)) (va_cwS 2 hts gX6_between_X6_demandUnlike rfl rfl rfl (by decide +kernel) ⟨Nat.le_of_ble_eq_true rfl, Nat.le_of_ble_eq_true rfl⟩) hN hP hD (hK.sub (tys' := []) [] rfl) hS hA [] [0, 1, 2, 3, 4, 5, 6, 7, 8, 9, 10, 11, 12, 13, 14, 15, 16, 17, 18, 19, 20, 21, 22, 23, 24, 25, 26] rfl rfl rfl rfl rfl rfl (by decide) (by decide) rfl hl.1 rfl (Nat.le_of_ble_eq_true rfl) dX6_between_12 ⟨Nat.zero_le _, Nat.zero_le _⟩ (fun H locs hP hS => ?_)
  have hD : va_D A (jW cI g P n st sm gr co en la ++ jY cI cO g ro ca qu ++ jRI cI 16 16 ro rm ++ jC g rf) := jxD hD0 rfl
  refine lv_iload_n hx hb dX6_between_15 rfl (lv_at hl 3 rfl) ?_
  refine lv_iconst (v := nI 5) hx hb dX6_between_16 (by decide) ?_
  refine jxw_callSv (X := jW cI g P n st sm gr co en la ++ jY cI cO g ro ca qu ++ jRI cI 16 16 ro rm ++ jC g rf) (X' := jW cI g P n st sm gr co en la ++ jY cI cO g ro ca qu ++ jRI cI 16 16 ro rm ++ jC g rf) (wc := []) (wc' := []) (wr := jW cI g P n st sm gr co en la ++ jY cI cO g ro ca qu ++ jRI cI 16 16 ro rm ++ jC g rf) (N := 27) (As := [.int (nI 4), .int (nI 5)]) (rest := []) ⟨hx, hb, hml, hown, hts⟩ (c_X6_demandWhat l D g H.size 4 5 (by omega) (by omega)) (va_cwS 2 hts gX6_between_X6_demandWhat rfl rfl rfl (by decide +kernel) ⟨Nat.le_of_ble_eq_true rfl, Nat.le_of_ble_eq_true rfl⟩) hN hP hD (hK.sub (tys' := []) [] rfl) hS hA [] [0, 1, 2, 3, 4, 5, 6, 7, 8, 9, 10, 11, 12, 13, 14, 15, 16, 17, 18, 19, 20, 21, 22, 23, 24, 25, 26] rfl rfl rfl rfl rfl rfl (by decide) (by decide) rfl hl.1 rfl (Nat.le_of_ble_eq_true rfl) dX6_between_17 ⟨Nat.zero_le _, Nat.zero_le _⟩ (fun H locs hP hS => ?_)
  have hD : va_D A (jW cI g P n st sm gr co en la ++ jY cI cO g ro ca qu ++ jRI cI 16 16 ro rm ++ jC g rf) := jxD hD0 rfl
  refine lv_iload_n hx hb dX6_between_20 rfl (lv_at hl 3 rfl) ?_
  refine lv_tableIn (off := 75) (tgt := 96) hx hb dX6_between_21 (by decide +kernel) (by decide +kernel) (by decide +kernel) (by decide) ?_
  refine lv_aload_n hx hb dX6_between_96 rfl (lv_at hl 0 rfl) ?_
  refine va_get (D := D) (ci := 6) (v := .ref (g 20)) (C := RX6) (T := TX6) (N := 7) hx hb hts in_X6_between_6 hown hK hP 26 rfl rfl 2 (by decide) (hts (.fieldLink RX6 28 "Twincuts" "ways" "LTwincuts$Ways;") (List.mem_of_getElem? (i := 1) (by decide +kernel))) (fun _ h9 => h9) rfl dX6_between_97 ?_
  refine lv_iload_n hx hb dX6_between_100 rfl (lv_at hl 1 rfl) ?_
  refine lv_iload_n hx hb dX6_between_101 rfl (lv_at hl 2 rfl) ?_
  refine jx_callV (As := [.int (nI a), .int (nI o)]) (rest := []) ⟨hx, hb, hml, hown, hts⟩ (c_X4_side l D cI cO g P n st sm gr co en la ro ca qu hw a o (by omega) (by omega)) (cwV 2 hts gX6_between_X4_side rfl rfl rfl (by decide +kernel) ⟨Nat.le_of_ble_eq_true rfl, Nat.le_of_ble_eq_true rfl⟩) hN (hP.sub (ws' := jW cI g P n st sm gr co en la ++ jY cI cO g ro ca qu) [0, 1, 2, 3, 4, 5, 6, 7, 8, 9] rfl) (hK.sub (tys' := [(cI, .int), (cO, .array .int)]) [0, 1] rfl) 6 4 rfl rfl rfl rfl hl.1 rfl (Nat.le_of_ble_eq_true rfl) dX6_between_102 ⟨Nat.zero_le _, Nat.zero_le _⟩ (fun r hr => ?_)
  subst hr
  have ev_1 : ca = (jmBs sm gr P n st a o 4 rm ca qu).2.1 := by rfl
  have ev_2 : qu = (jmBs sm gr P n st a o 4 rm ca qu).2.2 := by rfl
  have ev_3 : rm = (jmBs sm gr P n st a o 4 rm ca qu).1 := by rfl
  exact hQ (nI (jmSide la P st a o)) H locs _ _ dX6_between_105 rfl (by rw [← ev_1, ← ev_2, ← ev_3]; exact hP) hS
set_option maxHeartbeats 4000000 in
set_option maxRecDepth 100000 in
/-- between(one, other, what), asked 5 -/
theorem c_X6_between_5 (l : Launch) (D : va_G) (cI : ClassId) (cO : ClassId) (g : Nat → Nat) (P n st : Nat) (sm gr co en la : Nat → Nat) (ro : Nat → Nat) (ca : Nat → Int32) (qu : Nat → Nat) (rm : Nat → Nat → Int32) (rf : Int32) (sz : Nat) (hw : jmWF P n st sm gr co en la) (a o : Nat) (ha : a < P) (ho : o < P) (hao : a ≠ o) (hqu : ∀ j, j < 16 → qu j < 16) : jxWi l yX6_between wsX6_between ({ frames := 4, cells := 0, slots := 0, locals := 91 } : Room) D [(cI, .int), (cO, .array .int)] (jW cI g P n st sm gr co en la ++ jY cI cO g ro ca qu ++ jRI cI 16 16 ro rm ++ jC g rf) [.ref (g 60), .int (nI a), .int (nI o), .int (nI 5)] sz (fun r => r = jmBt sm gr en la P n st a o 5) (jW cI g P n st sm gr co en la ++ jY cI cO g ro ((jmBs sm gr P n st a o 5 rm ca qu).2.1) ((jmBs sm gr P n st a o 5 rm ca qu).2.2) ++ jRI cI 16 16 ro ((jmBs sm gr P n st a o 5 rm ca qu).1) ++ jC g rf) := by
  refine jxw_enter (by decide) rfl (Nat.le_of_ble_eq_true rfl) ?_
  intro p e s m args below meth c Q A ls hx hb hml hts hown hN hP hK hD hA hl hQ
  have hD0 := hD
  obtain ⟨H, hH⟩ : ∃ h, h = s.heap := ⟨_, rfl⟩
  have hS : va_S A s.heap H [] := by rw [hH]; exact va_S.rf
  rw [← hH] at hP ⊢
  obtain ⟨locs, hlocs⟩ : ∃ z : List Loc, z = [] := ⟨_, rfl⟩
  rw [← hlocs] at hS ⊢
  have hown : s.vm.findClass RX6 = some m.cls := hown
  have hl : lv_has ls 4 [(0, .ref (g 60)), (1, .int (nI a)), (2, .int (nI o)), (3, .int (nI 5))] := hl
  have hP8 : P ≤ 8 := hw.1
  have hn16 : n ≤ 16 := hw.2.1
  have hst : st < 65536 := jmWF_st hw
  have hen : ∀ j, j < n → en j < 256 := jmWF_en hw
  have hla : ∀ q, q < P → la q < 65536 := jmWF_la hw
  have hgr : ∀ j, j < n → sm j < 8 ∧ gr j < 8 := jmWF_gr hw
  have hco : ∀ j, j < n → co j < 21 := jmWF_co hw
  have hP1 := Nat.one_le_two_pow (n := P)
  have hP2 := jx_pow256 hP8
  have hsd : jmSide la P st a o < 2 ^ P := jmSideF_lt ha (Nat.le_refl _)
  refine lv_aload_n hx hb dX6_between_0 rfl (lv_at hl 0 rfl) ?_
  refine lv_iload_n hx hb dX6_between_1 rfl (lv_at hl 1 rfl) ?_
  refine jxw_callV (X := jW cI g P n st sm gr co en la ++ jY cI cO g ro ca qu ++ jRI cI 16 16 ro rm ++ jC g rf) (X' := jW cI g P n st sm gr co en la ++ jY cI cO g ro ca qu ++ jRI cI 16 16 ro rm ++ jC g rf) (wc := jW cI g P n st sm gr co en la ++ jC g rf) (wc' := jW cI g P n st sm gr co en la ++ jC g rf) (wr := jY cI cO g ro ca qu ++ jRI cI 16 16 ro rm) (N := 27) (As := [.int (nI a)]) (rest := []) ⟨hx, hb, hml, hown, hts⟩ (c_X6_demandPoint l D cI g P n st sm gr co en la rf H.size hw a (by omega)) (cwV 1 hts gX6_between_X6_demandPoint rfl rfl rfl (by decide +kernel) ⟨Nat.le_of_ble_eq_true rfl, Nat.le_of_ble_eq_true rfl⟩) hN hP hD (hK.sub (tys' := [(cI, .int)]) [0] rfl) hS hA [0, 1, 2, 3, 4, 5, 26] [6, 7, 8, 9, 10, 11, 12, 13, 14, 15, 16, 17, 18, 19, 20, 21, 22, 23, 24, 25] rfl rfl rfl rfl rfl rfl (by decide) (by decide) 26 6 rfl rfl rfl (hK.sub (tys' := [(cI, .int)]) [0] rfl) rfl hl.1 rfl (Nat.le_of_ble_eq_true rfl) dX6_between_2 ⟨Nat.zero_le _, Nat.zero_le _⟩ (fun H locs hP hS => ?_)
  have hD : va_D A (jW cI g P n st sm gr co en la ++ jY cI cO g ro ca qu ++ jRI cI 16 16 ro rm ++ jC g rf) := jxD hD0 rfl
  refine lv_aload_n hx hb dX6_between_5 rfl (lv_at hl 0 rfl) ?_
  refine lv_iload_n hx hb dX6_between_6 rfl (lv_at hl 2 rfl) ?_
  refine jxw_callV (X := jW cI g P n st sm gr co en la ++ jY cI cO g ro ca qu ++ jRI cI 16 16 ro rm ++ jC g rf) (X' := jW cI g P n st sm gr co en la ++ jY cI cO g ro ca qu ++ jRI cI 16 16 ro rm ++ jC g rf) (wc := jW cI g P n st sm gr co en la ++ jC g rf) (wc' := jW cI g P n st sm gr co en la ++ jC g rf) (wr := jY cI cO g ro ca qu ++ jRI cI 16 16 ro rm) (N := 27) (As := [.int (nI o)]) (rest := []) ⟨hx, hb, hml, hown, hts⟩ (c_X6_demandPoint l D cI g P n st sm gr co en la rf H.size hw o (by omega)) (cwV 1 hts gX6_between_X6_demandPoint rfl rfl rfl (by decide +kernel) ⟨Nat.le_of_ble_eq_true rfl, Nat.le_of_ble_eq_true rfl⟩) hN hP hD (hK.sub (tys' := [(cI, .int)]) [0] rfl) hS hA [0, 1, 2, 3, 4, 5, 26] [6, 7, 8, 9, 10, 11, 12, 13, 14, 15, 16, 17, 18, 19, 20, 21, 22, 23, 24, 25] rfl rfl rfl rfl rfl rfl (by decide) (by decide) 26 6 rfl rfl rfl (hK.sub (tys' := [(cI, .int)]) [0] rfl) rfl hl.1 rfl (Nat.le_of_ble_eq_true rfl) dX6_between_7 ⟨Nat.zero_le _, Nat.zero_le _⟩ (fun H locs hP hS => ?_)
  have hD : va_D A (jW cI g P n st sm gr co en la ++ jY cI cO g ro ca qu ++ jRI cI 16 16 ro rm ++ jC g rf) := jxD hD0 rfl
  refine lv_iload_n hx hb dX6_between_10 rfl (lv_at hl 1 rfl) ?_
  refine lv_iload_n hx hb dX6_between_11 rfl (lv_at hl 2 rfl) ?_
  refine jxw_callSv (X := jW cI g P n st sm gr co en la ++ jY cI cO g ro ca qu ++ jRI cI 16 16 ro rm ++ jC g rf) (X' := jW cI g P n st sm gr co en la ++ jY cI cO g ro ca qu ++ jRI cI 16 16 ro rm ++ jC g rf) (wc := []) (wc' := []) (wr := jW cI g P n st sm gr co en la ++ jY cI cO g ro ca qu ++ jRI cI 16 16 ro rm ++ jC g rf) (N := 27) (As := [.int (nI a), .int (nI o)]) (rest := []) ⟨hx, hb, hml, hown, hts⟩ (c_X6_demandUnlike l D g H.size a o hao (by omega) (by omega)) (va_cwS 2 hts gX6_between_X6_demandUnlike rfl rfl rfl (by decide +kernel) ⟨Nat.le_of_ble_eq_true rfl, Nat.le_of_ble_eq_true rfl⟩) hN hP hD (hK.sub (tys' := []) [] rfl) hS hA [] [0, 1, 2, 3, 4, 5, 6, 7, 8, 9, 10, 11, 12, 13, 14, 15, 16, 17, 18, 19, 20, 21, 22, 23, 24, 25, 26] rfl rfl rfl rfl rfl rfl (by decide) (by decide) rfl hl.1 rfl (Nat.le_of_ble_eq_true rfl) dX6_between_12 ⟨Nat.zero_le _, Nat.zero_le _⟩ (fun H locs hP hS => ?_)
  have hD : va_D A (jW cI g P n st sm gr co en la ++ jY cI cO g ro ca qu ++ jRI cI 16 16 ro rm ++ jC g rf) := jxD hD0 rfl
  refine lv_iload_n hx hb dX6_between_15 rfl (lv_at hl 3 rfl) ?_
  refine lv_iconst (v := nI 5) hx hb dX6_between_16 (by decide) ?_
  refine jxw_callSv (X := jW cI g P n st sm gr co en la ++ jY cI cO g ro ca qu ++ jRI cI 16 16 ro rm ++ jC g rf) (X' := jW cI g P n st sm gr co en la ++ jY cI cO g ro ca qu ++ jRI cI 16 16 ro rm ++ jC g rf) (wc := []) (wc' := []) (wr := jW cI g P n st sm gr co en la ++ jY cI cO g ro ca qu ++ jRI cI 16 16 ro rm ++ jC g rf) (N := 27) (As := [.int (nI 5), .int (nI 5)]) (rest := []) ⟨hx, hb, hml, hown, hts⟩ (c_X6_demandWhat l D g H.size 5 5 (by omega) (by omega)) (va_cwS 2 hts gX6_between_X6_demandWhat rfl rfl rfl (by decide +kernel) ⟨Nat.le_of_ble_eq_true rfl, Nat.le_of_ble_eq_true rfl⟩) hN hP hD (hK.sub (tys' := []) [] rfl) hS hA [] [0, 1, 2, 3, 4, 5, 6, 7, 8, 9, 10, 11, 12, 13, 14, 15, 16, 17, 18, 19, 20, 21, 22, 23, 24, 25, 26] rfl rfl rfl rfl rfl rfl (by decide) (by decide) rfl hl.1 rfl (Nat.le_of_ble_eq_true rfl) dX6_between_17 ⟨Nat.zero_le _, Nat.zero_le _⟩ (fun H locs hP hS => ?_)
  have hD : va_D A (jW cI g P n st sm gr co en la ++ jY cI cO g ro ca qu ++ jRI cI 16 16 ro rm ++ jC g rf) := jxD hD0 rfl
  refine lv_iload_n hx hb dX6_between_20 rfl (lv_at hl 3 rfl) ?_
  refine lv_tableOut (tgt := 106) hx hb dX6_between_21 (by decide +kernel) (by decide) ?_
  refine lv_aload_n hx hb dX6_between_106 rfl (lv_at hl 0 rfl) ?_
  refine va_get (D := D) (ci := 6) (v := .ref (g 0)) (C := RX6) (T := TX6) (N := 7) hx hb hts in_X6_between_6 hown hK hP 26 rfl rfl 0 (by decide) (hts (.fieldLink RX6 10 "Twincuts" "web" "LTwincuts$Web;") (List.mem_of_getElem? (i := 2) (by decide +kernel))) (fun _ h9 => h9) rfl dX6_between_107 ?_
  refine lv_aload_n hx hb dX6_between_110 rfl (lv_at hl 0 rfl) ?_
  refine va_get (D := D) (ci := 6) (v := .ref (g 20)) (C := RX6) (T := TX6) (N := 7) hx hb hts in_X6_between_6 hown hK hP 26 rfl rfl 2 (by decide) (hts (.fieldLink RX6 28 "Twincuts" "ways" "LTwincuts$Ways;") (List.mem_of_getElem? (i := 1) (by decide +kernel))) (fun _ h9 => h9) rfl dX6_between_111 ?_
  refine lv_iload_n hx hb dX6_between_114 rfl (lv_at hl 1 rfl) ?_
  refine lv_iload_n hx hb dX6_between_115 rfl (lv_at hl 2 rfl) ?_
  refine jx_callV (As := [.int (nI a), .int (nI o)]) (rest := [.ref (g 0)]) ⟨hx, hb, hml, hown, hts⟩ (c_X4_side l D cI cO g P n st sm gr co en la ro ca qu hw a o (by omega) (by omega)) (cwV 2 hts gX6_between_X4_side rfl rfl rfl (by decide +kernel) ⟨Nat.le_of_ble_eq_true rfl, Nat.le_of_ble_eq_true rfl⟩) hN (hP.sub (ws' := jW cI g P n st sm gr co en la ++ jY cI cO g ro ca qu) [0, 1, 2, 3, 4, 5, 6, 7, 8, 9] rfl) (hK.sub (tys' := [(cI, .int), (cO, .array .int)]) [0, 1] rfl) 6 4 rfl rfl rfl rfl hl.1 rfl (Nat.le_of_ble_eq_true rfl) dX6_between_116 ⟨Nat.zero_le _, Nat.zero_le _⟩ (fun r hr => ?_)
  subst hr
  refine jx_callV (As := [.int (nI (jmSide la P st a o))]) (rest := []) ⟨hx, hb, hml, hown, hts⟩ (c_X5_linesOutOf l D cI g P n st sm gr co en la hw (jmSide la P st a o) (by omega)) (cwV 1 hts gX6_between_X5_linesOutOf rfl rfl rfl (by decide +kernel) ⟨Nat.le_of_ble_eq_true rfl, Nat.le_of_ble_eq_true rfl⟩) hN (hP.sub (ws' := jW cI g P n st sm gr co en la) [0, 1, 2, 3, 4, 5] rfl) (hK.sub (tys' := [(cI, .int)]) [0] rfl) 0 5 rfl rfl rfl rfl hl.1 rfl (Nat.le_of_ble_eq_true rfl) dX6_between_119 ⟨Nat.zero_le _, Nat.zero_le _⟩ (fun r hr => ?_)
  subst hr
  have ev_1 : ca = (jmBs sm gr P n st a o 5 rm ca qu).2.1 := by rfl
  have ev_2 : qu = (jmBs sm gr P n st a o 5 rm ca qu).2.2 := by rfl
  have ev_3 : rm = (jmBs sm gr P n st a o 5 rm ca qu).1 := by rfl
  exact hQ (nI (jmOut la st (jmSide la P st a o) P)) H locs _ _ dX6_between_122 rfl (by rw [← ev_1, ← ev_2, ← ev_3]; exact hP) hS
/-- between(one, other, what), whatever is asked -/
theorem c_X6_between (l : Launch) (D : va_G) (cI : ClassId) (cO : ClassId) (g : Nat → Nat) (P n st : Nat) (sm gr co en la : Nat → Nat) (ro : Nat → Nat) (ca : Nat → Int32) (qu : Nat → Nat) (rm : Nat → Nat → Int32) (rf : Int32) (sz : Nat) (hw : jmWF P n st sm gr co en la) (a o : Nat) (ha : a < P) (ho : o < P) (hao : a ≠ o) (hqu : ∀ j, j < 16 → qu j < 16) (w : Nat) (hw9 : w ≤ 5) : jxWi l yX6_between wsX6_between ({ frames := 4, cells := 0, slots := 0, locals := 91 } : Room) D [(cI, .int), (cO, .array .int)] (jW cI g P n st sm gr co en la ++ jY cI cO g ro ca qu ++ jRI cI 16 16 ro rm ++ jC g rf) [.ref (g 60), .int (nI a), .int (nI o), .int (nI w)] sz (fun r => r = jmBt sm gr en la P n st a o w) (jW cI g P n st sm gr co en la ++ jY cI cO g ro ((jmBs sm gr P n st a o w rm ca qu).2.1) ((jmBs sm gr P n st a o w rm ca qu).2.2) ++ jRI cI 16 16 ro ((jmBs sm gr P n st a o w rm ca qu).1) ++ jC g rf) := by
  have h9 : w = 0 ∨ w = 1 ∨ w = 2 ∨ w = 3 ∨ w = 4 ∨ w = 5 := by omega
  rcases h9 with rfl | rfl | rfl | rfl | rfl | rfl
  · exact c_X6_between_0 l D cI cO g P n st sm gr co en la ro ca qu rm rf sz hw a o ha ho hao hqu
  · exact c_X6_between_1 l D cI cO g P n st sm gr co en la ro ca qu rm rf sz hw a o ha ho hao hqu
  · exact c_X6_between_2 l D cI cO g P n st sm gr co en la ro ca qu rm rf sz hw a o ha ho hao hqu
  · exact c_X6_between_3 l D cI cO g P n st sm gr co en la ro ca qu rm rf sz hw a o ha ho hao hqu
  · exact c_X6_between_4 l D cI cO g P n st sm gr co en la ro ca qu rm rf sz hw a o ha ho hao hqu
  · exact c_X6_between_5 l D cI cO g P n st sm gr co en la ro ca qu rm rf sz hw a o ha ho hao hqu
set_option maxRecDepth 20000 in
theorem in_X6_pair_6 : ∀ w ∈ wsX60, w ∈ wsX6_pair := by decide +kernel
set_option maxRecDepth 20000 in
theorem in_X6_pair_1 : ∀ w ∈ wsX10, w ∈ wsX6_pair := by decide +kernel
set_option maxHeartbeats 4000000 in
set_option maxRecDepth 100000 in
/-- pair(nth, isGreater) -/
theorem c_X6_pair (l : Launch) (D : va_G) (cI : ClassId) (g : Nat → Nat) (fp fb fc fk fq ft : Nat) (pa ps fi : Nat → Nat) (bl : Nat → Int32) (sp gp sw gw : Nat → Nat) (rf : Int32) (sz : Nat) (k7 : Nat) (gt : Bool) (hk7 : k7 < 2 ^ 31) (hf : fq ≤ 28) : jxWi l yX6_pair wsX6_pair ({ frames := 1, cells := 0, slots := 0, locals := 22 } : Room) D [(cI, .int)] (jF cI g fp fb fc fk fq ft pa ps fi bl sp gp sw gw ++ jC g rf) [.ref (g 60), .int (nI k7), .int (nI (jB gt))] sz (fun r => r = jmPV fq sp gp k7 gt) (jF cI g fp fb fc fk fq ft pa ps fi bl sp gp sw gw ++ jC g rf) := by
  refine jxw_enter (by decide) rfl (Nat.le_of_ble_eq_true rfl) ?_
  intro p e s m args below meth c Q A ls hx hb hml hts hown hN hP hK hD hA hl hQ
  have hD0 := hD
  obtain ⟨H, hH⟩ : ∃ h, h = s.heap := ⟨_, rfl⟩
  have hS : va_S A s.heap H [] := by rw [hH]; exact va_S.rf
  rw [← hH] at hP ⊢
  obtain ⟨locs, hlocs⟩ : ∃ z : List Loc, z = [] := ⟨_, rfl⟩
  rw [← hlocs] at hS ⊢
  have hown : s.vm.findClass RX6 = some m.cls := hown
  have hl : lv_has ls 3 [(0, .ref (g 60)), (1, .int (nI k7)), (2, .int (nI (jB gt)))] := hl
  refine lv_iload_n hx hb dX6_pair_0 rfl (lv_at hl 1 rfl) ?_
  refine jxw_callSv (X := jF cI g fp fb fc fk fq ft pa ps fi bl sp gp sw gw ++ jC g rf) (X' := jF cI g fp fb fc fk fq ft pa ps fi bl sp gp sw gw ++ jC g rf) (wc := []) (wc' := []) (wr := jF cI g fp fb fc fk fq ft pa ps fi bl sp gp sw gw ++ jC g rf) (N := 10) (As := [.int (nI k7)]) (rest := []) ⟨hx, hb, hml, hown, hts⟩ (c_X6_demandNth l D g H.size k7 (by omega)) (va_cwS 1 hts gX6_pair_X6_demandNth rfl rfl rfl (by decide +kernel) ⟨Nat.le_of_ble_eq_true rfl, Nat.le_of_ble_eq_true rfl⟩) hN hP hD (hK.sub (tys' := []) [] rfl) hS hA [] [0, 1, 2, 3, 4, 5, 6, 7, 8, 9] rfl rfl rfl rfl rfl rfl (by decide) (by decide) rfl hl.1 rfl (Nat.le_of_ble_eq_true rfl) dX6_pair_1 ⟨Nat.zero_le _, Nat.zero_le _⟩ (fun H locs hP hS => ?_)
  have hD : va_D A (jF cI g fp fb fc fk fq ft pa ps fi bl sp gp sw gw ++ jC g rf) := jxD hD0 rfl
  refine lv_aload_n hx hb dX6_pair_4 rfl (lv_at hl 0 rfl) ?_
  refine va_get (D := D) (ci := 6) (v := .ref (g 10)) (C := RX6) (T := TX6) (N := 7) hx hb hts in_X6_pair_6 hown hK hP 9 rfl rfl 1 (by decide) (hts (.fieldLink RX6 21 "Twincuts" "falls" "LTwincuts$Falls;") (List.mem_of_getElem? (i := 1) (by decide +kernel))) (fun _ h9 => h9) rfl dX6_pair_5 ?_
  refine lv_iload_n hx hb dX6_pair_8 rfl (lv_at hl 1 rfl) ?_
  refine lv_iload_n hx hb dX6_pair_9 rfl (lv_at hl 2 rfl) ?_
  refine jx_callV (As := [.int (nI k7), .int (nI (jB gt))]) (rest := []) ⟨hx, hb, hml, hown, hts⟩ (c_X1_pairPoint l D cI g fp fb fc fk fq ft pa ps fi bl sp gp sw gw k7 gt (by omega) (by omega)) (cwV 2 hts gX6_pair_X1_pairPoint rfl rfl rfl (by decide +kernel) ⟨Nat.le_of_ble_eq_true rfl, Nat.le_of_ble_eq_true rfl⟩) hN (hP.sub (ws' := jF cI g fp fb fc fk fq ft pa ps fi bl sp gp sw gw) [0, 1, 2, 3, 4, 5, 6, 7, 8] rfl) (hK.sub (tys' := [(cI, .int)]) [0] rfl) 0 1 rfl rfl rfl rfl hl.1 rfl (Nat.le_of_ble_eq_true rfl) dX6_pair_10 ⟨Nat.zero_le _, Nat.zero_le _⟩ (fun r hr => ?_)
  subst hr
  exact hQ (if k7 < fq then (if gt = true then nI (gp k7) else nI (sp k7)) else -1) H locs _ _ dX6_pair_13 rfl hP hS
set_option maxRecDepth 20000 in
theorem in_X6_twin_6 : ∀ w ∈ wsX60, w ∈ wsX6_twin := by decide +kernel
set_option maxRecDepth 20000 in
theorem in_X6_twin_1 : ∀ w ∈ wsX10, w ∈ wsX6_twin := by decide +kernel
set_option maxHeartbeats 4000000 in
set_option maxRecDepth 100000 in
/-- twin(nth, isGreater) -/
theorem c_X6_twin (l : Launch) (D : va_G) (cI : ClassId) (g : Nat → Nat) (fp fb fc fk fq ft : Nat) (pa ps fi : Nat → Nat) (bl : Nat → Int32) (sp gp sw gw : Nat → Nat) (rf : Int32) (sz : Nat) (k7 : Nat) (gt : Bool) (hk7 : k7 < 2 ^ 31) (hf : ft ≤ 120) : jxWi l yX6_twin wsX6_twin ({ frames := 1, cells := 0, slots := 0, locals := 22 } : Room) D [(cI, .int)] (jF cI g fp fb fc fk fq ft pa ps fi bl sp gp sw gw ++ jC g rf) [.ref (g 60), .int (nI k7), .int (nI (jB gt))] sz (fun r => r = jmPV ft sw gw k7 gt) (jF cI g fp fb fc fk fq ft pa ps fi bl sp gp sw gw ++ jC g rf) := by
  refine jxw_enter (by decide) rfl (Nat.le_of_ble_eq_true rfl) ?_
  intro p e s m args below meth c Q A ls hx hb hml hts hown hN hP hK hD hA hl hQ
  have hD0 := hD
  obtain ⟨H, hH⟩ : ∃ h, h = s.heap := ⟨_, rfl⟩
  have hS : va_S A s.heap H [] := by rw [hH]; exact va_S.rf
  rw [← hH] at hP ⊢
  obtain ⟨locs, hlocs⟩ : ∃ z : List Loc, z = [] := ⟨_, rfl⟩
  rw [← hlocs] at hS ⊢
  have hown : s.vm.findClass RX6 = some m.cls := hown
  have hl : lv_has ls 3 [(0, .ref (g 60)), (1, .int (nI k7)), (2, .int (nI (jB gt)))] := hl
  refine lv_iload_n hx hb dX6_twin_0 rfl (lv_at hl 1 rfl) ?_
  refine jxw_callSv (X := jF cI g fp fb fc fk fq ft pa ps fi bl sp gp sw gw ++ jC g rf) (X' := jF cI g fp fb fc fk fq ft pa ps fi bl sp gp sw gw ++ jC g rf) (wc := []) (wc' := []) (wr := jF cI g fp fb fc fk fq ft pa ps fi bl sp gp sw gw ++ jC g rf) (N := 10) (As := [.int (nI k7)]) (rest := []) ⟨hx, hb, hml, hown, hts⟩ (c_X6_demandNth l D g H.size k7 (by omega)) (va_cwS 1 hts gX6_twin_X6_demandNth rfl rfl rfl (by decide +kernel) ⟨Nat.le_of_ble_eq_true rfl, Nat.le_of_ble_eq_true rfl⟩) hN hP hD (hK.sub (tys' := []) [] rfl) hS hA [] [0, 1, 2, 3, 4, 5, 6, 7, 8, 9] rfl rfl rfl rfl rfl rfl (by decide) (by decide) rfl hl.1 rfl (Nat.le_of_ble_eq_true rfl) dX6_twin_1 ⟨Nat.zero_le _, Nat.zero_le _⟩ (fun H locs hP hS => ?_)
  have hD : va_D A (jF cI g fp fb fc fk fq ft pa ps fi bl sp gp sw gw ++ jC g rf) := jxD hD0 rfl
  refine lv_aload_n hx hb dX6_twin_4 rfl (lv_at hl 0 rfl) ?_
  refine va_get (D := D) (ci := 6) (v := .ref (g 10)) (C := RX6) (T := TX6) (N := 7) hx hb hts in_X6_twin_6 hown hK hP 9 rfl rfl 1 (by decide) (hts (.fieldLink RX6 21 "Twincuts" "falls" "LTwincuts$Falls;") (List.mem_of_getElem? (i := 1) (by decide +kernel))) (fun _ h9 => h9) rfl dX6_twin_5 ?_
  refine lv_iload_n hx hb dX6_twin_8 rfl (lv_at hl 1 rfl) ?_
  refine lv_iload_n hx hb dX6_twin_9 rfl (lv_at hl 2 rfl) ?_
  refine jx_callV (As := [.int (nI k7), .int (nI (jB gt))]) (rest := []) ⟨hx, hb, hml, hown, hts⟩ (c_X1_twinLine l D cI g fp fb fc fk fq ft pa ps fi bl sp gp sw gw k7 gt (by omega) (by omega)) (cwV 2 hts gX6_twin_X1_twinLine rfl rfl rfl (by decide +kernel) ⟨Nat.le_of_ble_eq_true rfl, Nat.le_of_ble_eq_true rfl⟩) hN (hP.sub (ws' := jF cI g fp fb fc fk fq ft pa ps fi bl sp gp sw gw) [0, 1, 2, 3, 4, 5, 6, 7, 8] rfl) (hK.sub (tys' := [(cI, .int)]) [0] rfl) 0 1 rfl rfl rfl rfl hl.1 rfl (Nat.le_of_ble_eq_true rfl) dX6_twin_10 ⟨Nat.zero_le _, Nat.zero_le _⟩ (fun r hr => ?_)
  subst hr
  exact hQ (if k7 < ft then (if gt = true then nI (gw k7) else nI (sw k7)) else -1) H locs _ _ dX6_twin_13 rfl hP hS
set_option maxRecDepth 20000 in
theorem in_X6_trees_6 : ∀ w ∈ wsX60, w ∈ wsX6_trees := by decide +kernel
set_option maxRecDepth 20000 in
theorem in_X6_trees_2 : ∀ w ∈ wsX20, w ∈ wsX6_trees := by decide +kernel
set_option maxRecDepth 20000 in
theorem in_X6_trees_5 : ∀ w ∈ wsX50, w ∈ wsX6_trees := by decide +kernel
set_option maxHeartbeats 4000000 in
set_option maxRecDepth 100000 in
/-- trees() -/
theorem c_X6_trees (l : Launch) (D : va_G) (cI : ClassId) (cM : ClassId) (cL : ClassId) (g : Nat → Nat) (P n st : Nat) (sm gr co en la : Nat → Nat) (rt : Nat → Nat) (cs : Nat) (ct : Int32) (jo : Nat → Nat) (tb : Nat → Nat → Int64) (rf : Int32) (sz : Nat) (hw : jmWF P n st sm gr co en la)  : jxWl l yX6_trees wsX6_trees ({ frames := 3, cells := 0, slots := 0, locals := 64 } : Room) D [(cI, .int), (cM, .array .long), (cL, .long)] (jW cI g P n st sm gr co en la ++ jT cI cM g rt cs ct jo ++ jRL cL 8 8 rt tb ++ jC g rf) [.ref (g 60)] sz (fun r => r = (jmTrees sm gr P n st).1) (jW cI g P n st sm gr co en la ++ jT cI cM g rt cs ct jo ++ jRL cL 8 8 rt ((jmTrees sm gr P n st).2) ++ jC g rf) := by
  refine jxw_enterL (by decide) rfl (Nat.le_of_ble_eq_true rfl) ?_
  intro p e s m args below meth c Q A ls hx hb hml hts hown hN hP hK hD hA hl hQ
  have hD0 := hD
  obtain ⟨H, hH⟩ : ∃ h, h = s.heap := ⟨_, rfl⟩
  have hS : va_S A s.heap H [] := by rw [hH]; exact va_S.rf
  rw [← hH] at hP ⊢
  obtain ⟨locs, hlocs⟩ : ∃ z : List Loc, z = [] := ⟨_, rfl⟩
  rw [← hlocs] at hS ⊢
  have hown : s.vm.findClass RX6 = some m.cls := hown
  have hl : lv_has ls 1 [(0, .ref (g 60))] := hl
  have hP8 : P ≤ 8 := hw.1
  have hn16 : n ≤ 16 := hw.2.1
  have hst : st < 65536 := jmWF_st hw
  have hen : ∀ j, j < n → en j < 256 := jmWF_en hw
  have hla : ∀ q, q < P → la q < 65536 := jmWF_la hw
  have hgr : ∀ j, j < n → sm j < 8 ∧ gr j < 8 := jmWF_gr hw
  have hco : ∀ j, j < n → co j < 21 := jmWF_co hw
  refine lv_aload_n hx hb dX6_trees_0 rfl (lv_at hl 0 rfl) ?_
  refine va_get (D := D) (ci := 6) (v := .ref (g 30)) (C := RX6) (T := TX6) (N := 7) hx hb hts in_X6_trees_6 hown hK hP 17 rfl rfl 3 (by decide) (hts (.fieldLink RX6 35 "Twincuts" "forest" "LTwincuts$Forest;") (List.mem_of_getElem? (i := 1) (by decide +kernel))) (fun _ h9 => h9) rfl dX6_trees_1 ?_
  refine jxw_callVl (X := jW cI g P n st sm gr co en la ++ jT cI cM g rt cs ct jo ++ jRL cL 8 8 rt tb ++ jC g rf) (X' := jW cI g P n st sm gr co en la ++ jT cI cM g rt cs ct jo ++ jRL cL 8 8 rt ((jmTrees sm gr P n st).2) ++ jC g rf) (wc := jW cI g P n st sm gr co en la ++ jT cI cM g rt cs ct jo ++ jRL cL 8 8 rt tb) (wc' := jW cI g P n st sm gr co en la ++ jT cI cM g rt cs ct jo ++ jRL cL 8 8 rt ((jmTrees sm gr P n st).2)) (wr := jC g rf) (N := 18) (As := []) (rest := []) ⟨hx, hb, hml, hown, hts⟩ (c_X2_countTrees l D cI cM cL g P n st sm gr co en la rt cs ct jo tb H.size hw) (cwV 0 hts gX6_trees_X2_countTrees rfl rfl rfl (by decide +kernel) ⟨Nat.le_of_ble_eq_true rfl, Nat.le_of_ble_eq_true rfl⟩) hN hP hD (hK.sub (tys' := [(cI, .int), (cM, .array .long), (cL, .long)]) [0, 1, 2] rfl) hS hA [0, 1, 2, 3, 4, 5, 6, 7, 8, 9, 10, 11, 12, 13, 14, 15, 16] [17] rfl rfl rfl rfl rfl rfl (by decide) (by decide) 6 2 rfl rfl rfl (hK.sub (tys' := [(cI, .int), (cM, .array .long), (cL, .long)]) [0, 1, 2] rfl) rfl hl.1 rfl (Nat.le_of_ble_eq_true rfl) dX6_trees_4 ⟨Nat.zero_le _, Nat.zero_le _⟩ (fun r H locs hr hP hS => ?_)
  have hD : va_D A (jW cI g P n st sm gr co en la ++ jT cI cM g rt cs ct jo ++ jRL cL 8 8 rt ((jmTrees sm gr P n st).2) ++ jC g rf) := jxD hD0 rfl
  subst hr
  exact hQ ((jmTrees sm gr P n st).1) H locs _ _ dX6_trees_7 rfl hP hS
set_option maxRecDepth 20000 in
theorem in_X6_without_6 : ∀ w ∈ wsX60, w ∈ wsX6_without := by decide +kernel
set_option maxRecDepth 20000 in
theorem in_X6_without_5 : ∀ w ∈ wsX50, w ∈ wsX6_without := by decide +kernel
set_option maxHeartbeats 4000000 in
set_option maxRecDepth 100000 in
/-- without(points, lines) -/
theorem c_X6_without (l : Launch) (D : va_G) (cI : ClassId) (g : Nat → Nat) (P n st : Nat) (sm gr co en la : Nat → Nat) (rf : Int32) (sz : Nat) (hw : jmWF P n st sm gr co en la) (S L : Nat) (hS7 : S < 2 ^ P) (hL7 : L < 2 ^ n) : jxWi l yX6_without wsX6_without ({ frames := 2, cells := 0, slots := 0, locals := 53 } : Room) D [(cI, .int)] (jW cI g P n st sm gr co en la ++ jC g rf) [.ref (g 60), .int (nI S), .int (nI L)] sz (fun r => r = nI (jmCPc en (jxAN (2 ^ P - 1) S) (jxAN st L) n P)) (jW cI g P n st sm gr co en la ++ jC g rf) := by
  refine jxw_enter (by decide) rfl (Nat.le_of_ble_eq_true rfl) ?_
  intro p e s m args below meth c Q A ls hx hb hml hts hown hN hP hK hD hA hl hQ
  have hD0 := hD
  obtain ⟨H, hH⟩ : ∃ h, h = s.heap := ⟨_, rfl⟩
  have hS : va_S A s.heap H [] := by rw [hH]; exact va_S.rf
  rw [← hH] at hP ⊢
  obtain ⟨locs, hlocs⟩ : ∃ z : List Loc, z = [] := ⟨_, rfl⟩
  rw [← hlocs] at hS ⊢
  have hown : s.vm.findClass RX6 = some m.cls := hown
  have hl : lv_has ls 3 [(0, .ref (g 60)), (1, .int (nI S)), (2, .int (nI L))] := hl
  have hP8 : P ≤ 8 := hw.1
  have hn16 : n ≤ 16 := hw.2.1
  have hst : st < 65536 := jmWF_st hw
  have hen : ∀ j, j < n → en j < 256 := jmWF_en hw
  have hla : ∀ q, q < P → la q < 65536 := jmWF_la hw
  have hgr : ∀ j, j < n → sm j < 8 ∧ gr j < 8 := jmWF_gr hw
  have hco : ∀ j, j < n → co j < 21 := jmWF_co hw
  have hP2 := jx_pow256 hP8
  have hL2 : L < 65536 := Nat.lt_of_lt_of_le hL7 (Nat.pow_le_pow_right (n := 2) (by decide) hn16)
  refine lv_iload_n hx hb dX6_without_0 rfl (lv_at hl 1 rfl) ?_
  refine lv_aload_n hx hb dX6_without_1 rfl (lv_at hl 0 rfl) ?_
  refine va_get (D := D) (ci := 6) (v := .ref (g 0)) (C := RX6) (T := TX6) (N := 7) hx hb hts in_X6_without_6 hown hK hP 6 rfl rfl 0 (by decide) (hts (.fieldLink RX6 10 "Twincuts" "web" "LTwincuts$Web;") (List.mem_of_getElem? (i := 3) (by decide +kernel))) (fun _ h9 => h9) rfl dX6_without_2 ?_
  refine va_getN (D := D) (ci := 5) (v := .int (nI P)) (C := RX5) (T := TX5) (N := 8) hx hb hts in_X6_without_5 hown hK hP 0 rfl rfl 0 (by decide) (hN.use 0 rfl) (fun _ h9 => h9) rfl dX6_without_5 ?_
  refine lv_ishr hx hb dX6_without_8 ?_
  refine jx_val (z := (nI (S / 2 ^ P))) (jx_shr (by omega) (by omega)) ?_
  refine lv_if_eq (tgt := 22) hx hb dX6_without_9 (by decide) (fun c9 => ?_) (fun c9 => ?_)
  · have c9 : S / 2 ^ P = 0 := jx_z (Nat.lt_of_le_of_lt (Nat.div_le_self _ _) (by omega)) c9
    refine lv_iload_n hx hb dX6_without_22 rfl (lv_at hl 2 rfl) ?_
    refine lv_aload_n hx hb dX6_without_23 rfl (lv_at hl 0 rfl) ?_
    refine va_get (D := D) (ci := 6) (v := .ref (g 0)) (C := RX6) (T := TX6) (N := 7) hx hb hts in_X6_without_6 hown hK hP 6 rfl rfl 0 (by decide) (hts (.fieldLink RX6 10 "Twincuts" "web" "LTwincuts$Web;") (List.mem_of_getElem? (i := 3) (by decide +kernel))) (fun _ h9 => h9) rfl dX6_without_24 ?_
    refine va_getN (D := D) (ci := 5) (v := .int (nI n)) (C := RX5) (T := TX5) (N := 8) hx hb hts in_X6_without_5 hown hK hP 0 rfl rfl 1 (by decide) (hN.use 8 rfl) (fun _ h9 => h9) rfl dX6_without_27 ?_
    refine lv_ishr hx hb dX6_without_30 ?_
    refine jx_val (z := (nI (L / 2 ^ n))) (jx_shr (by omega) (by omega)) ?_
    refine lv_if_eq (tgt := 44) hx hb dX6_without_31 (by decide) (fun c31 => ?_) (fun c31 => ?_)
    · have c31 : L / 2 ^ n = 0 := jx_z (Nat.lt_of_le_of_lt (Nat.div_le_self _ _) (by omega)) c31
      refine lv_aload_n hx hb dX6_without_44 rfl (lv_at hl 0 rfl) ?_
      refine va_get (D := D) (ci := 6) (v := .ref (g 0)) (C := RX6) (T := TX6) (N := 7) hx hb hts in_X6_without_6 hown hK hP 6 rfl rfl 0 (by decide) (hts (.fieldLink RX6 10 "Twincuts" "web" "LTwincuts$Web;") (List.mem_of_getElem? (i := 3) (by decide +kernel))) (fun _ h9 => h9) rfl dX6_without_45 ?_
      refine lv_aload_n hx hb dX6_without_48 rfl (lv_at hl 0 rfl) ?_
      refine va_get (D := D) (ci := 6) (v := .ref (g 0)) (C := RX6) (T := TX6) (N := 7) hx hb hts in_X6_without_6 hown hK hP 6 rfl rfl 0 (by decide) (hts (.fieldLink RX6 10 "Twincuts" "web" "LTwincuts$Web;") (List.mem_of_getElem? (i := 3) (by decide +kernel))) (fun _ h9 => h9) rfl dX6_without_49 ?_
      refine jx_callV (As := []) (rest := [.ref (g 0)]) ⟨hx, hb, hml, hown, hts⟩ (c_X5_allPoints l D cI g P n st sm gr co en la hw ) (cwV 0 hts gX6_without_X5_allPoints rfl rfl rfl (by decide +kernel) ⟨Nat.le_of_ble_eq_true rfl, Nat.le_of_ble_eq_true rfl⟩) hN (hP.sub (ws' := jW cI g P n st sm gr co en la) [0, 1, 2, 3, 4, 5] rfl) (hK.sub (tys' := [(cI, .int)]) [0] rfl) 0 5 rfl rfl rfl rfl hl.1 rfl (Nat.le_of_ble_eq_true rfl) dX6_without_52 ⟨Nat.zero_le _, Nat.zero_le _⟩ (fun r hr => ?_)
      subst hr
      refine lv_iload_n hx hb dX6_without_55 rfl (lv_at hl 1 rfl) ?_
      refine lv_iconst (v := (-1)) hx hb dX6_without_56 (by decide) ?_
      refine lv_ixor hx hb dX6_without_57 ?_
      refine lv_iand hx hb dX6_without_58 ?_
      refine jx_val (z := (nI (jxAN (2 ^ P - 1) S))) (jx_not _ _) ?_
      refine lv_aload_n hx hb dX6_without_59 rfl (lv_at hl 0 rfl) ?_
      refine va_get (D := D) (ci := 6) (v := .ref (g 0)) (C := RX6) (T := TX6) (N := 7) hx hb hts in_X6_without_6 hown hK hP 6 rfl rfl 0 (by decide) (hts (.fieldLink RX6 10 "Twincuts" "web" "LTwincuts$Web;") (List.mem_of_getElem? (i := 3) (by decide +kernel))) (fun _ h9 => h9) rfl dX6_without_60 ?_
      refine va_getN (D := D) (ci := 5) (v := .int (nI st)) (C := RX5) (T := TX5) (N := 8) hx hb hts in_X6_without_5 hown hK hP 0 rfl rfl 2 (by decide) (hN.use 15 rfl) (fun _ h9 => h9) rfl dX6_without_63 ?_
      refine lv_iload_n hx hb dX6_without_66 rfl (lv_at hl 2 rfl) ?_
      refine lv_iconst (v := (-1)) hx hb dX6_without_67 (by decide) ?_
      refine lv_ixor hx hb dX6_without_68 ?_
      refine lv_iand hx hb dX6_without_69 ?_
      refine jx_val (z := (nI (jxAN st L))) (jx_not _ _) ?_
      refine jx_callV (As := [.int (nI (jxAN (2 ^ P - 1) S)), .int (nI (jxAN st L))]) (rest := []) ⟨hx, hb, hml, hown, hts⟩ (c_X5_countParts l D cI g P n st sm gr co en la hw (jxAN (2 ^ P - 1) S) (jxAN st L) (Nat.lt_trans (jxAN_lt (N := 256) (by omega)) (by decide)) (jxAN_lt hst)) (cwV 2 hts gX6_without_X5_countParts rfl rfl rfl (by decide +kernel) ⟨Nat.le_of_ble_eq_true rfl, Nat.le_of_ble_eq_true rfl⟩) hN (hP.sub (ws' := jW cI g P n st sm gr co en la) [0, 1, 2, 3, 4, 5] rfl) (hK.sub (tys' := [(cI, .int)]) [0] rfl) 0 5 rfl rfl rfl rfl hl.1 rfl (Nat.le_of_ble_eq_true rfl) dX6_without_70 ⟨Nat.zero_le _, Nat.zero_le _⟩ (fun r hr => ?_)
      subst hr
      exact hQ (nI (jmCPc en (jxAN (2 ^ P - 1) S) (jxAN st L) n P)) H locs _ _ dX6_without_73 rfl hP hS
    · have c31 : L / 2 ^ n ≠ 0 := jx_nz c31
      exact absurd (Nat.div_eq_of_lt hL7) c31
  · have c9 : S / 2 ^ P ≠ 0 := jx_nz c9
    exact absurd (Nat.div_eq_of_lt hS7) c9
set_option maxRecDepth 20000 in
theorem in_X6_wouldTurn_6 : ∀ w ∈ wsX60, w ∈ wsX6_wouldTurn := by decide +kernel
set_option maxRecDepth 20000 in
theorem in_X6_wouldTurn_5 : ∀ w ∈ wsX50, w ∈ wsX6_wouldTurn := by decide +kernel
set_option maxRecDepth 20000 in
theorem in_X6_wouldTurn_0 : ∀ w ∈ wsX00, w ∈ wsX6_wouldTurn := by decide +kernel
set_option maxHeartbeats 4000000 in
set_option maxRecDepth 100000 in
/-- wouldTurn(point) -/
theorem c_X6_wouldTurn (l : Launch) (D : va_G) (cI : ClassId) (cO : ClassId) (g : Nat → Nat) (P n st : Nat) (sm gr co en la : Nat → Nat) (rd le : Nat → Nat) (wk : Nat) (fa : Nat → Int32) (od : Nat → Nat → Nat) (rf : Int32) (sz : Nat) (hw : jmWF P n st sm gr co en la) (hdw : jmDW P n le od) (q : Nat) (hq : q < P) (hwk : wk ≤ 32) : jxWi l yX6_wouldTurn wsX6_wouldTurn ({ frames := 4, cells := 0, slots := 0, locals := 96 } : Room) D [(cI, .int), (cO, .array .int)] (jW cI g P n st sm gr co en la ++ jD cI cO g rd le wk fa ++ jRN cI 8 16 rd od ++ jC g rf) [.ref (g 60), .int (nI q)] sz (fun r => r = (jmBP sm gr la P n st le od q (wk + jmIso la st P) (le q)).1) (jW cI g P n st sm gr co en la ++ jD cI cO g rd le ((jmLn sm gr n st le od).1) ((jmLn sm gr n st le od).2) ++ jRN cI 8 16 rd od ++ jC g rf) := by
  refine jxw_enter (by decide) rfl (Nat.le_of_ble_eq_true rfl) ?_
  intro p e s m args below meth c Q A ls hx hb hml hts hown hN hP hK hD hA hl hQ
  have hD0 := hD
  obtain ⟨H, hH⟩ : ∃ h, h = s.heap := ⟨_, rfl⟩
  have hS : va_S A s.heap H [] := by rw [hH]; exact va_S.rf
  rw [← hH] at hP ⊢
  obtain ⟨locs, hlocs⟩ : ∃ z : List Loc, z = [] := ⟨_, rfl⟩
  rw [← hlocs] at hS ⊢
  have hown : s.vm.findClass RX6 = some m.cls := hown
  have hl : lv_has ls 2 [(0, .ref (g 60)), (1, .int (nI q))] := hl
  have hP8 : P ≤ 8 := hw.1
  have hn16 : n ≤ 16 := hw.2.1
  have hst : st < 65536 := jmWF_st hw
  have hen : ∀ j, j < n → en j < 256 := jmWF_en hw
  have hla : ∀ q, q < P → la q < 65536 := jmWF_la hw
  have hgr : ∀ j, j < n → sm j < 8 ∧ gr j < 8 := jmWF_gr hw
  have hco : ∀ j, j < n → co j < 21 := jmWF_co hw
  refine lv_aload_n hx hb dX6_wouldTurn_0 rfl (lv_at hl 0 rfl) ?_
  refine lv_iload_n hx hb dX6_wouldTurn_1 rfl (lv_at hl 1 rfl) ?_
  refine jxw_callV (X := jW cI g P n st sm gr co en la ++ jD cI cO g rd le wk fa ++ jRN cI 8 16 rd od ++ jC g rf) (X' := jW cI g P n st sm gr co en la ++ jD cI cO g rd le wk fa ++ jRN cI 8 16 rd od ++ jC g rf) (wc := jW cI g P n st sm gr co en la ++ jC g rf) (wc' := jW cI g P n st sm gr co en la ++ jC g rf) (wr := jD cI cO g rd le wk fa ++ jRN cI 8 16 rd od) (N := 19) (As := [.int (nI q)]) (rest := []) ⟨hx, hb, hml, hown, hts⟩ (c_X6_demandPoint l D cI g P n st sm gr co en la rf H.size hw q (by omega)) (cwV 1 hts gX6_wouldTurn_X6_demandPoint rfl rfl rfl (by decide +kernel) ⟨Nat.le_of_ble_eq_true rfl, Nat.le_of_ble_eq_true rfl⟩) hN hP hD (hK.sub (tys' := [(cI, .int)]) [0] rfl) hS hA [0, 1, 2, 3, 4, 5, 18] [6, 7, 8, 9, 10, 11, 12, 13, 14, 15, 16, 17] rfl rfl rfl rfl rfl rfl (by decide) (by decide) 18 6 rfl rfl rfl (hK.sub (tys' := [(cI, .int)]) [0] rfl) rfl hl.1 rfl (Nat.le_of_ble_eq_true rfl) dX6_wouldTurn_2 ⟨Nat.zero_le _, Nat.zero_le _⟩ (fun H locs hP hS => ?_)
  have hD : va_D A (jW cI g P n st sm gr co en la ++ jD cI cO g rd le wk fa ++ jRN cI 8 16 rd od ++ jC g rf) := jxD hD0 rfl
  refine lv_aload_n hx hb dX6_wouldTurn_5 rfl (lv_at hl 0 rfl) ?_
  refine va_get (D := D) (ci := 6) (v := .ref (g 50)) (C := RX6) (T := TX6) (N := 7) hx hb hts in_X6_wouldTurn_6 hown hK hP 18 rfl rfl 5 (by decide) (hts (.fieldLink RX6 49 "Twincuts" "drawing" "LTwincuts$Drawing;") (List.mem_of_getElem? (i := 1) (by decide +kernel))) (fun _ h9 => h9) rfl dX6_wouldTurn_6 ?_
  refine lv_iload_n hx hb dX6_wouldTurn_9 rfl (lv_at hl 1 rfl) ?_
  refine jxw_callVi (X := jW cI g P n st sm gr co en la ++ jD cI cO g rd le wk fa ++ jRN cI 8 16 rd od ++ jC g rf) (X' := jW cI g P n st sm gr co en la ++ jD cI cO g rd le ((jmLn sm gr n st le od).1) ((jmLn sm gr n st le od).2) ++ jRN cI 8 16 rd od ++ jC g rf) (wc := jW cI g P n st sm gr co en la ++ jD cI cO g rd le wk fa ++ jRN cI 8 16 rd od) (wc' := jW cI g P n st sm gr co en la ++ jD cI cO g rd le ((jmLn sm gr n st le od).1) ((jmLn sm gr n st le od).2) ++ jRN cI 8 16 rd od) (wr := jC g rf) (N := 19) (As := [.int (nI q)]) (rest := []) ⟨hx, hb, hml, hown, hts⟩ (c_X0_bestPlace l D cI cO g P n st sm gr co en la rd le wk fa od H.size hw hdw q (by omega) (by omega)) (cwV 1 hts gX6_wouldTurn_X0_bestPlace rfl rfl rfl (by decide +kernel) ⟨Nat.le_of_ble_eq_true rfl, Nat.le_of_ble_eq_true rfl⟩) hN hP hD (hK.sub (tys' := [(cI, .int), (cO, .array .int)]) [0, 1] rfl) hS hA [0, 1, 2, 3, 4, 5, 6, 7, 8, 9, 10, 11, 12, 13, 14, 15, 16, 17] [18] rfl rfl rfl rfl rfl rfl (by decide) (by decide) 6 0 rfl rfl rfl (hK.sub (tys' := [(cI, .int), (cO, .array .int)]) [0, 1] rfl) rfl hl.1 rfl (Nat.le_of_ble_eq_true rfl) dX6_wouldTurn_10 ⟨Nat.zero_le _, Nat.zero_le _⟩ (fun r H locs hr hP hS => ?_)
  have hD : va_D A (jW cI g P n st sm gr co en la ++ jD cI cO g rd le ((jmLn sm gr n st le od).1) ((jmLn sm gr n st le od).2) ++ jRN cI 8 16 rd od ++ jC g rf) := jxD hD0 rfl
  subst hr
  exact hQ ((jmBP sm gr la P n st le od q (wk + jmIso la st P) (le q)).1) H locs _ _ dX6_wouldTurn_13 rfl hP hS
