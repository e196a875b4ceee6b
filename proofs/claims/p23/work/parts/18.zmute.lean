set_option maxRecDepth 20000 in
theorem in_X6_turn_6 : ∀ w ∈ wsX60, w ∈ wsX6_turn := by decide +kernel
set_option maxRecDepth 20000 in
theorem in_X6_turn_5 : ∀ w ∈ wsX50, w ∈ wsX6_turn := by decide +kernel
set_option maxRecDepth 20000 in
theorem in_X6_turn_0 : ∀ w ∈ wsX00, w ∈ wsX6_turn := by decide +kernel
set_option maxHeartbeats 4000000 in
set_option maxRecDepth 100000 in
/-- turn(point, place), of a place that there is -/
theorem c_X6_turn (l : Launch) (D : va_G) (cI : ClassId) (cO : ClassId) (g : Nat → Nat) (P n st : Nat) (sm gr co en la : Nat → Nat) (rd le : Nat → Nat) (wk : Nat) (fa : Nat → Int32) (od : Nat → Nat → Nat) (rf : Int32) (sz : Nat) (hw : jmWF P n st sm gr co en la) (hox : jmOX P n sm gr le od) (q k7 : Nat) (hq : q < P) (hk7 : k7 < le q) : jxWi l yX6_turn wsX6_turn ({ frames := 3, cells := 0, slots := 0, locals := 72 } : Room) D [(cI, .int), (cO, .array .int)] (jW cI g P n st sm gr co en la ++ jD cI cO g rd le wk fa ++ jRN cI 8 16 rd od ++ jC g rf) [.ref (g 60), .int (nI q), .int (nI k7)] sz (fun r => ∃ v : Nat, v < 256 ∧ r = nI v) (jW cI g P n st sm gr co en la ++ jD cI cO g rd le ((jmLn sm gr n st le (jmSw (le q) od q k7)).1) ((jmLn sm gr n st le (jmSw (le q) od q k7)).2) ++ jRN cI 8 16 rd (jmSw (le q) od q k7) ++ jC g rf) := by
  refine jxw_enter (by decide) rfl (Nat.le_of_ble_eq_true rfl) ?_
  intro p e s m args below meth c Q A ls hx hb hml hts hown hN hP hK hD hA hl hQ
  have hD0 := hD
  obtain ⟨H, hH⟩ : ∃ h, h = s.heap := ⟨_, rfl⟩
  have hS : va_S A s.heap H [] := by rw [hH]; exact va_S.rf
  rw [← hH] at hP ⊢
  obtain ⟨locs, hlocs⟩ : ∃ z : List Loc, z = [] := ⟨_, rfl⟩
  rw [← hlocs] at hS ⊢
  have hown : s.vm.findClass RX6 = some m.cls := hown
  have hl : lv_has ls 3 [(0, .ref (g 60)), (1, .int (nI q)), (2, .int (nI k7))] := hl
  have hP8 : P ≤ 8 := hw.1
  have hn16 : n ≤ 16 := hw.2.1
  have hst : st < 65536 := jmWF_st hw
  have hen : ∀ j, j < n → en j < 256 := jmWF_en hw
  have hla : ∀ q, q < P → la q < 65536 := jmWF_la hw
  have hgr : ∀ j, j < n → sm j < 8 ∧ gr j < 8 := jmWF_gr hw
  have hco : ∀ j, j < n → co j < 21 := jmWF_co hw
  have hlq := hox.1 q hq
  have hl1 := jmLe_le (jmWalk sm gr st le (jmSw (le q) od q k7)) st (2 * n)
  have hl2 : (jmLn sm gr n st le (jmSw (le q) od q k7)).1 ≤ 32 := by show (jmLe _ st (2 * n)).1 ≤ 32; omega
  have hiso := jmIso_le la st P
  refine lv_aload_n hx hb dX6_turn_0 rfl (lv_at hl 0 rfl) ?_
  refine lv_iload_n hx hb dX6_turn_1 rfl (lv_at hl 1 rfl) ?_
  refine jxw_callV (X := jW cI g P n st sm gr co en la ++ jD cI cO g rd le wk fa ++ jRN cI 8 16 rd od ++ jC g rf) (X' := jW cI g P n st sm gr co en la ++ jD cI cO g rd le wk fa ++ jRN cI 8 16 rd od ++ jC g rf) (wc := jW cI g P n st sm gr co en la ++ jC g rf) (wc' := jW cI g P n st sm gr co en la ++ jC g rf) (wr := jD cI cO g rd le wk fa ++ jRN cI 8 16 rd od) (N := 19) (As := [.int (nI q)]) (rest := []) ⟨hx, hb, hml, hown, hts⟩ (c_X6_demandPoint l D cI g P n st sm gr co en la rf H.size hw q (by omega)) (cwV 1 hts gX6_turn_X6_demandPoint rfl rfl rfl (by decide +kernel) ⟨Nat.le_of_ble_eq_true rfl, Nat.le_of_ble_eq_true rfl⟩) hN hP hD (hK.sub (tys' := [(cI, .int)]) [0] rfl) hS hA [0, 1, 2, 3, 4, 5, 18] [6, 7, 8, 9, 10, 11, 12, 13, 14, 15, 16, 17] rfl rfl rfl rfl rfl rfl (by decide) (by decide) 18 6 rfl rfl rfl (hK.sub (tys' := [(cI, .int)]) [0] rfl) rfl hl.1 rfl (Nat.le_of_ble_eq_true rfl) dX6_turn_2 ⟨Nat.zero_le _, Nat.zero_le _⟩ (fun H locs hP hS => ?_)
  have hD : va_D A (jW cI g P n st sm gr co en la ++ jD cI cO g rd le wk fa ++ jRN cI 8 16 rd od ++ jC g rf) := jxD hD0 rfl
  refine lv_aload_n hx hb dX6_turn_5 rfl (lv_at hl 0 rfl) ?_
  refine lv_iload_n hx hb dX6_turn_6 rfl (lv_at hl 1 rfl) ?_
  refine lv_iload_n hx hb dX6_turn_7 rfl (lv_at hl 2 rfl) ?_
  refine jxw_callV (X := jW cI g P n st sm gr co en la ++ jD cI cO g rd le wk fa ++ jRN cI 8 16 rd od ++ jC g rf) (X' := jW cI g P n st sm gr co en la ++ jD cI cO g rd le wk fa ++ jRN cI 8 16 rd od ++ jC g rf) (wc := jD cI cO g rd le wk fa ++ jC g rf) (wc' := jD cI cO g rd le wk fa ++ jC g rf) (wr := jW cI g P n st sm gr co en la ++ jRN cI 8 16 rd od) (N := 19) (As := [.int (nI q), .int (nI k7)]) (rest := []) ⟨hx, hb, hml, hown, hts⟩ (c_X6_demandPlace l D cI cO g rd le wk fa rf H.size q k7 (by omega) (by omega) (by omega)) (cwV 2 hts gX6_turn_X6_demandPlace rfl rfl rfl (by decide +kernel) ⟨Nat.le_of_ble_eq_true rfl, Nat.le_of_ble_eq_true rfl⟩) hN hP hD (hK.sub (tys' := [(cI, .int), (cO, .array .int)]) [0, 1] rfl) hS hA [6, 7, 8, 9, 18] [0, 1, 2, 3, 4, 5, 10, 11, 12, 13, 14, 15, 16, 17] rfl rfl rfl rfl rfl rfl (by decide) (by decide) 18 6 rfl rfl rfl (hK.sub (tys' := [(cI, .int), (cO, .array .int)]) [0, 1] rfl) rfl hl.1 rfl (Nat.le_of_ble_eq_true rfl) dX6_turn_8 ⟨Nat.zero_le _, Nat.zero_le _⟩ (fun H locs hP hS => ?_)
  have hD : va_D A (jW cI g P n st sm gr co en la ++ jD cI cO g rd le wk fa ++ jRN cI 8 16 rd od ++ jC g rf) := jxD hD0 rfl
  refine lv_aload_n hx hb dX6_turn_11 rfl (lv_at hl 0 rfl) ?_
  refine va_get (D := D) (ci := 6) (v := .ref (g 50)) (C := RX6) (T := TX6) (N := 7) hx hb hts in_X6_turn_6 hown hK hP 18 rfl rfl 5 (by decide) (hts (.fieldLink RX6 49 "Twincuts" "drawing" "LTwincuts$Drawing;") (List.mem_of_getElem? (i := 1) (by decide +kernel))) (fun _ h9 => h9) rfl dX6_turn_12 ?_
  refine lv_iload_n hx hb dX6_turn_15 rfl (lv_at hl 1 rfl) ?_
  refine lv_iload_n hx hb dX6_turn_16 rfl (lv_at hl 2 rfl) ?_
  refine jxw_callV (X := jW cI g P n st sm gr co en la ++ jD cI cO g rd le wk fa ++ jRN cI 8 16 rd od ++ jC g rf) (X' := jW cI g P n st sm gr co en la ++ jD cI cO g rd le wk fa ++ jRN cI 8 16 rd (jmSw (le q) od q k7) ++ jC g rf) (wc := jD cI cO g rd le wk fa ++ jRN cI 8 16 rd od) (wc' := jD cI cO g rd le wk fa ++ jRN cI 8 16 rd (jmSw (le q) od q k7)) (wr := jW cI g P n st sm gr co en la ++ jC g rf) (N := 19) (As := [.int (nI q), .int (nI k7)]) (rest := []) ⟨hx, hb, hml, hown, hts⟩ (c_X0_swap l D cI cO g rd le wk fa od H.size q k7 (by omega) (by omega) (by omega)) (cwV 2 hts gX6_turn_X0_swap rfl rfl rfl (by decide +kernel) ⟨Nat.le_of_ble_eq_true rfl, Nat.le_of_ble_eq_true rfl⟩) hN hP hD (hK.sub (tys' := [(cI, .int), (cO, .array .int)]) [0, 1] rfl) hS hA [6, 7, 8, 9, 10, 11, 12, 13, 14, 15, 16, 17] [0, 1, 2, 3, 4, 5, 18] rfl rfl rfl rfl rfl rfl (by decide) (by decide) 6 0 rfl rfl rfl (hK.sub (tys' := [(cI, .int), (cO, .array .int)]) [0, 1] rfl) rfl hl.1 rfl (Nat.le_of_ble_eq_true rfl) dX6_turn_17 ⟨Nat.zero_le _, Nat.zero_le _⟩ (fun H locs hP hS => ?_)
  have hD : va_D A (jW cI g P n st sm gr co en la ++ jD cI cO g rd le wk fa ++ jRN cI 8 16 rd (jmSw (le q) od q k7) ++ jC g rf) := jxD hD0 rfl
  refine lv_aload_n hx hb dX6_turn_20 rfl (lv_at hl 0 rfl) ?_
  refine va_get (D := D) (ci := 6) (v := .ref (g 50)) (C := RX6) (T := TX6) (N := 7) hx hb hts in_X6_turn_6 hown hK hP 18 rfl rfl 5 (by decide) (hts (.fieldLink RX6 49 "Twincuts" "drawing" "LTwincuts$Drawing;") (List.mem_of_getElem? (i := 1) (by decide +kernel))) (fun _ h9 => h9) rfl dX6_turn_21 ?_
  refine jxw_callV (X := jW cI g P n st sm gr co en la ++ jD cI cO g rd le wk fa ++ jRN cI 8 16 rd (jmSw (le q) od q k7) ++ jC g rf) (X' := jW cI g P n st sm gr co en la ++ jD cI cO g rd le ((jmLn sm gr n st le (jmSw (le q) od q k7)).1) ((jmLn sm gr n st le (jmSw (le q) od q k7)).2) ++ jRN cI 8 16 rd (jmSw (le q) od q k7) ++ jC g rf) (wc := jW cI g P n st sm gr co en la ++ jD cI cO g rd le wk fa ++ jRN cI 8 16 rd (jmSw (le q) od q k7)) (wc' := jW cI g P n st sm gr co en la ++ jD cI cO g rd le ((jmLn sm gr n st le (jmSw (le q) od q k7)).1) ((jmLn sm gr n st le (jmSw (le q) od q k7)).2) ++ jRN cI 8 16 rd (jmSw (le q) od q k7)) (wr := jC g rf) (N := 19) (As := []) (rest := []) ⟨hx, hb, hml, hown, hts⟩ (c_X0_learn l D cI cO g P n st sm gr co en la rd le wk fa (jmSw (le q) od q k7) H.size hw (jmOX_DW (jmOX_swap hox hq hk7) hn16)) (cwV 0 hts gX6_turn_X0_learn rfl rfl rfl (by decide +kernel) ⟨Nat.le_of_ble_eq_true rfl, Nat.le_of_ble_eq_true rfl⟩) hN hP hD (hK.sub (tys' := [(cI, .int), (cO, .array .int)]) [0, 1] rfl) hS hA [0, 1, 2, 3, 4, 5, 6, 7, 8, 9, 10, 11, 12, 13, 14, 15, 16, 17] [18] rfl rfl rfl rfl rfl rfl (by decide) (by decide) 6 0 rfl rfl rfl (hK.sub (tys' := [(cI, .int), (cO, .array .int)]) [0, 1] rfl) rfl hl.1 rfl (Nat.le_of_ble_eq_true rfl) dX6_turn_24 ⟨Nat.zero_le _, Nat.zero_le _⟩ (fun H locs hP hS => ?_)
  have hD : va_D A (jW cI g P n st sm gr co en la ++ jD cI cO g rd le ((jmLn sm gr n st le (jmSw (le q) od q k7)).1) ((jmLn sm gr n st le (jmSw (le q) od q k7)).2) ++ jRN cI 8 16 rd (jmSw (le q) od q k7) ++ jC g rf) := jxD hD0 rfl
  refine lv_aload_n hx hb dX6_turn_27 rfl (lv_at hl 0 rfl) ?_
  refine va_get (D := D) (ci := 6) (v := .ref (g 50)) (C := RX6) (T := TX6) (N := 7) hx hb hts in_X6_turn_6 hown hK hP 18 rfl rfl 5 (by decide) (hts (.fieldLink RX6 49 "Twincuts" "drawing" "LTwincuts$Drawing;") (List.mem_of_getElem? (i := 1) (by decide +kernel))) (fun _ h9 => h9) rfl dX6_turn_28 ?_
  refine jx_callV (As := []) (rest := []) ⟨hx, hb, hml, hown, hts⟩ (c_X0_allFaces l D cI cO g P n st sm gr co en la rd le ((jmLn sm gr n st le (jmSw (le q) od q k7)).1) ((jmLn sm gr n st le (jmSw (le q) od q k7)).2) hw (by omega)) (cwV 0 hts gX6_turn_X0_allFaces rfl rfl rfl (by decide +kernel) ⟨Nat.le_of_ble_eq_true rfl, Nat.le_of_ble_eq_true rfl⟩) hN (hP.sub (ws' := jW cI g P n st sm gr co en la ++ jD cI cO g rd le ((jmLn sm gr n st le (jmSw (le q) od q k7)).1) ((jmLn sm gr n st le (jmSw (le q) od q k7)).2)) [0, 1, 2, 3, 4, 5, 6, 7, 8, 9] rfl) (hK.sub (tys' := [(cI, .int), (cO, .array .int)]) [0, 1] rfl) 6 0 rfl rfl rfl rfl hl.1 rfl (Nat.le_of_ble_eq_true rfl) dX6_turn_31 ⟨Nat.zero_le _, Nat.zero_le _⟩ (fun r hr => ?_)
  subst hr
  exact hQ (nI (((jmLn sm gr n st le (jmSw (le q) od q k7)).1) + jmIso la st P)) H locs _ _ dX6_turn_34 ⟨_, by omega, rfl⟩ hP hS
