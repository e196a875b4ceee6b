set_option maxRecDepth 20000 in
theorem in_X6_price_6 : ∀ w ∈ wsX60, w ∈ wsX6_price := by decide +kernel
set_option maxRecDepth 20000 in
theorem in_X6_price_5 : ∀ w ∈ wsX50, w ∈ wsX6_price := by decide +kernel
set_option maxRecDepth 20000 in
theorem in_X6_price_2 : ∀ w ∈ wsX20, w ∈ wsX6_price := by decide +kernel
set_option maxHeartbeats 4000000 in
set_option maxRecDepth 100000 in
/-- price(line, cost), of a line that there is -/
theorem c_X6_price (l : Launch) (D : va_G) (cI : ClassId) (cM : ClassId) (g : Nat → Nat) (P n st : Nat) (sm gr co en la : Nat → Nat) (rt : Nat → Nat) (cs : Nat) (ct : Int32) (jo : Nat → Nat) (rf : Int32) (sz : Nat) (hw : jmWF P n st sm gr co en la) (hjo : ∀ j, j < 8 → jo j < 256) (i x : Nat) (hi : i < n) (hx1 : 1 ≤ x) (hx20 : x ≤ 20) : jxWi l yX6_price wsX6_price ({ frames := 4, cells := 0, slots := 0, locals := 87 } : Room) D [(cI, .int), (cM, .array .long)] (jW cI g P n st sm gr co en la ++ jT cI cM g rt cs ct jo ++ jC g rf) [.ref (g 60), .int (nI i), .int (nI x)] sz (fun r => r = nI (co i)) (jW cI g P n st sm gr (jxUp co i x) en la ++ jT cI cM g rt ((jmFo en sm gr (jxUp co i x) P n st jo).1) ((jmFo en sm gr (jxUp co i x) P n st jo).2.1) ((jmFo en sm gr (jxUp co i x) P n st jo).2.2) ++ jC g rf) := by
  refine jxw_enter (by decide) rfl (Nat.le_of_ble_eq_true rfl) ?_
  intro p e s m args below meth c Q A ls hx hb hml hts hown hN hP hK hD hA hl hQ
  have hD0 := hD
  obtain ⟨H, hH⟩ : ∃ h, h = s.heap := ⟨_, rfl⟩
  have hS : va_S A s.heap H [] := by rw [hH]; exact va_S.rf
  rw [← hH] at hP ⊢
  obtain ⟨locs, hlocs⟩ : ∃ z : List Loc, z = [] := ⟨_, rfl⟩
  rw [← hlocs] at hS ⊢
  have hown : s.vm.findClass RX6 = some m.cls := hown
  have hl : lv_has ls 4 [(0, .ref (g 60)), (1, .int (nI i)), (2, .int (nI x))] := hl
  have hP8 : P ≤ 8 := hw.1
  have hn16 : n ≤ 16 := hw.2.1
  have hst : st < 65536 := jmWF_st hw
  have hen : ∀ j, j < n → en j < 256 := jmWF_en hw
  have hla : ∀ q, q < P → la q < 65536 := jmWF_la hw
  have hgr : ∀ j, j < n → sm j < 8 ∧ gr j < 8 := jmWF_gr hw
  have hco : ∀ j, j < n → co j < 21 := jmWF_co hw
  refine lv_aload_n hx hb dX6_price_0 rfl (lv_at hl 0 rfl) ?_
  refine lv_iload_n hx hb dX6_price_1 rfl (lv_at hl 1 rfl) ?_
  refine jxw_callV (X := jW cI g P n st sm gr co en la ++ jT cI cM g rt cs ct jo ++ jC g rf) (X' := jW cI g P n st sm gr co en la ++ jT cI cM g rt cs ct jo ++ jC g rf) (wc := jW cI g P n st sm gr co en la ++ jC g rf) (wc' := jW cI g P n st sm gr co en la ++ jC g rf) (wr := jT cI cM g rt cs ct jo) (N := 10) (As := [.int (nI i)]) (rest := []) ⟨hx, hb, hml, hown, hts⟩ (c_X6_demandLine l D cI g P n st sm gr co en la rf H.size hw i (by omega)) (cwV 1 hts gX6_price_X6_demandLine rfl rfl rfl (by decide +kernel) ⟨Nat.le_of_ble_eq_true rfl, Nat.le_of_ble_eq_true rfl⟩) hN hP hD (hK.sub (tys' := [(cI, .int)]) [0] rfl) hS hA [0, 1, 2, 3, 4, 5, 9] [6, 7, 8] rfl rfl rfl rfl rfl rfl (by decide) (by decide) 9 6 rfl rfl rfl (hK.sub (tys' := [(cI, .int)]) [0] rfl) rfl hl.1 rfl (Nat.le_of_ble_eq_true rfl) dX6_price_2 ⟨Nat.zero_le _, Nat.zero_le _⟩ (fun H locs hP hS => ?_)
  have hD : va_D A (jW cI g P n st sm gr co en la ++ jT cI cM g rt cs ct jo ++ jC g rf) := jxD hD0 rfl
  refine lv_iload_n hx hb dX6_price_5 rfl (lv_at hl 2 rfl) ?_
  refine jxw_callSv (X := jW cI g P n st sm gr co en la ++ jT cI cM g rt cs ct jo ++ jC g rf) (X' := jW cI g P n st sm gr co en la ++ jT cI cM g rt cs ct jo ++ jC g rf) (wc := []) (wc' := []) (wr := jW cI g P n st sm gr co en la ++ jT cI cM g rt cs ct jo ++ jC g rf) (N := 10) (As := [.int (nI x)]) (rest := []) ⟨hx, hb, hml, hown, hts⟩ (c_X6_demandCost l D g H.size x hx1 hx20) (va_cwS 1 hts gX6_price_X6_demandCost rfl rfl rfl (by decide +kernel) ⟨Nat.le_of_ble_eq_true rfl, Nat.le_of_ble_eq_true rfl⟩) hN hP hD (hK.sub (tys' := []) [] rfl) hS hA [] [0, 1, 2, 3, 4, 5, 6, 7, 8, 9] rfl rfl rfl rfl rfl rfl (by decide) (by decide) rfl hl.1 rfl (Nat.le_of_ble_eq_true rfl) dX6_price_6 ⟨Nat.zero_le _, Nat.zero_le _⟩ (fun H locs hP hS => ?_)
  have hD : va_D A (jW cI g P n st sm gr co en la ++ jT cI cM g rt cs ct jo ++ jC g rf) := jxD hD0 rfl
  refine lv_aload_n hx hb dX6_price_9 rfl (lv_at hl 0 rfl) ?_
  refine va_get (D := D) (ci := 6) (v := .ref (g 0)) (C := RX6) (T := TX6) (N := 7) hx hb hts in_X6_price_6 hown hK hP 9 rfl rfl 0 (by decide) (hts (.fieldLink RX6 10 "Twincuts" "web" "LTwincuts$Web;") (List.mem_of_getElem? (i := 1) (by decide +kernel))) (fun _ h9 => h9) rfl dX6_price_10 ?_
  refine va_getN (D := D) (ci := 5) (v := .ref (g 3)) (C := RX5) (T := TX5) (N := 8) hx hb hts in_X6_price_5 hown hK hP 0 rfl rfl 5 (by decide) (hN.use 24 rfl) (fun _ h9 => h9) rfl dX6_price_13 ?_
  refine lv_iload_n hx hb dX6_price_16 rfl (lv_at hl 1 rfl) ?_
  refine jx_iald hx hb hK hP 3 0 rfl rfl (by omega) (by decide) dX6_price_17 ?_
  refine lv_istore_n (lv' := [(3, .int (nI (co i))), (0, .ref (g 60)), (1, .int (nI i)), (2, .int (nI x))]) hx hb dX6_price_18 rfl hl (by decide) rfl (fun ls hl => ?_)
  refine lv_aload_n hx hb dX6_price_19 rfl (lv_at hl 1 rfl) ?_
  refine va_get (D := D) (ci := 6) (v := .ref (g 0)) (C := RX6) (T := TX6) (N := 7) hx hb hts in_X6_price_6 hown hK hP 9 rfl rfl 0 (by decide) (hts (.fieldLink RX6 10 "Twincuts" "web" "LTwincuts$Web;") (List.mem_of_getElem? (i := 1) (by decide +kernel))) (fun _ h9 => h9) rfl dX6_price_20 ?_
  refine va_getN (D := D) (ci := 5) (v := .ref (g 3)) (C := RX5) (T := TX5) (N := 8) hx hb hts in_X6_price_5 hown hK hP 0 rfl rfl 5 (by decide) (hN.use 24 rfl) (fun _ h9 => h9) rfl dX6_price_23 ?_
  refine lv_iload_n hx hb dX6_price_26 rfl (lv_at hl 2 rfl) ?_
  refine lv_iload_n hx hb dX6_price_27 rfl (lv_at hl 3 rfl) ?_
  refine jx_iastN hx hb hK hP hD hS 3 0 rfl rfl (by omega) (by decide) dX6_price_28 (fun H locs hP hD hS => ?_)
  have hP : va_P D vwCl (jW cI g P n st sm gr (jxUp co i x) en la ++ jT cI cM g rt cs ct jo ++ jC g rf) H := hP
  have hD : va_D A (jW cI g P n st sm gr (jxUp co i x) en la ++ jT cI cM g rt cs ct jo ++ jC g rf) := jxD hD0 rfl
  refine lv_aload_n hx hb dX6_price_29 rfl (lv_at hl 1 rfl) ?_
  refine va_get (D := D) (ci := 6) (v := .ref (g 30)) (C := RX6) (T := TX6) (N := 7) hx hb hts in_X6_price_6 hown hK hP 9 rfl rfl 3 (by decide) (hts (.fieldLink RX6 35 "Twincuts" "forest" "LTwincuts$Forest;") (List.mem_of_getElem? (i := 2) (by decide +kernel))) (fun _ h9 => h9) rfl dX6_price_30 ?_
  have hw2 := jmWF_price (i := i) hw hx1 hx20
  refine jxw_callV (X := jW cI g P n st sm gr (jxUp co i x) en la ++ jT cI cM g rt cs ct jo ++ jC g rf) (X' := jW cI g P n st sm gr (jxUp co i x) en la ++ jT cI cM g rt ((jmFo en sm gr (jxUp co i x) P n st jo).1) ((jmFo en sm gr (jxUp co i x) P n st jo).2.1) ((jmFo en sm gr (jxUp co i x) P n st jo).2.2) ++ jC g rf) (wc := jW cI g P n st sm gr (jxUp co i x) en la ++ jT cI cM g rt cs ct jo) (wc' := jW cI g P n st sm gr (jxUp co i x) en la ++ jT cI cM g rt ((jmFo en sm gr (jxUp co i x) P n st jo).1) ((jmFo en sm gr (jxUp co i x) P n st jo).2.1) ((jmFo en sm gr (jxUp co i x) P n st jo).2.2)) (wr := jC g rf) (N := 10) (As := []) (rest := []) ⟨hx, hb, hml, hown, hts⟩ (c_X2_learn l D cI cM g P n st sm gr (jxUp co i x) en la rt cs ct jo H.size hw2 hjo) (cwV 0 hts gX6_price_X2_learn rfl rfl rfl (by decide +kernel) ⟨Nat.le_of_ble_eq_true rfl, Nat.le_of_ble_eq_true rfl⟩) hN hP hD (hK.sub (tys' := [(cI, .int), (cM, .array .long)]) [0, 1] rfl) hS hA [0, 1, 2, 3, 4, 5, 6, 7, 8] [9] rfl rfl rfl rfl rfl rfl (by decide) (by decide) 6 2 rfl rfl rfl (hK.sub (tys' := [(cI, .int), (cM, .array .long)]) [0, 1] rfl) rfl hl.1 rfl (Nat.le_of_ble_eq_true rfl) dX6_price_33 ⟨Nat.zero_le _, Nat.zero_le _⟩ (fun H locs hP hS => ?_)
  have hD : va_D A (jW cI g P n st sm gr (jxUp co i x) en la ++ jT cI cM g rt ((jmFo en sm gr (jxUp co i x) P n st jo).1) ((jmFo en sm gr (jxUp co i x) P n st jo).2.1) ((jmFo en sm gr (jxUp co i x) P n st jo).2.2) ++ jC g rf) := jxD hD0 rfl
  refine lv_iload_n hx hb dX6_price_36 rfl (lv_at hl 0 rfl) ?_
  exact hQ (nI (co i)) H locs _ _ dX6_price_37 rfl hP hS
