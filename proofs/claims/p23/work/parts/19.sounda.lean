set_option maxRecDepth 20000 in
theorem in_X6_areWaysSound_6 : ∀ w ∈ wsX60, w ∈ wsX6_areWaysSound := by decide +kernel
set_option maxRecDepth 20000 in
theorem in_X6_areWaysSound_4 : ∀ w ∈ wsX40, w ∈ wsX6_areWaysSound := by decide +kernel
set_option maxRecDepth 20000 in
theorem in_X6_areWaysSound_5 : ∀ w ∈ wsX50, w ∈ wsX6_areWaysSound := by decide +kernel
set_option maxHeartbeats 4000000 in
set_option maxRecDepth 100000 in
/-- areWaysSound(one, other) -/
theorem c_X6_areWaysSound (l : Launch) (D : va_G) (cI : ClassId) (cO : ClassId) (g : Nat → Nat) (P n st : Nat) (sm gr co en la : Nat → Nat) (ro : Nat → Nat) (ca : Nat → Int32) (qu : Nat → Nat) (rm : Nat → Nat → Int32) (rf : Int32) (sz : Nat) (hw : jmWF P n st sm gr co en la) (a o : Nat) (ha : a < P) (ho : o < P) (hao : a ≠ o) (hqu : ∀ j, j < 16 → qu j < 16) (hwo : jmWok sm gr en la P n st a o) : jxWi l yX6_areWaysSound wsX6_areWaysSound ({ frames := 3, cells := 0, slots := 0, locals := 77 } : Room) D [(cI, .int), (cO, .array .int)] (jW cI g P n st sm gr co en la ++ jY cI cO g ro ca qu ++ jRI cI 16 16 ro rm ++ jC g rf) [.ref (g 60), .int (nI a), .int (nI o)] sz (fun r => r = nI 1) (jW cI g P n st sm gr co en la ++ jY cI cO g ro ((jmAs sm gr P n st a o (rm, ca, qu)).2.1) ((jmAs sm gr P n st a o (rm, ca, qu)).2.2) ++ jRI cI 16 16 ro ((jmAs sm gr P n st a o (rm, ca, qu)).1) ++ jC g rf) := by
  refine jxw_enterZ (by decide) rfl (Nat.le_of_ble_eq_true rfl) ?_
  intro p e s m args below meth c Q A ls hx hb hml hts hown hN hP hK hD hA hl hQ
  have hD0 := hD
  obtain ⟨H, hH⟩ : ∃ h, h = s.heap := ⟨_, rfl⟩
  have hS : va_S A s.heap H [] := by rw [hH]; exact va_S.rf
  rw [← hH] at hP ⊢
  obtain ⟨locs, hlocs⟩ : ∃ z : List Loc, z = [] := ⟨_, rfl⟩
  rw [← hlocs] at hS ⊢
  have hown : s.vm.findClass RX6 = some m.cls := hown
  have hl : lv_has ls 7 [(0, .ref (g 60)), (1, .int (nI a)), (2, .int (nI o))] := hl
  have hP8 : P ≤ 8 := hw.1
  have hn16 : n ≤ 16 := hw.2.1
  have hst : st < 65536 := jmWF_st hw
  have hen : ∀ j, j < n → en j < 256 := jmWF_en hw
  have hla : ∀ q, q < P → la q < 65536 := jmWF_la hw
  have hgr : ∀ j, j < n → sm j < 8 ∧ gr j < 8 := jmWF_gr hw
  have hco : ∀ j, j < n → co j < 21 := jmWF_co hw
  obtain ⟨h1, h2, h3⟩ := hwo
  have hP1 := Nat.one_le_two_pow (n := P)
  have hP2 := jx_pow256 hP8
  have hsd : jmSide la P st a o < 2 ^ P := jmSideF_lt ha (Nat.le_refl _)
  have hwy := jmWy_le sm gr st P n a o
  have hly := jmLy_le sm gr st n a o
  refine lv_aload_n hx hb dX6_areWaysSound_0 rfl (lv_at hl 0 rfl) ?_
  refine va_get (D := D) (ci := 6) (v := .ref (g 20)) (C := RX6) (T := TX6) (N := 7) hx hb hts in_X6_areWaysSound_6 hown hK hP 26 rfl rfl 2 (by decide) (hts (.fieldLink RX6 28 "Twincuts" "ways" "LTwincuts$Ways;") (List.mem_of_getElem? (i := 1) (by decide +kernel))) (fun _ h9 => h9) rfl dX6_areWaysSound_1 ?_
  refine lv_iload_n hx hb dX6_areWaysSound_4 rfl (lv_at hl 1 rfl) ?_
  refine lv_iload_n hx hb dX6_areWaysSound_5 rfl (lv_at hl 2 rfl) ?_
  refine jxw_callVi (X := jW cI g P n st sm gr co en la ++ jY cI cO g ro ca qu ++ jRI cI 16 16 ro rm ++ jC g rf) (X' := jW cI g P n st sm gr co en la ++ jY cI cO g ro ((jmCFS a o (jmC2 sm gr st (jmC1 a o P) n) ca qu).2.2.1) ((jmCFS a o (jmC2 sm gr st (jmC1 a o P) n) ca qu).2.2.2) ++ jRI cI 16 16 ro ((jmCFS a o (jmC2 sm gr st (jmC1 a o P) n) ca qu).2.1) ++ jC g rf) (wc := jW cI g P n st sm gr co en la ++ jY cI cO g ro ca qu ++ jRI cI 16 16 ro rm) (wc' := jW cI g P n st sm gr co en la ++ jY cI cO g ro ((jmCFS a o (jmC2 sm gr st (jmC1 a o P) n) ca qu).2.2.1) ((jmCFS a o (jmC2 sm gr st (jmC1 a o P) n) ca qu).2.2.2) ++ jRI cI 16 16 ro ((jmCFS a o (jmC2 sm gr st (jmC1 a o P) n) ca qu).2.1)) (wr := jC g rf) (N := 27) (As := [.int (nI a), .int (nI o)]) (rest := []) ⟨hx, hb, hml, hown, hts⟩ (c_X4_countWays l D cI cO g P n st sm gr co en la ro ca qu rm H.size hw a o (by omega) (by omega) hqu) (cwV 2 hts gX6_areWaysSound_X4_countWays rfl rfl rfl (by decide +kernel) ⟨Nat.le_of_ble_eq_true rfl, Nat.le_of_ble_eq_true rfl⟩) hN hP hD (hK.sub (tys' := [(cI, .int), (cO, .array .int)]) [0, 1] rfl) hS hA [0, 1, 2, 3, 4, 5, 6, 7, 8, 9, 10, 11, 12, 13, 14, 15, 16, 17, 18, 19, 20, 21, 22, 23, 24, 25] [26] rfl rfl rfl rfl rfl rfl (by decide) (by decide) 6 4 rfl rfl rfl (hK.sub (tys' := [(cI, .int), (cO, .array .int)]) [0, 1] rfl) rfl hl.1 rfl (Nat.le_of_ble_eq_true rfl) dX6_areWaysSound_6 ⟨Nat.zero_le _, Nat.zero_le _⟩ (fun r H locs hr hP hS => ?_)
  have hD : va_D A (jW cI g P n st sm gr co en la ++ jY cI cO g ro ((jmCFS a o (jmC2 sm gr st (jmC1 a o P) n) ca qu).2.2.1) ((jmCFS a o (jmC2 sm gr st (jmC1 a o P) n) ca qu).2.2.2) ++ jRI cI 16 16 ro ((jmCFS a o (jmC2 sm gr st (jmC1 a o P) n) ca qu).2.1) ++ jC g rf) := jxD hD0 rfl
  subst hr
  refine jx_val (z := (nI (jmWy sm gr st P n a o))) (congrArg nI (jmWy_c _ _ _ _ _ _ _ _ _)) ?_
  refine lv_istore_n (lv' := [(3, .int (nI (jmWy sm gr st P n a o))), (0, .ref (g 60)), (1, .int (nI a)), (2, .int (nI o))]) hx hb dX6_areWaysSound_9 rfl hl (by decide) rfl (fun ls hl => ?_)
  refine lv_aload_n hx hb dX6_areWaysSound_10 rfl (lv_at hl 1 rfl) ?_
  refine va_get (D := D) (ci := 6) (v := .ref (g 20)) (C := RX6) (T := TX6) (N := 7) hx hb hts in_X6_areWaysSound_6 hown hK hP 26 rfl rfl 2 (by decide) (hts (.fieldLink RX6 28 "Twincuts" "ways" "LTwincuts$Ways;") (List.mem_of_getElem? (i := 1) (by decide +kernel))) (fun _ h9 => h9) rfl dX6_areWaysSound_11 ?_
  refine lv_iload_n hx hb dX6_areWaysSound_14 rfl (lv_at hl 2 rfl) ?_
  refine lv_iload_n hx hb dX6_areWaysSound_15 rfl (lv_at hl 3 rfl) ?_
  refine jxw_callVi (X := jW cI g P n st sm gr co en la ++ jY cI cO g ro ((jmCFS a o (jmC2 sm gr st (jmC1 a o P) n) ca qu).2.2.1) ((jmCFS a o (jmC2 sm gr st (jmC1 a o P) n) ca qu).2.2.2) ++ jRI cI 16 16 ro ((jmCFS a o (jmC2 sm gr st (jmC1 a o P) n) ca qu).2.1) ++ jC g rf) (X' := jW cI g P n st sm gr co en la ++ jY cI cO g ro ((jmCFS a o (jmC3 sm gr st (fun _ _ => 0) n) ((jmCFS a o (jmC2 sm gr st (jmC1 a o P) n) ca qu).2.2.1) ((jmCFS a o (jmC2 sm gr st (jmC1 a o P) n) ca qu).2.2.2)).2.2.1) ((jmCFS a o (jmC3 sm gr st (fun _ _ => 0) n) ((jmCFS a o (jmC2 sm gr st (jmC1 a o P) n) ca qu).2.2.1) ((jmCFS a o (jmC2 sm gr st (jmC1 a o P) n) ca qu).2.2.2)).2.2.2) ++ jRI cI 16 16 ro ((jmCFS a o (jmC3 sm gr st (fun _ _ => 0) n) ((jmCFS a o (jmC2 sm gr st (jmC1 a o P) n) ca qu).2.2.1) ((jmCFS a o (jmC2 sm gr st (jmC1 a o P) n) ca qu).2.2.2)).2.1) ++ jC g rf) (wc := jW cI g P n st sm gr co en la ++ jY cI cO g ro ((jmCFS a o (jmC2 sm gr st (jmC1 a o P) n) ca qu).2.2.1) ((jmCFS a o (jmC2 sm gr st (jmC1 a o P) n) ca qu).2.2.2) ++ jRI cI 16 16 ro ((jmCFS a o (jmC2 sm gr st (jmC1 a o P) n) ca qu).2.1)) (wc' := jW cI g P n st sm gr co en la ++ jY cI cO g ro ((jmCFS a o (jmC3 sm gr st (fun _ _ => 0) n) ((jmCFS a o (jmC2 sm gr st (jmC1 a o P) n) ca qu).2.2.1) ((jmCFS a o (jmC2 sm gr st (jmC1 a o P) n) ca qu).2.2.2)).2.2.1) ((jmCFS a o (jmC3 sm gr st (fun _ _ => 0) n) ((jmCFS a o (jmC2 sm gr st (jmC1 a o P) n) ca qu).2.2.1) ((jmCFS a o (jmC2 sm gr st (jmC1 a o P) n) ca qu).2.2.2)).2.2.2) ++ jRI cI 16 16 ro ((jmCFS a o (jmC3 sm gr st (fun _ _ => 0) n) ((jmCFS a o (jmC2 sm gr st (jmC1 a o P) n) ca qu).2.2.1) ((jmCFS a o (jmC2 sm gr st (jmC1 a o P) n) ca qu).2.2.2)).2.1)) (wr := jC g rf) (N := 27) (As := [.int (nI a), .int (nI o)]) (rest := []) ⟨hx, hb, hml, hown, hts⟩ (c_X4_countLineWays l D cI cO g P n st sm gr co en la ro ((jmCFS a o (jmC2 sm gr st (jmC1 a o P) n) ca qu).2.2.1) ((jmCFS a o (jmC2 sm gr st (jmC1 a o P) n) ca qu).2.2.2) ((jmCFS a o (jmC2 sm gr st (jmC1 a o P) n) ca qu).2.1) H.size hw a o (by omega) (by omega) (jmCFS_qu (by omega) hqu)) (cwV 2 hts gX6_areWaysSound_X4_countLineWays rfl rfl rfl (by decide +kernel) ⟨Nat.le_of_ble_eq_true rfl, Nat.le_of_ble_eq_true rfl⟩) hN hP hD (hK.sub (tys' := [(cI, .int), (cO, .array .int)]) [0, 1] rfl) hS hA [0, 1, 2, 3, 4, 5, 6, 7, 8, 9, 10, 11, 12, 13, 14, 15, 16, 17, 18, 19, 20, 21, 22, 23, 24, 25] [26] rfl rfl rfl rfl rfl rfl (by decide) (by decide) 6 4 rfl rfl rfl (hK.sub (tys' := [(cI, .int), (cO, .array .int)]) [0, 1] rfl) rfl hl.1 rfl (Nat.le_of_ble_eq_true rfl) dX6_areWaysSound_16 ⟨Nat.zero_le _, Nat.zero_le _⟩ (fun r H locs hr hP hS => ?_)
  have hD : va_D A (jW cI g P n st sm gr co en la ++ jY cI cO g ro ((jmCFS a o (jmC3 sm gr st (fun _ _ => 0) n) ((jmCFS a o (jmC2 sm gr st (jmC1 a o P) n) ca qu).2.2.1) ((jmCFS a o (jmC2 sm gr st (jmC1 a o P) n) ca qu).2.2.2)).2.2.1) ((jmCFS a o (jmC3 sm gr st (fun _ _ => 0) n) ((jmCFS a o (jmC2 sm gr st (jmC1 a o P) n) ca qu).2.2.1) ((jmCFS a o (jmC2 sm gr st (jmC1 a o P) n) ca qu).2.2.2)).2.2.2) ++ jRI cI 16 16 ro ((jmCFS a o (jmC3 sm gr st (fun _ _ => 0) n) ((jmCFS a o (jmC2 sm gr st (jmC1 a o P) n) ca qu).2.2.1) ((jmCFS a o (jmC2 sm gr st (jmC1 a o P) n) ca qu).2.2.2)).2.1) ++ jC g rf) := jxD hD0 rfl
  subst hr
  refine jx_val (z := (nI (jmLy sm gr st n a o))) (congrArg nI (jmLy_c _ _ _ _ _ _ _ _)) ?_
  refine lv_istore (lv' := [(4, .int (nI (jmLy sm gr st n a o))), (3, .int (nI (jmWy sm gr st P n a o))), (0, .ref (g 60)), (1, .int (nI a)), (2, .int (nI o))]) hx hb dX6_areWaysSound_19 hl (by decide) rfl (fun ls hl => ?_)
  refine lv_aload_n hx hb dX6_areWaysSound_21 rfl (lv_at hl 2 rfl) ?_
  refine va_get (D := D) (ci := 6) (v := .ref (g 20)) (C := RX6) (T := TX6) (N := 7) hx hb hts in_X6_areWaysSound_6 hown hK hP 26 rfl rfl 2 (by decide) (hts (.fieldLink RX6 28 "Twincuts" "ways" "LTwincuts$Ways;") (List.mem_of_getElem? (i := 1) (by decide +kernel))) (fun _ h9 => h9) rfl dX6_areWaysSound_22 ?_
  refine lv_iload_n hx hb dX6_areWaysSound_25 rfl (lv_at hl 3 rfl) ?_
  refine lv_iload_n hx hb dX6_areWaysSound_26 rfl (lv_at hl 4 rfl) ?_
  refine jx_callV (As := [.int (nI a), .int (nI o)]) (rest := []) ⟨hx, hb, hml, hown, hts⟩ (c_X4_gap l D cI cO g P n st sm gr co en la ro ((jmCFS a o (jmC3 sm gr st (fun _ _ => 0) n) ((jmCFS a o (jmC2 sm gr st (jmC1 a o P) n) ca qu).2.2.1) ((jmCFS a o (jmC2 sm gr st (jmC1 a o P) n) ca qu).2.2.2)).2.2.1) ((jmCFS a o (jmC3 sm gr st (fun _ _ => 0) n) ((jmCFS a o (jmC2 sm gr st (jmC1 a o P) n) ca qu).2.2.1) ((jmCFS a o (jmC2 sm gr st (jmC1 a o P) n) ca qu).2.2.2)).2.2.2) hw a o (by omega) (by omega)) (cwV 2 hts gX6_areWaysSound_X4_gap rfl rfl rfl (by decide +kernel) ⟨Nat.le_of_ble_eq_true rfl, Nat.le_of_ble_eq_true rfl⟩) hN (hP.sub (ws' := jW cI g P n st sm gr co en la ++ jY cI cO g ro ((jmCFS a o (jmC3 sm gr st (fun _ _ => 0) n) ((jmCFS a o (jmC2 sm gr st (jmC1 a o P) n) ca qu).2.2.1) ((jmCFS a o (jmC2 sm gr st (jmC1 a o P) n) ca qu).2.2.2)).2.2.1) ((jmCFS a o (jmC3 sm gr st (fun _ _ => 0) n) ((jmCFS a o (jmC2 sm gr st (jmC1 a o P) n) ca qu).2.2.1) ((jmCFS a o (jmC2 sm gr st (jmC1 a o P) n) ca qu).2.2.2)).2.2.2)) [0, 1, 2, 3, 4, 5, 6, 7, 8, 9] rfl) (hK.sub (tys' := [(cI, .int), (cO, .array .int)]) [0, 1] rfl) 6 4 rfl rfl rfl rfl hl.1 rfl (Nat.le_of_ble_eq_true rfl) dX6_areWaysSound_27 ⟨Nat.zero_le _, Nat.zero_le _⟩ (fun r hr => ?_)
  subst hr
  refine lv_istore (lv' := [(5, .int (jmGap en la P n st a o)), (4, .int (nI (jmLy sm gr st n a o))), (3, .int (nI (jmWy sm gr st P n a o))), (0, .ref (g 60)), (1, .int (nI a)), (2, .int (nI o))]) hx hb dX6_areWaysSound_30 hl (by decide) rfl (fun ls hl => ?_)
  refine lv_iload hx hb dX6_areWaysSound_32 (lv_at hl 0 rfl) ?_
  refine lv_iconst (v := (-1)) hx hb dX6_areWaysSound_34 (by decide) ?_
  refine lv_icmp_eq (tgt := 49) hx hb dX6_areWaysSound_35 (by decide) (fun c35 => ?_) (fun c35 => ?_)
  · skip
    refine lv_aload_n hx hb dX6_areWaysSound_49 rfl (lv_at hl 3 rfl) ?_
    refine va_get (D := D) (ci := 6) (v := .ref (g 0)) (C := RX6) (T := TX6) (N := 7) hx hb hts in_X6_areWaysSound_6 hown hK hP 26 rfl rfl 0 (by decide) (hts (.fieldLink RX6 10 "Twincuts" "web" "LTwincuts$Web;") (List.mem_of_getElem? (i := 2) (by decide +kernel))) (fun _ h9 => h9) rfl dX6_areWaysSound_50 ?_
    refine lv_aload_n hx hb dX6_areWaysSound_53 rfl (lv_at hl 3 rfl) ?_
    refine va_get (D := D) (ci := 6) (v := .ref (g 20)) (C := RX6) (T := TX6) (N := 7) hx hb hts in_X6_areWaysSound_6 hown hK hP 26 rfl rfl 2 (by decide) (hts (.fieldLink RX6 28 "Twincuts" "ways" "LTwincuts$Ways;") (List.mem_of_getElem? (i := 1) (by decide +kernel))) (fun _ h9 => h9) rfl dX6_areWaysSound_54 ?_
    refine lv_iload_n hx hb dX6_areWaysSound_57 rfl (lv_at hl 4 rfl) ?_
    refine lv_iload_n hx hb dX6_areWaysSound_58 rfl (lv_at hl 5 rfl) ?_
    refine jx_callV (As := [.int (nI a), .int (nI o)]) (rest := [.ref (g 0)]) ⟨hx, hb, hml, hown, hts⟩ (c_X4_side l D cI cO g P n st sm gr co en la ro ((jmCFS a o (jmC3 sm gr st (fun _ _ => 0) n) ((jmCFS a o (jmC2 sm gr st (jmC1 a o P) n) ca qu).2.2.1) ((jmCFS a o (jmC2 sm gr st (jmC1 a o P) n) ca qu).2.2.2)).2.2.1) ((jmCFS a o (jmC3 sm gr st (fun _ _ => 0) n) ((jmCFS a o (jmC2 sm gr st (jmC1 a o P) n) ca qu).2.2.1) ((jmCFS a o (jmC2 sm gr st (jmC1 a o P) n) ca qu).2.2.2)).2.2.2) hw a o (by omega) (by omega)) (cwV 2 hts gX6_areWaysSound_X4_side rfl rfl rfl (by decide +kernel) ⟨Nat.le_of_ble_eq_true rfl, Nat.le_of_ble_eq_true rfl⟩) hN (hP.sub (ws' := jW cI g P n st sm gr co en la ++ jY cI cO g ro ((jmCFS a o (jmC3 sm gr st (fun _ _ => 0) n) ((jmCFS a o (jmC2 sm gr st (jmC1 a o P) n) ca qu).2.2.1) ((jmCFS a o (jmC2 sm gr st (jmC1 a o P) n) ca qu).2.2.2)).2.2.1) ((jmCFS a o (jmC3 sm gr st (fun _ _ => 0) n) ((jmCFS a o (jmC2 sm gr st (jmC1 a o P) n) ca qu).2.2.1) ((jmCFS a o (jmC2 sm gr st (jmC1 a o P) n) ca qu).2.2.2)).2.2.2)) [0, 1, 2, 3, 4, 5, 6, 7, 8, 9] rfl) (hK.sub (tys' := [(cI, .int), (cO, .array .int)]) [0, 1] rfl) 6 4 rfl rfl rfl rfl hl.1 rfl (Nat.le_of_ble_eq_true rfl) dX6_areWaysSound_59 ⟨Nat.zero_le _, Nat.zero_le _⟩ (fun r hr => ?_)
    subst hr
    refine jx_callV (As := [.int (nI (jmSide la P st a o))]) (rest := []) ⟨hx, hb, hml, hown, hts⟩ (c_X5_linesOutOf l D cI g P n st sm gr co en la hw (jmSide la P st a o) (by omega)) (cwV 1 hts gX6_areWaysSound_X5_linesOutOf rfl rfl rfl (by decide +kernel) ⟨Nat.le_of_ble_eq_true rfl, Nat.le_of_ble_eq_true rfl⟩) hN (hP.sub (ws' := jW cI g P n st sm gr co en la) [0, 1, 2, 3, 4, 5] rfl) (hK.sub (tys' := [(cI, .int)]) [0] rfl) 0 5 rfl rfl rfl rfl hl.1 rfl (Nat.le_of_ble_eq_true rfl) dX6_areWaysSound_62 ⟨Nat.zero_le _, Nat.zero_le _⟩ (fun r hr => ?_)
    subst hr
    refine lv_istore (lv' := [(6, .int (nI (jmOut la st (jmSide la P st a o) P))), (5, .int (jmGap en la P n st a o)), (4, .int (nI (jmLy sm gr st n a o))), (3, .int (nI (jmWy sm gr st P n a o))), (0, .ref (g 60)), (1, .int (nI a)), (2, .int (nI o))]) hx hb dX6_areWaysSound_65 hl (by decide) rfl (fun ls hl => ?_)
    refine lv_iload hx hb dX6_areWaysSound_67 (lv_at hl 2 rfl) ?_
    refine lv_iload hx hb dX6_areWaysSound_69 (lv_at hl 0 rfl) ?_
    refine jx_callS (As := [.int (nI (jmOut la st (jmSide la P st a o) P))]) (rest := [.int (nI (jmLy sm gr st n a o))]) ⟨hx, hb, hml, hown, hts⟩ (c_J6_bitCount_0f7a4 l D (jmOut la st (jmSide la P st a o) P) (jmOut_lt hst)) (va_cwS 1 hts gX6_areWaysSound_J6_bitCount_0f7a4 rfl rfl rfl (by decide +kernel) ⟨Nat.le_of_ble_eq_true rfl, Nat.le_of_ble_eq_true rfl⟩) hN (hP.sub (ws' := []) [] rfl) (hK.sub (tys' := []) [] rfl) rfl hl.1 rfl (Nat.le_of_ble_eq_true rfl) dX6_areWaysSound_71 ⟨Nat.zero_le _, Nat.zero_le _⟩ (fun r hr => ?_)
    subst hr
    refine lv_icmp_ne (tgt := 87) hx hb dX6_areWaysSound_74 (by decide) (fun c74 => ?_) (fun c74 => ?_)
    · have c74 : jmLy sm gr st n a o ≠ jmPop (jmOut la st (jmSide la P st a o) P) := jx_ne c74
      first | exact absurd h2 c74 | exact absurd h3 (by omega)
    · have c74 : jmLy sm gr st n a o = jmPop (jmOut la st (jmSide la P st a o) P) := jx_e (by omega) (Nat.lt_of_le_of_lt (jmPop_le _) (by decide)) c74
      refine lv_iload hx hb dX6_areWaysSound_77 (lv_at hl 2 rfl) ?_
      refine lv_iload_n hx hb dX6_areWaysSound_79 rfl (lv_at hl 3 rfl) ?_
      refine lv_icmp_lt (tgt := 87) hx hb dX6_areWaysSound_80 (by decide) (fun c80 => ?_) (fun c80 => ?_)
      · have c80 : jmLy sm gr st n a o < jmWy sm gr st P n a o := jx_lt (by omega) (by omega) c80
        first | exact absurd h2 c74 | exact absurd h3 (by omega)
      · have c80 : jmWy sm gr st P n a o ≤ jmLy sm gr st n a o := jx_nlt (by omega) (by omega) c80
        refine lv_iconst (v := nI 1) hx hb dX6_areWaysSound_83 (by decide) ?_
        refine lv_goto (tgt := 88) hx hb dX6_areWaysSound_84 (by decide) ?_
        have ev_1 : (jmCFS a o (jmC3 sm gr st (fun _ _ => 0) n) ((jmCFS a o (jmC2 sm gr st (jmC1 a o P) n) ca qu).2.2.1) ((jmCFS a o (jmC2 sm gr st (jmC1 a o P) n) ca qu).2.2.2)).2.2.1 = (jmAs sm gr P n st a o (rm, ca, qu)).2.1 := by rw [jmAs_eq]
        have ev_2 : (jmCFS a o (jmC3 sm gr st (fun _ _ => 0) n) ((jmCFS a o (jmC2 sm gr st (jmC1 a o P) n) ca qu).2.2.1) ((jmCFS a o (jmC2 sm gr st (jmC1 a o P) n) ca qu).2.2.2)).2.2.2 = (jmAs sm gr P n st a o (rm, ca, qu)).2.2 := by rw [jmAs_eq]
        have ev_3 : (jmCFS a o (jmC3 sm gr st (fun _ _ => 0) n) ((jmCFS a o (jmC2 sm gr st (jmC1 a o P) n) ca qu).2.2.1) ((jmCFS a o (jmC2 sm gr st (jmC1 a o P) n) ca qu).2.2.2)).2.1 = (jmAs sm gr P n st a o (rm, ca, qu)).1 := by rw [jmAs_eq]
        exact hQ true H locs _ _ dX6_areWaysSound_88 rfl (by rw [← ev_1, ← ev_2, ← ev_3]; exact hP) hS
  · skip
    obtain ⟨g9, hg9, eg9, ep9⟩ := h1.resolve_left c35
    refine lv_iload hx hb dX6_areWaysSound_38 (lv_at hl 0 rfl) ?_
    refine jx_val (z := (nI g9)) eg9 ?_
    refine jx_callS (As := [.int (nI g9)]) (rest := []) ⟨hx, hb, hml, hown, hts⟩ (c_J6_bitCount_0f7a4 l D g9 (by omega)) (va_cwS 1 hts gX6_areWaysSound_J6_bitCount_0f7a4 rfl rfl rfl (by decide +kernel) ⟨Nat.le_of_ble_eq_true rfl, Nat.le_of_ble_eq_true rfl⟩) hN (hP.sub (ws' := []) [] rfl) (hK.sub (tys' := []) [] rfl) rfl hl.1 rfl (Nat.le_of_ble_eq_true rfl) dX6_areWaysSound_40 ⟨Nat.zero_le _, Nat.zero_le _⟩ (fun r hr => ?_)
    subst hr
    refine lv_iload_n hx hb dX6_areWaysSound_43 rfl (lv_at hl 2 rfl) ?_
    refine lv_icmp_eq (tgt := 49) hx hb dX6_areWaysSound_44 (by decide) (fun c44 => ?_) (fun c44 => ?_)
    · have c44 : jmPop g9 = jmWy sm gr st P n a o := jx_e (Nat.lt_of_le_of_lt (jmPop_le _) (by decide)) (by omega) c44
      refine lv_aload_n hx hb dX6_areWaysSound_49 rfl (lv_at hl 3 rfl) ?_
      refine va_get (D := D) (ci := 6) (v := .ref (g 0)) (C := RX6) (T := TX6) (N := 7) hx hb hts in_X6_areWaysSound_6 hown hK hP 26 rfl rfl 0 (by decide) (hts (.fieldLink RX6 10 "Twincuts" "web" "LTwincuts$Web;") (List.mem_of_getElem? (i := 2) (by decide +kernel))) (fun _ h9 => h9) rfl dX6_areWaysSound_50 ?_
      refine lv_aload_n hx hb dX6_areWaysSound_53 rfl (lv_at hl 3 rfl) ?_
      refine va_get (D := D) (ci := 6) (v := .ref (g 20)) (C := RX6) (T := TX6) (N := 7) hx hb hts in_X6_areWaysSound_6 hown hK hP 26 rfl rfl 2 (by decide) (hts (.fieldLink RX6 28 "Twincuts" "ways" "LTwincuts$Ways;") (List.mem_of_getElem? (i := 1) (by decide +kernel))) (fun _ h9 => h9) rfl dX6_areWaysSound_54 ?_
      refine lv_iload_n hx hb dX6_areWaysSound_57 rfl (lv_at hl 4 rfl) ?_
      refine lv_iload_n hx hb dX6_areWaysSound_58 rfl (lv_at hl 5 rfl) ?_
      refine jx_callV (As := [.int (nI a), .int (nI o)]) (rest := [.ref (g 0)]) ⟨hx, hb, hml, hown, hts⟩ (c_X4_side l D cI cO g P n st sm gr co en la ro ((jmCFS a o (jmC3 sm gr st (fun _ _ => 0) n) ((jmCFS a o (jmC2 sm gr st (jmC1 a o P) n) ca qu).2.2.1) ((jmCFS a o (jmC2 sm gr st (jmC1 a o P) n) ca qu).2.2.2)).2.2.1) ((jmCFS a o (jmC3 sm gr st (fun _ _ => 0) n) ((jmCFS a o (jmC2 sm gr st (jmC1 a o P) n) ca qu).2.2.1) ((jmCFS a o (jmC2 sm gr st (jmC1 a o P) n) ca qu).2.2.2)).2.2.2) hw a o (by omega) (by omega)) (cwV 2 hts gX6_areWaysSound_X4_side rfl rfl rfl (by decide +kernel) ⟨Nat.le_of_ble_eq_true rfl, Nat.le_of_ble_eq_true rfl⟩) hN (hP.sub (ws' := jW cI g P n st sm gr co en la ++ jY cI cO g ro ((jmCFS a o (jmC3 sm gr st (fun _ _ => 0) n) ((jmCFS a o (jmC2 sm gr st (jmC1 a o P) n) ca qu).2.2.1) ((jmCFS a o (jmC2 sm gr st (jmC1 a o P) n) ca qu).2.2.2)).2.2.1) ((jmCFS a o (jmC3 sm gr st (fun _ _ => 0) n) ((jmCFS a o (jmC2 sm gr st (jmC1 a o P) n) ca qu).2.2.1) ((jmCFS a o (jmC2 sm gr st (jmC1 a o P) n) ca qu).2.2.2)).2.2.2)) [0, 1, 2, 3, 4, 5, 6, 7, 8, 9] rfl) (hK.sub (tys' := [(cI, .int), (cO, .array .int)]) [0, 1] rfl) 6 4 rfl rfl rfl rfl hl.1 rfl (Nat.le_of_ble_eq_true rfl) dX6_areWaysSound_59 ⟨Nat.zero_le _, Nat.zero_le _⟩ (fun r hr => ?_)
      subst hr
      refine jx_callV (As := [.int (nI (jmSide la P st a o))]) (rest := []) ⟨hx, hb, hml, hown, hts⟩ (c_X5_linesOutOf l D cI g P n st sm gr co en la hw (jmSide la P st a o) (by omega)) (cwV 1 hts gX6_areWaysSound_X5_linesOutOf rfl rfl rfl (by decide +kernel) ⟨Nat.le_of_ble_eq_true rfl, Nat.le_of_ble_eq_true rfl⟩) hN (hP.sub (ws' := jW cI g P n st sm gr co en la) [0, 1, 2, 3, 4, 5] rfl) (hK.sub (tys' := [(cI, .int)]) [0] rfl) 0 5 rfl rfl rfl rfl hl.1 rfl (Nat.le_of_ble_eq_true rfl) dX6_areWaysSound_62 ⟨Nat.zero_le _, Nat.zero_le _⟩ (fun r hr => ?_)
      subst hr
      refine lv_istore (lv' := [(6, .int (nI (jmOut la st (jmSide la P st a o) P))), (5, .int (jmGap en la P n st a o)), (4, .int (nI (jmLy sm gr st n a o))), (3, .int (nI (jmWy sm gr st P n a o))), (0, .ref (g 60)), (1, .int (nI a)), (2, .int (nI o))]) hx hb dX6_areWaysSound_65 hl (by decide) rfl (fun ls hl => ?_)
      refine lv_iload hx hb dX6_areWaysSound_67 (lv_at hl 2 rfl) ?_
      refine lv_iload hx hb dX6_areWaysSound_69 (lv_at hl 0 rfl) ?_
      refine jx_callS (As := [.int (nI (jmOut la st (jmSide la P st a o) P))]) (rest := [.int (nI (jmLy sm gr st n a o))]) ⟨hx, hb, hml, hown, hts⟩ (c_J6_bitCount_0f7a4 l D (jmOut la st (jmSide la P st a o) P) (jmOut_lt hst)) (va_cwS 1 hts gX6_areWaysSound_J6_bitCount_0f7a4 rfl rfl rfl (by decide +kernel) ⟨Nat.le_of_ble_eq_true rfl, Nat.le_of_ble_eq_true rfl⟩) hN (hP.sub (ws' := []) [] rfl) (hK.sub (tys' := []) [] rfl) rfl hl.1 rfl (Nat.le_of_ble_eq_true rfl) dX6_areWaysSound_71 ⟨Nat.zero_le _, Nat.zero_le _⟩ (fun r hr => ?_)
      subst hr
      refine lv_icmp_ne (tgt := 87) hx hb dX6_areWaysSound_74 (by decide) (fun c74 => ?_) (fun c74 => ?_)
      · have c74 : jmLy sm gr st n a o ≠ jmPop (jmOut la st (jmSide la P st a o) P) := jx_ne c74
        first | exact absurd h2 c74 | exact absurd h3 (by omega)
      · have c74 : jmLy sm gr st n a o = jmPop (jmOut la st (jmSide la P st a o) P) := jx_e (by omega) (Nat.lt_of_le_of_lt (jmPop_le _) (by decide)) c74
        refine lv_iload hx hb dX6_areWaysSound_77 (lv_at hl 2 rfl) ?_
        refine lv_iload_n hx hb dX6_areWaysSound_79 rfl (lv_at hl 3 rfl) ?_
        refine lv_icmp_lt (tgt := 87) hx hb dX6_areWaysSound_80 (by decide) (fun c80 => ?_) (fun c80 => ?_)
        · have c80 : jmLy sm gr st n a o < jmWy sm gr st P n a o := jx_lt (by omega) (by omega) c80
          first | exact absurd h2 c74 | exact absurd h3 (by omega)
        · have c80 : jmWy sm gr st P n a o ≤ jmLy sm gr st n a o := jx_nlt (by omega) (by omega) c80
          refine lv_iconst (v := nI 1) hx hb dX6_areWaysSound_83 (by decide) ?_
          refine lv_goto (tgt := 88) hx hb dX6_areWaysSound_84 (by decide) ?_
          have ev_4 : (jmCFS a o (jmC3 sm gr st (fun _ _ => 0) n) ((jmCFS a o (jmC2 sm gr st (jmC1 a o P) n) ca qu).2.2.1) ((jmCFS a o (jmC2 sm gr st (jmC1 a o P) n) ca qu).2.2.2)).2.2.1 = (jmAs sm gr P n st a o (rm, ca, qu)).2.1 := by rw [jmAs_eq]
          have ev_5 : (jmCFS a o (jmC3 sm gr st (fun _ _ => 0) n) ((jmCFS a o (jmC2 sm gr st (jmC1 a o P) n) ca qu).2.2.1) ((jmCFS a o (jmC2 sm gr st (jmC1 a o P) n) ca qu).2.2.2)).2.2.2 = (jmAs sm gr P n st a o (rm, ca, qu)).2.2 := by rw [jmAs_eq]
          have ev_6 : (jmCFS a o (jmC3 sm gr st (fun _ _ => 0) n) ((jmCFS a o (jmC2 sm gr st (jmC1 a o P) n) ca qu).2.2.1) ((jmCFS a o (jmC2 sm gr st (jmC1 a o P) n) ca qu).2.2.2)).2.1 = (jmAs sm gr P n st a o (rm, ca, qu)).1 := by rw [jmAs_eq]
          exact hQ true H locs _ _ dX6_areWaysSound_88 rfl (by rw [← ev_4, ← ev_5, ← ev_6]; exact hP) hS
    · have c44 : jmPop g9 ≠ jmWy sm gr st P n a o := jx_ne c44
      exact absurd ep9 c44
set_option maxRecDepth 20000 in
theorem in_X6_areAllWaysSound_6 : ∀ w ∈ wsX60, w ∈ wsX6_areAllWaysSound := by decide +kernel
set_option maxRecDepth 20000 in
theorem in_X6_areAllWaysSound_5 : ∀ w ∈ wsX50, w ∈ wsX6_areAllWaysSound := by decide +kernel
set_option maxRecDepth 20000 in
theorem in_X6_areAllWaysSound_4 : ∀ w ∈ wsX40, w ∈ wsX6_areAllWaysSound := by decide +kernel
set_option maxHeartbeats 4000000 in
set_option maxRecDepth 100000 in
/-- areAllWaysSound() -/
theorem c_X6_areAllWaysSound (l : Launch) (D : va_G) (cI : ClassId) (cO : ClassId) (g : Nat → Nat) (P n st : Nat) (sm gr co en la : Nat → Nat) (ro : Nat → Nat) (ca : Nat → Int32) (qu : Nat → Nat) (rm : Nat → Nat → Int32) (rf : Int32) (sz : Nat) (hw : jmWF P n st sm gr co en la) (hqu : ∀ j, j < 16 → qu j < 16) (hAW : ∀ a o, a < P → o < P → a ≠ o → jmWok sm gr en la P n st a o)  : jxWi l yX6_areAllWaysSound wsX6_areAllWaysSound ({ frames := 4, cells := 0, slots := 0, locals := 103 } : Room) D [(cI, .int), (cO, .array .int)] (jW cI g P n st sm gr co en la ++ jY cI cO g ro ca qu ++ jRI cI 16 16 ro rm ++ jC g rf) [.ref (g 60)] sz (fun r => r = nI 1) (jW cI g P n st sm gr co en la ++ jY cI cO g ro ((jmAp sm gr P n st P (rm, ca, qu)).2.1) ((jmAp sm gr P n st P (rm, ca, qu)).2.2) ++ jRI cI 16 16 ro ((jmAp sm gr P n st P (rm, ca, qu)).1) ++ jC g rf) := by
  refine jxw_enterZ (by decide) rfl (Nat.le_of_ble_eq_true rfl) ?_
  intro p e s m args below meth c Q A ls hx hb hml hts hown hN hP hK hD hA hl hQ
  have hD0 := hD
  obtain ⟨H, hH⟩ : ∃ h, h = s.heap := ⟨_, rfl⟩
  have hS : va_S A s.heap H [] := by rw [hH]; exact va_S.rf
  rw [← hH] at hP ⊢
  obtain ⟨locs, hlocs⟩ : ∃ z : List Loc, z = [] := ⟨_, rfl⟩
  rw [← hlocs] at hS ⊢
  have hown : s.vm.findClass RX6 = some m.cls := hown
  have hl : lv_has ls 3 [(0, .ref (g 60))] := hl
  have hP8 : P ≤ 8 := hw.1
  have hn16 : n ≤ 16 := hw.2.1
  have hst : st < 65536 := jmWF_st hw
  have hen : ∀ j, j < n → en j < 256 := jmWF_en hw
  have hla : ∀ q, q < P → la q < 65536 := jmWF_la hw
  have hgr : ∀ j, j < n → sm j < 8 ∧ gr j < 8 := jmWF_gr hw
  have hco : ∀ j, j < n → co j < 21 := jmWF_co hw
  refine lv_iconst (v := nI 0) hx hb dX6_areAllWaysSound_0 (by decide) ?_
  refine lv_istore_n (lv' := [(1, .int (nI 0)), (0, .ref (g 60))]) hx hb dX6_areAllWaysSound_1 rfl hl (by decide) rfl (fun ls hl => ?_)
  have L2 : ∀ (k : Nat) (a : Nat) (ha : a ≤ P), P - a < k → ∀ (H : Heap) (locs : List Loc), va_P D vwCl (jW cI g P n st sm gr co en la ++ jY cI cO g ro ((jmAp sm gr P n st a (rm, ca, qu)).2.1) ((jmAp sm gr P n st a (rm, ca, qu)).2.2) ++ jRI cI 16 16 ro ((jmAp sm gr P n st a (rm, ca, qu)).1) ++ jC g rf) H → va_S A s.heap H locs → ∀ ls : Array Slot, lv_has ls 3 [(0, .ref (g 60)), (1, .int (nI a))] → W p l e ({ frames := 4, cells := 0, slots := 0, locals := 103 } : Room) s m args below meth c H locs 0 0 Q (F0 m 2 ls []) := by
    intro k
    induction k with
    | zero => intro a ha hk; exact absurd hk (Nat.not_lt_zero _)
    | succ k ih2 =>
      intro a ha hk H locs hP hS ls hl
      have hD : va_D A (jW cI g P n st sm gr co en la ++ jY cI cO g ro ((jmAp sm gr P n st a (rm, ca, qu)).2.1) ((jmAp sm gr P n st a (rm, ca, qu)).2.2) ++ jRI cI 16 16 ro ((jmAp sm gr P n st a (rm, ca, qu)).1) ++ jC g rf) := jxD hD0 rfl
      have hq1 := jmAp_qu (sm := sm) (gr := gr) (P := P) (n := n) (st := st) (t := (rm, ca, qu)) hqu a (by omega)
      refine lv_iload_n hx hb dX6_areAllWaysSound_2 rfl (lv_at hl 1 rfl) ?_
      refine lv_aload_n hx hb dX6_areAllWaysSound_3 rfl (lv_at hl 0 rfl) ?_
      refine va_get (D := D) (ci := 6) (v := .ref (g 0)) (C := RX6) (T := TX6) (N := 7) hx hb hts in_X6_areAllWaysSound_6 hown hK hP 26 rfl rfl 0 (by decide) (hts (.fieldLink RX6 10 "Twincuts" "web" "LTwincuts$Web;") (List.mem_of_getElem? (i := 1) (by decide +kernel))) (fun _ h9 => h9) rfl dX6_areAllWaysSound_4 ?_
      refine va_getN (D := D) (ci := 5) (v := .int (nI P)) (C := RX5) (T := TX5) (N := 8) hx hb hts in_X6_areAllWaysSound_5 hown hK hP 0 rfl rfl 0 (by decide) (hN.use 0 rfl) (fun _ h9 => h9) rfl dX6_areAllWaysSound_7 ?_
      refine lv_icmp_ge (tgt := 51) hx hb dX6_areAllWaysSound_10 (by decide) (fun c10 => ?_) (fun c10 => ?_)
      · have c10 : P ≤ a := jx_le (by omega) (by omega) c10
        have es_51 : P = a := (by omega)
        subst es_51
        refine lv_iconst (v := nI 1) hx hb dX6_areAllWaysSound_51 (by decide) ?_
        exact hQ true H locs _ _ dX6_areAllWaysSound_52 rfl hP hS
      · have c10 : a < P := jx_nle (by omega) (by omega) c10
        refine lv_iload_n hx hb dX6_areAllWaysSound_13 rfl (lv_at hl 1 rfl) ?_
        refine lv_iconst (v := nI 1) hx hb dX6_areAllWaysSound_14 (by decide) ?_
        refine lv_iadd hx hb dX6_areAllWaysSound_15 ?_
        refine jx_val (z := (nI (a + 1))) (nI_add _ _) ?_
        refine lv_istore_n (lv' := [(2, .int (nI (a + 1))), (0, .ref (g 60)), (1, .int (nI a))]) hx hb dX6_areAllWaysSound_16 rfl hl (by decide) rfl (fun ls hl => ?_)
        have L17 : ∀ (k : Nat) (kk : Nat) (hkk : a + 1 + kk ≤ P), P - (a + 1 + kk) < k → ∀ (H : Heap) (locs : List Loc), va_P D vwCl (jW cI g P n st sm gr co en la ++ jY cI cO g ro ((jmAo sm gr P n st a kk (jmAp sm gr P n st a (rm, ca, qu))).2.1) ((jmAo sm gr P n st a kk (jmAp sm gr P n st a (rm, ca, qu))).2.2) ++ jRI cI 16 16 ro ((jmAo sm gr P n st a kk (jmAp sm gr P n st a (rm, ca, qu))).1) ++ jC g rf) H → va_S A s.heap H locs → ∀ ls : Array Slot, lv_has ls 3 [(0, .ref (g 60)), (1, .int (nI a)), (2, .int (nI (a + 1 + kk)))] → W p l e ({ frames := 4, cells := 0, slots := 0, locals := 103 } : Room) s m args below meth c H locs 0 0 Q (F0 m 17 ls []) := by
          intro k
          induction k with
          | zero => intro kk hkk hk; exact absurd hk (Nat.not_lt_zero _)
          | succ k ih17 =>
            intro kk hkk hk H locs hP hS ls hl
            have hD : va_D A (jW cI g P n st sm gr co en la ++ jY cI cO g ro ((jmAo sm gr P n st a kk (jmAp sm gr P n st a (rm, ca, qu))).2.1) ((jmAo sm gr P n st a kk (jmAp sm gr P n st a (rm, ca, qu))).2.2) ++ jRI cI 16 16 ro ((jmAo sm gr P n st a kk (jmAp sm gr P n st a (rm, ca, qu))).1) ++ jC g rf) := jxD hD0 rfl
            have hq2 := jmAo_qu (sm := sm) (gr := gr) (P := P) (n := n) (st := st) (a := a) (by omega) hq1 kk
            refine lv_iload_n hx hb dX6_areAllWaysSound_17 rfl (lv_at hl 2 rfl) ?_
            refine lv_aload_n hx hb dX6_areAllWaysSound_18 rfl (lv_at hl 0 rfl) ?_
            refine va_get (D := D) (ci := 6) (v := .ref (g 0)) (C := RX6) (T := TX6) (N := 7) hx hb hts in_X6_areAllWaysSound_6 hown hK hP 26 rfl rfl 0 (by decide) (hts (.fieldLink RX6 10 "Twincuts" "web" "LTwincuts$Web;") (List.mem_of_getElem? (i := 1) (by decide +kernel))) (fun _ h9 => h9) rfl dX6_areAllWaysSound_19 ?_
            refine va_getN (D := D) (ci := 5) (v := .int (nI P)) (C := RX5) (T := TX5) (N := 8) hx hb hts in_X6_areAllWaysSound_5 hown hK hP 0 rfl rfl 0 (by decide) (hN.use 0 rfl) (fun _ h9 => h9) rfl dX6_areAllWaysSound_22 ?_
            refine lv_icmp_ge (tgt := 45) hx hb dX6_areAllWaysSound_25 (by decide) (fun c25 => ?_) (fun c25 => ?_)
            · have c25 : P ≤ a + 1 + kk := jx_le (by omega) (by omega) c25
              have es_45 : kk = (P - (a + 1)) := (by omega)
              subst es_45
              refine lv_iinc (v := nI (a + 1)) (lv' := [(1, .int (nI (a + 1))), (0, .ref (g 60)), (2, .int (nI (a + 1 + (P - (a + 1)))))]) hx hb dX6_areAllWaysSound_45 hl (k := 1) rfl (jx_inc _) (by decide) rfl (fun ls hl => ?_)
              refine lv_goto (tgt := 2) hx hb dX6_areAllWaysSound_48 (by decide) ?_
              have ew_1 : (jmAo sm gr P n st a (P - (a + 1)) (jmAp sm gr P n st a (rm, ca, qu))).2.1 = (jmAp sm gr P n st (a + 1) (rm, ca, qu)).2.1 := by first | with_reducible rfl | rfl
              have ew_2 : (jmAo sm gr P n st a (P - (a + 1)) (jmAp sm gr P n st a (rm, ca, qu))).2.2 = (jmAp sm gr P n st (a + 1) (rm, ca, qu)).2.2 := by first | with_reducible rfl | rfl
              have ew_3 : (jmAo sm gr P n st a (P - (a + 1)) (jmAp sm gr P n st a (rm, ca, qu))).1 = (jmAp sm gr P n st (a + 1) (rm, ca, qu)).1 := by first | with_reducible rfl | rfl
              exact ih2 (a + 1) (by omega) (by omega) H locs (by rw [← ew_1, ← ew_2, ← ew_3]; exact hP) hS ls (lv_sub hl [1, 0] rfl)
            · have c25 : a + 1 + kk < P := jx_nle (by omega) (by omega) c25
              refine lv_aload_n hx hb dX6_areAllWaysSound_28 rfl (lv_at hl 0 rfl) ?_
              refine lv_iload_n hx hb dX6_areAllWaysSound_29 rfl (lv_at hl 1 rfl) ?_
              refine lv_iload_n hx hb dX6_areAllWaysSound_30 rfl (lv_at hl 2 rfl) ?_
              refine jxw_callVi (X := jW cI g P n st sm gr co en la ++ jY cI cO g ro ((jmAo sm gr P n st a kk (jmAp sm gr P n st a (rm, ca, qu))).2.1) ((jmAo sm gr P n st a kk (jmAp sm gr P n st a (rm, ca, qu))).2.2) ++ jRI cI 16 16 ro ((jmAo sm gr P n st a kk (jmAp sm gr P n st a (rm, ca, qu))).1) ++ jC g rf) (X' := jW cI g P n st sm gr co en la ++ jY cI cO g ro ((jmAs sm gr P n st a (a + 1 + kk) ((jmAo sm gr P n st a kk (jmAp sm gr P n st a (rm, ca, qu))).1, (jmAo sm gr P n st a kk (jmAp sm gr P n st a (rm, ca, qu))).2.1, (jmAo sm gr P n st a kk (jmAp sm gr P n st a (rm, ca, qu))).2.2)).2.1) ((jmAs sm gr P n st a (a + 1 + kk) ((jmAo sm gr P n st a kk (jmAp sm gr P n st a (rm, ca, qu))).1, (jmAo sm gr P n st a kk (jmAp sm gr P n st a (rm, ca, qu))).2.1, (jmAo sm gr P n st a kk (jmAp sm gr P n st a (rm, ca, qu))).2.2)).2.2) ++ jRI cI 16 16 ro ((jmAs sm gr P n st a (a + 1 + kk) ((jmAo sm gr P n st a kk (jmAp sm gr P n st a (rm, ca, qu))).1, (jmAo sm gr P n st a kk (jmAp sm gr P n st a (rm, ca, qu))).2.1, (jmAo sm gr P n st a kk (jmAp sm gr P n st a (rm, ca, qu))).2.2)).1) ++ jC g rf) (wc := jW cI g P n st sm gr co en la ++ jY cI cO g ro ((jmAo sm gr P n st a kk (jmAp sm gr P n st a (rm, ca, qu))).2.1) ((jmAo sm gr P n st a kk (jmAp sm gr P n st a (rm, ca, qu))).2.2) ++ jRI cI 16 16 ro ((jmAo sm gr P n st a kk (jmAp sm gr P n st a (rm, ca, qu))).1) ++ jC g rf) (wc' := jW cI g P n st sm gr co en la ++ jY cI cO g ro ((jmAs sm gr P n st a (a + 1 + kk) ((jmAo sm gr P n st a kk (jmAp sm gr P n st a (rm, ca, qu))).1, (jmAo sm gr P n st a kk (jmAp sm gr P n st a (rm, ca, qu))).2.1, (jmAo sm gr P n st a kk (jmAp sm gr P n st a (rm, ca, qu))).2.2)).2.1) ((jmAs sm gr P n st a (a + 1 + kk) ((jmAo sm gr P n st a kk (jmAp sm gr P n st a (rm, ca, qu))).1, (jmAo sm gr P n st a kk (jmAp sm gr P n st a (rm, ca, qu))).2.1, (jmAo sm gr P n st a kk (jmAp sm gr P n st a (rm, ca, qu))).2.2)).2.2) ++ jRI cI 16 16 ro ((jmAs sm gr P n st a (a + 1 + kk) ((jmAo sm gr P n st a kk (jmAp sm gr P n st a (rm, ca, qu))).1, (jmAo sm gr P n st a kk (jmAp sm gr P n st a (rm, ca, qu))).2.1, (jmAo sm gr P n st a kk (jmAp sm gr P n st a (rm, ca, qu))).2.2)).1) ++ jC g rf) (wr := []) (N := 27) (As := [.int (nI a), .int (nI (a + 1 + kk))]) (rest := []) ⟨hx, hb, hml, hown, hts⟩ (c_X6_areWaysSound l D cI cO g P n st sm gr co en la ro ((jmAo sm gr P n st a kk (jmAp sm gr P n st a (rm, ca, qu))).2.1) ((jmAo sm gr P n st a kk (jmAp sm gr P n st a (rm, ca, qu))).2.2) ((jmAo sm gr P n st a kk (jmAp sm gr P n st a (rm, ca, qu))).1) rf H.size hw a (a + 1 + kk) (by omega) (by omega) (by omega) hq2 (hAW _ _ (by omega) (by omega) (by omega))) (cwV 2 hts gX6_areAllWaysSound_X6_areWaysSound rfl rfl rfl (by decide +kernel) ⟨Nat.le_of_ble_eq_true rfl, Nat.le_of_ble_eq_true rfl⟩) hN hP hD (hK.sub (tys' := [(cI, .int), (cO, .array .int)]) [0, 1] rfl) hS hA [0, 1, 2, 3, 4, 5, 6, 7, 8, 9, 10, 11, 12, 13, 14, 15, 16, 17, 18, 19, 20, 21, 22, 23, 24, 25, 26] [] rfl rfl rfl rfl rfl rfl (by decide) (by decide) 26 6 rfl rfl rfl (hK.sub (tys' := [(cI, .int), (cO, .array .int)]) [0, 1] rfl) rfl hl.1 rfl (Nat.le_of_ble_eq_true rfl) dX6_areAllWaysSound_31 ⟨Nat.zero_le _, Nat.zero_le _⟩ (fun r H locs hr hP hS => ?_)
              have hD : va_D A (jW cI g P n st sm gr co en la ++ jY cI cO g ro ((jmAs sm gr P n st a (a + 1 + kk) ((jmAo sm gr P n st a kk (jmAp sm gr P n st a (rm, ca, qu))).1, (jmAo sm gr P n st a kk (jmAp sm gr P n st a (rm, ca, qu))).2.1, (jmAo sm gr P n st a kk (jmAp sm gr P n st a (rm, ca, qu))).2.2)).2.1) ((jmAs sm gr P n st a (a + 1 + kk) ((jmAo sm gr P n st a kk (jmAp sm gr P n st a (rm, ca, qu))).1, (jmAo sm gr P n st a kk (jmAp sm gr P n st a (rm, ca, qu))).2.1, (jmAo sm gr P n st a kk (jmAp sm gr P n st a (rm, ca, qu))).2.2)).2.2) ++ jRI cI 16 16 ro ((jmAs sm gr P n st a (a + 1 + kk) ((jmAo sm gr P n st a kk (jmAp sm gr P n st a (rm, ca, qu))).1, (jmAo sm gr P n st a kk (jmAp sm gr P n st a (rm, ca, qu))).2.1, (jmAo sm gr P n st a kk (jmAp sm gr P n st a (rm, ca, qu))).2.2)).1) ++ jC g rf) := jxD hD0 rfl
              subst hr
              refine lv_if_ne (tgt := 39) hx hb dX6_areAllWaysSound_34 (by decide) (fun _ => ?_) (fun c => absurd c (by decide))
              refine lv_iinc (v := nI (a + 1 + kk + 1)) (lv' := [(2, .int (nI (a + 1 + kk + 1))), (0, .ref (g 60)), (1, .int (nI a))]) hx hb dX6_areAllWaysSound_39 hl (k := 2) rfl (jx_inc _) (by decide) rfl (fun ls hl => ?_)
              refine lv_goto (tgt := 17) hx hb dX6_areAllWaysSound_42 (by decide) ?_
              have ev_4 : a + 1 + kk + 1 = a + 1 + (kk + 1) := by first | with_reducible rfl | rfl
              have ew_5 : (jmAs sm gr P n st a (a + 1 + kk) ((jmAo sm gr P n st a kk (jmAp sm gr P n st a (rm, ca, qu))).1, (jmAo sm gr P n st a kk (jmAp sm gr P n st a (rm, ca, qu))).2.1, (jmAo sm gr P n st a kk (jmAp sm gr P n st a (rm, ca, qu))).2.2)).2.1 = (jmAo sm gr P n st a (kk + 1) (jmAp sm gr P n st a (rm, ca, qu))).2.1 := by first | with_reducible rfl | rfl
              have ew_6 : (jmAs sm gr P n st a (a + 1 + kk) ((jmAo sm gr P n st a kk (jmAp sm gr P n st a (rm, ca, qu))).1, (jmAo sm gr P n st a kk (jmAp sm gr P n st a (rm, ca, qu))).2.1, (jmAo sm gr P n st a kk (jmAp sm gr P n st a (rm, ca, qu))).2.2)).2.2 = (jmAo sm gr P n st a (kk + 1) (jmAp sm gr P n st a (rm, ca, qu))).2.2 := by first | with_reducible rfl | rfl
              have ew_7 : (jmAs sm gr P n st a (a + 1 + kk) ((jmAo sm gr P n st a kk (jmAp sm gr P n st a (rm, ca, qu))).1, (jmAo sm gr P n st a kk (jmAp sm gr P n st a (rm, ca, qu))).2.1, (jmAo sm gr P n st a kk (jmAp sm gr P n st a (rm, ca, qu))).2.2)).1 = (jmAo sm gr P n st a (kk + 1) (jmAp sm gr P n st a (rm, ca, qu))).1 := by first | with_reducible rfl | rfl
              exact ih17 (kk + 1) (by omega) (by omega) H locs (by rw [← ew_5, ← ew_6, ← ew_7]; exact hP) hS ls (by rw [← ev_4]; exact lv_sub hl [1, 2, 0] rfl)
        have ev_8 : a + 1 = a + 1 + 0 := by first | with_reducible rfl | rfl
        have ew_9 : (jmAp sm gr P n st a (rm, ca, qu)).2.1 = (jmAo sm gr P n st a 0 (jmAp sm gr P n st a (rm, ca, qu))).2.1 := by rfl
        have ew_10 : (jmAp sm gr P n st a (rm, ca, qu)).2.2 = (jmAo sm gr P n st a 0 (jmAp sm gr P n st a (rm, ca, qu))).2.2 := by rfl
        have ew_11 : (jmAp sm gr P n st a (rm, ca, qu)).1 = (jmAo sm gr P n st a 0 (jmAp sm gr P n st a (rm, ca, qu))).1 := by rfl
        exact L17 ((P - (a + 1 + 0)) + 1) 0 (by omega) (Nat.lt_succ_self _) H locs (by rw [← ew_9, ← ew_10, ← ew_11]; exact hP) hS ls (by rw [← ev_8]; exact lv_sub hl [1, 2, 0] rfl)
  have ew_12 : ca = (jmAp sm gr P n st 0 (rm, ca, qu)).2.1 := by rfl
  have ew_13 : qu = (jmAp sm gr P n st 0 (rm, ca, qu)).2.2 := by rfl
  have ew_14 : rm = (jmAp sm gr P n st 0 (rm, ca, qu)).1 := by rfl
  exact L2 ((P - 0) + 1) 0 (by omega) (Nat.lt_succ_self _) H locs (by rw [← ew_12, ← ew_13, ← ew_14]; exact hP) hS ls (lv_sub hl [1, 0] rfl)
