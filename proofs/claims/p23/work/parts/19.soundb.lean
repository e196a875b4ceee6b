set_option maxRecDepth 20000 in
theorem in_X6_areTreesSound_6 : ∀ w ∈ wsX60, w ∈ wsX6_areTreesSound := by decide +kernel
set_option maxRecDepth 20000 in
theorem in_X6_areTreesSound_1 : ∀ w ∈ wsX10, w ∈ wsX6_areTreesSound := by decide +kernel
set_option maxRecDepth 20000 in
theorem in_X6_areTreesSound_2 : ∀ w ∈ wsX20, w ∈ wsX6_areTreesSound := by decide +kernel
set_option maxRecDepth 20000 in
theorem in_X6_areTreesSound_5 : ∀ w ∈ wsX50, w ∈ wsX6_areTreesSound := by decide +kernel
set_option maxHeartbeats 4000000 in
set_option maxRecDepth 100000 in
/-- areTreesSound() -/
theorem c_X6_areTreesSound (l : Launch) (D : va_G) (cI : ClassId) (cM : ClassId) (cL : ClassId) (g : Nat → Nat) (P n st : Nat) (sm gr co en la : Nat → Nat) (fp fb fc fk fq ft : Nat) (pa ps fi : Nat → Nat) (bl : Nat → Int32) (sp gp sw gw : Nat → Nat) (rt : Nat → Nat) (cs : Nat) (ct : Int32) (jo : Nat → Nat) (tb : Nat → Nat → Int64) (rf : Int32) (sz : Nat) (hw : jmWF P n st sm gr co en la) (hfp : fp ≤ 16) (hT : (fp = 1 → 0 < (jmTrees sm gr P n st).1) ∧ (fp ≠ 1 → fp = 0 ∨ (jmTrees sm gr P n st).1 = 0))  : jxWi l yX6_areTreesSound wsX6_areTreesSound ({ frames := 3, cells := 0, slots := 0, locals := 64 } : Room) D [(cI, .int), (cM, .array .long), (cL, .long)] (jW cI g P n st sm gr co en la ++ jF cI g fp fb fc fk fq ft pa ps fi bl sp gp sw gw ++ jT cI cM g rt cs ct jo ++ jRL cL 8 8 rt tb ++ jC g rf) [.ref (g 60)] sz (fun r => r = nI 1) (jW cI g P n st sm gr co en la ++ jF cI g fp fb fc fk fq ft pa ps fi bl sp gp sw gw ++ jT cI cM g rt cs ct jo ++ jRL cL 8 8 rt ((jmTrees sm gr P n st).2) ++ jC g rf) := by
  refine jxw_enterZ (by decide) rfl (Nat.le_of_ble_eq_true rfl) ?_
  intro p e s m args below meth c Q A ls hx hb hml hts hown hN hP hK hD hA hl hQ
  have hD0 := hD
  obtain ⟨H, hH⟩ : ∃ h, h = s.heap := ⟨_, rfl⟩
  have hS : va_S A s.heap H [] := by rw [hH]; exact va_S.rf
  rw [← hH] at hP ⊢
  obtain ⟨locs, hlocs⟩ : ∃ z : List Loc, z = [] := ⟨_, rfl⟩
  rw [← hlocs] at hS ⊢
  have hown : s.vm.findClass RX6 = some m.cls := hown
  have hl : lv_has ls 3 [(0, .ref (g 60))] := hl
  have hP8 : P ≤ 8 := hw.1
  have hn16 : n ≤ 16 := hw.2.1
  have hst : st < 65536 := jmWF_st hw
  have hen : ∀ j, j < n → en j < 256 := jmWF_en hw
  have hla : ∀ q, q < P → la q < 65536 := jmWF_la hw
  have hgr : ∀ j, j < n → sm j < 8 ∧ gr j < 8 := jmWF_gr hw
  have hco : ∀ j, j < n → co j < 21 := jmWF_co hw
  refine lv_aload_n hx hb dX6_areTreesSound_0 rfl (lv_at hl 0 rfl) ?_
  refine va_get (D := D) (ci := 6) (v := .ref (g 30)) (C := RX6) (T := TX6) (N := 7) hx hb hts in_X6_areTreesSound_6 hown hK hP 26 rfl rfl 3 (by decide) (hts (.fieldLink RX6 35 "Twincuts" "forest" "LTwincuts$Forest;") (List.mem_of_getElem? (i := 1) (by decide +kernel))) (fun _ h9 => h9) rfl dX6_areTreesSound_1 ?_
  refine jxw_callVl (X := jW cI g P n st sm gr co en la ++ jF cI g fp fb fc fk fq ft pa ps fi bl sp gp sw gw ++ jT cI cM g rt cs ct jo ++ jRL cL 8 8 rt tb ++ jC g rf) (X' := jW cI g P n st sm gr co en la ++ jF cI g fp fb fc fk fq ft pa ps fi bl sp gp sw gw ++ jT cI cM g rt cs ct jo ++ jRL cL 8 8 rt ((jmTrees sm gr P n st).2) ++ jC g rf) (wc := jW cI g P n st sm gr co en la ++ jT cI cM g rt cs ct jo ++ jRL cL 8 8 rt tb) (wc' := jW cI g P n st sm gr co en la ++ jT cI cM g rt cs ct jo ++ jRL cL 8 8 rt ((jmTrees sm gr P n st).2)) (wr := jF cI g fp fb fc fk fq ft pa ps fi bl sp gp sw gw ++ jC g rf) (N := 27) (As := []) (rest := []) ⟨hx, hb, hml, hown, hts⟩ (c_X2_countTrees l D cI cM cL g P n st sm gr co en la rt cs ct jo tb H.size hw) (cwV 0 hts gX6_areTreesSound_X2_countTrees rfl rfl rfl (by decide +kernel) ⟨Nat.le_of_ble_eq_true rfl, Nat.le_of_ble_eq_true rfl⟩) hN hP hD (hK.sub (tys' := [(cI, .int), (cM, .array .long), (cL, .long)]) [0, 1, 2] rfl) hS hA [0, 1, 2, 3, 4, 5, 15, 16, 17, 18, 19, 20, 21, 22, 23, 24, 25] [6, 7, 8, 9, 10, 11, 12, 13, 14, 26] rfl rfl rfl rfl rfl rfl (by decide) (by decide) 15 2 rfl rfl rfl (hK.sub (tys' := [(cI, .int), (cM, .array .long), (cL, .long)]) [0, 1, 2] rfl) rfl hl.1 rfl (Nat.le_of_ble_eq_true rfl) dX6_areTreesSound_4 ⟨Nat.zero_le _, Nat.zero_le _⟩ (fun r H locs hr hP hS => ?_)
  have hD : va_D A (jW cI g P n st sm gr co en la ++ jF cI g fp fb fc fk fq ft pa ps fi bl sp gp sw gw ++ jT cI cM g rt cs ct jo ++ jRL cL 8 8 rt ((jmTrees sm gr P n st).2) ++ jC g rf) := jxD hD0 rfl
  subst hr
  refine lv_lstore_n (lv' := [(1, .long ((jmTrees sm gr P n st).1)), (0, .ref (g 60))]) hx hb dX6_areTreesSound_7 rfl hl (by decide) rfl (fun ls hl => ?_)
  refine lv_aload_n hx hb dX6_areTreesSound_8 rfl (lv_at hl 1 rfl) ?_
  refine va_get (D := D) (ci := 6) (v := .ref (g 10)) (C := RX6) (T := TX6) (N := 7) hx hb hts in_X6_areTreesSound_6 hown hK hP 26 rfl rfl 1 (by decide) (hts (.fieldLink RX6 21 "Twincuts" "falls" "LTwincuts$Falls;") (List.mem_of_getElem? (i := 2) (by decide +kernel))) (fun _ h9 => h9) rfl dX6_areTreesSound_9 ?_
  refine va_getN (D := D) (ci := 1) (v := .int (nI fp)) (C := RX1) (T := TX1) (N := 15) hx hb hts in_X6_areTreesSound_1 hown hK hP 6 rfl rfl 1 (by decide) (hN.use 26 rfl) (fun _ h9 => h9) rfl dX6_areTreesSound_12 ?_
  refine lv_iconst (v := nI 1) hx hb dX6_areTreesSound_15 (by decide) ?_
  refine lv_icmp_ne (tgt := 31) hx hb dX6_areTreesSound_16 (by decide) (fun c16 => ?_) (fun c16 => ?_)
  · have c16 : fp ≠ 1 := jx_ne c16
    refine lv_aload_n hx hb dX6_areTreesSound_31 rfl (lv_at hl 1 rfl) ?_
    refine va_get (D := D) (ci := 6) (v := .ref (g 10)) (C := RX6) (T := TX6) (N := 7) hx hb hts in_X6_areTreesSound_6 hown hK hP 26 rfl rfl 1 (by decide) (hts (.fieldLink RX6 21 "Twincuts" "falls" "LTwincuts$Falls;") (List.mem_of_getElem? (i := 2) (by decide +kernel))) (fun _ h9 => h9) rfl dX6_areTreesSound_32 ?_
    refine va_getN (D := D) (ci := 1) (v := .int (nI fp)) (C := RX1) (T := TX1) (N := 15) hx hb hts in_X6_areTreesSound_1 hown hK hP 6 rfl rfl 1 (by decide) (hN.use 26 rfl) (fun _ h9 => h9) rfl dX6_areTreesSound_35 ?_
    refine lv_if_eq (tgt := 47) hx hb dX6_areTreesSound_38 (by decide) (fun c38 => ?_) (fun c38 => ?_)
    · have c38 : fp = 0 := jx_z (by omega) c38
      refine lv_iconst (v := nI 1) hx hb dX6_areTreesSound_47 (by decide) ?_
      refine lv_goto (tgt := 52) hx hb dX6_areTreesSound_48 (by decide) ?_
      exact hQ true H locs _ _ dX6_areTreesSound_52 rfl hP hS
    · have c38 : fp ≠ 0 := jx_nz c38
      refine lv_lload_n hx hb dX6_areTreesSound_41 rfl (lv_at hl 0 rfl) ?_
      refine lv_lconst (v := (0 : Int64)) hx hb dX6_areTreesSound_42 (by decide) ?_
      refine W.lcmp hx hb dX6_areTreesSound_43 ?_
      refine lv_if_ne (tgt := 51) hx hb dX6_areTreesSound_44 (by decide) (fun c44 => ?_) (fun c44 => ?_)
      · have c44 : ¬ (jmTrees sm gr P n st).1 = 0 := fun z => c44 ((lg_cmp_eq _ _).mpr z)
        exact absurd ((hT.2 c16).resolve_left c38) c44
      · skip
        refine lv_iconst (v := nI 1) hx hb dX6_areTreesSound_47 (by decide) ?_
        refine lv_goto (tgt := 52) hx hb dX6_areTreesSound_48 (by decide) ?_
        exact hQ true H locs _ _ dX6_areTreesSound_52 rfl hP hS
  · have c16 : fp = 1 := jx_e (by omega) (by decide) c16
    refine lv_lload_n hx hb dX6_areTreesSound_19 rfl (lv_at hl 0 rfl) ?_
    refine lv_lconst (v := (0 : Int64)) hx hb dX6_areTreesSound_20 (by decide) ?_
    refine W.lcmp hx hb dX6_areTreesSound_21 ?_
    refine lv_if_le (tgt := 29) hx hb dX6_areTreesSound_22 (by decide) (fun c22 => ?_) (fun c22 => ?_)
    · have c22 := (lg_cmp_le _ _).mp c22
      exact absurd (hT.1 c16) (Int64.not_lt.mpr c22)
    · skip
      refine lv_iconst (v := nI 1) hx hb dX6_areTreesSound_25 (by decide) ?_
      refine lv_goto (tgt := 30) hx hb dX6_areTreesSound_26 (by decide) ?_
      exact hQ true H locs _ _ dX6_areTreesSound_30 rfl hP hS
set_option maxRecDepth 20000 in
theorem in_X6_isColouringSound_6 : ∀ w ∈ wsX60, w ∈ wsX6_isColouringSound := by decide +kernel
set_option maxRecDepth 20000 in
theorem in_X6_isColouringSound_5 : ∀ w ∈ wsX50, w ∈ wsX6_isColouringSound := by decide +kernel
set_option maxRecDepth 20000 in
theorem in_X6_isColouringSound_3 : ∀ w ∈ wsX30, w ∈ wsX6_isColouringSound := by decide +kernel
set_option maxHeartbeats 4000000 in
set_option maxRecDepth 100000 in
/-- isColouringSound() -/
theorem c_X6_isColouringSound (l : Launch) (D : va_G) (cI : ClassId) (g : Nat → Nat) (P n st : Nat) (sm gr co en la : Nat → Nat) (pk : Nat) (cl : Nat → Nat) (rf : Int32) (hw : jmWF P n st sm gr co en la) (hcl : ∀ j, j < 8 → cl j < 256) (hC : ∀ i, i < n → st.testBit i = true → cl (sm i) ≠ cl (gr i))  : jxRO l yX6_isColouringSound wsX6_isColouringSound ({ frames := 1, cells := 0, slots := 0, locals := 21 } : Room) D [(cI, .int)] (jW cI g P n st sm gr co en la ++ jP cI g pk cl ++ jC g rf) [.ref (g 60)] (fun r => r = nI 1) := by
  refine jx_enterZ (by decide) rfl (Nat.le_of_ble_eq_true rfl) ?_
  intro p e s m args below meth c Q ls hx hb hml hts hown hN hP hK hl hQ
  have hown : s.vm.findClass RX6 = some m.cls := hown
  have hl : lv_has ls 3 [(0, .ref (g 60))] := hl
  have hP8 : P ≤ 8 := hw.1
  have hn16 : n ≤ 16 := hw.2.1
  have hst : st < 65536 := jmWF_st hw
  have hen : ∀ j, j < n → en j < 256 := jmWF_en hw
  have hla : ∀ q, q < P → la q < 65536 := jmWF_la hw
  have hgr : ∀ j, j < n → sm j < 8 ∧ gr j < 8 := jmWF_gr hw
  have hco : ∀ j, j < n → co j < 21 := jmWF_co hw
  refine lv_iconst (v := nI 0) hx hb dX6_isColouringSound_0 (by decide) ?_
  refine lv_istore_n (lv' := [(1, .int (nI 0)), (0, .ref (g 60))]) hx hb dX6_isColouringSound_1 rfl hl (by decide) rfl (fun ls hl => ?_)
  have L2 : ∀ (k : Nat) (ln : Nat) (hln : ln ≤ n), n - ln < k → ∀ ls : Array Slot, lv_has ls 3 [(0, .ref (g 60)), (1, .int (nI ln))] → W p l e ({ frames := 1, cells := 0, slots := 0, locals := 21 } : Room) s m args below meth c s.heap [] 0 0 Q (F0 m 2 ls []) := by
    intro k
    induction k with
    | zero => intro ln hln hk; exact absurd hk (Nat.not_lt_zero _)
    | succ k ih2 =>
      intro ln hln hk ls hl
      refine lv_iload_n hx hb dX6_isColouringSound_2 rfl (lv_at hl 1 rfl) ?_
      refine lv_aload_n hx hb dX6_isColouringSound_3 rfl (lv_at hl 0 rfl) ?_
      refine va_get (D := D) (ci := 6) (v := .ref (g 0)) (C := RX6) (T := TX6) (N := 7) hx hb hts in_X6_isColouringSound_6 hown hK hP 8 rfl rfl 0 (by decide) (hts (.fieldLink RX6 10 "Twincuts" "web" "LTwincuts$Web;") (List.mem_of_getElem? (i := 1) (by decide +kernel))) (fun _ h9 => h9) rfl dX6_isColouringSound_4 ?_
      refine va_getN (D := D) (ci := 5) (v := .int (nI n)) (C := RX5) (T := TX5) (N := 8) hx hb hts in_X6_isColouringSound_5 hown hK hP 0 rfl rfl 1 (by decide) (hN.use 8 rfl) (fun _ h9 => h9) rfl dX6_isColouringSound_7 ?_
      refine lv_icmp_ge (tgt := 82) hx hb dX6_isColouringSound_10 (by decide) (fun c10 => ?_) (fun c10 => ?_)
      · have c10 : n ≤ ln := jx_le (by omega) (by omega) c10
        refine lv_iconst (v := nI 1) hx hb dX6_isColouringSound_82 (by decide) ?_
        exact hQ true _ _ dX6_isColouringSound_83 rfl
      · have c10 : ln < n := jx_nle (by omega) (by omega) c10
        have hg9 := hgr ln (by omega)
        have hc1 := hcl (sm ln) hg9.1
        have hc2 := hcl (gr ln) hg9.2
        refine lv_aload_n hx hb dX6_isColouringSound_13 rfl (lv_at hl 0 rfl) ?_
        refine va_get (D := D) (ci := 6) (v := .ref (g 40)) (C := RX6) (T := TX6) (N := 7) hx hb hts in_X6_isColouringSound_6 hown hK hP 8 rfl rfl 4 (by decide) (hts (.fieldLink RX6 42 "Twincuts" "palette" "LTwincuts$Palette;") (List.mem_of_getElem? (i := 2) (by decide +kernel))) (fun _ h9 => h9) rfl dX6_isColouringSound_14 ?_
        refine va_getN (D := D) (ci := 3) (v := .ref (g 41)) (C := RX3) (T := TX3) (N := 3) hx hb hts in_X6_isColouringSound_3 hown hK hP 6 rfl rfl 2 (by decide) (hN.use 37 rfl) (fun _ h9 => h9) rfl dX6_isColouringSound_17 ?_
        refine lv_aload_n hx hb dX6_isColouringSound_20 rfl (lv_at hl 0 rfl) ?_
        refine va_get (D := D) (ci := 6) (v := .ref (g 0)) (C := RX6) (T := TX6) (N := 7) hx hb hts in_X6_isColouringSound_6 hown hK hP 8 rfl rfl 0 (by decide) (hts (.fieldLink RX6 10 "Twincuts" "web" "LTwincuts$Web;") (List.mem_of_getElem? (i := 1) (by decide +kernel))) (fun _ h9 => h9) rfl dX6_isColouringSound_21 ?_
        refine va_getN (D := D) (ci := 5) (v := .ref (g 1)) (C := RX5) (T := TX5) (N := 8) hx hb hts in_X6_isColouringSound_5 hown hK hP 0 rfl rfl 3 (by decide) (hN.use 19 rfl) (fun _ h9 => h9) rfl dX6_isColouringSound_24 ?_
        refine lv_iload_n hx hb dX6_isColouringSound_27 rfl (lv_at hl 1 rfl) ?_
        refine jx_iald hx hb hK hP 1 0 rfl rfl (by omega) (by decide) dX6_isColouringSound_28 ?_
        refine jx_iald hx hb hK hP 7 0 rfl rfl (by omega) (by decide) dX6_isColouringSound_29 ?_
        refine lv_aload_n hx hb dX6_isColouringSound_30 rfl (lv_at hl 0 rfl) ?_
        refine va_get (D := D) (ci := 6) (v := .ref (g 40)) (C := RX6) (T := TX6) (N := 7) hx hb hts in_X6_isColouringSound_6 hown hK hP 8 rfl rfl 4 (by decide) (hts (.fieldLink RX6 42 "Twincuts" "palette" "LTwincuts$Palette;") (List.mem_of_getElem? (i := 2) (by decide +kernel))) (fun _ h9 => h9) rfl dX6_isColouringSound_31 ?_
        refine va_getN (D := D) (ci := 3) (v := .ref (g 41)) (C := RX3) (T := TX3) (N := 3) hx hb hts in_X6_isColouringSound_3 hown hK hP 6 rfl rfl 2 (by decide) (hN.use 37 rfl) (fun _ h9 => h9) rfl dX6_isColouringSound_34 ?_
        refine lv_aload_n hx hb dX6_isColouringSound_37 rfl (lv_at hl 0 rfl) ?_
        refine va_get (D := D) (ci := 6) (v := .ref (g 0)) (C := RX6) (T := TX6) (N := 7) hx hb hts in_X6_isColouringSound_6 hown hK hP 8 rfl rfl 0 (by decide) (hts (.fieldLink RX6 10 "Twincuts" "web" "LTwincuts$Web;") (List.mem_of_getElem? (i := 1) (by decide +kernel))) (fun _ h9 => h9) rfl dX6_isColouringSound_38 ?_
        refine va_getN (D := D) (ci := 5) (v := .ref (g 2)) (C := RX5) (T := TX5) (N := 8) hx hb hts in_X6_isColouringSound_5 hown hK hP 0 rfl rfl 4 (by decide) (hN.use 23 rfl) (fun _ h9 => h9) rfl dX6_isColouringSound_41 ?_
        refine lv_iload_n hx hb dX6_isColouringSound_44 rfl (lv_at hl 1 rfl) ?_
        refine jx_iald hx hb hK hP 2 0 rfl rfl (by omega) (by decide) dX6_isColouringSound_45 ?_
        refine jx_iald hx hb hK hP 7 0 rfl rfl (by omega) (by decide) dX6_isColouringSound_46 ?_
        refine lv_icmp_ne (tgt := 54) hx hb dX6_isColouringSound_47 (by decide) (fun c47 => ?_) (fun c47 => ?_)
        · have c47 : cl (sm ln) ≠ cl (gr ln) := jx_ne c47
          refine lv_iconst (v := nI 0) hx hb dX6_isColouringSound_54 (by decide) ?_
          refine lv_istore_n (lv' := [(2, .int (nI 0)), (0, .ref (g 60)), (1, .int (nI ln))]) hx hb dX6_isColouringSound_55 rfl hl (by decide) rfl (fun ls hl => ?_)
          refine lv_aload_n hx hb dX6_isColouringSound_56 rfl (lv_at hl 1 rfl) ?_
          refine va_get (D := D) (ci := 6) (v := .ref (g 0)) (C := RX6) (T := TX6) (N := 7) hx hb hts in_X6_isColouringSound_6 hown hK hP 8 rfl rfl 0 (by decide) (hts (.fieldLink RX6 10 "Twincuts" "web" "LTwincuts$Web;") (List.mem_of_getElem? (i := 1) (by decide +kernel))) (fun _ h9 => h9) rfl dX6_isColouringSound_57 ?_
          refine va_getN (D := D) (ci := 5) (v := .int (nI st)) (C := RX5) (T := TX5) (N := 8) hx hb hts in_X6_isColouringSound_5 hown hK hP 0 rfl rfl 2 (by decide) (hN.use 15 rfl) (fun _ h9 => h9) rfl dX6_isColouringSound_60 ?_
          refine lv_iload_n hx hb dX6_isColouringSound_63 rfl (lv_at hl 2 rfl) ?_
          refine jx_callS (As := [.int (nI st), .int (nI ln)]) (rest := []) ⟨hx, hb, hml, hown, hts⟩ (c_X6_has l D st ln (by omega) (by omega)) (va_cwS 2 hts gX6_isColouringSound_X6_has rfl rfl rfl (by decide +kernel) ⟨Nat.le_of_ble_eq_true rfl, Nat.le_of_ble_eq_true rfl⟩) hN (hP.sub (ws' := []) [] rfl) (hK.sub (tys' := []) [] rfl) rfl hl.1 rfl (Nat.le_of_ble_eq_true rfl) dX6_isColouringSound_64 ⟨Nat.zero_le _, Nat.zero_le _⟩ (fun r hr => ?_)
          subst hr
          refine lv_if_eq (tgt := 76) hx hb dX6_isColouringSound_67 (by decide) (fun c67 => ?_) (fun c67 => ?_)
          · have c67 := jB_0 c67
            refine lv_iinc (v := nI (ln + 1)) (lv' := [(1, .int (nI (ln + 1))), (2, .int (nI 0)), (0, .ref (g 60))]) hx hb dX6_isColouringSound_76 hl (k := 2) rfl (jx_inc _) (by decide) rfl (fun ls hl => ?_)
            refine lv_goto (tgt := 2) hx hb dX6_isColouringSound_79 (by decide) ?_
            exact ih2 (ln + 1) (by omega) (by omega) ls (lv_sub hl [2, 0] rfl)
          · have c67 := jB_1 c67
            refine lv_iload_n hx hb dX6_isColouringSound_70 rfl (lv_at hl 0 rfl) ?_
            refine lv_if_eq (tgt := 76) hx hb dX6_isColouringSound_71 (by decide) (fun _ => ?_) (fun c => absurd c (by decide))
            refine lv_iinc (v := nI (ln + 1)) (lv' := [(1, .int (nI (ln + 1))), (2, .int (nI 0)), (0, .ref (g 60))]) hx hb dX6_isColouringSound_76 hl (k := 2) rfl (jx_inc _) (by decide) rfl (fun ls hl => ?_)
            refine lv_goto (tgt := 2) hx hb dX6_isColouringSound_79 (by decide) ?_
            exact ih2 (ln + 1) (by omega) (by omega) ls (lv_sub hl [2, 0] rfl)
        · have c47 : cl (sm ln) = cl (gr ln) := jx_e (by omega) (by omega) c47
          refine lv_iconst (v := nI 1) hx hb dX6_isColouringSound_50 (by decide) ?_
          refine lv_goto (tgt := 55) hx hb dX6_isColouringSound_51 (by decide) ?_
          refine lv_istore_n (lv' := [(2, .int (nI 1)), (0, .ref (g 60)), (1, .int (nI ln))]) hx hb dX6_isColouringSound_55 rfl hl (by decide) rfl (fun ls hl => ?_)
          refine lv_aload_n hx hb dX6_isColouringSound_56 rfl (lv_at hl 1 rfl) ?_
          refine va_get (D := D) (ci := 6) (v := .ref (g 0)) (C := RX6) (T := TX6) (N := 7) hx hb hts in_X6_isColouringSound_6 hown hK hP 8 rfl rfl 0 (by decide) (hts (.fieldLink RX6 10 "Twincuts" "web" "LTwincuts$Web;") (List.mem_of_getElem? (i := 1) (by decide +kernel))) (fun _ h9 => h9) rfl dX6_isColouringSound_57 ?_
          refine va_getN (D := D) (ci := 5) (v := .int (nI st)) (C := RX5) (T := TX5) (N := 8) hx hb hts in_X6_isColouringSound_5 hown hK hP 0 rfl rfl 2 (by decide) (hN.use 15 rfl) (fun _ h9 => h9) rfl dX6_isColouringSound_60 ?_
          refine lv_iload_n hx hb dX6_isColouringSound_63 rfl (lv_at hl 2 rfl) ?_
          refine jx_callS (As := [.int (nI st), .int (nI ln)]) (rest := []) ⟨hx, hb, hml, hown, hts⟩ (c_X6_has l D st ln (by omega) (by omega)) (va_cwS 2 hts gX6_isColouringSound_X6_has rfl rfl rfl (by decide +kernel) ⟨Nat.le_of_ble_eq_true rfl, Nat.le_of_ble_eq_true rfl⟩) hN (hP.sub (ws' := []) [] rfl) (hK.sub (tys' := []) [] rfl) rfl hl.1 rfl (Nat.le_of_ble_eq_true rfl) dX6_isColouringSound_64 ⟨Nat.zero_le _, Nat.zero_le _⟩ (fun r hr => ?_)
          subst hr
          refine lv_if_eq (tgt := 76) hx hb dX6_isColouringSound_67 (by decide) (fun c67 => ?_) (fun c67 => ?_)
          · have c67 := jB_0 c67
            refine lv_iinc (v := nI (ln + 1)) (lv' := [(1, .int (nI (ln + 1))), (2, .int (nI 1)), (0, .ref (g 60))]) hx hb dX6_isColouringSound_76 hl (k := 2) rfl (jx_inc _) (by decide) rfl (fun ls hl => ?_)
            refine lv_goto (tgt := 2) hx hb dX6_isColouringSound_79 (by decide) ?_
            exact ih2 (ln + 1) (by omega) (by omega) ls (lv_sub hl [2, 0] rfl)
          · have c67 := jB_1 c67
            refine lv_iload_n hx hb dX6_isColouringSound_70 rfl (lv_at hl 0 rfl) ?_
            refine lv_if_eq (tgt := 76) hx hb dX6_isColouringSound_71 (by decide) (fun c => absurd c (by decide)) (fun _ => ?_)
            exact absurd c47 (hC ln (by omega) c67)
  exact L2 ((n - 0) + 1) 0 (by omega) (Nat.lt_succ_self _) ls (lv_sub hl [1, 0] rfl)
set_option maxRecDepth 20000 in
theorem in_X6_areBlocksSound_6 : ∀ w ∈ wsX60, w ∈ wsX6_areBlocksSound := by decide +kernel
set_option maxRecDepth 20000 in
theorem in_X6_areBlocksSound_5 : ∀ w ∈ wsX50, w ∈ wsX6_areBlocksSound := by decide +kernel
set_option maxRecDepth 20000 in
theorem in_X6_areBlocksSound_1 : ∀ w ∈ wsX10, w ∈ wsX6_areBlocksSound := by decide +kernel
set_option maxHeartbeats 4000000 in
set_option maxRecDepth 100000 in
/-- areBlocksSound() -/
theorem c_X6_areBlocksSound (l : Launch) (D : va_G) (cI : ClassId) (g : Nat → Nat) (P n st : Nat) (sm gr co en la : Nat → Nat) (fp fb fc fk fq ft : Nat) (pa ps fi : Nat → Nat) (bl : Nat → Int32) (sp gp sw gw : Nat → Nat) (rf : Int32) (hw : jmWF P n st sm gr co en la) (hfb : fb < 65536) (hfk : fk ≤ 16) (hB : ∀ i, i < n → jmBok n st fb fk bl i)  : jxRO l yX6_areBlocksSound wsX6_areBlocksSound ({ frames := 1, cells := 0, slots := 0, locals := 22 } : Room) D [(cI, .int)] (jW cI g P n st sm gr co en la ++ jF cI g fp fb fc fk fq ft pa ps fi bl sp gp sw gw ++ jC g rf) [.ref (g 60)] (fun r => r = nI 1) := by
  refine jx_enterZ (by decide) rfl (Nat.le_of_ble_eq_true rfl) ?_
  intro p e s m args below meth c Q ls hx hb hml hts hown hN hP hK hl hQ
  have hown : s.vm.findClass RX6 = some m.cls := hown
  have hl : lv_has ls 3 [(0, .ref (g 60))] := hl
  have hP8 : P ≤ 8 := hw.1
  have hn16 : n ≤ 16 := hw.2.1
  have hst : st < 65536 := jmWF_st hw
  have hen : ∀ j, j < n → en j < 256 := jmWF_en hw
  have hla : ∀ q, q < P → la q < 65536 := jmWF_la hw
  have hgr : ∀ j, j < n → sm j < 8 ∧ gr j < 8 := jmWF_gr hw
  have hco : ∀ j, j < n → co j < 21 := jmWF_co hw
  refine lv_iconst (v := nI 0) hx hb dX6_areBlocksSound_0 (by decide) ?_
  refine lv_istore_n (lv' := [(1, .int (nI 0)), (0, .ref (g 60))]) hx hb dX6_areBlocksSound_1 rfl hl (by decide) rfl (fun ls hl => ?_)
  have L2 : ∀ (k : Nat) (ln : Nat) (hln : ln ≤ n), n - ln < k → ∀ ls : Array Slot, lv_has ls 3 [(0, .ref (g 60)), (1, .int (nI ln))] → W p l e ({ frames := 1, cells := 0, slots := 0, locals := 22 } : Room) s m args below meth c s.heap [] 0 0 Q (F0 m 2 ls []) := by
    intro k
    induction k with
    | zero => intro ln hln hk; exact absurd hk (Nat.not_lt_zero _)
    | succ k ih2 =>
      intro ln hln hk ls hl
      refine lv_iload_n hx hb dX6_areBlocksSound_2 rfl (lv_at hl 1 rfl) ?_
      refine lv_aload_n hx hb dX6_areBlocksSound_3 rfl (lv_at hl 0 rfl) ?_
      refine va_get (D := D) (ci := 6) (v := .ref (g 0)) (C := RX6) (T := TX6) (N := 7) hx hb hts in_X6_areBlocksSound_6 hown hK hP 15 rfl rfl 0 (by decide) (hts (.fieldLink RX6 10 "Twincuts" "web" "LTwincuts$Web;") (List.mem_of_getElem? (i := 1) (by decide +kernel))) (fun _ h9 => h9) rfl dX6_areBlocksSound_4 ?_
      refine va_getN (D := D) (ci := 5) (v := .int (nI n)) (C := RX5) (T := TX5) (N := 8) hx hb hts in_X6_areBlocksSound_5 hown hK hP 0 rfl rfl 1 (by decide) (hN.use 8 rfl) (fun _ h9 => h9) rfl dX6_areBlocksSound_7 ?_
      refine lv_icmp_ge (tgt := 100) hx hb dX6_areBlocksSound_10 (by decide) (fun c10 => ?_) (fun c10 => ?_)
      · have c10 : n ≤ ln := jx_le (by omega) (by omega) c10
        refine lv_iconst (v := nI 1) hx hb dX6_areBlocksSound_100 (by decide) ?_
        exact hQ true _ _ dX6_areBlocksSound_101 rfl
      · have c10 : ln < n := jx_nle (by omega) (by omega) c10
        obtain ⟨hb1, hb2, hb3⟩ := hB ln (by omega)
        refine lv_aload_n hx hb dX6_areBlocksSound_13 rfl (lv_at hl 0 rfl) ?_
        refine va_get (D := D) (ci := 6) (v := .ref (g 10)) (C := RX6) (T := TX6) (N := 7) hx hb hts in_X6_areBlocksSound_6 hown hK hP 15 rfl rfl 1 (by decide) (hts (.fieldLink RX6 21 "Twincuts" "falls" "LTwincuts$Falls;") (List.mem_of_getElem? (i := 2) (by decide +kernel))) (fun _ h9 => h9) rfl dX6_areBlocksSound_14 ?_
        refine va_getN (D := D) (ci := 1) (v := .ref (g 14)) (C := RX1) (T := TX1) (N := 15) hx hb hts in_X6_areBlocksSound_1 hown hK hP 6 rfl rfl 10 (by decide) (hN.use 33 rfl) (fun _ h9 => h9) rfl dX6_areBlocksSound_17 ?_
        refine lv_iload_n hx hb dX6_areBlocksSound_20 rfl (lv_at hl 1 rfl) ?_
        refine jx_iald hx hb hK hP 10 0 rfl rfl (by omega) (by decide) dX6_areBlocksSound_21 ?_
        refine lv_if_lt (tgt := 48) hx hb dX6_areBlocksSound_22 (by decide) (fun c22 => ?_) (fun c22 => ?_)
        · skip
          refine lv_iconst (v := nI 0) hx hb dX6_areBlocksSound_48 (by decide) ?_
          refine lv_istore_n (lv' := [(2, .int (nI 0)), (0, .ref (g 60)), (1, .int (nI ln))]) hx hb dX6_areBlocksSound_49 rfl hl (by decide) rfl (fun ls hl => ?_)
          refine lv_iload_n hx hb dX6_areBlocksSound_50 rfl (lv_at hl 0 rfl) ?_
          refine lv_aload_n hx hb dX6_areBlocksSound_51 rfl (lv_at hl 1 rfl) ?_
          refine va_get (D := D) (ci := 6) (v := .ref (g 0)) (C := RX6) (T := TX6) (N := 7) hx hb hts in_X6_areBlocksSound_6 hown hK hP 15 rfl rfl 0 (by decide) (hts (.fieldLink RX6 10 "Twincuts" "web" "LTwincuts$Web;") (List.mem_of_getElem? (i := 1) (by decide +kernel))) (fun _ h9 => h9) rfl dX6_areBlocksSound_52 ?_
          refine va_getN (D := D) (ci := 5) (v := .int (nI st)) (C := RX5) (T := TX5) (N := 8) hx hb hts in_X6_areBlocksSound_5 hown hK hP 0 rfl rfl 2 (by decide) (hN.use 15 rfl) (fun _ h9 => h9) rfl dX6_areBlocksSound_55 ?_
          refine lv_iload_n hx hb dX6_areBlocksSound_58 rfl (lv_at hl 2 rfl) ?_
          refine jx_callS (As := [.int (nI st), .int (nI ln)]) (rest := [.int (nI 0)]) ⟨hx, hb, hml, hown, hts⟩ (c_X6_has l D st ln (by omega) (by omega)) (va_cwS 2 hts gX6_areBlocksSound_X6_has rfl rfl rfl (by decide +kernel) ⟨Nat.le_of_ble_eq_true rfl, Nat.le_of_ble_eq_true rfl⟩) hN (hP.sub (ws' := []) [] rfl) (hK.sub (tys' := []) [] rfl) rfl hl.1 rfl (Nat.le_of_ble_eq_true rfl) dX6_areBlocksSound_59 ⟨Nat.zero_le _, Nat.zero_le _⟩ (fun r hr => ?_)
          subst hr
          refine lv_icmp_eq (tgt := 67) hx hb dX6_areBlocksSound_62 (by decide) (fun c62 => ?_) (fun c62 => ?_)
          · skip
            refine lv_aload_n hx hb dX6_areBlocksSound_67 rfl (lv_at hl 1 rfl) ?_
            refine va_get (D := D) (ci := 6) (v := .ref (g 10)) (C := RX6) (T := TX6) (N := 7) hx hb hts in_X6_areBlocksSound_6 hown hK hP 15 rfl rfl 1 (by decide) (hts (.fieldLink RX6 21 "Twincuts" "falls" "LTwincuts$Falls;") (List.mem_of_getElem? (i := 2) (by decide +kernel))) (fun _ h9 => h9) rfl dX6_areBlocksSound_68 ?_
            refine va_getN (D := D) (ci := 1) (v := .int (nI fb)) (C := RX1) (T := TX1) (N := 15) hx hb hts in_X6_areBlocksSound_1 hown hK hP 6 rfl rfl 2 (by decide) (hN.use 27 rfl) (fun _ h9 => h9) rfl dX6_areBlocksSound_71 ?_
            refine lv_iload_n hx hb dX6_areBlocksSound_74 rfl (lv_at hl 2 rfl) ?_
            refine jx_callS (As := [.int (nI fb), .int (nI ln)]) (rest := []) ⟨hx, hb, hml, hown, hts⟩ (c_X6_has l D fb ln (by omega) (by omega)) (va_cwS 2 hts gX6_areBlocksSound_X6_has rfl rfl rfl (by decide +kernel) ⟨Nat.le_of_ble_eq_true rfl, Nat.le_of_ble_eq_true rfl⟩) hN (hP.sub (ws' := []) [] rfl) (hK.sub (tys' := []) [] rfl) rfl hl.1 rfl (Nat.le_of_ble_eq_true rfl) dX6_areBlocksSound_75 ⟨Nat.zero_le _, Nat.zero_le _⟩ (fun r hr => ?_)
            subst hr
            refine lv_if_eq (tgt := 94) hx hb dX6_areBlocksSound_78 (by decide) (fun c78 => ?_) (fun c78 => ?_)
            · have c78 := jB_0 c78
              refine lv_iinc (v := nI (ln + 1)) (lv' := [(1, .int (nI (ln + 1))), (2, .int (nI 0)), (0, .ref (g 60))]) hx hb dX6_areBlocksSound_94 hl (k := 2) rfl (jx_inc _) (by decide) rfl (fun ls hl => ?_)
              refine lv_goto (tgt := 2) hx hb dX6_areBlocksSound_97 (by decide) ?_
              exact ih2 (ln + 1) (by omega) (by omega) ls (lv_sub hl [2, 0] rfl)
            · have c78 := jB_1 c78
              refine lv_aload_n hx hb dX6_areBlocksSound_81 rfl (lv_at hl 1 rfl) ?_
              refine va_get (D := D) (ci := 6) (v := .ref (g 10)) (C := RX6) (T := TX6) (N := 7) hx hb hts in_X6_areBlocksSound_6 hown hK hP 15 rfl rfl 1 (by decide) (hts (.fieldLink RX6 21 "Twincuts" "falls" "LTwincuts$Falls;") (List.mem_of_getElem? (i := 2) (by decide +kernel))) (fun _ h9 => h9) rfl dX6_areBlocksSound_82 ?_
              refine lv_iload_n hx hb dX6_areBlocksSound_85 rfl (lv_at hl 2 rfl) ?_
              refine jx_callV (As := [.int (nI ln)]) (rest := []) ⟨hx, hb, hml, hown, hts⟩ (c_X1_isAloneInBlock l D cI g P n st sm gr co en la fp fb fc fk fq ft pa ps fi bl sp gp sw gw hw ln (by omega)) (cwV 1 hts gX6_areBlocksSound_X1_isAloneInBlock rfl rfl rfl (by decide +kernel) ⟨Nat.le_of_ble_eq_true rfl, Nat.le_of_ble_eq_true rfl⟩) hN (hP.sub (ws' := jW cI g P n st sm gr co en la ++ jF cI g fp fb fc fk fq ft pa ps fi bl sp gp sw gw) [0, 1, 2, 3, 4, 5, 6, 7, 8, 9, 10, 11, 12, 13, 14] rfl) (hK.sub (tys' := [(cI, .int)]) [0] rfl) 6 1 rfl rfl rfl rfl hl.1 rfl (Nat.le_of_ble_eq_true rfl) dX6_areBlocksSound_86 ⟨Nat.zero_le _, Nat.zero_le _⟩ (fun r hr => ?_)
              subst hr
              refine lv_if_ne (tgt := 94) hx hb dX6_areBlocksSound_89 (by decide) (fun c89 => ?_) (fun c89 => ?_)
              · have c89 := jB_1 c89
                refine lv_iinc (v := nI (ln + 1)) (lv' := [(1, .int (nI (ln + 1))), (2, .int (nI 0)), (0, .ref (g 60))]) hx hb dX6_areBlocksSound_94 hl (k := 2) rfl (jx_inc _) (by decide) rfl (fun ls hl => ?_)
                refine lv_goto (tgt := 2) hx hb dX6_areBlocksSound_97 (by decide) ?_
                exact ih2 (ln + 1) (by omega) (by omega) ls (lv_sub hl [2, 0] rfl)
              · have c89 := jB_0 c89
                exact absurd (hb3 c78) (by rw [c89]; exact Bool.false_ne_true)
          · skip
            exfalso
            cases hs9 : st.testBit ln with
            | true =>
              obtain ⟨b9, hb9, eb9⟩ := hb1 hs9
              rw [hs9] at c62
              first | exact c62 rfl | (rw [eb9] at c22; exact nI_pos (by omega) c22) | (rw [eb9] at c41; have := jx_le (by omega) (by omega) c41; omega)
            | false =>
              rw [hs9] at c62
              first | exact c62 rfl | (rw [hb2 hs9] at c22; exact c22 (by decide))
        · skip
          refine lv_aload_n hx hb dX6_areBlocksSound_25 rfl (lv_at hl 0 rfl) ?_
          refine va_get (D := D) (ci := 6) (v := .ref (g 10)) (C := RX6) (T := TX6) (N := 7) hx hb hts in_X6_areBlocksSound_6 hown hK hP 15 rfl rfl 1 (by decide) (hts (.fieldLink RX6 21 "Twincuts" "falls" "LTwincuts$Falls;") (List.mem_of_getElem? (i := 2) (by decide +kernel))) (fun _ h9 => h9) rfl dX6_areBlocksSound_26 ?_
          refine va_getN (D := D) (ci := 1) (v := .ref (g 14)) (C := RX1) (T := TX1) (N := 15) hx hb hts in_X6_areBlocksSound_1 hown hK hP 6 rfl rfl 10 (by decide) (hN.use 33 rfl) (fun _ h9 => h9) rfl dX6_areBlocksSound_29 ?_
          refine lv_iload_n hx hb dX6_areBlocksSound_32 rfl (lv_at hl 1 rfl) ?_
          refine jx_iald hx hb hK hP 10 0 rfl rfl (by omega) (by decide) dX6_areBlocksSound_33 ?_
          refine lv_aload_n hx hb dX6_areBlocksSound_34 rfl (lv_at hl 0 rfl) ?_
          refine va_get (D := D) (ci := 6) (v := .ref (g 10)) (C := RX6) (T := TX6) (N := 7) hx hb hts in_X6_areBlocksSound_6 hown hK hP 15 rfl rfl 1 (by decide) (hts (.fieldLink RX6 21 "Twincuts" "falls" "LTwincuts$Falls;") (List.mem_of_getElem? (i := 2) (by decide +kernel))) (fun _ h9 => h9) rfl dX6_areBlocksSound_35 ?_
          refine va_getN (D := D) (ci := 1) (v := .int (nI fk)) (C := RX1) (T := TX1) (N := 15) hx hb hts in_X6_areBlocksSound_1 hown hK hP 6 rfl rfl 4 (by decide) (hN.use 29 rfl) (fun _ h9 => h9) rfl dX6_areBlocksSound_38 ?_
          refine lv_icmp_ge (tgt := 48) hx hb dX6_areBlocksSound_41 (by decide) (fun c41 => ?_) (fun c41 => ?_)
          · skip
            refine lv_iconst (v := nI 0) hx hb dX6_areBlocksSound_48 (by decide) ?_
            refine lv_istore_n (lv' := [(2, .int (nI 0)), (0, .ref (g 60)), (1, .int (nI ln))]) hx hb dX6_areBlocksSound_49 rfl hl (by decide) rfl (fun ls hl => ?_)
            refine lv_iload_n hx hb dX6_areBlocksSound_50 rfl (lv_at hl 0 rfl) ?_
            refine lv_aload_n hx hb dX6_areBlocksSound_51 rfl (lv_at hl 1 rfl) ?_
            refine va_get (D := D) (ci := 6) (v := .ref (g 0)) (C := RX6) (T := TX6) (N := 7) hx hb hts in_X6_areBlocksSound_6 hown hK hP 15 rfl rfl 0 (by decide) (hts (.fieldLink RX6 10 "Twincuts" "web" "LTwincuts$Web;") (List.mem_of_getElem? (i := 1) (by decide +kernel))) (fun _ h9 => h9) rfl dX6_areBlocksSound_52 ?_
            refine va_getN (D := D) (ci := 5) (v := .int (nI st)) (C := RX5) (T := TX5) (N := 8) hx hb hts in_X6_areBlocksSound_5 hown hK hP 0 rfl rfl 2 (by decide) (hN.use 15 rfl) (fun _ h9 => h9) rfl dX6_areBlocksSound_55 ?_
            refine lv_iload_n hx hb dX6_areBlocksSound_58 rfl (lv_at hl 2 rfl) ?_
            refine jx_callS (As := [.int (nI st), .int (nI ln)]) (rest := [.int (nI 0)]) ⟨hx, hb, hml, hown, hts⟩ (c_X6_has l D st ln (by omega) (by omega)) (va_cwS 2 hts gX6_areBlocksSound_X6_has rfl rfl rfl (by decide +kernel) ⟨Nat.le_of_ble_eq_true rfl, Nat.le_of_ble_eq_true rfl⟩) hN (hP.sub (ws' := []) [] rfl) (hK.sub (tys' := []) [] rfl) rfl hl.1 rfl (Nat.le_of_ble_eq_true rfl) dX6_areBlocksSound_59 ⟨Nat.zero_le _, Nat.zero_le _⟩ (fun r hr => ?_)
            subst hr
            refine lv_icmp_eq (tgt := 67) hx hb dX6_areBlocksSound_62 (by decide) (fun c62 => ?_) (fun c62 => ?_)
            · skip
              refine lv_aload_n hx hb dX6_areBlocksSound_67 rfl (lv_at hl 1 rfl) ?_
              refine va_get (D := D) (ci := 6) (v := .ref (g 10)) (C := RX6) (T := TX6) (N := 7) hx hb hts in_X6_areBlocksSound_6 hown hK hP 15 rfl rfl 1 (by decide) (hts (.fieldLink RX6 21 "Twincuts" "falls" "LTwincuts$Falls;") (List.mem_of_getElem? (i := 2) (by decide +kernel))) (fun _ h9 => h9) rfl dX6_areBlocksSound_68 ?_
              refine va_getN (D := D) (ci := 1) (v := .int (nI fb)) (C := RX1) (T := TX1) (N := 15) hx hb hts in_X6_areBlocksSound_1 hown hK hP 6 rfl rfl 2 (by decide) (hN.use 27 rfl) (fun _ h9 => h9) rfl dX6_areBlocksSound_71 ?_
              refine lv_iload_n hx hb dX6_areBlocksSound_74 rfl (lv_at hl 2 rfl) ?_
              refine jx_callS (As := [.int (nI fb), .int (nI ln)]) (rest := []) ⟨hx, hb, hml, hown, hts⟩ (c_X6_has l D fb ln (by omega) (by omega)) (va_cwS 2 hts gX6_areBlocksSound_X6_has rfl rfl rfl (by decide +kernel) ⟨Nat.le_of_ble_eq_true rfl, Nat.le_of_ble_eq_true rfl⟩) hN (hP.sub (ws' := []) [] rfl) (hK.sub (tys' := []) [] rfl) rfl hl.1 rfl (Nat.le_of_ble_eq_true rfl) dX6_areBlocksSound_75 ⟨Nat.zero_le _, Nat.zero_le _⟩ (fun r hr => ?_)
              subst hr
              refine lv_if_eq (tgt := 94) hx hb dX6_areBlocksSound_78 (by decide) (fun c78 => ?_) (fun c78 => ?_)
              · have c78 := jB_0 c78
                refine lv_iinc (v := nI (ln + 1)) (lv' := [(1, .int (nI (ln + 1))), (2, .int (nI 0)), (0, .ref (g 60))]) hx hb dX6_areBlocksSound_94 hl (k := 2) rfl (jx_inc _) (by decide) rfl (fun ls hl => ?_)
                refine lv_goto (tgt := 2) hx hb dX6_areBlocksSound_97 (by decide) ?_
                exact ih2 (ln + 1) (by omega) (by omega) ls (lv_sub hl [2, 0] rfl)
              · have c78 := jB_1 c78
                refine lv_aload_n hx hb dX6_areBlocksSound_81 rfl (lv_at hl 1 rfl) ?_
                refine va_get (D := D) (ci := 6) (v := .ref (g 10)) (C := RX6) (T := TX6) (N := 7) hx hb hts in_X6_areBlocksSound_6 hown hK hP 15 rfl rfl 1 (by decide) (hts (.fieldLink RX6 21 "Twincuts" "falls" "LTwincuts$Falls;") (List.mem_of_getElem? (i := 2) (by decide +kernel))) (fun _ h9 => h9) rfl dX6_areBlocksSound_82 ?_
                refine lv_iload_n hx hb dX6_areBlocksSound_85 rfl (lv_at hl 2 rfl) ?_
                refine jx_callV (As := [.int (nI ln)]) (rest := []) ⟨hx, hb, hml, hown, hts⟩ (c_X1_isAloneInBlock l D cI g P n st sm gr co en la fp fb fc fk fq ft pa ps fi bl sp gp sw gw hw ln (by omega)) (cwV 1 hts gX6_areBlocksSound_X1_isAloneInBlock rfl rfl rfl (by decide +kernel) ⟨Nat.le_of_ble_eq_true rfl, Nat.le_of_ble_eq_true rfl⟩) hN (hP.sub (ws' := jW cI g P n st sm gr co en la ++ jF cI g fp fb fc fk fq ft pa ps fi bl sp gp sw gw) [0, 1, 2, 3, 4, 5, 6, 7, 8, 9, 10, 11, 12, 13, 14] rfl) (hK.sub (tys' := [(cI, .int)]) [0] rfl) 6 1 rfl rfl rfl rfl hl.1 rfl (Nat.le_of_ble_eq_true rfl) dX6_areBlocksSound_86 ⟨Nat.zero_le _, Nat.zero_le _⟩ (fun r hr => ?_)
                subst hr
                refine lv_if_ne (tgt := 94) hx hb dX6_areBlocksSound_89 (by decide) (fun c89 => ?_) (fun c89 => ?_)
                · have c89 := jB_1 c89
                  refine lv_iinc (v := nI (ln + 1)) (lv' := [(1, .int (nI (ln + 1))), (2, .int (nI 0)), (0, .ref (g 60))]) hx hb dX6_areBlocksSound_94 hl (k := 2) rfl (jx_inc _) (by decide) rfl (fun ls hl => ?_)
                  refine lv_goto (tgt := 2) hx hb dX6_areBlocksSound_97 (by decide) ?_
                  exact ih2 (ln + 1) (by omega) (by omega) ls (lv_sub hl [2, 0] rfl)
                · have c89 := jB_0 c89
                  exact absurd (hb3 c78) (by rw [c89]; exact Bool.false_ne_true)
            · skip
              exfalso
              cases hs9 : st.testBit ln with
              | true =>
                obtain ⟨b9, hb9, eb9⟩ := hb1 hs9
                rw [hs9] at c62
                first | exact c62 rfl | (rw [eb9] at c22; exact nI_pos (by omega) c22) | (rw [eb9] at c41; have := jx_le (by omega) (by omega) c41; omega)
              | false =>
                rw [hs9] at c62
                first | exact c62 rfl | (rw [hb2 hs9] at c22; exact c22 (by decide))
          · skip
            refine lv_iconst (v := nI 1) hx hb dX6_areBlocksSound_44 (by decide) ?_
            refine lv_goto (tgt := 49) hx hb dX6_areBlocksSound_45 (by decide) ?_
            refine lv_istore_n (lv' := [(2, .int (nI 1)), (0, .ref (g 60)), (1, .int (nI ln))]) hx hb dX6_areBlocksSound_49 rfl hl (by decide) rfl (fun ls hl => ?_)
            refine lv_iload_n hx hb dX6_areBlocksSound_50 rfl (lv_at hl 0 rfl) ?_
            refine lv_aload_n hx hb dX6_areBlocksSound_51 rfl (lv_at hl 1 rfl) ?_
            refine va_get (D := D) (ci := 6) (v := .ref (g 0)) (C := RX6) (T := TX6) (N := 7) hx hb hts in_X6_areBlocksSound_6 hown hK hP 15 rfl rfl 0 (by decide) (hts (.fieldLink RX6 10 "Twincuts" "web" "LTwincuts$Web;") (List.mem_of_getElem? (i := 1) (by decide +kernel))) (fun _ h9 => h9) rfl dX6_areBlocksSound_52 ?_
            refine va_getN (D := D) (ci := 5) (v := .int (nI st)) (C := RX5) (T := TX5) (N := 8) hx hb hts in_X6_areBlocksSound_5 hown hK hP 0 rfl rfl 2 (by decide) (hN.use 15 rfl) (fun _ h9 => h9) rfl dX6_areBlocksSound_55 ?_
            refine lv_iload_n hx hb dX6_areBlocksSound_58 rfl (lv_at hl 2 rfl) ?_
            refine jx_callS (As := [.int (nI st), .int (nI ln)]) (rest := [.int (nI 1)]) ⟨hx, hb, hml, hown, hts⟩ (c_X6_has l D st ln (by omega) (by omega)) (va_cwS 2 hts gX6_areBlocksSound_X6_has rfl rfl rfl (by decide +kernel) ⟨Nat.le_of_ble_eq_true rfl, Nat.le_of_ble_eq_true rfl⟩) hN (hP.sub (ws' := []) [] rfl) (hK.sub (tys' := []) [] rfl) rfl hl.1 rfl (Nat.le_of_ble_eq_true rfl) dX6_areBlocksSound_59 ⟨Nat.zero_le _, Nat.zero_le _⟩ (fun r hr => ?_)
            subst hr
            refine lv_icmp_eq (tgt := 67) hx hb dX6_areBlocksSound_62 (by decide) (fun c62 => ?_) (fun c62 => ?_)
            · skip
              refine lv_aload_n hx hb dX6_areBlocksSound_67 rfl (lv_at hl 1 rfl) ?_
              refine va_get (D := D) (ci := 6) (v := .ref (g 10)) (C := RX6) (T := TX6) (N := 7) hx hb hts in_X6_areBlocksSound_6 hown hK hP 15 rfl rfl 1 (by decide) (hts (.fieldLink RX6 21 "Twincuts" "falls" "LTwincuts$Falls;") (List.mem_of_getElem? (i := 2) (by decide +kernel))) (fun _ h9 => h9) rfl dX6_areBlocksSound_68 ?_
              refine va_getN (D := D) (ci := 1) (v := .int (nI fb)) (C := RX1) (T := TX1) (N := 15) hx hb hts in_X6_areBlocksSound_1 hown hK hP 6 rfl rfl 2 (by decide) (hN.use 27 rfl) (fun _ h9 => h9) rfl dX6_areBlocksSound_71 ?_
              refine lv_iload_n hx hb dX6_areBlocksSound_74 rfl (lv_at hl 2 rfl) ?_
              refine jx_callS (As := [.int (nI fb), .int (nI ln)]) (rest := []) ⟨hx, hb, hml, hown, hts⟩ (c_X6_has l D fb ln (by omega) (by omega)) (va_cwS 2 hts gX6_areBlocksSound_X6_has rfl rfl rfl (by decide +kernel) ⟨Nat.le_of_ble_eq_true rfl, Nat.le_of_ble_eq_true rfl⟩) hN (hP.sub (ws' := []) [] rfl) (hK.sub (tys' := []) [] rfl) rfl hl.1 rfl (Nat.le_of_ble_eq_true rfl) dX6_areBlocksSound_75 ⟨Nat.zero_le _, Nat.zero_le _⟩ (fun r hr => ?_)
              subst hr
              refine lv_if_eq (tgt := 94) hx hb dX6_areBlocksSound_78 (by decide) (fun c78 => ?_) (fun c78 => ?_)
              · have c78 := jB_0 c78
                refine lv_iinc (v := nI (ln + 1)) (lv' := [(1, .int (nI (ln + 1))), (2, .int (nI 1)), (0, .ref (g 60))]) hx hb dX6_areBlocksSound_94 hl (k := 2) rfl (jx_inc _) (by decide) rfl (fun ls hl => ?_)
                refine lv_goto (tgt := 2) hx hb dX6_areBlocksSound_97 (by decide) ?_
                exact ih2 (ln + 1) (by omega) (by omega) ls (lv_sub hl [2, 0] rfl)
              · have c78 := jB_1 c78
                refine lv_aload_n hx hb dX6_areBlocksSound_81 rfl (lv_at hl 1 rfl) ?_
                refine va_get (D := D) (ci := 6) (v := .ref (g 10)) (C := RX6) (T := TX6) (N := 7) hx hb hts in_X6_areBlocksSound_6 hown hK hP 15 rfl rfl 1 (by decide) (hts (.fieldLink RX6 21 "Twincuts" "falls" "LTwincuts$Falls;") (List.mem_of_getElem? (i := 2) (by decide +kernel))) (fun _ h9 => h9) rfl dX6_areBlocksSound_82 ?_
                refine lv_iload_n hx hb dX6_areBlocksSound_85 rfl (lv_at hl 2 rfl) ?_
                refine jx_callV (As := [.int (nI ln)]) (rest := []) ⟨hx, hb, hml, hown, hts⟩ (c_X1_isAloneInBlock l D cI g P n st sm gr co en la fp fb fc fk fq ft pa ps fi bl sp gp sw gw hw ln (by omega)) (cwV 1 hts gX6_areBlocksSound_X1_isAloneInBlock rfl rfl rfl (by decide +kernel) ⟨Nat.le_of_ble_eq_true rfl, Nat.le_of_ble_eq_true rfl⟩) hN (hP.sub (ws' := jW cI g P n st sm gr co en la ++ jF cI g fp fb fc fk fq ft pa ps fi bl sp gp sw gw) [0, 1, 2, 3, 4, 5, 6, 7, 8, 9, 10, 11, 12, 13, 14] rfl) (hK.sub (tys' := [(cI, .int)]) [0] rfl) 6 1 rfl rfl rfl rfl hl.1 rfl (Nat.le_of_ble_eq_true rfl) dX6_areBlocksSound_86 ⟨Nat.zero_le _, Nat.zero_le _⟩ (fun r hr => ?_)
                subst hr
                refine lv_if_ne (tgt := 94) hx hb dX6_areBlocksSound_89 (by decide) (fun c89 => ?_) (fun c89 => ?_)
                · have c89 := jB_1 c89
                  refine lv_iinc (v := nI (ln + 1)) (lv' := [(1, .int (nI (ln + 1))), (2, .int (nI 1)), (0, .ref (g 60))]) hx hb dX6_areBlocksSound_94 hl (k := 2) rfl (jx_inc _) (by decide) rfl (fun ls hl => ?_)
                  refine lv_goto (tgt := 2) hx hb dX6_areBlocksSound_97 (by decide) ?_
                  exact ih2 (ln + 1) (by omega) (by omega) ls (lv_sub hl [2, 0] rfl)
                · have c89 := jB_0 c89
                  exact absurd (hb3 c78) (by rw [c89]; exact Bool.false_ne_true)
            · skip
              exfalso
              cases hs9 : st.testBit ln with
              | true =>
                obtain ⟨b9, hb9, eb9⟩ := hb1 hs9
                rw [hs9] at c62
                first | exact c62 rfl | (rw [eb9] at c22; exact nI_pos (by omega) c22) | (rw [eb9] at c41; have := jx_le (by omega) (by omega) c41; omega)
              | false =>
                rw [hs9] at c62
                first | exact c62 rfl | (rw [hb2 hs9] at c22; exact c22 (by decide))
  exact L2 ((n - 0) + 1) 0 (by omega) (Nat.lt_succ_self _) ls (lv_sub hl [1, 0] rfl)
