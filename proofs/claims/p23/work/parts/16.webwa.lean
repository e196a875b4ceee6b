set_option maxRecDepth 20000 in
theorem in_X5_addPoint_5 : ∀ w ∈ wsX50, w ∈ wsX5_addPoint := by decide +kernel
set_option maxHeartbeats 4000000 in
set_option maxRecDepth 100000 in
/-- addPoint() -/
theorem c_X5_addPoint (l : Launch) (D : va_G) (cI : ClassId) (g : Nat → Nat) (P n st : Nat) (sm gr co en la : Nat → Nat) (sz : Nat) (hw : jmWF P n st sm gr co en la) (hP7 : P < 8) : jxWi l yX5_addPoint wsX5_addPoint ({ frames := 0, cells := 0, slots := 0, locals := 0 } : Room) D [(cI, .int)] (jW cI g P n st sm gr co en la) [.ref (g 0)] sz (fun r => r = nI P) (jW cI g (P + 1) n st sm gr co en la) := by
  refine jxw_enter (by decide) rfl (Nat.le_of_ble_eq_true rfl) ?_
  intro p e s m args below meth c Q A ls hx hb hml hts hown hN hP hK hD hA hl hQ
  have hD0 := hD
  obtain ⟨H, hH⟩ : ∃ h, h = s.heap := ⟨_, rfl⟩
  have hS : va_S A s.heap H [] := by rw [hH]; exact va_S.rf
  rw [← hH] at hP ⊢
  obtain ⟨locs, hlocs⟩ : ∃ z : List Loc, z = [] := ⟨_, rfl⟩
  rw [← hlocs] at hS ⊢
  have hown : s.vm.findClass RX5 = some m.cls := hown
  have hl : lv_has ls 1 [(0, .ref (g 0))] := hl
  have hP8 : P ≤ 8 := hw.1
  have hn16 : n ≤ 16 := hw.2.1
  have hst : st < 65536 := jmWF_st hw
  have hen : ∀ j, j < n → en j < 256 := jmWF_en hw
  have hla : ∀ q, q < P → la q < 65536 := jmWF_la hw
  have hgr : ∀ j, j < n → sm j < 8 ∧ gr j < 8 := jmWF_gr hw
  have hco : ∀ j, j < n → co j < 21 := jmWF_co hw
  refine lv_aload_n hx hb dX5_addPoint_0 rfl (lv_at hl 0 rfl) ?_
  refine lv_dup hx hb dX5_addPoint_1 rfl ?_
  refine va_get (D := D) (ci := 5) (v := .int (nI P)) (C := RX5) (T := TX5) (N := 8) hx hb hts in_X5_addPoint_5 hown hK hP 0 rfl rfl 0 (by decide) (hts (.fieldLink RX5 9 "Twincuts$Web" "points" "I") (List.mem_of_getElem? (i := 1) (by decide +kernel))) (fun _ h9 => h9) rfl dX5_addPoint_2 ?_
  refine lv_iconst (v := nI 1) hx hb dX5_addPoint_5 (by decide) ?_
  refine lv_iadd hx hb dX5_addPoint_6 ?_
  refine jx_val (z := (nI (P + 1))) (nI_add _ _) ?_
  refine va_put (D := D) (ci := 5) (v := .int (nI (P + 1))) (ty := .int) (C := RX5) (T := TX5) (N := 8) hx hb hts in_X5_addPoint_5 tyX5 tyX5_ok nmX5 hown hK hP hD hS 0 rfl rfl 0 (by decide) (hts (.fieldLink RX5 9 "Twincuts$Web" "points" "I") (List.mem_of_getElem? (i := 1) (by decide +kernel))) (fun _ h9 => h9) rfl (by decide +kernel) rfl rfl (Nat.le_of_ble_eq_true rfl) dX5_addPoint_7 (fun H locs hP hD hS => ?_)
  have hP : va_P D vwCl (jW cI g (P + 1) n st sm gr co en la) H := hP
  have hD : va_D A (jW cI g (P + 1) n st sm gr co en la) := jxD hD0 rfl
  refine lv_aload_n hx hb dX5_addPoint_10 rfl (lv_at hl 0 rfl) ?_
  refine va_get (D := D) (ci := 5) (v := .int (nI (P + 1))) (C := RX5) (T := TX5) (N := 8) hx hb hts in_X5_addPoint_5 hown hK hP 0 rfl rfl 0 (by decide) (hts (.fieldLink RX5 9 "Twincuts$Web" "points" "I") (List.mem_of_getElem? (i := 1) (by decide +kernel))) (fun _ h9 => h9) rfl dX5_addPoint_11 ?_
  refine lv_iconst (v := nI 1) hx hb dX5_addPoint_14 (by decide) ?_
  refine lv_isub hx hb dX5_addPoint_15 ?_
  refine jx_val (z := (nI ((P + 1) - 1))) (pk_sub (by omega)) ?_
  exact hQ (nI ((P + 1) - 1)) H locs _ _ dX5_addPoint_16 (by rw [Nat.add_sub_cancel]) hP hS
set_option maxRecDepth 20000 in
theorem in_X5_addLine_5 : ∀ w ∈ wsX50, w ∈ wsX5_addLine := by decide +kernel
set_option maxHeartbeats 4000000 in
set_option maxRecDepth 100000 in
/-- addLine(small, great, itsCost) -/
theorem c_X5_addLine (l : Launch) (D : va_G) (cI : ClassId) (g : Nat → Nat) (P n st : Nat) (sm gr co en la : Nat → Nat) (sz : Nat) (hw : jmWF P n st sm gr co en la) (a o cc9 : Nat) (hn15 : n < 16) (ha : a < P) (ho : o < P) : jxWi l yX5_addLine wsX5_addLine ({ frames := 0, cells := 0, slots := 0, locals := 0 } : Room) D [(cI, .int)] (jW cI g P n st sm gr co en la) [.ref (g 0), .int (nI a), .int (nI o), .int (nI cc9)] sz (fun r => r = nI n) (jW cI g P (n + 1) (st ||| 2 ^ n) (jxUp sm n a) (jxUp gr n o) (jxUp co n cc9) (jxUp en n (2 ^ a ||| 2 ^ o)) (jxUp (jxUp la a (la a ||| 2 ^ n)) o ((jxUp la a (la a ||| 2 ^ n)) o ||| 2 ^ n))) := by
  refine jxw_enter (by decide) rfl (Nat.le_of_ble_eq_true rfl) ?_
  intro p e s m args below meth c Q A ls hx hb hml hts hown hN hP hK hD hA hl hQ
  have hD0 := hD
  obtain ⟨H, hH⟩ : ∃ h, h = s.heap := ⟨_, rfl⟩
  have hS : va_S A s.heap H [] := by rw [hH]; exact va_S.rf
  rw [← hH] at hP ⊢
  obtain ⟨locs, hlocs⟩ : ∃ z : List Loc, z = [] := ⟨_, rfl⟩
  rw [← hlocs] at hS ⊢
  have hown : s.vm.findClass RX5 = some m.cls := hown
  have hl : lv_has ls 5 [(0, .ref (g 0)), (1, .int (nI a)), (2, .int (nI o)), (3, .int (nI cc9))] := hl
  have hP8 : P ≤ 8 := hw.1
  have hn16 : n ≤ 16 := hw.2.1
  have hst : st < 65536 := jmWF_st hw
  have hen : ∀ j, j < n → en j < 256 := jmWF_en hw
  have hla : ∀ q, q < P → la q < 65536 := jmWF_la hw
  have hgr : ∀ j, j < n → sm j < 8 ∧ gr j < 8 := jmWF_gr hw
  have hco : ∀ j, j < n → co j < 21 := jmWF_co hw
  refine lv_aload_n hx hb dX5_addLine_0 rfl (lv_at hl 0 rfl) ?_
  refine va_get (D := D) (ci := 5) (v := .int (nI n)) (C := RX5) (T := TX5) (N := 8) hx hb hts in_X5_addLine_5 hown hK hP 0 rfl rfl 1 (by decide) (hts (.fieldLink RX5 15 "Twincuts$Web" "lines" "I") (List.mem_of_getElem? (i := 1) (by decide +kernel))) (fun _ h9 => h9) rfl dX5_addLine_1 ?_
  refine lv_istore (lv' := [(4, .int (nI n)), (0, .ref (g 0)), (1, .int (nI a)), (2, .int (nI o)), (3, .int (nI cc9))]) hx hb dX5_addLine_4 hl (by decide) rfl (fun ls hl => ?_)
  refine lv_aload_n hx hb dX5_addLine_6 rfl (lv_at hl 1 rfl) ?_
  refine va_get (D := D) (ci := 5) (v := .ref (g 1)) (C := RX5) (T := TX5) (N := 8) hx hb hts in_X5_addLine_5 hown hK hP 0 rfl rfl 3 (by decide) (hts (.fieldLink RX5 21 "Twincuts$Web" "smaller" "[I") (List.mem_of_getElem? (i := 2) (by decide +kernel))) (fun _ h9 => h9) rfl dX5_addLine_7 ?_
  refine lv_iload hx hb dX5_addLine_10 (lv_at hl 0 rfl) ?_
  refine lv_iload_n hx hb dX5_addLine_12 rfl (lv_at hl 2 rfl) ?_
  refine jx_iastN hx hb hK hP hD hS 1 0 rfl rfl (by omega) (by decide) dX5_addLine_13 (fun H locs hP hD hS => ?_)
  have hP : va_P D vwCl (jW cI g P n st (jxUp sm n a) gr co en la) H := hP
  have hD : va_D A (jW cI g P n st (jxUp sm n a) gr co en la) := jxD hD0 rfl
  refine lv_aload_n hx hb dX5_addLine_14 rfl (lv_at hl 1 rfl) ?_
  refine va_get (D := D) (ci := 5) (v := .ref (g 2)) (C := RX5) (T := TX5) (N := 8) hx hb hts in_X5_addLine_5 hown hK hP 0 rfl rfl 4 (by decide) (hts (.fieldLink RX5 25 "Twincuts$Web" "greater" "[I") (List.mem_of_getElem? (i := 3) (by decide +kernel))) (fun _ h9 => h9) rfl dX5_addLine_15 ?_
  refine lv_iload hx hb dX5_addLine_18 (lv_at hl 0 rfl) ?_
  refine lv_iload_n hx hb dX5_addLine_20 rfl (lv_at hl 3 rfl) ?_
  refine jx_iastN hx hb hK hP hD hS 2 0 rfl rfl (by omega) (by decide) dX5_addLine_21 (fun H locs hP hD hS => ?_)
  have hP : va_P D vwCl (jW cI g P n st (jxUp sm n a) (jxUp gr n o) co en la) H := hP
  have hD : va_D A (jW cI g P n st (jxUp sm n a) (jxUp gr n o) co en la) := jxD hD0 rfl
  refine lv_aload_n hx hb dX5_addLine_22 rfl (lv_at hl 1 rfl) ?_
  refine va_get (D := D) (ci := 5) (v := .ref (g 3)) (C := RX5) (T := TX5) (N := 8) hx hb hts in_X5_addLine_5 hown hK hP 0 rfl rfl 5 (by decide) (hts (.fieldLink RX5 28 "Twincuts$Web" "cost" "[I") (List.mem_of_getElem? (i := 4) (by decide +kernel))) (fun _ h9 => h9) rfl dX5_addLine_23 ?_
  refine lv_iload hx hb dX5_addLine_26 (lv_at hl 0 rfl) ?_
  refine lv_iload_n hx hb dX5_addLine_28 rfl (lv_at hl 4 rfl) ?_
  refine jx_iastN hx hb hK hP hD hS 3 0 rfl rfl (by omega) (by decide) dX5_addLine_29 (fun H locs hP hD hS => ?_)
  have hP : va_P D vwCl (jW cI g P n st (jxUp sm n a) (jxUp gr n o) (jxUp co n cc9) en la) H := hP
  have hD : va_D A (jW cI g P n st (jxUp sm n a) (jxUp gr n o) (jxUp co n cc9) en la) := jxD hD0 rfl
  refine lv_aload_n hx hb dX5_addLine_30 rfl (lv_at hl 1 rfl) ?_
  refine va_get (D := D) (ci := 5) (v := .ref (g 4)) (C := RX5) (T := TX5) (N := 8) hx hb hts in_X5_addLine_5 hown hK hP 0 rfl rfl 6 (by decide) (hts (.fieldLink RX5 31 "Twincuts$Web" "ends" "[I") (List.mem_of_getElem? (i := 5) (by decide +kernel))) (fun _ h9 => h9) rfl dX5_addLine_31 ?_
  refine lv_iload hx hb dX5_addLine_34 (lv_at hl 0 rfl) ?_
  refine lv_iconst (v := nI 1) hx hb dX5_addLine_36 (by decide) ?_
  refine lv_iload_n hx hb dX5_addLine_37 rfl (lv_at hl 2 rfl) ?_
  refine lv_ishl hx hb dX5_addLine_38 ?_
  refine jx_val (z := (nI (2 ^ a))) (jx_1shl (by omega)) ?_
  refine lv_iconst (v := nI 1) hx hb dX5_addLine_39 (by decide) ?_
  refine lv_iload_n hx hb dX5_addLine_40 rfl (lv_at hl 3 rfl) ?_
  refine lv_ishl hx hb dX5_addLine_41 ?_
  refine jx_val (z := (nI (2 ^ o))) (jx_1shl (by omega)) ?_
  refine lv_ior hx hb dX5_addLine_42 ?_
  refine jx_val (z := (nI ((2 ^ a) ||| (2 ^ o)))) (fa_or _ _) ?_
  refine jx_iastN hx hb hK hP hD hS 4 0 rfl rfl (by omega) (by decide) dX5_addLine_43 (fun H locs hP hD hS => ?_)
  have hP : va_P D vwCl (jW cI g P n st (jxUp sm n a) (jxUp gr n o) (jxUp co n cc9) (jxUp en n ((2 ^ a) ||| (2 ^ o))) la) H := hP
  have hD : va_D A (jW cI g P n st (jxUp sm n a) (jxUp gr n o) (jxUp co n cc9) (jxUp en n ((2 ^ a) ||| (2 ^ o))) la) := jxD hD0 rfl
  refine lv_aload_n hx hb dX5_addLine_44 rfl (lv_at hl 1 rfl) ?_
  refine va_get (D := D) (ci := 5) (v := .ref (g 5)) (C := RX5) (T := TX5) (N := 8) hx hb hts in_X5_addLine_5 hown hK hP 0 rfl rfl 7 (by decide) (hts (.fieldLink RX5 34 "Twincuts$Web" "linesAt" "[I") (List.mem_of_getElem? (i := 6) (by decide +kernel))) (fun _ h9 => h9) rfl dX5_addLine_45 ?_
  refine lv_iload_n hx hb dX5_addLine_48 rfl (lv_at hl 2 rfl) ?_
  refine lv_dup2_11 hx hb dX5_addLine_49 rfl rfl ?_
  refine jx_iald hx hb hK hP 5 0 rfl rfl (by omega) (by decide) dX5_addLine_50 ?_
  refine lv_iconst (v := nI 1) hx hb dX5_addLine_51 (by decide) ?_
  refine lv_iload hx hb dX5_addLine_52 (lv_at hl 0 rfl) ?_
  refine lv_ishl hx hb dX5_addLine_54 ?_
  refine jx_val (z := (nI (2 ^ n))) (jx_1shl (by omega)) ?_
  refine lv_ior hx hb dX5_addLine_55 ?_
  refine jx_val (z := (nI ((la a) ||| (2 ^ n)))) (fa_or _ _) ?_
  refine jx_iastN hx hb hK hP hD hS 5 0 rfl rfl (by omega) (by decide) dX5_addLine_56 (fun H locs hP hD hS => ?_)
  have hP : va_P D vwCl (jW cI g P n st (jxUp sm n a) (jxUp gr n o) (jxUp co n cc9) (jxUp en n ((2 ^ a) ||| (2 ^ o))) (jxUp la a ((la a) ||| (2 ^ n)))) H := hP
  have hD : va_D A (jW cI g P n st (jxUp sm n a) (jxUp gr n o) (jxUp co n cc9) (jxUp en n ((2 ^ a) ||| (2 ^ o))) (jxUp la a ((la a) ||| (2 ^ n)))) := jxD hD0 rfl
  refine lv_aload_n hx hb dX5_addLine_57 rfl (lv_at hl 1 rfl) ?_
  refine va_get (D := D) (ci := 5) (v := .ref (g 5)) (C := RX5) (T := TX5) (N := 8) hx hb hts in_X5_addLine_5 hown hK hP 0 rfl rfl 7 (by decide) (hts (.fieldLink RX5 34 "Twincuts$Web" "linesAt" "[I") (List.mem_of_getElem? (i := 6) (by decide +kernel))) (fun _ h9 => h9) rfl dX5_addLine_58 ?_
  refine lv_iload_n hx hb dX5_addLine_61 rfl (lv_at hl 3 rfl) ?_
  refine lv_dup2_11 hx hb dX5_addLine_62 rfl rfl ?_
  refine jx_iald hx hb hK hP 5 0 rfl rfl (by omega) (by decide) dX5_addLine_63 ?_
  refine lv_iconst (v := nI 1) hx hb dX5_addLine_64 (by decide) ?_
  refine lv_iload hx hb dX5_addLine_65 (lv_at hl 0 rfl) ?_
  refine lv_ishl hx hb dX5_addLine_67 ?_
  refine jx_val (z := (nI (2 ^ n))) (jx_1shl (by omega)) ?_
  refine lv_ior hx hb dX5_addLine_68 ?_
  refine jx_val (z := (nI (((jxUp la a ((la a) ||| (2 ^ n))) o) ||| (2 ^ n)))) (fa_or _ _) ?_
  refine jx_iastN hx hb hK hP hD hS 5 0 rfl rfl (by omega) (by decide) dX5_addLine_69 (fun H locs hP hD hS => ?_)
  have hP : va_P D vwCl (jW cI g P n st (jxUp sm n a) (jxUp gr n o) (jxUp co n cc9) (jxUp en n ((2 ^ a) ||| (2 ^ o))) (jxUp (jxUp la a ((la a) ||| (2 ^ n))) o (((jxUp la a ((la a) ||| (2 ^ n))) o) ||| (2 ^ n)))) H := hP
  have hD : va_D A (jW cI g P n st (jxUp sm n a) (jxUp gr n o) (jxUp co n cc9) (jxUp en n ((2 ^ a) ||| (2 ^ o))) (jxUp (jxUp la a ((la a) ||| (2 ^ n))) o (((jxUp la a ((la a) ||| (2 ^ n))) o) ||| (2 ^ n)))) := jxD hD0 rfl
  refine lv_aload_n hx hb dX5_addLine_70 rfl (lv_at hl 1 rfl) ?_
  refine lv_dup hx hb dX5_addLine_71 rfl ?_
  refine va_get (D := D) (ci := 5) (v := .int (nI st)) (C := RX5) (T := TX5) (N := 8) hx hb hts in_X5_addLine_5 hown hK hP 0 rfl rfl 2 (by decide) (hts (.fieldLink RX5 18 "Twincuts$Web" "standing" "I") (List.mem_of_getElem? (i := 7) (by decide +kernel))) (fun _ h9 => h9) rfl dX5_addLine_72 ?_
  refine lv_iconst (v := nI 1) hx hb dX5_addLine_75 (by decide) ?_
  refine lv_iload hx hb dX5_addLine_76 (lv_at hl 0 rfl) ?_
  refine lv_ishl hx hb dX5_addLine_78 ?_
  refine jx_val (z := (nI (2 ^ n))) (jx_1shl (by omega)) ?_
  refine lv_ior hx hb dX5_addLine_79 ?_
  refine jx_val (z := (nI (st ||| (2 ^ n)))) (fa_or _ _) ?_
  refine va_put (D := D) (ci := 5) (v := .int (nI (st ||| (2 ^ n)))) (ty := .int) (C := RX5) (T := TX5) (N := 8) hx hb hts in_X5_addLine_5 tyX5 tyX5_ok nmX5 hown hK hP hD hS 0 rfl rfl 2 (by decide) (hts (.fieldLink RX5 18 "Twincuts$Web" "standing" "I") (List.mem_of_getElem? (i := 7) (by decide +kernel))) (fun _ h9 => h9) rfl (by decide +kernel) rfl rfl (Nat.le_of_ble_eq_true rfl) dX5_addLine_80 (fun H locs hP hD hS => ?_)
  have hP : va_P D vwCl (jW cI g P n (st ||| (2 ^ n)) (jxUp sm n a) (jxUp gr n o) (jxUp co n cc9) (jxUp en n ((2 ^ a) ||| (2 ^ o))) (jxUp (jxUp la a ((la a) ||| (2 ^ n))) o (((jxUp la a ((la a) ||| (2 ^ n))) o) ||| (2 ^ n)))) H := hP
  have hD : va_D A (jW cI g P n (st ||| (2 ^ n)) (jxUp sm n a) (jxUp gr n o) (jxUp co n cc9) (jxUp en n ((2 ^ a) ||| (2 ^ o))) (jxUp (jxUp la a ((la a) ||| (2 ^ n))) o (((jxUp la a ((la a) ||| (2 ^ n))) o) ||| (2 ^ n)))) := jxD hD0 rfl
  refine lv_aload_n hx hb dX5_addLine_83 rfl (lv_at hl 1 rfl) ?_
  refine lv_dup hx hb dX5_addLine_84 rfl ?_
  refine va_get (D := D) (ci := 5) (v := .int (nI n)) (C := RX5) (T := TX5) (N := 8) hx hb hts in_X5_addLine_5 hown hK hP 0 rfl rfl 1 (by decide) (hts (.fieldLink RX5 15 "Twincuts$Web" "lines" "I") (List.mem_of_getElem? (i := 1) (by decide +kernel))) (fun _ h9 => h9) rfl dX5_addLine_85 ?_
  refine lv_iconst (v := nI 1) hx hb dX5_addLine_88 (by decide) ?_
  refine lv_iadd hx hb dX5_addLine_89 ?_
  refine jx_val (z := (nI (n + 1))) (nI_add _ _) ?_
  refine va_put (D := D) (ci := 5) (v := .int (nI (n + 1))) (ty := .int) (C := RX5) (T := TX5) (N := 8) hx hb hts in_X5_addLine_5 tyX5 tyX5_ok nmX5 hown hK hP hD hS 0 rfl rfl 1 (by decide) (hts (.fieldLink RX5 15 "Twincuts$Web" "lines" "I") (List.mem_of_getElem? (i := 1) (by decide +kernel))) (fun _ h9 => h9) rfl (by decide +kernel) rfl rfl (Nat.le_of_ble_eq_true rfl) dX5_addLine_90 (fun H locs hP hD hS => ?_)
  have hP : va_P D vwCl (jW cI g P (n + 1) (st ||| (2 ^ n)) (jxUp sm n a) (jxUp gr n o) (jxUp co n cc9) (jxUp en n ((2 ^ a) ||| (2 ^ o))) (jxUp (jxUp la a ((la a) ||| (2 ^ n))) o (((jxUp la a ((la a) ||| (2 ^ n))) o) ||| (2 ^ n)))) H := hP
  have hD : va_D A (jW cI g P (n + 1) (st ||| (2 ^ n)) (jxUp sm n a) (jxUp gr n o) (jxUp co n cc9) (jxUp en n ((2 ^ a) ||| (2 ^ o))) (jxUp (jxUp la a ((la a) ||| (2 ^ n))) o (((jxUp la a ((la a) ||| (2 ^ n))) o) ||| (2 ^ n)))) := jxD hD0 rfl
  refine lv_iload hx hb dX5_addLine_93 (lv_at hl 0 rfl) ?_
  have ev_1 : st ||| (2 ^ n) = st ||| 2 ^ n := by first | rfl | (simp [if_true]; done)
  have ev_2 : jxUp en n ((2 ^ a) ||| (2 ^ o)) = jxUp en n (2 ^ a ||| 2 ^ o) := by first | rfl | (simp [if_true]; done)
  have ev_3 : jxUp (jxUp la a ((la a) ||| (2 ^ n))) o (((jxUp la a ((la a) ||| (2 ^ n))) o) ||| (2 ^ n)) = jxUp (jxUp la a (la a ||| 2 ^ n)) o ((jxUp la a (la a ||| 2 ^ n)) o ||| 2 ^ n) := by first | rfl | (simp [if_true]; done)
  exact hQ (nI n) H locs _ _ dX5_addLine_95 rfl (by rw [← ev_1, ← ev_2, ← ev_3]; exact hP) hS
set_option maxRecDepth 20000 in
theorem in_X5_setCut_5 : ∀ w ∈ wsX50, w ∈ wsX5_setCut := by decide +kernel
set_option maxHeartbeats 4000000 in
set_option maxRecDepth 100000 in
/-- setCut(line, is) -/
theorem c_X5_setCut (l : Launch) (D : va_G) (cI : ClassId) (g : Nat → Nat) (P n st : Nat) (sm gr co en la : Nat → Nat) (sz : Nat) (hw : jmWF P n st sm gr co en la) (i : Nat) (is9 : Bool) (hi : i < n) : jxWv l yX5_setCut wsX5_setCut ({ frames := 0, cells := 0, slots := 0, locals := 0 } : Room) D [(cI, .int)] (jW cI g P n st sm gr co en la) [.ref (g 0), .int (nI i), .int (nI (jB is9))] sz (jW cI g P n (if is9 = true then jxAN st (2 ^ i) else st ||| 2 ^ i) sm gr co en la) := by
  refine jxw_enterV (by decide) rfl (Nat.le_of_ble_eq_true rfl) ?_
  intro p e s m args below meth c Q A ls hx hb hml hts hown hN hP hK hD hA hl hQ
  have hD0 := hD
  obtain ⟨H, hH⟩ : ∃ h, h = s.heap := ⟨_, rfl⟩
  have hS : va_S A s.heap H [] := by rw [hH]; exact va_S.rf
  rw [← hH] at hP ⊢
  obtain ⟨locs, hlocs⟩ : ∃ z : List Loc, z = [] := ⟨_, rfl⟩
  rw [← hlocs] at hS ⊢
  have hown : s.vm.findClass RX5 = some m.cls := hown
  have hl : lv_has ls 3 [(0, .ref (g 0)), (1, .int (nI i)), (2, .int (nI (jB is9)))] := hl
  have hP8 : P ≤ 8 := hw.1
  have hn16 : n ≤ 16 := hw.2.1
  have hst : st < 65536 := jmWF_st hw
  have hen : ∀ j, j < n → en j < 256 := jmWF_en hw
  have hla : ∀ q, q < P → la q < 65536 := jmWF_la hw
  have hgr : ∀ j, j < n → sm j < 8 ∧ gr j < 8 := jmWF_gr hw
  have hco : ∀ j, j < n → co j < 21 := jmWF_co hw
  refine lv_aload_n hx hb dX5_setCut_0 rfl (lv_at hl 0 rfl) ?_
  refine lv_iload_n hx hb dX5_setCut_1 rfl (lv_at hl 2 rfl) ?_
  refine lv_if_eq (tgt := 18) hx hb dX5_setCut_2 (by decide) (fun c2 => ?_) (fun c2 => ?_)
  · have c2 := jB_0 c2
    refine lv_aload_n hx hb dX5_setCut_18 rfl (lv_at hl 0 rfl) ?_
    refine va_get (D := D) (ci := 5) (v := .int (nI st)) (C := RX5) (T := TX5) (N := 8) hx hb hts in_X5_setCut_5 hown hK hP 0 rfl rfl 2 (by decide) (hts (.fieldLink RX5 18 "Twincuts$Web" "standing" "I") (List.mem_of_getElem? (i := 1) (by decide +kernel))) (fun _ h9 => h9) rfl dX5_setCut_19 ?_
    refine lv_iconst (v := nI 1) hx hb dX5_setCut_22 (by decide) ?_
    refine lv_iload_n hx hb dX5_setCut_23 rfl (lv_at hl 1 rfl) ?_
    refine lv_ishl hx hb dX5_setCut_24 ?_
    refine jx_val (z := (nI (2 ^ i))) (jx_1shl (by omega)) ?_
    refine lv_ior hx hb dX5_setCut_25 ?_
    refine jx_val (z := (nI (st ||| (2 ^ i)))) (fa_or _ _) ?_
    refine va_put (D := D) (ci := 5) (v := .int (nI (st ||| (2 ^ i)))) (ty := .int) (C := RX5) (T := TX5) (N := 8) hx hb hts in_X5_setCut_5 tyX5 tyX5_ok nmX5 hown hK hP hD hS 0 rfl rfl 2 (by decide) (hts (.fieldLink RX5 18 "Twincuts$Web" "standing" "I") (List.mem_of_getElem? (i := 1) (by decide +kernel))) (fun _ h9 => h9) rfl (by decide +kernel) rfl rfl (Nat.le_of_ble_eq_true rfl) dX5_setCut_26 (fun H locs hP hD hS => ?_)
    have hP : va_P D vwCl (jW cI g P n (st ||| (2 ^ i)) sm gr co en la) H := hP
    have hD : va_D A (jW cI g P n (st ||| (2 ^ i)) sm gr co en la) := jxD hD0 rfl
    have ev_1 : st ||| (2 ^ i) = if is9 = true then jxAN st (2 ^ i) else st ||| 2 ^ i := by simp [c2]
    exact hQ H locs _ _ dX5_setCut_29 (by rw [← ev_1]; exact hP) hS
  · have c2 := jB_1 c2
    refine lv_aload_n hx hb dX5_setCut_5 rfl (lv_at hl 0 rfl) ?_
    refine va_get (D := D) (ci := 5) (v := .int (nI st)) (C := RX5) (T := TX5) (N := 8) hx hb hts in_X5_setCut_5 hown hK hP 0 rfl rfl 2 (by decide) (hts (.fieldLink RX5 18 "Twincuts$Web" "standing" "I") (List.mem_of_getElem? (i := 1) (by decide +kernel))) (fun _ h9 => h9) rfl dX5_setCut_6 ?_
    refine lv_iconst (v := nI 1) hx hb dX5_setCut_9 (by decide) ?_
    refine lv_iload_n hx hb dX5_setCut_10 rfl (lv_at hl 1 rfl) ?_
    refine lv_ishl hx hb dX5_setCut_11 ?_
    refine jx_val (z := (nI (2 ^ i))) (jx_1shl (by omega)) ?_
    refine lv_iconst (v := (-1)) hx hb dX5_setCut_12 (by decide) ?_
    refine lv_ixor hx hb dX5_setCut_13 ?_
    refine lv_iand hx hb dX5_setCut_14 ?_
    refine jx_val (z := (nI (jxAN st (2 ^ i)))) (jx_not _ _) ?_
    refine lv_goto (tgt := 26) hx hb dX5_setCut_15 (by decide) ?_
    refine va_put (D := D) (ci := 5) (v := .int (nI (jxAN st (2 ^ i)))) (ty := .int) (C := RX5) (T := TX5) (N := 8) hx hb hts in_X5_setCut_5 tyX5 tyX5_ok nmX5 hown hK hP hD hS 0 rfl rfl 2 (by decide) (hts (.fieldLink RX5 18 "Twincuts$Web" "standing" "I") (List.mem_of_getElem? (i := 1) (by decide +kernel))) (fun _ h9 => h9) rfl (by decide +kernel) rfl rfl (Nat.le_of_ble_eq_true rfl) dX5_setCut_26 (fun H locs hP hD hS => ?_)
    have hP : va_P D vwCl (jW cI g P n (jxAN st (2 ^ i)) sm gr co en la) H := hP
    have hD : va_D A (jW cI g P n (jxAN st (2 ^ i)) sm gr co en la) := jxD hD0 rfl
    have ev_2 : jxAN st (2 ^ i) = if is9 = true then jxAN st (2 ^ i) else st ||| 2 ^ i := by simp [c2]
    exact hQ H locs _ _ dX5_setCut_29 (by rw [← ev_2]; exact hP) hS
