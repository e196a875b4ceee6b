set_option maxRecDepth 20000 in
theorem in_X2_addToTable_2 : ∀ w ∈ wsX20, w ∈ wsX2_addToTable := by decide +kernel
set_option maxHeartbeats 4000000 in
set_option maxRecDepth 100000 in
/-- addToTable(one, other) -/
theorem c_X2_addToTable (l : Launch) (D : va_G) (cI : ClassId) (cM : ClassId) (cL : ClassId) (g : Nat → Nat) (rt : Nat → Nat) (cs : Nat) (ct : Int32) (jo : Nat → Nat) (tb : Nat → Nat → Int64) (sz : Nat) (a o : Nat) (ha : a < 8) (ho : o < 8) : jxWv l yX2_addToTable wsX2_addToTable ({ frames := 0, cells := 0, slots := 0, locals := 0 } : Room) D [(cI, .int), (cM, .array .long), (cL, .long)] (jT cI cM g rt cs ct jo ++ jRL cL 8 8 rt tb) [.ref (g 30), .int (nI a), .int (nI o)] sz (jT cI cM g rt cs ct jo ++ jRL cL 8 8 rt (jmAddT tb a o)) := by
  refine jxw_enterV (by decide) rfl (Nat.le_of_ble_eq_true rfl) ?_
  intro p e s m args below meth c Q A ls hx hb hml hts hown hN hP hK hD hA hl hQ
  have hD0 := hD
  obtain ⟨H, hH⟩ : ∃ h, h = s.heap := ⟨_, rfl⟩
  have hS : va_S A s.heap H [] := by rw [hH]; exact va_S.rf
  rw [← hH] at hP ⊢
  obtain ⟨locs, hlocs⟩ : ∃ z : List Loc, z = [] := ⟨_, rfl⟩
  rw [← hlocs] at hS ⊢
  have hown : s.vm.findClass RX2 = some m.cls := hown
  have hl : lv_has ls 3 [(0, .ref (g 30)), (1, .int (nI a)), (2, .int (nI o))] := hl
  refine lv_aload_n hx hb dX2_addToTable_0 rfl (lv_at hl 0 rfl) ?_
  refine va_get (D := D) (ci := 2) (v := .ref (g 31)) (C := RX2) (T := TX2) (N := 5) hx hb hts in_X2_addToTable_2 hown hK hP 0 rfl rfl 1 (by decide) (hts (.fieldLink RX2 11 "Twincuts$Forest" "table" "[[J") (List.mem_of_getElem? (i := 1) (by decide +kernel))) (fun _ h9 => h9) rfl dX2_addToTable_1 ?_
  refine lv_iload_n hx hb dX2_addToTable_4 rfl (lv_at hl 1 rfl) ?_
  refine jx_aald (N := 8) hx hb hK hP 1 1 rfl rfl (by omega) (by decide) dX2_addToTable_5 ?_
  refine lv_iload_n hx hb dX2_addToTable_6 rfl (lv_at hl 1 rfl) ?_
  refine lv_dup2_11 hx hb dX2_addToTable_7 rfl rfl ?_
  refine jx_lald2 (N := 8) hx hb hK (X := jT cI cM g rt cs ct jo) hP 2 rfl (by omega) (by omega) (by decide) dX2_addToTable_8 ?_
  refine lv_lconst (v := (1 : Int64)) hx hb dX2_addToTable_9 (by decide) ?_
  refine lv_ladd hx hb dX2_addToTable_10 ?_
  refine jx_last2 (N := 8) hx hb hK (X := jT cI cM g rt cs ct jo) hP hD hS 2 rfl (by omega) (by omega) (by decide) dX2_addToTable_11 (fun H locs hP hD hS => ?_)
  have hP : va_P D vwCl (jT cI cM g rt cs ct jo ++ jRL cL 8 8 rt (jxUp2 tb a a ((tb a a) + (1 : Int64)))) H := hP
  have hD : va_D A (jT cI cM g rt cs ct jo ++ jRL cL 8 8 rt (jxUp2 tb a a ((tb a a) + (1 : Int64)))) := jxD hD0 rfl
  refine lv_aload_n hx hb dX2_addToTable_12 rfl (lv_at hl 0 rfl) ?_
  refine va_get (D := D) (ci := 2) (v := .ref (g 31)) (C := RX2) (T := TX2) (N := 5) hx hb hts in_X2_addToTable_2 hown hK hP 0 rfl rfl 1 (by decide) (hts (.fieldLink RX2 11 "Twincuts$Forest" "table" "[[J") (List.mem_of_getElem? (i := 1) (by decide +kernel))) (fun _ h9 => h9) rfl dX2_addToTable_13 ?_
  refine lv_iload_n hx hb dX2_addToTable_16 rfl (lv_at hl 2 rfl) ?_
  refine jx_aald (N := 8) hx hb hK hP 1 1 rfl rfl (by omega) (by decide) dX2_addToTable_17 ?_
  refine lv_iload_n hx hb dX2_addToTable_18 rfl (lv_at hl 2 rfl) ?_
  refine lv_dup2_11 hx hb dX2_addToTable_19 rfl rfl ?_
  refine jx_lald2 (N := 8) hx hb hK (X := jT cI cM g rt cs ct jo) hP 2 rfl (by omega) (by omega) (by decide) dX2_addToTable_20 ?_
  refine lv_lconst (v := (1 : Int64)) hx hb dX2_addToTable_21 (by decide) ?_
  refine lv_ladd hx hb dX2_addToTable_22 ?_
  refine jx_last2 (N := 8) hx hb hK (X := jT cI cM g rt cs ct jo) hP hD hS 2 rfl (by omega) (by omega) (by decide) dX2_addToTable_23 (fun H locs hP hD hS => ?_)
  have hP : va_P D vwCl (jT cI cM g rt cs ct jo ++ jRL cL 8 8 rt (jxUp2 (jxUp2 tb a a ((tb a a) + (1 : Int64))) o o (((jxUp2 tb a a ((tb a a) + (1 : Int64))) o o) + (1 : Int64)))) H := hP
  have hD : va_D A (jT cI cM g rt cs ct jo ++ jRL cL 8 8 rt (jxUp2 (jxUp2 tb a a ((tb a a) + (1 : Int64))) o o (((jxUp2 tb a a ((tb a a) + (1 : Int64))) o o) + (1 : Int64)))) := jxD hD0 rfl
  refine lv_aload_n hx hb dX2_addToTable_24 rfl (lv_at hl 0 rfl) ?_
  refine va_get (D := D) (ci := 2) (v := .ref (g 31)) (C := RX2) (T := TX2) (N := 5) hx hb hts in_X2_addToTable_2 hown hK hP 0 rfl rfl 1 (by decide) (hts (.fieldLink RX2 11 "Twincuts$Forest" "table" "[[J") (List.mem_of_getElem? (i := 1) (by decide +kernel))) (fun _ h9 => h9) rfl dX2_addToTable_25 ?_
  refine lv_iload_n hx hb dX2_addToTable_28 rfl (lv_at hl 1 rfl) ?_
  refine jx_aald (N := 8) hx hb hK hP 1 1 rfl rfl (by omega) (by decide) dX2_addToTable_29 ?_
  refine lv_iload_n hx hb dX2_addToTable_30 rfl (lv_at hl 2 rfl) ?_
  refine lv_dup2_11 hx hb dX2_addToTable_31 rfl rfl ?_
  refine jx_lald2 (N := 8) hx hb hK (X := jT cI cM g rt cs ct jo) hP 2 rfl (by omega) (by omega) (by decide) dX2_addToTable_32 ?_
  refine lv_lconst (v := (1 : Int64)) hx hb dX2_addToTable_33 (by decide) ?_
  refine lv_lsub hx hb dX2_addToTable_34 ?_
  refine jx_last2 (N := 8) hx hb hK (X := jT cI cM g rt cs ct jo) hP hD hS 2 rfl (by omega) (by omega) (by decide) dX2_addToTable_35 (fun H locs hP hD hS => ?_)
  have hP : va_P D vwCl (jT cI cM g rt cs ct jo ++ jRL cL 8 8 rt (jxUp2 (jxUp2 (jxUp2 tb a a ((tb a a) + (1 : Int64))) o o (((jxUp2 tb a a ((tb a a) + (1 : Int64))) o o) + (1 : Int64))) a o (((jxUp2 (jxUp2 tb a a ((tb a a) + (1 : Int64))) o o (((jxUp2 tb a a ((tb a a) + (1 : Int64))) o o) + (1 : Int64))) a o) - (1 : Int64)))) H := hP
  have hD : va_D A (jT cI cM g rt cs ct jo ++ jRL cL 8 8 rt (jxUp2 (jxUp2 (jxUp2 tb a a ((tb a a) + (1 : Int64))) o o (((jxUp2 tb a a ((tb a a) + (1 : Int64))) o o) + (1 : Int64))) a o (((jxUp2 (jxUp2 tb a a ((tb a a) + (1 : Int64))) o o (((jxUp2 tb a a ((tb a a) + (1 : Int64))) o o) + (1 : Int64))) a o) - (1 : Int64)))) := jxD hD0 rfl
  refine lv_aload_n hx hb dX2_addToTable_36 rfl (lv_at hl 0 rfl) ?_
  refine va_get (D := D) (ci := 2) (v := .ref (g 31)) (C := RX2) (T := TX2) (N := 5) hx hb hts in_X2_addToTable_2 hown hK hP 0 rfl rfl 1 (by decide) (hts (.fieldLink RX2 11 "Twincuts$Forest" "table" "[[J") (List.mem_of_getElem? (i := 1) (by decide +kernel))) (fun _ h9 => h9) rfl dX2_addToTable_37 ?_
  refine lv_iload_n hx hb dX2_addToTable_40 rfl (lv_at hl 2 rfl) ?_
  refine jx_aald (N := 8) hx hb hK hP 1 1 rfl rfl (by omega) (by decide) dX2_addToTable_41 ?_
  refine lv_iload_n hx hb dX2_addToTable_42 rfl (lv_at hl 1 rfl) ?_
  refine lv_dup2_11 hx hb dX2_addToTable_43 rfl rfl ?_
  refine jx_lald2 (N := 8) hx hb hK (X := jT cI cM g rt cs ct jo) hP 2 rfl (by omega) (by omega) (by decide) dX2_addToTable_44 ?_
  refine lv_lconst (v := (1 : Int64)) hx hb dX2_addToTable_45 (by decide) ?_
  refine lv_lsub hx hb dX2_addToTable_46 ?_
  refine jx_last2 (N := 8) hx hb hK (X := jT cI cM g rt cs ct jo) hP hD hS 2 rfl (by omega) (by omega) (by decide) dX2_addToTable_47 (fun H locs hP hD hS => ?_)
  have hP : va_P D vwCl (jT cI cM g rt cs ct jo ++ jRL cL 8 8 rt (jxUp2 (jxUp2 (jxUp2 (jxUp2 tb a a ((tb a a) + (1 : Int64))) o o (((jxUp2 tb a a ((tb a a) + (1 : Int64))) o o) + (1 : Int64))) a o (((jxUp2 (jxUp2 tb a a ((tb a a) + (1 : Int64))) o o (((jxUp2 tb a a ((tb a a) + (1 : Int64))) o o) + (1 : Int64))) a o) - (1 : Int64))) o a (((jxUp2 (jxUp2 (jxUp2 tb a a ((tb a a) + (1 : Int64))) o o (((jxUp2 tb a a ((tb a a) + (1 : Int64))) o o) + (1 : Int64))) a o (((jxUp2 (jxUp2 tb a a ((tb a a) + (1 : Int64))) o o (((jxUp2 tb a a ((tb a a) + (1 : Int64))) o o) + (1 : Int64))) a o) - (1 : Int64))) o a) - (1 : Int64)))) H := hP
  have hD : va_D A (jT cI cM g rt cs ct jo ++ jRL cL 8 8 rt (jxUp2 (jxUp2 (jxUp2 (jxUp2 tb a a ((tb a a) + (1 : Int64))) o o (((jxUp2 tb a a ((tb a a) + (1 : Int64))) o o) + (1 : Int64))) a o (((jxUp2 (jxUp2 tb a a ((tb a a) + (1 : Int64))) o o (((jxUp2 tb a a ((tb a a) + (1 : Int64))) o o) + (1 : Int64))) a o) - (1 : Int64))) o a (((jxUp2 (jxUp2 (jxUp2 tb a a ((tb a a) + (1 : Int64))) o o (((jxUp2 tb a a ((tb a a) + (1 : Int64))) o o) + (1 : Int64))) a o (((jxUp2 (jxUp2 tb a a ((tb a a) + (1 : Int64))) o o (((jxUp2 tb a a ((tb a a) + (1 : Int64))) o o) + (1 : Int64))) a o) - (1 : Int64))) o a) - (1 : Int64)))) := jxD hD0 rfl
  have ev_1 : jxUp2 (jxUp2 (jxUp2 (jxUp2 tb a a ((tb a a) + (1 : Int64))) o o (((jxUp2 tb a a ((tb a a) + (1 : Int64))) o o) + (1 : Int64))) a o (((jxUp2 (jxUp2 tb a a ((tb a a) + (1 : Int64))) o o (((jxUp2 tb a a ((tb a a) + (1 : Int64))) o o) + (1 : Int64))) a o) - (1 : Int64))) o a (((jxUp2 (jxUp2 (jxUp2 tb a a ((tb a a) + (1 : Int64))) o o (((jxUp2 tb a a ((tb a a) + (1 : Int64))) o o) + (1 : Int64))) a o (((jxUp2 (jxUp2 tb a a ((tb a a) + (1 : Int64))) o o (((jxUp2 tb a a ((tb a a) + (1 : Int64))) o o) + (1 : Int64))) a o) - (1 : Int64))) o a) - (1 : Int64)) = jmAddT tb a o := by rfl
  exact hQ H locs _ _ dX2_addToTable_48 (by rw [← ev_1]; exact hP) hS
