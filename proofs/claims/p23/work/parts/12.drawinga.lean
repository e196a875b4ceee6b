set_option maxRecDepth 20000 in
theorem in_X0_append_0 : ∀ w ∈ wsX00, w ∈ wsX0_append := by decide +kernel
set_option maxHeartbeats 4000000 in
set_option maxRecDepth 100000 in
/-- append(point, line) -/
theorem c_X0_append (l : Launch) (D : va_G) (cI : ClassId) (cO : ClassId) (g : Nat → Nat) (rd le : Nat → Nat) (wk : Nat) (fa : Nat → Int32) (od : Nat → Nat → Nat) (sz : Nat) (q i : Nat) (hq : q < 8) (hle : le q < 16) : jxWv l yX0_append wsX0_append ({ frames := 0, cells := 0, slots := 0, locals := 0 } : Room) D [(cI, .int), (cO, .array .int)] (jD cI cO g rd le wk fa ++ jRN cI 8 16 rd od) [.ref (g 50), .int (nI q), .int (nI i)] sz (jD cI cO g rd (jxUp le q (le q + 1)) wk fa ++ jRN cI 8 16 rd (jxUp2 od q (le q) i)) := by
  refine jxw_enterV (by decide) rfl (Nat.le_of_ble_eq_true rfl) ?_
  intro p e s m args below meth c Q A ls hx hb hml hts hown hN hP hK hD hA hl hQ
  have hD0 := hD
  obtain ⟨H, hH⟩ : ∃ h, h = s.heap := ⟨_, rfl⟩
  have hS : va_S A s.heap H [] := by rw [hH]; exact va_S.rf
  rw [← hH] at hP ⊢
  obtain ⟨locs, hlocs⟩ : ∃ z : List Loc, z = [] := ⟨_, rfl⟩
  rw [← hlocs] at hS ⊢
  have hown : s.vm.findClass RX0 = some m.cls := hown
  have hl : lv_has ls 3 [(0, .ref (g 50)), (1, .int (nI q)), (2, .int (nI i))] := hl
  refine lv_aload_n hx hb dX0_append_0 rfl (lv_at hl 0 rfl) ?_
  refine va_get (D := D) (ci := 0) (v := .ref (g 52)) (C := RX0) (T := TX0) (N := 5) hx hb hts in_X0_append_0 hown hK hP 0 rfl rfl 2 (by decide) (hts (.fieldLink RX0 16 "Twincuts$Drawing" "length" "[I") (List.mem_of_getElem? (i := 1) (by decide +kernel))) (fun _ h9 => h9) rfl dX0_append_1 ?_
  refine lv_iload_n hx hb dX0_append_4 rfl (lv_at hl 1 rfl) ?_
  refine jx_iald hx hb hK hP 2 0 rfl rfl (by omega) (by decide) dX0_append_5 ?_
  refine lv_bipush (v := nI 16) hx hb dX0_append_6 (by decide) ?_
  refine lv_icmp_ge (tgt := 35) hx hb dX0_append_8 (by decide) (fun c8 => ?_) (fun c8 => ?_)
  · have c8 : 16 ≤ le q := jx_le (by decide) (by omega) c8
    have ev_1 : le = jxUp le q (le q + 1) := by first | rfl | exact absurd c8 (by omega)
    have ev_2 : od = jxUp2 od q (le q) i := by first | rfl | exact absurd c8 (by omega)
    exact hQ H locs _ _ dX0_append_35 (by rw [← ev_1, ← ev_2]; exact hP) hS
  · have c8 : le q < 16 := jx_nle (by decide) (by omega) c8
    refine lv_aload_n hx hb dX0_append_11 rfl (lv_at hl 0 rfl) ?_
    refine va_get (D := D) (ci := 0) (v := .ref (g 51)) (C := RX0) (T := TX0) (N := 5) hx hb hts in_X0_append_0 hown hK hP 0 rfl rfl 1 (by decide) (hts (.fieldLink RX0 11 "Twincuts$Drawing" "order" "[[I") (List.mem_of_getElem? (i := 2) (by decide +kernel))) (fun _ h9 => h9) rfl dX0_append_12 ?_
    refine lv_iload_n hx hb dX0_append_15 rfl (lv_at hl 1 rfl) ?_
    refine jx_aald (N := 8) hx hb hK hP 1 1 rfl rfl (by omega) (by decide) dX0_append_16 ?_
    refine lv_aload_n hx hb dX0_append_17 rfl (lv_at hl 0 rfl) ?_
    refine va_get (D := D) (ci := 0) (v := .ref (g 52)) (C := RX0) (T := TX0) (N := 5) hx hb hts in_X0_append_0 hown hK hP 0 rfl rfl 2 (by decide) (hts (.fieldLink RX0 16 "Twincuts$Drawing" "length" "[I") (List.mem_of_getElem? (i := 1) (by decide +kernel))) (fun _ h9 => h9) rfl dX0_append_18 ?_
    refine lv_iload_n hx hb dX0_append_21 rfl (lv_at hl 1 rfl) ?_
    refine jx_iald hx hb hK hP 2 0 rfl rfl (by omega) (by decide) dX0_append_22 ?_
    refine lv_iload_n hx hb dX0_append_23 rfl (lv_at hl 2 rfl) ?_
    refine jx_iast2N (N := 8) hx hb hK (X := jD cI cO g rd le wk fa) hP hD hS 0 rfl (by omega) (by omega) (by decide) dX0_append_24 (fun H locs hP hD hS => ?_)
    have hP : va_P D vwCl (jD cI cO g rd le wk fa ++ jRN cI 8 16 rd (jxUp2 od q (le q) i)) H := hP
    have hD : va_D A (jD cI cO g rd le wk fa ++ jRN cI 8 16 rd (jxUp2 od q (le q) i)) := jxD hD0 rfl
    refine lv_aload_n hx hb dX0_append_25 rfl (lv_at hl 0 rfl) ?_
    refine va_get (D := D) (ci := 0) (v := .ref (g 52)) (C := RX0) (T := TX0) (N := 5) hx hb hts in_X0_append_0 hown hK hP 0 rfl rfl 2 (by decide) (hts (.fieldLink RX0 16 "Twincuts$Drawing" "length" "[I") (List.mem_of_getElem? (i := 1) (by decide +kernel))) (fun _ h9 => h9) rfl dX0_append_26 ?_
    refine lv_iload_n hx hb dX0_append_29 rfl (lv_at hl 1 rfl) ?_
    refine lv_dup2_11 hx hb dX0_append_30 rfl rfl ?_
    refine jx_iald hx hb hK hP 2 0 rfl rfl (by omega) (by decide) dX0_append_31 ?_
    refine lv_iconst (v := nI 1) hx hb dX0_append_32 (by decide) ?_
    refine lv_iadd hx hb dX0_append_33 ?_
    refine jx_val (z := (nI (le q + 1))) (nI_add _ _) ?_
    refine jx_iastN hx hb hK hP hD hS 2 0 rfl rfl (by omega) (by decide) dX0_append_34 (fun H locs hP hD hS => ?_)
    have hP : va_P D vwCl (jD cI cO g rd (jxUp le q (le q + 1)) wk fa ++ jRN cI 8 16 rd (jxUp2 od q (le q) i)) H := hP
    have hD : va_D A (jD cI cO g rd (jxUp le q (le q + 1)) wk fa ++ jRN cI 8 16 rd (jxUp2 od q (le q) i)) := jxD hD0 rfl
    exact hQ H locs _ _ dX0_append_35 hP hS
