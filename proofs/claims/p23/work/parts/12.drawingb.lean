set_option maxRecDepth 20000 in
theorem in_X0_swap_0 : ∀ w ∈ wsX00, w ∈ wsX0_swap := by decide +kernel
set_option maxHeartbeats 4000000 in
set_option maxRecDepth 100000 in
/-- swap(point, place) -/
theorem c_X0_swap (l : Launch) (D : va_G) (cI : ClassId) (cO : ClassId) (g : Nat → Nat) (rd le : Nat → Nat) (wk : Nat) (fa : Nat → Int32) (od : Nat → Nat → Nat) (sz : Nat) (q k : Nat) (hq : q < 8) (hk : k < le q) (hle : le q ≤ 16) : jxWv l yX0_swap wsX0_swap ({ frames := 1, cells := 0, slots := 0, locals := 22 } : Room) D [(cI, .int), (cO, .array .int)] (jD cI cO g rd le wk fa ++ jRN cI 8 16 rd od) [.ref (g 50), .int (nI q), .int (nI k)] sz (jD cI cO g rd le wk fa ++ jRN cI 8 16 rd (jmSw (le q) od q k)) := by
  refine jxw_enterV (by decide) rfl (Nat.le_of_ble_eq_true rfl) ?_
  intro p e s m args below meth c Q A ls hx hb hml hts hown hN hP hK hD hA hl hQ
  have hD0 := hD
  obtain ⟨H, hH⟩ : ∃ h, h = s.heap := ⟨_, rfl⟩
  have hS : va_S A s.heap H [] := by rw [hH]; exact va_S.rf
  rw [← hH] at hP ⊢
  obtain ⟨locs, hlocs⟩ : ∃ z : List Loc, z = [] := ⟨_, rfl⟩
  rw [← hlocs] at hS ⊢
  have hown : s.vm.findClass RX0 = some m.cls := hown
  have hl : lv_has ls 5 [(0, .ref (g 50)), (1, .int (nI q)), (2, .int (nI k))] := hl
  have hbh := jmBehind_lt (l := le q) (k := k) (by omega)
  refine lv_aload_n hx hb dX0_swap_0 rfl (lv_at hl 0 rfl) ?_
  refine lv_iload_n hx hb dX0_swap_1 rfl (lv_at hl 1 rfl) ?_
  refine lv_iload_n hx hb dX0_swap_2 rfl (lv_at hl 2 rfl) ?_
  refine jx_callV (As := [.int (nI q), .int (nI k)]) (rest := []) ⟨hx, hb, hml, hown, hts⟩ (c_X0_placeBehind l D cI cO g rd le wk fa q k (by omega) (by omega) hle) (cwV 2 hts gX0_swap_X0_placeBehind rfl rfl rfl (by decide +kernel) ⟨Nat.le_of_ble_eq_true rfl, Nat.le_of_ble_eq_true rfl⟩) hN (hP.sub (ws' := jD cI cO g rd le wk fa) [0, 1, 2, 3] rfl) (hK.sub (tys' := [(cI, .int), (cO, .array .int)]) [0, 1] rfl) 0 0 rfl rfl rfl rfl hl.1 rfl (Nat.le_of_ble_eq_true rfl) dX0_swap_3 ⟨Nat.zero_le _, Nat.zero_le _⟩ (fun r hr => ?_)
  subst hr
  refine lv_istore_n (lv' := [(3, .int (nI (jmBehind (le q) k))), (0, .ref (g 50)), (1, .int (nI q)), (2, .int (nI k))]) hx hb dX0_swap_6 rfl hl (by decide) rfl (fun ls hl => ?_)
  refine lv_aload_n hx hb dX0_swap_7 rfl (lv_at hl 1 rfl) ?_
  refine va_get (D := D) (ci := 0) (v := .ref (g 51)) (C := RX0) (T := TX0) (N := 5) hx hb hts in_X0_swap_0 hown hK hP 0 rfl rfl 1 (by decide) (hts (.fieldLink RX0 11 "Twincuts$Drawing" "order" "[[I") (List.mem_of_getElem? (i := 1) (by decide +kernel))) (fun _ h9 => h9) rfl dX0_swap_8 ?_
  refine lv_iload_n hx hb dX0_swap_11 rfl (lv_at hl 2 rfl) ?_
  refine jx_aald (N := 8) hx hb hK hP 1 1 rfl rfl (by omega) (by decide) dX0_swap_12 ?_
  refine lv_iload_n hx hb dX0_swap_13 rfl (lv_at hl 3 rfl) ?_
  refine jx_iald2N (N := 8) hx hb hK (X := jD cI cO g rd le wk fa) hP 0 rfl (by omega) (by omega) (by decide) dX0_swap_14 ?_
  refine lv_istore (lv' := [(4, .int (nI (od q k))), (3, .int (nI (jmBehind (le q) k))), (0, .ref (g 50)), (1, .int (nI q)), (2, .int (nI k))]) hx hb dX0_swap_15 hl (by decide) rfl (fun ls hl => ?_)
  refine lv_aload_n hx hb dX0_swap_17 rfl (lv_at hl 2 rfl) ?_
  refine va_get (D := D) (ci := 0) (v := .ref (g 51)) (C := RX0) (T := TX0) (N := 5) hx hb hts in_X0_swap_0 hown hK hP 0 rfl rfl 1 (by decide) (hts (.fieldLink RX0 11 "Twincuts$Drawing" "order" "[[I") (List.mem_of_getElem? (i := 1) (by decide +kernel))) (fun _ h9 => h9) rfl dX0_swap_18 ?_
  refine lv_iload_n hx hb dX0_swap_21 rfl (lv_at hl 3 rfl) ?_
  refine jx_aald (N := 8) hx hb hK hP 1 1 rfl rfl (by omega) (by decide) dX0_swap_22 ?_
  refine lv_iload_n hx hb dX0_swap_23 rfl (lv_at hl 4 rfl) ?_
  refine lv_aload_n hx hb dX0_swap_24 rfl (lv_at hl 2 rfl) ?_
  refine va_get (D := D) (ci := 0) (v := .ref (g 51)) (C := RX0) (T := TX0) (N := 5) hx hb hts in_X0_swap_0 hown hK hP 0 rfl rfl 1 (by decide) (hts (.fieldLink RX0 11 "Twincuts$Drawing" "order" "[[I") (List.mem_of_getElem? (i := 1) (by decide +kernel))) (fun _ h9 => h9) rfl dX0_swap_25 ?_
  refine lv_iload_n hx hb dX0_swap_28 rfl (lv_at hl 3 rfl) ?_
  refine jx_aald (N := 8) hx hb hK hP 1 1 rfl rfl (by omega) (by decide) dX0_swap_29 ?_
  refine lv_iload_n hx hb dX0_swap_30 rfl (lv_at hl 1 rfl) ?_
  refine jx_iald2N (N := 8) hx hb hK (X := jD cI cO g rd le wk fa) hP 0 rfl (by omega) (by omega) (by decide) dX0_swap_31 ?_
  refine jx_iast2N (N := 8) hx hb hK (X := jD cI cO g rd le wk fa) hP hD hS 0 rfl (by omega) (by omega) (by decide) dX0_swap_32 (fun H locs hP hD hS => ?_)
  have hP : va_P D vwCl (jD cI cO g rd le wk fa ++ jRN cI 8 16 rd (jxUp2 od q k (od q (jmBehind (le q) k)))) H := hP
  have hD : va_D A (jD cI cO g rd le wk fa ++ jRN cI 8 16 rd (jxUp2 od q k (od q (jmBehind (le q) k)))) := jxD hD0 rfl
  refine lv_aload_n hx hb dX0_swap_33 rfl (lv_at hl 2 rfl) ?_
  refine va_get (D := D) (ci := 0) (v := .ref (g 51)) (C := RX0) (T := TX0) (N := 5) hx hb hts in_X0_swap_0 hown hK hP 0 rfl rfl 1 (by decide) (hts (.fieldLink RX0 11 "Twincuts$Drawing" "order" "[[I") (List.mem_of_getElem? (i := 1) (by decide +kernel))) (fun _ h9 => h9) rfl dX0_swap_34 ?_
  refine lv_iload_n hx hb dX0_swap_37 rfl (lv_at hl 3 rfl) ?_
  refine jx_aald (N := 8) hx hb hK hP 1 1 rfl rfl (by omega) (by decide) dX0_swap_38 ?_
  refine lv_iload_n hx hb dX0_swap_39 rfl (lv_at hl 1 rfl) ?_
  refine lv_iload hx hb dX0_swap_40 (lv_at hl 0 rfl) ?_
  refine jx_iast2N (N := 8) hx hb hK (X := jD cI cO g rd le wk fa) hP hD hS 0 rfl (by omega) (by omega) (by decide) dX0_swap_42 (fun H locs hP hD hS => ?_)
  have hP : va_P D vwCl (jD cI cO g rd le wk fa ++ jRN cI 8 16 rd (jxUp2 (jxUp2 od q k (od q (jmBehind (le q) k))) q (jmBehind (le q) k) (od q k))) H := hP
  have hD : va_D A (jD cI cO g rd le wk fa ++ jRN cI 8 16 rd (jxUp2 (jxUp2 od q k (od q (jmBehind (le q) k))) q (jmBehind (le q) k) (od q k))) := jxD hD0 rfl
  have ev_1 : jxUp2 (jxUp2 od q k (od q (jmBehind (le q) k))) q (jmBehind (le q) k) (od q k) = jmSw (le q) od q k := by rfl
  exact hQ H locs _ _ dX0_swap_43 (by rw [← ev_1]; exact hP) hS
