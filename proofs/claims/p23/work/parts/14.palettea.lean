set_option maxRecDepth 20000 in
theorem in_X3_paintsFrom_3 : ∀ w ∈ wsX30, w ∈ wsX3_paintsFrom := by decide +kernel
set_option maxRecDepth 20000 in
theorem in_X3_paintsFrom_5 : ∀ w ∈ wsX50, w ∈ wsX3_paintsFrom := by decide +kernel
set_option maxHeartbeats 4000000 in
set_option maxRecDepth 100000 in
/-- paintsFrom(point, used, most) -/
theorem c_paint0 (l : Launch) (D : va_G) (cI : ClassId) (g : Nat → Nat) (P n st : Nat) (sm gr co en la : Nat → Nat) (pk : Nat) (cl : Nat → Nat) (sz : Nat) (hw : jmWF P n st sm gr co en la) (q used mo : Nat) (hq : q + 0 = P) (hu : used ≤ 8) (hmo : mo ≤ 8) (hcl : ∀ j, j < 8 → cl j < 256)  : jxWi l yX3_paintsFrom wsX3_paintsFrom (jmRm 0) D [(cI, .int)] (jW cI g P n st sm gr co en la ++ jP cI g pk cl) [.ref (g 40), .int (nI q), .int (nI used), .int (nI mo)] sz (fun r => r = nI (jB (jmPa en la P n st mo 0 used cl).1)) (jW cI g P n st sm gr co en la ++ jP cI g pk ((jmPa en la P n st mo 0 used cl).2)) := by
  refine jxw_enterZ (by decide) rfl (Nat.le_of_ble_eq_true rfl) ?_
  intro p e s m args below meth c Q A ls hx hb hml hts hown hN hP hK hD hA hl hQ
  have hD0 := hD
  obtain ⟨H, hH⟩ : ∃ h, h = s.heap := ⟨_, rfl⟩
  have hS : va_S A s.heap H [] := by rw [hH]; exact va_S.rf
  rw [← hH] at hP ⊢
  obtain ⟨locs, hlocs⟩ : ∃ z : List Loc, z = [] := ⟨_, rfl⟩
  rw [← hlocs] at hS ⊢
  have hown : s.vm.findClass RX3 = some m.cls := hown
  have hl : lv_has ls 6 [(0, .ref (g 40)), (1, .int (nI q)), (2, .int (nI used)), (3, .int (nI mo))] := hl
  have hP8 : P ≤ 8 := hw.1
  have hn16 : n ≤ 16 := hw.2.1
  have hst : st < 65536 := jmWF_st hw
  have hen : ∀ j, j < n → en j < 256 := jmWF_en hw
  have hla : ∀ q, q < P → la q < 65536 := jmWF_la hw
  have hgr : ∀ j, j < n → sm j < 8 ∧ gr j < 8 := jmWF_gr hw
  have hco : ∀ j, j < n → co j < 21 := jmWF_co hw
  have hlk := jmLinked_lt (la := la) (st := st) (q := q) hen
  refine lv_iload_n hx hb dX3_paintsFrom_0 rfl (lv_at hl 1 rfl) ?_
  refine lv_aload_n hx hb dX3_paintsFrom_1 rfl (lv_at hl 0 rfl) ?_
  refine va_get (D := D) (ci := 3) (v := .ref (g 0)) (C := RX3) (T := TX3) (N := 3) hx hb hts in_X3_paintsFrom_3 hown hK hP 6 rfl rfl 0 (by decide) (hts (.fieldLink RX3 19 "Twincuts$Palette" "web" "LTwincuts$Web;") (List.mem_of_getElem? (i := 1) (by decide +kernel))) (fun _ h9 => h9) rfl dX3_paintsFrom_2 ?_
  refine va_getN (D := D) (ci := 5) (v := .int (nI P)) (C := RX5) (T := TX5) (N := 8) hx hb hts in_X3_paintsFrom_5 hown hK hP 0 rfl rfl 0 (by decide) (hN.use 1 rfl) (fun _ h9 => h9) rfl dX3_paintsFrom_5 ?_
  refine lv_icmp_lt (tgt := 13) hx hb dX3_paintsFrom_8 (by decide) (fun c8 => ?_) (fun c8 => ?_)
  · have c8 : q < P := jx_lt (by omega) (by omega) c8
    exact absurd c8 (by omega)
  · have c8 : P ≤ q := jx_nlt (by omega) (by omega) c8
    refine lv_iconst (v := nI 1) hx hb dX3_paintsFrom_11 (by decide) ?_
    have ev_1 : cl = (jmPa en la P n st mo 0 used cl).2 := by rfl
    exact hQ true H locs _ _ dX3_paintsFrom_12 rfl (by rw [← ev_1]; exact hP) hS
