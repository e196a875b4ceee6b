set_option maxRecDepth 20000 in
theorem in_X2_learn_2 : ∀ w ∈ wsX20, w ∈ wsX2_learn := by decide +kernel
set_option maxRecDepth 20000 in
theorem in_X2_learn_5 : ∀ w ∈ wsX50, w ∈ wsX2_learn := by decide +kernel
set_option maxHeartbeats 4000000 in
set_option maxRecDepth 100000 in
/-- learn() -/
theorem c_X2_learn (l : Launch) (D : va_G) (cI : ClassId) (cM : ClassId) (g : Nat → Nat) (P n st : Nat) (sm gr co en la : Nat → Nat) (rt : Nat → Nat) (cs : Nat) (ct : Int32) (jo : Nat → Nat) (sz : Nat) (hw : jmWF P n st sm gr co en la) (hjo : ∀ j, j < 8 → jo j < 256) : jxWv l yX2_learn wsX2_learn ({ frames := 3, cells := 0, slots := 0, locals := 67 } : Room) D [(cI, .int), (cM, .array .long)] (jW cI g P n st sm gr co en la ++ jT cI cM g rt cs ct jo) [.ref (g 30)] sz (jW cI g P n st sm gr co en la ++ jT cI cM g rt ((jmFo en sm gr co P n st jo).1) ((jmFo en sm gr co P n st jo).2.1) ((jmFo en sm gr co P n st jo).2.2)) := by
  refine jxw_enterV (by decide) rfl (Nat.le_of_ble_eq_true rfl) ?_
  intro p e s m args below meth c Q A ls hx hb hml hts hown hN hP hK hD hA hl hQ
  have hD0 := hD
  obtain ⟨H, hH⟩ : ∃ h, h = s.heap := ⟨_, rfl⟩
  have hS : va_S A s.heap H [] := by rw [hH]; exact va_S.rf
  rw [← hH] at hP ⊢
  obtain ⟨locs, hlocs⟩ : ∃ z : List Loc, z = [] := ⟨_, rfl⟩
  rw [← hlocs] at hS ⊢
  have hown : s.vm.findClass RX2 = some m.cls := hown
  have hl : lv_has ls 1 [(0, .ref (g 30))] := hl
  have hP8 : P ≤ 8 := hw.1
  have hn16 : n ≤ 16 := hw.2.1
  have hst : st < 65536 := jmWF_st hw
  have hen : ∀ j, j < n → en j < 256 := jmWF_en hw
  have hla : ∀ q, q < P → la q < 65536 := jmWF_la hw
  have hgr : ∀ j, j < n → sm j < 8 ∧ gr j < 8 := jmWF_gr hw
  have hco : ∀ j, j < n → co j < 21 := jmWF_co hw
  have hP2 := jx_pow256 hP8
  refine lv_aload_n hx hb dX2_learn_0 rfl (lv_at hl 0 rfl) ?_
  refine lv_iconst (v := nI 0) hx hb dX2_learn_1 (by decide) ?_
  refine va_put (D := D) (ci := 2) (v := .int (nI 0)) (ty := .int) (C := RX2) (T := TX2) (N := 5) hx hb hts in_X2_learn_2 tyX2 tyX2_ok nmX2 hown hK hP hD hS 6 rfl rfl 2 (by decide) (hts (.fieldLink RX2 16 "Twincuts$Forest" "cheapestSet" "I") (List.mem_of_getElem? (i := 1) (by decide +kernel))) (fun _ h9 => h9) rfl (by decide +kernel) rfl rfl (Nat.le_of_ble_eq_true rfl) dX2_learn_2 (fun H locs hP hD hS => ?_)
  have hP : va_P D vwCl (jW cI g P n st sm gr co en la ++ jT cI cM g rt 0 ct jo) H := hP
  have hD : va_D A (jW cI g P n st sm gr co en la ++ jT cI cM g rt 0 ct jo) := jxD hD0 rfl
  refine lv_aload_n hx hb dX2_learn_5 rfl (lv_at hl 0 rfl) ?_
  refine lv_iconst (v := (-1)) hx hb dX2_learn_6 (by decide) ?_
  refine va_put (D := D) (ci := 2) (v := .int (-1 : Int32)) (ty := .int) (C := RX2) (T := TX2) (N := 5) hx hb hts in_X2_learn_2 tyX2 tyX2_ok nmX2 hown hK hP hD hS 6 rfl rfl 3 (by decide) (hts (.fieldLink RX2 20 "Twincuts$Forest" "cheapestCost" "I") (List.mem_of_getElem? (i := 2) (by decide +kernel))) (fun _ h9 => h9) rfl (by decide +kernel) rfl rfl (Nat.le_of_ble_eq_true rfl) dX2_learn_7 (fun H locs hP hD hS => ?_)
  have hP : va_P D vwCl (jW cI g P n st sm gr co en la ++ jT cI cM g rt 0 (-1 : Int32) jo) H := hP
  have hD : va_D A (jW cI g P n st sm gr co en la ++ jT cI cM g rt 0 (-1 : Int32) jo) := jxD hD0 rfl
  refine lv_aload_n hx hb dX2_learn_10 rfl (lv_at hl 0 rfl) ?_
  refine va_get (D := D) (ci := 2) (v := .ref (g 0)) (C := RX2) (T := TX2) (N := 5) hx hb hts in_X2_learn_2 hown hK hP 6 rfl rfl 0 (by decide) (hts (.fieldLink RX2 27 "Twincuts$Forest" "web" "LTwincuts$Web;") (List.mem_of_getElem? (i := 3) (by decide +kernel))) (fun _ h9 => h9) rfl dX2_learn_11 ?_
  refine lv_aload_n hx hb dX2_learn_14 rfl (lv_at hl 0 rfl) ?_
  refine va_get (D := D) (ci := 2) (v := .ref (g 0)) (C := RX2) (T := TX2) (N := 5) hx hb hts in_X2_learn_2 hown hK hP 6 rfl rfl 0 (by decide) (hts (.fieldLink RX2 27 "Twincuts$Forest" "web" "LTwincuts$Web;") (List.mem_of_getElem? (i := 3) (by decide +kernel))) (fun _ h9 => h9) rfl dX2_learn_15 ?_
  refine jx_callV (As := []) (rest := [.ref (g 0)]) ⟨hx, hb, hml, hown, hts⟩ (c_X5_allPoints l D cI g P n st sm gr co en la hw ) (cwV 0 hts gX2_learn_X5_allPoints rfl rfl rfl (by decide +kernel) ⟨Nat.le_of_ble_eq_true rfl, Nat.le_of_ble_eq_true rfl⟩) hN (hP.sub (ws' := jW cI g P n st sm gr co en la) [0, 1, 2, 3, 4, 5] rfl) (hK.sub (tys' := [(cI, .int)]) [0] rfl) 0 5 rfl rfl rfl rfl hl.1 rfl (Nat.le_of_ble_eq_true rfl) dX2_learn_18 ⟨Nat.zero_le _, Nat.zero_le _⟩ (fun r hr => ?_)
  subst hr
  refine lv_aload_n hx hb dX2_learn_21 rfl (lv_at hl 0 rfl) ?_
  refine va_get (D := D) (ci := 2) (v := .ref (g 0)) (C := RX2) (T := TX2) (N := 5) hx hb hts in_X2_learn_2 hown hK hP 6 rfl rfl 0 (by decide) (hts (.fieldLink RX2 27 "Twincuts$Forest" "web" "LTwincuts$Web;") (List.mem_of_getElem? (i := 3) (by decide +kernel))) (fun _ h9 => h9) rfl dX2_learn_22 ?_
  refine va_getN (D := D) (ci := 5) (v := .int (nI st)) (C := RX5) (T := TX5) (N := 8) hx hb hts in_X2_learn_5 hown hK hP 0 rfl rfl 2 (by decide) (hN.use 12 rfl) (fun _ h9 => h9) rfl dX2_learn_25 ?_
  refine jx_callV (As := [.int (nI (2 ^ P - 1)), .int (nI st)]) (rest := []) ⟨hx, hb, hml, hown, hts⟩ (c_X5_countParts l D cI g P n st sm gr co en la hw (2 ^ P - 1) st (by omega) (by omega)) (cwV 2 hts gX2_learn_X5_countParts rfl rfl rfl (by decide +kernel) ⟨Nat.le_of_ble_eq_true rfl, Nat.le_of_ble_eq_true rfl⟩) hN (hP.sub (ws' := jW cI g P n st sm gr co en la) [0, 1, 2, 3, 4, 5] rfl) (hK.sub (tys' := [(cI, .int)]) [0] rfl) 0 5 rfl rfl rfl rfl hl.1 rfl (Nat.le_of_ble_eq_true rfl) dX2_learn_28 ⟨Nat.zero_le _, Nat.zero_le _⟩ (fun r hr => ?_)
  subst hr
  refine lv_iconst (v := nI 1) hx hb dX2_learn_31 (by decide) ?_
  refine lv_icmp_ne (tgt := 39) hx hb dX2_learn_32 (by decide) (fun c32 => ?_) (fun c32 => ?_)
  · have c32 : jmCPc en (2 ^ P - 1) st n P ≠ 1 := jx_ne c32
    have ev_1 : 0 = (jmFo en sm gr co P n st jo).1 := by simp [jmFo, c32]
    have ev_2 : (-1 : Int32) = (jmFo en sm gr co P n st jo).2.1 := by simp [jmFo, c32]
    have ev_3 : jo = (jmFo en sm gr co P n st jo).2.2 := by simp [jmFo, c32]
    exact hQ H locs _ _ dX2_learn_39 (by rw [← ev_1, ← ev_2, ← ev_3]; exact hP) hS
  · have c32 : jmCPc en (2 ^ P - 1) st n P = 1 := jx_e (Nat.lt_of_le_of_lt (jmCPc_le _) (by omega)) (by decide) c32
    refine lv_aload_n hx hb dX2_learn_35 rfl (lv_at hl 0 rfl) ?_
    refine jxw_callV (X := jW cI g P n st sm gr co en la ++ jT cI cM g rt 0 (-1 : Int32) jo) (X' := jW cI g P n st sm gr co en la ++ jT cI cM g rt ((jmTCo sm gr co P n st (0, nI 0, jmPw jo P) 20).1) ((jmTCo sm gr co P n st (0, nI 0, jmPw jo P) 20).2.1) ((jmTCo sm gr co P n st (0, nI 0, jmPw jo P) 20).2.2)) (wc := jW cI g P n st sm gr co en la ++ jT cI cM g rt 0 (-1 : Int32) jo) (wc' := jW cI g P n st sm gr co en la ++ jT cI cM g rt ((jmTCo sm gr co P n st (0, nI 0, jmPw jo P) 20).1) ((jmTCo sm gr co P n st (0, nI 0, jmPw jo P) 20).2.1) ((jmTCo sm gr co P n st (0, nI 0, jmPw jo P) 20).2.2)) (wr := []) (N := 9) (As := []) (rest := []) ⟨hx, hb, hml, hown, hts⟩ (c_X2_takeCheapest l D cI cM g P n st sm gr co en la rt 0 (-1 : Int32) jo H.size hw hjo (by omega)) (cwV 0 hts gX2_learn_X2_takeCheapest rfl rfl rfl (by decide +kernel) ⟨Nat.le_of_ble_eq_true rfl, Nat.le_of_ble_eq_true rfl⟩) hN hP hD (hK.sub (tys' := [(cI, .int), (cM, .array .long)]) [0, 1] rfl) hS hA [0, 1, 2, 3, 4, 5, 6, 7, 8] [] rfl rfl rfl rfl rfl rfl (by decide) (by decide) 6 2 rfl rfl rfl (hK.sub (tys' := [(cI, .int), (cM, .array .long)]) [0, 1] rfl) rfl hl.1 rfl (Nat.le_of_ble_eq_true rfl) dX2_learn_36 ⟨Nat.zero_le _, Nat.zero_le _⟩ (fun H locs hP hS => ?_)
    have hD : va_D A (jW cI g P n st sm gr co en la ++ jT cI cM g rt ((jmTCo sm gr co P n st (0, nI 0, jmPw jo P) 20).1) ((jmTCo sm gr co P n st (0, nI 0, jmPw jo P) 20).2.1) ((jmTCo sm gr co P n st (0, nI 0, jmPw jo P) 20).2.2)) := jxD hD0 rfl
    have ev_4 : (jmTCo sm gr co P n st (0, nI 0, jmPw jo P) 20).1 = (jmFo en sm gr co P n st jo).1 := by simp [jmFo, c32]
    have ev_5 : (jmTCo sm gr co P n st (0, nI 0, jmPw jo P) 20).2.1 = (jmFo en sm gr co P n st jo).2.1 := by simp [jmFo, c32]
    have ev_6 : (jmTCo sm gr co P n st (0, nI 0, jmPw jo P) 20).2.2 = (jmFo en sm gr co P n st jo).2.2 := by simp [jmFo, c32]
    exact hQ H locs _ _ dX2_learn_39 (by rw [← ev_4, ← ev_5, ← ev_6]; exact hP) hS
