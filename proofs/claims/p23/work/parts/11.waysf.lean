set_option maxRecDepth 20000 in
theorem in_X4_countLineWays_4 : ∀ w ∈ wsX40, w ∈ wsX4_countLineWays := by decide +kernel
set_option maxRecDepth 20000 in
theorem in_X4_countLineWays_5 : ∀ w ∈ wsX50, w ∈ wsX4_countLineWays := by decide +kernel
set_option maxHeartbeats 4000000 in
set_option maxRecDepth 100000 in
/-- countLineWays(one, other) -/
theorem c_X4_countLineWays (l : Launch) (D : va_G) (cI : ClassId) (cO : ClassId) (g : Nat → Nat) (P n st : Nat) (sm gr co en la : Nat → Nat) (ro : Nat → Nat) (ca : Nat → Int32) (qu : Nat → Nat) (rm : Nat → Nat → Int32) (sz : Nat) (hw : jmWF P n st sm gr co en la) (a o : Nat) (ha : a < P) (ho : o < P) (hqu : ∀ j, j < 16 → qu j < 16) : jxWi l yX4_countLineWays wsX4_countLineWays ({ frames := 2, cells := 0, slots := 0, locals := 50 } : Room) D [(cI, .int), (cO, .array .int)] (jW cI g P n st sm gr co en la ++ jY cI cO g ro ca qu ++ jRI cI 16 16 ro rm) [.ref (g 20), .int (nI a), .int (nI o)] sz (fun r => r = nI (jmCFS a o (jmC3 sm gr st (fun _ _ => 0) n) ca qu).1) (jW cI g P n st sm gr co en la ++ jY cI cO g ro ((jmCFS a o (jmC3 sm gr st (fun _ _ => 0) n) ca qu).2.2.1) ((jmCFS a o (jmC3 sm gr st (fun _ _ => 0) n) ca qu).2.2.2) ++ jRI cI 16 16 ro ((jmCFS a o (jmC3 sm gr st (fun _ _ => 0) n) ca qu).2.1)) := by
  refine jxw_enter (by decide) rfl (Nat.le_of_ble_eq_true rfl) ?_
  intro p e s m args below meth c Q A ls hx hb hml hts hown hN hP hK hD hA hl hQ
  have hD0 := hD
  obtain ⟨H, hH⟩ : ∃ h, h = s.heap := ⟨_, rfl⟩
  have hS : va_S A s.heap H [] := by rw [hH]; exact va_S.rf
  rw [← hH] at hP ⊢
  obtain ⟨locs, hlocs⟩ : ∃ z : List Loc, z = [] := ⟨_, rfl⟩
  rw [← hlocs] at hS ⊢
  have hown : s.vm.findClass RX4 = some m.cls := hown
  have hl : lv_has ls 4 [(0, .ref (g 20)), (1, .int (nI a)), (2, .int (nI o))] := hl
  have hP8 : P ≤ 8 := hw.1
  have hn16 : n ≤ 16 := hw.2.1
  have hst : st < 65536 := jmWF_st hw
  have hen : ∀ j, j < n → en j < 256 := jmWF_en hw
  have hla : ∀ q, q < P → la q < 65536 := jmWF_la hw
  have hgr : ∀ j, j < n → sm j < 8 ∧ gr j < 8 := jmWF_gr hw
  have hco : ∀ j, j < n → co j < 21 := jmWF_co hw
  refine lv_aload_n hx hb dX4_countLineWays_0 rfl (lv_at hl 0 rfl) ?_
  refine jxw_callV (X := jW cI g P n st sm gr co en la ++ jY cI cO g ro ca qu ++ jRI cI 16 16 ro rm) (X' := jW cI g P n st sm gr co en la ++ jY cI cO g ro ca qu ++ jRI cI 16 16 ro (fun _ _ => 0)) (wc := jY cI cO g ro ca qu ++ jRI cI 16 16 ro rm) (wc' := jY cI cO g ro ca qu ++ jRI cI 16 16 ro (fun _ _ => 0)) (wr := jW cI g P n st sm gr co en la) (N := 26) (As := []) (rest := []) ⟨hx, hb, hml, hown, hts⟩ (c_X4_clearRoom l D cI cO g ro ca qu rm H.size ) (cwV 0 hts gX4_countLineWays_X4_clearRoom rfl rfl rfl (by decide +kernel) ⟨Nat.le_of_ble_eq_true rfl, Nat.le_of_ble_eq_true rfl⟩) hN hP hD (hK.sub (tys' := [(cI, .int), (cO, .array .int)]) [0, 1] rfl) hS hA [6, 7, 8, 9, 10, 11, 12, 13, 14, 15, 16, 17, 18, 19, 20, 21, 22, 23, 24, 25] [0, 1, 2, 3, 4, 5] rfl rfl rfl rfl rfl rfl (by decide) (by decide) 6 4 rfl rfl rfl (hK.sub (tys' := [(cI, .int), (cO, .array .int)]) [0, 1] rfl) rfl hl.1 rfl (Nat.le_of_ble_eq_true rfl) dX4_countLineWays_1 ⟨Nat.zero_le _, Nat.zero_le _⟩ (fun H locs hP hS => ?_)
  have hD : va_D A (jW cI g P n st sm gr co en la ++ jY cI cO g ro ca qu ++ jRI cI 16 16 ro (fun _ _ => 0)) := jxD hD0 rfl
  refine lv_iconst (v := nI 0) hx hb dX4_countLineWays_4 (by decide) ?_
  refine lv_istore_n (lv' := [(3, .int (nI 0)), (0, .ref (g 20)), (1, .int (nI a)), (2, .int (nI o))]) hx hb dX4_countLineWays_5 rfl hl (by decide) rfl (fun ls hl => ?_)
  have L6 : ∀ (k : Nat) (ln : Nat) (hln : ln ≤ n), n - ln < k → ∀ (H : Heap) (locs : List Loc), va_P D vwCl (jW cI g P n st sm gr co en la ++ jY cI cO g ro ca qu ++ jRI cI 16 16 ro (jmC3 sm gr st (fun _ _ => 0) ln)) H → va_S A s.heap H locs → ∀ ls : Array Slot, lv_has ls 4 [(0, .ref (g 20)), (1, .int (nI a)), (2, .int (nI o)), (3, .int (nI ln))] → W p l e ({ frames := 2, cells := 0, slots := 0, locals := 50 } : Room) s m args below meth c H locs 0 0 Q (F0 m 6 ls []) := by
    intro k
    induction k with
    | zero => intro ln hln hk; exact absurd hk (Nat.not_lt_zero _)
    | succ k ih6 =>
      intro ln hln hk H locs hP hS ls hl
      have hD : va_D A (jW cI g P n st sm gr co en la ++ jY cI cO g ro ca qu ++ jRI cI 16 16 ro (jmC3 sm gr st (fun _ _ => 0) ln)) := jxD hD0 rfl
      refine lv_iload_n hx hb dX4_countLineWays_6 rfl (lv_at hl 3 rfl) ?_
      refine lv_aload_n hx hb dX4_countLineWays_7 rfl (lv_at hl 0 rfl) ?_
      refine va_get (D := D) (ci := 4) (v := .ref (g 0)) (C := RX4) (T := TX4) (N := 4) hx hb hts in_X4_countLineWays_4 hown hK hP 6 rfl rfl 0 (by decide) (hts (.fieldLink RX4 23 "Twincuts$Ways" "web" "LTwincuts$Web;") (List.mem_of_getElem? (i := 1) (by decide +kernel))) (fun _ h9 => h9) rfl dX4_countLineWays_8 ?_
      refine va_getN (D := D) (ci := 5) (v := .int (nI n)) (C := RX5) (T := TX5) (N := 8) hx hb hts in_X4_countLineWays_5 hown hK hP 0 rfl rfl 1 (by decide) (hN.use 6 rfl) (fun _ h9 => h9) rfl dX4_countLineWays_11 ?_
      refine lv_icmp_ge (tgt := 93) hx hb dX4_countLineWays_14 (by decide) (fun c14 => ?_) (fun c14 => ?_)
      · have c14 : n ≤ ln := jx_le (by omega) (by omega) c14
        have es_93 : n = ln := (by omega)
        subst es_93
        refine lv_aload_n hx hb dX4_countLineWays_93 rfl (lv_at hl 0 rfl) ?_
        refine lv_iload_n hx hb dX4_countLineWays_94 rfl (lv_at hl 1 rfl) ?_
        refine lv_iload_n hx hb dX4_countLineWays_95 rfl (lv_at hl 2 rfl) ?_
        refine jxw_callVi (X := jW cI g P n st sm gr co en la ++ jY cI cO g ro ca qu ++ jRI cI 16 16 ro (jmC3 sm gr st (fun _ _ => 0) n)) (X' := jW cI g P n st sm gr co en la ++ jY cI cO g ro ((jmCFS a o (jmC3 sm gr st (fun _ _ => 0) n) ca qu).2.2.1) ((jmCFS a o (jmC3 sm gr st (fun _ _ => 0) n) ca qu).2.2.2) ++ jRI cI 16 16 ro ((jmCFS a o (jmC3 sm gr st (fun _ _ => 0) n) ca qu).2.1)) (wc := jY cI cO g ro ca qu ++ jRI cI 16 16 ro (jmC3 sm gr st (fun _ _ => 0) n)) (wc' := jY cI cO g ro ((jmCFS a o (jmC3 sm gr st (fun _ _ => 0) n) ca qu).2.2.1) ((jmCFS a o (jmC3 sm gr st (fun _ _ => 0) n) ca qu).2.2.2) ++ jRI cI 16 16 ro ((jmCFS a o (jmC3 sm gr st (fun _ _ => 0) n) ca qu).2.1)) (wr := jW cI g P n st sm gr co en la) (N := 26) (As := [.int (nI a), .int (nI o)]) (rest := []) ⟨hx, hb, hml, hown, hts⟩ (c_X4_countFlow l D cI cO g ro ca qu (jmC3 sm gr st (fun _ _ => 0) n) H.size a o (by omega) (by omega) hqu) (cwV 2 hts gX4_countLineWays_X4_countFlow rfl rfl rfl (by decide +kernel) ⟨Nat.le_of_ble_eq_true rfl, Nat.le_of_ble_eq_true rfl⟩) hN hP hD (hK.sub (tys' := [(cI, .int), (cO, .array .int)]) [0, 1] rfl) hS hA [6, 7, 8, 9, 10, 11, 12, 13, 14, 15, 16, 17, 18, 19, 20, 21, 22, 23, 24, 25] [0, 1, 2, 3, 4, 5] rfl rfl rfl rfl rfl rfl (by decide) (by decide) 6 4 rfl rfl rfl (hK.sub (tys' := [(cI, .int), (cO, .array .int)]) [0, 1] rfl) rfl hl.1 rfl (Nat.le_of_ble_eq_true rfl) dX4_countLineWays_96 ⟨Nat.zero_le _, Nat.zero_le _⟩ (fun r H locs hr hP hS => ?_)
        have hD : va_D A (jW cI g P n st sm gr co en la ++ jY cI cO g ro ((jmCFS a o (jmC3 sm gr st (fun _ _ => 0) n) ca qu).2.2.1) ((jmCFS a o (jmC3 sm gr st (fun _ _ => 0) n) ca qu).2.2.2) ++ jRI cI 16 16 ro ((jmCFS a o (jmC3 sm gr st (fun _ _ => 0) n) ca qu).2.1)) := jxD hD0 rfl
        subst hr
        exact hQ (nI ((jmCFS a o (jmC3 sm gr st (fun _ _ => 0) n) ca qu).1)) H locs _ _ dX4_countLineWays_99 rfl hP hS
      · have c14 : ln < n := jx_nle (by omega) (by omega) c14
        have hg9 := hgr ln (by omega)
        refine lv_aload_n hx hb dX4_countLineWays_17 rfl (lv_at hl 0 rfl) ?_
        refine va_get (D := D) (ci := 4) (v := .ref (g 0)) (C := RX4) (T := TX4) (N := 4) hx hb hts in_X4_countLineWays_4 hown hK hP 6 rfl rfl 0 (by decide) (hts (.fieldLink RX4 23 "Twincuts$Ways" "web" "LTwincuts$Web;") (List.mem_of_getElem? (i := 1) (by decide +kernel))) (fun _ h9 => h9) rfl dX4_countLineWays_18 ?_
        refine va_getN (D := D) (ci := 5) (v := .int (nI st)) (C := RX5) (T := TX5) (N := 8) hx hb hts in_X4_countLineWays_5 hown hK hP 0 rfl rfl 2 (by decide) (hN.use 11 rfl) (fun _ h9 => h9) rfl dX4_countLineWays_21 ?_
        refine lv_iload_n hx hb dX4_countLineWays_24 rfl (lv_at hl 3 rfl) ?_
        refine jx_callSN (As := [.int (nI st), .int (nI ln)]) (rest := []) ⟨hx, hb, hml, hown, hts⟩ (c_X6_has l D st ln (by omega) (by omega)) (va_cnB 2 hts gX4_countLineWays_X6_has_n42 rfl rfl rfl (hN.get 41 rfl) (hts (.initialized RX6) (List.mem_of_getElem? (i := 9) (by decide +kernel))) (by decide +kernel) ⟨Nat.le_of_ble_eq_true rfl, Nat.le_of_ble_eq_true rfl⟩) (hts (.static yX6_has) (List.mem_of_getElem? (i := 8) (by decide +kernel))) hN (hP.sub (ws' := []) [] rfl) (hK.sub (tys' := []) [] rfl) rfl hl.1 rfl (Nat.le_of_ble_eq_true rfl) dX4_countLineWays_25 ⟨Nat.zero_le _, Nat.zero_le _⟩ (fun r hr => ?_)
        subst hr
        refine lv_if_eq (tgt := 87) hx hb dX4_countLineWays_28 (by decide) (fun c28 => ?_) (fun c28 => ?_)
        · have c28 := jB_0 c28
          refine lv_iinc (v := nI (ln + 1)) (lv' := [(3, .int (nI (ln + 1))), (0, .ref (g 20)), (1, .int (nI a)), (2, .int (nI o))]) hx hb dX4_countLineWays_87 hl (k := 3) rfl (jx_inc _) (by decide) rfl (fun ls hl => ?_)
          refine lv_goto (tgt := 6) hx hb dX4_countLineWays_90 (by decide) ?_
          have ew_1 : jmC3 sm gr st (fun _ _ => 0) ln = jmC3 sm gr st (fun _ _ => 0) (ln + 1) := by first | exact jmC3_y c28 | exact jmC3_n c28
          exact ih6 (ln + 1) (by omega) (by omega) H locs (by rw [← ew_1]; exact hP) hS ls (lv_sub hl [1, 2, 3, 0] rfl)
        · have c28 := jB_1 c28
          refine lv_aload_n hx hb dX4_countLineWays_31 rfl (lv_at hl 0 rfl) ?_
          refine va_get (D := D) (ci := 4) (v := .ref (g 21)) (C := RX4) (T := TX4) (N := 4) hx hb hts in_X4_countLineWays_4 hown hK hP 6 rfl rfl 1 (by decide) (hts (.fieldLink RX4 13 "Twincuts$Ways" "room" "[[I") (List.mem_of_getElem? (i := 2) (by decide +kernel))) (fun _ h9 => h9) rfl dX4_countLineWays_32 ?_
          refine lv_aload_n hx hb dX4_countLineWays_35 rfl (lv_at hl 0 rfl) ?_
          refine va_get (D := D) (ci := 4) (v := .ref (g 0)) (C := RX4) (T := TX4) (N := 4) hx hb hts in_X4_countLineWays_4 hown hK hP 6 rfl rfl 0 (by decide) (hts (.fieldLink RX4 23 "Twincuts$Ways" "web" "LTwincuts$Web;") (List.mem_of_getElem? (i := 1) (by decide +kernel))) (fun _ h9 => h9) rfl dX4_countLineWays_36 ?_
          refine va_getN (D := D) (ci := 5) (v := .ref (g 1)) (C := RX5) (T := TX5) (N := 8) hx hb hts in_X4_countLineWays_5 hown hK hP 0 rfl rfl 3 (by decide) (hN.use 16 rfl) (fun _ h9 => h9) rfl dX4_countLineWays_39 ?_
          refine lv_iload_n hx hb dX4_countLineWays_42 rfl (lv_at hl 3 rfl) ?_
          refine jx_iald hx hb hK hP 1 0 rfl rfl (by omega) (by decide) dX4_countLineWays_43 ?_
          refine jx_aald (N := 16) hx hb hK hP 7 1 rfl rfl (by omega) (by decide) dX4_countLineWays_44 ?_
          refine lv_aload_n hx hb dX4_countLineWays_45 rfl (lv_at hl 0 rfl) ?_
          refine va_get (D := D) (ci := 4) (v := .ref (g 0)) (C := RX4) (T := TX4) (N := 4) hx hb hts in_X4_countLineWays_4 hown hK hP 6 rfl rfl 0 (by decide) (hts (.fieldLink RX4 23 "Twincuts$Ways" "web" "LTwincuts$Web;") (List.mem_of_getElem? (i := 1) (by decide +kernel))) (fun _ h9 => h9) rfl dX4_countLineWays_46 ?_
          refine va_getN (D := D) (ci := 5) (v := .ref (g 2)) (C := RX5) (T := TX5) (N := 8) hx hb hts in_X4_countLineWays_5 hown hK hP 0 rfl rfl 4 (by decide) (hN.use 20 rfl) (fun _ h9 => h9) rfl dX4_countLineWays_49 ?_
          refine lv_iload_n hx hb dX4_countLineWays_52 rfl (lv_at hl 3 rfl) ?_
          refine jx_iald hx hb hK hP 2 0 rfl rfl (by omega) (by decide) dX4_countLineWays_53 ?_
          refine lv_dup2_11 hx hb dX4_countLineWays_54 rfl rfl ?_
          refine jx_iald2I (N := 16) hx hb hK (X := jW cI g P n st sm gr co en la ++ jY cI cO g ro ca qu) hP 0 rfl (by omega) (by omega) (by decide) dX4_countLineWays_55 ?_
          refine lv_iconst (v := nI 1) hx hb dX4_countLineWays_56 (by decide) ?_
          refine lv_iadd hx hb dX4_countLineWays_57 ?_
          refine jx_iast2I (N := 16) hx hb hK (X := jW cI g P n st sm gr co en la ++ jY cI cO g ro ca qu) hP hD hS 0 rfl (by omega) (by omega) (by decide) dX4_countLineWays_58 (fun H locs hP hD hS => ?_)
          have hP : va_P D vwCl (jW cI g P n st sm gr co en la ++ jY cI cO g ro ca qu ++ jRI cI 16 16 ro (jxUp2 (jmC3 sm gr st (fun _ _ => 0) ln) (sm ln) (gr ln) (((jmC3 sm gr st (fun _ _ => 0) ln) (sm ln) (gr ln)) + (nI 1)))) H := hP
          have hD : va_D A (jW cI g P n st sm gr co en la ++ jY cI cO g ro ca qu ++ jRI cI 16 16 ro (jxUp2 (jmC3 sm gr st (fun _ _ => 0) ln) (sm ln) (gr ln) (((jmC3 sm gr st (fun _ _ => 0) ln) (sm ln) (gr ln)) + (nI 1)))) := jxD hD0 rfl
          refine lv_aload_n hx hb dX4_countLineWays_59 rfl (lv_at hl 0 rfl) ?_
          refine va_get (D := D) (ci := 4) (v := .ref (g 21)) (C := RX4) (T := TX4) (N := 4) hx hb hts in_X4_countLineWays_4 hown hK hP 6 rfl rfl 1 (by decide) (hts (.fieldLink RX4 13 "Twincuts$Ways" "room" "[[I") (List.mem_of_getElem? (i := 2) (by decide +kernel))) (fun _ h9 => h9) rfl dX4_countLineWays_60 ?_
          refine lv_aload_n hx hb dX4_countLineWays_63 rfl (lv_at hl 0 rfl) ?_
          refine va_get (D := D) (ci := 4) (v := .ref (g 0)) (C := RX4) (T := TX4) (N := 4) hx hb hts in_X4_countLineWays_4 hown hK hP 6 rfl rfl 0 (by decide) (hts (.fieldLink RX4 23 "Twincuts$Ways" "web" "LTwincuts$Web;") (List.mem_of_getElem? (i := 1) (by decide +kernel))) (fun _ h9 => h9) rfl dX4_countLineWays_64 ?_
          refine va_getN (D := D) (ci := 5) (v := .ref (g 2)) (C := RX5) (T := TX5) (N := 8) hx hb hts in_X4_countLineWays_5 hown hK hP 0 rfl rfl 4 (by decide) (hN.use 20 rfl) (fun _ h9 => h9) rfl dX4_countLineWays_67 ?_
          refine lv_iload_n hx hb dX4_countLineWays_70 rfl (lv_at hl 3 rfl) ?_
          refine jx_iald hx hb hK hP 2 0 rfl rfl (by omega) (by decide) dX4_countLineWays_71 ?_
          refine jx_aald (N := 16) hx hb hK hP 7 1 rfl rfl (by omega) (by decide) dX4_countLineWays_72 ?_
          refine lv_aload_n hx hb dX4_countLineWays_73 rfl (lv_at hl 0 rfl) ?_
          refine va_get (D := D) (ci := 4) (v := .ref (g 0)) (C := RX4) (T := TX4) (N := 4) hx hb hts in_X4_countLineWays_4 hown hK hP 6 rfl rfl 0 (by decide) (hts (.fieldLink RX4 23 "Twincuts$Ways" "web" "LTwincuts$Web;") (List.mem_of_getElem? (i := 1) (by decide +kernel))) (fun _ h9 => h9) rfl dX4_countLineWays_74 ?_
          refine va_getN (D := D) (ci := 5) (v := .ref (g 1)) (C := RX5) (T := TX5) (N := 8) hx hb hts in_X4_countLineWays_5 hown hK hP 0 rfl rfl 3 (by decide) (hN.use 16 rfl) (fun _ h9 => h9) rfl dX4_countLineWays_77 ?_
          refine lv_iload_n hx hb dX4_countLineWays_80 rfl (lv_at hl 3 rfl) ?_
          refine jx_iald hx hb hK hP 1 0 rfl rfl (by omega) (by decide) dX4_countLineWays_81 ?_
          refine lv_dup2_11 hx hb dX4_countLineWays_82 rfl rfl ?_
          refine jx_iald2I (N := 16) hx hb hK (X := jW cI g P n st sm gr co en la ++ jY cI cO g ro ca qu) hP 0 rfl (by omega) (by omega) (by decide) dX4_countLineWays_83 ?_
          refine lv_iconst (v := nI 1) hx hb dX4_countLineWays_84 (by decide) ?_
          refine lv_iadd hx hb dX4_countLineWays_85 ?_
          refine jx_iast2I (N := 16) hx hb hK (X := jW cI g P n st sm gr co en la ++ jY cI cO g ro ca qu) hP hD hS 0 rfl (by omega) (by omega) (by decide) dX4_countLineWays_86 (fun H locs hP hD hS => ?_)
          have hP : va_P D vwCl (jW cI g P n st sm gr co en la ++ jY cI cO g ro ca qu ++ jRI cI 16 16 ro (jxUp2 (jxUp2 (jmC3 sm gr st (fun _ _ => 0) ln) (sm ln) (gr ln) (((jmC3 sm gr st (fun _ _ => 0) ln) (sm ln) (gr ln)) + (nI 1))) (gr ln) (sm ln) (((jxUp2 (jmC3 sm gr st (fun _ _ => 0) ln) (sm ln) (gr ln) (((jmC3 sm gr st (fun _ _ => 0) ln) (sm ln) (gr ln)) + (nI 1))) (gr ln) (sm ln)) + (nI 1)))) H := hP
          have hD : va_D A (jW cI g P n st sm gr co en la ++ jY cI cO g ro ca qu ++ jRI cI 16 16 ro (jxUp2 (jxUp2 (jmC3 sm gr st (fun _ _ => 0) ln) (sm ln) (gr ln) (((jmC3 sm gr st (fun _ _ => 0) ln) (sm ln) (gr ln)) + (nI 1))) (gr ln) (sm ln) (((jxUp2 (jmC3 sm gr st (fun _ _ => 0) ln) (sm ln) (gr ln) (((jmC3 sm gr st (fun _ _ => 0) ln) (sm ln) (gr ln)) + (nI 1))) (gr ln) (sm ln)) + (nI 1)))) := jxD hD0 rfl
          refine lv_iinc (v := nI (ln + 1)) (lv' := [(3, .int (nI (ln + 1))), (0, .ref (g 20)), (1, .int (nI a)), (2, .int (nI o))]) hx hb dX4_countLineWays_87 hl (k := 3) rfl (jx_inc _) (by decide) rfl (fun ls hl => ?_)
          refine lv_goto (tgt := 6) hx hb dX4_countLineWays_90 (by decide) ?_
          have ew_2 : jxUp2 (jxUp2 (jmC3 sm gr st (fun _ _ => 0) ln) (sm ln) (gr ln) (((jmC3 sm gr st (fun _ _ => 0) ln) (sm ln) (gr ln)) + (nI 1))) (gr ln) (sm ln) (((jxUp2 (jmC3 sm gr st (fun _ _ => 0) ln) (sm ln) (gr ln) (((jmC3 sm gr st (fun _ _ => 0) ln) (sm ln) (gr ln)) + (nI 1))) (gr ln) (sm ln)) + (nI 1)) = jmC3 sm gr st (fun _ _ => 0) (ln + 1) := by first | exact jmC3_y c28 | exact jmC3_n c28
          exact ih6 (ln + 1) (by omega) (by omega) H locs (by rw [← ew_2]; exact hP) hS ls (lv_sub hl [1, 2, 3, 0] rfl)
  have ew_3 : (fun _ _ => 0) = jmC3 sm gr st (fun _ _ => 0) 0 := by rfl
  exact L6 ((n - 0) + 1) 0 (by omega) (Nat.lt_succ_self _) H locs (by rw [← ew_3]; exact hP) hS ls (lv_sub hl [1, 2, 3, 0] rfl)
