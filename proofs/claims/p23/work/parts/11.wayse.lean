set_option maxRecDepth 20000 in
theorem in_X4_countWays_4 : ∀ w ∈ wsX40, w ∈ wsX4_countWays := by decide +kernel
set_option maxRecDepth 20000 in
theorem in_X4_countWays_5 : ∀ w ∈ wsX50, w ∈ wsX4_countWays := by decide +kernel
set_option maxHeartbeats 4000000 in
set_option maxRecDepth 100000 in
/-- countWays(one, other) -/
theorem c_X4_countWays (l : Launch) (D : va_G) (cI : ClassId) (cO : ClassId) (g : Nat → Nat) (P n st : Nat) (sm gr co en la : Nat → Nat) (ro : Nat → Nat) (ca : Nat → Int32) (qu : Nat → Nat) (rm : Nat → Nat → Int32) (sz : Nat) (hw : jmWF P n st sm gr co en la) (a o : Nat) (ha : a < P) (ho : o < P) (hqu : ∀ j, j < 16 → qu j < 16) : jxWi l yX4_countWays wsX4_countWays ({ frames := 2, cells := 0, slots := 0, locals := 50 } : Room) D [(cI, .int), (cO, .array .int)] (jW cI g P n st sm gr co en la ++ jY cI cO g ro ca qu ++ jRI cI 16 16 ro rm) [.ref (g 20), .int (nI a), .int (nI o)] sz (fun r => r = nI (jmCFS a o (jmC2 sm gr st (jmC1 a o P) n) ca qu).1) (jW cI g P n st sm gr co en la ++ jY cI cO g ro ((jmCFS a o (jmC2 sm gr st (jmC1 a o P) n) ca qu).2.2.1) ((jmCFS a o (jmC2 sm gr st (jmC1 a o P) n) ca qu).2.2.2) ++ jRI cI 16 16 ro ((jmCFS a o (jmC2 sm gr st (jmC1 a o P) n) ca qu).2.1)) := by
  refine jxw_enter (by decide) rfl (Nat.le_of_ble_eq_true rfl) ?_
  intro p e s m args below meth c Q A ls hx hb hml hts hown hN hP hK hD hA hl hQ
  have hD0 := hD
  obtain ⟨H, hH⟩ : ∃ h, h = s.heap := ⟨_, rfl⟩
  have hS : va_S A s.heap H [] := by rw [hH]; exact va_S.rf
  rw [← hH] at hP ⊢
  obtain ⟨locs, hlocs⟩ : ∃ z : List Loc, z = [] := ⟨_, rfl⟩
  rw [← hlocs] at hS ⊢
  have hown : s.vm.findClass RX4 = some m.cls := hown
  have hl : lv_has ls 5 [(0, .ref (g 20)), (1, .int (nI a)), (2, .int (nI o))] := hl
  have hP8 : P ≤ 8 := hw.1
  have hn16 : n ≤ 16 := hw.2.1
  have hst : st < 65536 := jmWF_st hw
  have hen : ∀ j, j < n → en j < 256 := jmWF_en hw
  have hla : ∀ q, q < P → la q < 65536 := jmWF_la hw
  have hgr : ∀ j, j < n → sm j < 8 ∧ gr j < 8 := jmWF_gr hw
  have hco : ∀ j, j < n → co j < 21 := jmWF_co hw
  refine lv_aload_n hx hb dX4_countWays_0 rfl (lv_at hl 0 rfl) ?_
  refine jxw_callV (X := jW cI g P n st sm gr co en la ++ jY cI cO g ro ca qu ++ jRI cI 16 16 ro rm) (X' := jW cI g P n st sm gr co en la ++ jY cI cO g ro ca qu ++ jRI cI 16 16 ro (fun _ _ => 0)) (wc := jY cI cO g ro ca qu ++ jRI cI 16 16 ro rm) (wc' := jY cI cO g ro ca qu ++ jRI cI 16 16 ro (fun _ _ => 0)) (wr := jW cI g P n st sm gr co en la) (N := 26) (As := []) (rest := []) ⟨hx, hb, hml, hown, hts⟩ (c_X4_clearRoom l D cI cO g ro ca qu rm H.size ) (cwV 0 hts gX4_countWays_X4_clearRoom rfl rfl rfl (by decide +kernel) ⟨Nat.le_of_ble_eq_true rfl, Nat.le_of_ble_eq_true rfl⟩) hN hP hD (hK.sub (tys' := [(cI, .int), (cO, .array .int)]) [0, 1] rfl) hS hA [6, 7, 8, 9, 10, 11, 12, 13, 14, 15, 16, 17, 18, 19, 20, 21, 22, 23, 24, 25] [0, 1, 2, 3, 4, 5] rfl rfl rfl rfl rfl rfl (by decide) (by decide) 6 4 rfl rfl rfl (hK.sub (tys' := [(cI, .int), (cO, .array .int)]) [0, 1] rfl) rfl hl.1 rfl (Nat.le_of_ble_eq_true rfl) dX4_countWays_1 ⟨Nat.zero_le _, Nat.zero_le _⟩ (fun H locs hP hS => ?_)
  have hD : va_D A (jW cI g P n st sm gr co en la ++ jY cI cO g ro ca qu ++ jRI cI 16 16 ro (fun _ _ => 0)) := jxD hD0 rfl
  refine lv_iconst (v := nI 0) hx hb dX4_countWays_4 (by decide) ?_
  refine lv_istore_n (lv' := [(3, .int (nI 0)), (0, .ref (g 20)), (1, .int (nI a)), (2, .int (nI o))]) hx hb dX4_countWays_5 rfl hl (by decide) rfl (fun ls hl => ?_)
  have L6 : ∀ (k : Nat) (k7 : Nat) (hk7 : k7 ≤ P), P - k7 < k → ∀ (H : Heap) (locs : List Loc), va_P D vwCl (jW cI g P n st sm gr co en la ++ jY cI cO g ro ca qu ++ jRI cI 16 16 ro (jmC1 a o k7)) H → va_S A s.heap H locs → ∀ ls : Array Slot, lv_has ls 5 [(0, .ref (g 20)), (1, .int (nI a)), (2, .int (nI o)), (3, .int (nI k7))] → W p l e ({ frames := 2, cells := 0, slots := 0, locals := 50 } : Room) s m args below meth c H locs 0 0 Q (F0 m 6 ls []) := by
    intro k
    induction k with
    | zero => intro k7 hk7 hk; exact absurd hk (Nat.not_lt_zero _)
    | succ k ih6 =>
      intro k7 hk7 hk H locs hP hS ls hl
      have hD : va_D A (jW cI g P n st sm gr co en la ++ jY cI cO g ro ca qu ++ jRI cI 16 16 ro (jmC1 a o k7)) := jxD hD0 rfl
      refine lv_iload_n hx hb dX4_countWays_6 rfl (lv_at hl 3 rfl) ?_
      refine lv_aload_n hx hb dX4_countWays_7 rfl (lv_at hl 0 rfl) ?_
      refine va_get (D := D) (ci := 4) (v := .ref (g 0)) (C := RX4) (T := TX4) (N := 4) hx hb hts in_X4_countWays_4 hown hK hP 6 rfl rfl 0 (by decide) (hts (.fieldLink RX4 23 "Twincuts$Ways" "web" "LTwincuts$Web;") (List.mem_of_getElem? (i := 1) (by decide +kernel))) (fun _ h9 => h9) rfl dX4_countWays_8 ?_
      refine va_getN (D := D) (ci := 5) (v := .int (nI P)) (C := RX5) (T := TX5) (N := 8) hx hb hts in_X4_countWays_5 hown hK hP 0 rfl rfl 0 (by decide) (hN.use 2 rfl) (fun _ h9 => h9) rfl dX4_countWays_11 ?_
      refine lv_icmp_ge (tgt := 62) hx hb dX4_countWays_14 (by decide) (fun c14 => ?_) (fun c14 => ?_)
      · have c14 : P ≤ k7 := jx_le (by omega) (by omega) c14
        have es_62 : P = k7 := (by omega)
        subst es_62
        refine lv_iconst (v := nI 0) hx hb dX4_countWays_62 (by decide) ?_
        refine lv_istore_n (lv' := [(3, .int (nI 0)), (0, .ref (g 20)), (1, .int (nI a)), (2, .int (nI o))]) hx hb dX4_countWays_63 rfl hl (by decide) rfl (fun ls hl => ?_)
        have L64 : ∀ (k : Nat) (ln : Nat) (hln : ln ≤ n), n - ln < k → ∀ (H : Heap) (locs : List Loc), va_P D vwCl (jW cI g P n st sm gr co en la ++ jY cI cO g ro ca qu ++ jRI cI 16 16 ro (jmC2 sm gr st (jmC1 a o P) ln)) H → va_S A s.heap H locs → ∀ ls : Array Slot, lv_has ls 5 [(0, .ref (g 20)), (1, .int (nI a)), (2, .int (nI o)), (3, .int (nI ln))] → W p l e ({ frames := 2, cells := 0, slots := 0, locals := 50 } : Room) s m args below meth c H locs 0 0 Q (F0 m 64 ls []) := by
          intro k
          induction k with
          | zero => intro ln hln hk; exact absurd hk (Nat.not_lt_zero _)
          | succ k ih64 =>
            intro ln hln hk H locs hP hS ls hl
            have hD : va_D A (jW cI g P n st sm gr co en la ++ jY cI cO g ro ca qu ++ jRI cI 16 16 ro (jmC2 sm gr st (jmC1 a o P) ln)) := jxD hD0 rfl
            refine lv_iload_n hx hb dX4_countWays_64 rfl (lv_at hl 3 rfl) ?_
            refine lv_aload_n hx hb dX4_countWays_65 rfl (lv_at hl 0 rfl) ?_
            refine va_get (D := D) (ci := 4) (v := .ref (g 0)) (C := RX4) (T := TX4) (N := 4) hx hb hts in_X4_countWays_4 hown hK hP 6 rfl rfl 0 (by decide) (hts (.fieldLink RX4 23 "Twincuts$Ways" "web" "LTwincuts$Web;") (List.mem_of_getElem? (i := 1) (by decide +kernel))) (fun _ h9 => h9) rfl dX4_countWays_66 ?_
            refine va_getN (D := D) (ci := 5) (v := .int (nI n)) (C := RX5) (T := TX5) (N := 8) hx hb hts in_X4_countWays_5 hown hK hP 0 rfl rfl 1 (by decide) (hN.use 6 rfl) (fun _ h9 => h9) rfl dX4_countWays_69 ?_
            refine lv_icmp_ge (tgt := 157) hx hb dX4_countWays_72 (by decide) (fun c72 => ?_) (fun c72 => ?_)
            · have c72 : n ≤ ln := jx_le (by omega) (by omega) c72
              have es_157 : n = ln := (by omega)
              subst es_157
              refine lv_aload_n hx hb dX4_countWays_157 rfl (lv_at hl 0 rfl) ?_
              refine lv_iload_n hx hb dX4_countWays_158 rfl (lv_at hl 1 rfl) ?_
              refine lv_iload_n hx hb dX4_countWays_159 rfl (lv_at hl 2 rfl) ?_
              refine jxw_callVi (X := jW cI g P n st sm gr co en la ++ jY cI cO g ro ca qu ++ jRI cI 16 16 ro (jmC2 sm gr st (jmC1 a o P) n)) (X' := jW cI g P n st sm gr co en la ++ jY cI cO g ro ((jmCFS a o (jmC2 sm gr st (jmC1 a o P) n) ca qu).2.2.1) ((jmCFS a o (jmC2 sm gr st (jmC1 a o P) n) ca qu).2.2.2) ++ jRI cI 16 16 ro ((jmCFS a o (jmC2 sm gr st (jmC1 a o P) n) ca qu).2.1)) (wc := jY cI cO g ro ca qu ++ jRI cI 16 16 ro (jmC2 sm gr st (jmC1 a o P) n)) (wc' := jY cI cO g ro ((jmCFS a o (jmC2 sm gr st (jmC1 a o P) n) ca qu).2.2.1) ((jmCFS a o (jmC2 sm gr st (jmC1 a o P) n) ca qu).2.2.2) ++ jRI cI 16 16 ro ((jmCFS a o (jmC2 sm gr st (jmC1 a o P) n) ca qu).2.1)) (wr := jW cI g P n st sm gr co en la) (N := 26) (As := [.int (nI a), .int (nI o)]) (rest := []) ⟨hx, hb, hml, hown, hts⟩ (c_X4_countFlow l D cI cO g ro ca qu (jmC2 sm gr st (jmC1 a o P) n) H.size a o (by omega) (by omega) hqu) (cwV 2 hts gX4_countWays_X4_countFlow rfl rfl rfl (by decide +kernel) ⟨Nat.le_of_ble_eq_true rfl, Nat.le_of_ble_eq_true rfl⟩) hN hP hD (hK.sub (tys' := [(cI, .int), (cO, .array .int)]) [0, 1] rfl) hS hA [6, 7, 8, 9, 10, 11, 12, 13, 14, 15, 16, 17, 18, 19, 20, 21, 22, 23, 24, 25] [0, 1, 2, 3, 4, 5] rfl rfl rfl rfl rfl rfl (by decide) (by decide) 6 4 rfl rfl rfl (hK.sub (tys' := [(cI, .int), (cO, .array .int)]) [0, 1] rfl) rfl hl.1 rfl (Nat.le_of_ble_eq_true rfl) dX4_countWays_160 ⟨Nat.zero_le _, Nat.zero_le _⟩ (fun r H locs hr hP hS => ?_)
              have hD : va_D A (jW cI g P n st sm gr co en la ++ jY cI cO g ro ((jmCFS a o (jmC2 sm gr st (jmC1 a o P) n) ca qu).2.2.1) ((jmCFS a o (jmC2 sm gr st (jmC1 a o P) n) ca qu).2.2.2) ++ jRI cI 16 16 ro ((jmCFS a o (jmC2 sm gr st (jmC1 a o P) n) ca qu).2.1)) := jxD hD0 rfl
              subst hr
              exact hQ (nI ((jmCFS a o (jmC2 sm gr st (jmC1 a o P) n) ca qu).1)) H locs _ _ dX4_countWays_163 rfl hP hS
            · have c72 : ln < n := jx_nle (by omega) (by omega) c72
              have hg9 := hgr ln (by omega)
              refine lv_aload_n hx hb dX4_countWays_75 rfl (lv_at hl 0 rfl) ?_
              refine va_get (D := D) (ci := 4) (v := .ref (g 0)) (C := RX4) (T := TX4) (N := 4) hx hb hts in_X4_countWays_4 hown hK hP 6 rfl rfl 0 (by decide) (hts (.fieldLink RX4 23 "Twincuts$Ways" "web" "LTwincuts$Web;") (List.mem_of_getElem? (i := 1) (by decide +kernel))) (fun _ h9 => h9) rfl dX4_countWays_76 ?_
              refine va_getN (D := D) (ci := 5) (v := .int (nI st)) (C := RX5) (T := TX5) (N := 8) hx hb hts in_X4_countWays_5 hown hK hP 0 rfl rfl 2 (by decide) (hN.use 11 rfl) (fun _ h9 => h9) rfl dX4_countWays_79 ?_
              refine lv_iload_n hx hb dX4_countWays_82 rfl (lv_at hl 3 rfl) ?_
              refine jx_callSN (As := [.int (nI st), .int (nI ln)]) (rest := []) ⟨hx, hb, hml, hown, hts⟩ (c_X6_has l D st ln (by omega) (by omega)) (va_cnB 2 hts gX4_countWays_X6_has_n42 rfl rfl rfl (hN.get 41 rfl) (hts (.initialized RX6) (List.mem_of_getElem? (i := 9) (by decide +kernel))) (by decide +kernel) ⟨Nat.le_of_ble_eq_true rfl, Nat.le_of_ble_eq_true rfl⟩) (hts (.static yX6_has) (List.mem_of_getElem? (i := 8) (by decide +kernel))) hN (hP.sub (ws' := []) [] rfl) (hK.sub (tys' := []) [] rfl) rfl hl.1 rfl (Nat.le_of_ble_eq_true rfl) dX4_countWays_83 ⟨Nat.zero_le _, Nat.zero_le _⟩ (fun r hr => ?_)
              subst hr
              refine lv_if_eq (tgt := 151) hx hb dX4_countWays_86 (by decide) (fun c86 => ?_) (fun c86 => ?_)
              · have c86 := jB_0 c86
                refine lv_iinc (v := nI (ln + 1)) (lv' := [(3, .int (nI (ln + 1))), (0, .ref (g 20)), (1, .int (nI a)), (2, .int (nI o))]) hx hb dX4_countWays_151 hl (k := 3) rfl (jx_inc _) (by decide) rfl (fun ls hl => ?_)
                refine lv_goto (tgt := 64) hx hb dX4_countWays_154 (by decide) ?_
                have ew_1 : jmC2 sm gr st (jmC1 a o P) ln = jmC2 sm gr st (jmC1 a o P) (ln + 1) := by first | exact jmC2_y c86 | exact jmC2_n c86
                exact ih64 (ln + 1) (by omega) (by omega) H locs (by rw [← ew_1]; exact hP) hS ls (lv_sub hl [1, 2, 3, 0] rfl)
              · have c86 := jB_1 c86
                refine lv_aload_n hx hb dX4_countWays_89 rfl (lv_at hl 0 rfl) ?_
                refine va_get (D := D) (ci := 4) (v := .ref (g 21)) (C := RX4) (T := TX4) (N := 4) hx hb hts in_X4_countWays_4 hown hK hP 6 rfl rfl 1 (by decide) (hts (.fieldLink RX4 13 "Twincuts$Ways" "room" "[[I") (List.mem_of_getElem? (i := 2) (by decide +kernel))) (fun _ h9 => h9) rfl dX4_countWays_90 ?_
                refine lv_aload_n hx hb dX4_countWays_93 rfl (lv_at hl 0 rfl) ?_
                refine va_get (D := D) (ci := 4) (v := .ref (g 0)) (C := RX4) (T := TX4) (N := 4) hx hb hts in_X4_countWays_4 hown hK hP 6 rfl rfl 0 (by decide) (hts (.fieldLink RX4 23 "Twincuts$Ways" "web" "LTwincuts$Web;") (List.mem_of_getElem? (i := 1) (by decide +kernel))) (fun _ h9 => h9) rfl dX4_countWays_94 ?_
                refine va_getN (D := D) (ci := 5) (v := .ref (g 1)) (C := RX5) (T := TX5) (N := 8) hx hb hts in_X4_countWays_5 hown hK hP 0 rfl rfl 3 (by decide) (hN.use 16 rfl) (fun _ h9 => h9) rfl dX4_countWays_97 ?_
                refine lv_iload_n hx hb dX4_countWays_100 rfl (lv_at hl 3 rfl) ?_
                refine jx_iald hx hb hK hP 1 0 rfl rfl (by omega) (by decide) dX4_countWays_101 ?_
                refine lv_bipush (v := nI 8) hx hb dX4_countWays_102 (by decide) ?_
                refine lv_iadd hx hb dX4_countWays_104 ?_
                refine jx_val (z := (nI (sm ln + 8))) (nI_add _ _) ?_
                refine jx_aald (N := 16) hx hb hK hP 7 1 rfl rfl (by omega) (by decide) dX4_countWays_105 ?_
                refine lv_aload_n hx hb dX4_countWays_106 rfl (lv_at hl 0 rfl) ?_
                refine va_get (D := D) (ci := 4) (v := .ref (g 0)) (C := RX4) (T := TX4) (N := 4) hx hb hts in_X4_countWays_4 hown hK hP 6 rfl rfl 0 (by decide) (hts (.fieldLink RX4 23 "Twincuts$Ways" "web" "LTwincuts$Web;") (List.mem_of_getElem? (i := 1) (by decide +kernel))) (fun _ h9 => h9) rfl dX4_countWays_107 ?_
                refine va_getN (D := D) (ci := 5) (v := .ref (g 2)) (C := RX5) (T := TX5) (N := 8) hx hb hts in_X4_countWays_5 hown hK hP 0 rfl rfl 4 (by decide) (hN.use 20 rfl) (fun _ h9 => h9) rfl dX4_countWays_110 ?_
                refine lv_iload_n hx hb dX4_countWays_113 rfl (lv_at hl 3 rfl) ?_
                refine jx_iald hx hb hK hP 2 0 rfl rfl (by omega) (by decide) dX4_countWays_114 ?_
                refine lv_dup2_11 hx hb dX4_countWays_115 rfl rfl ?_
                refine jx_iald2I (N := 16) hx hb hK (X := jW cI g P n st sm gr co en la ++ jY cI cO g ro ca qu) hP 0 rfl (by omega) (by omega) (by decide) dX4_countWays_116 ?_
                refine lv_iconst (v := nI 1) hx hb dX4_countWays_117 (by decide) ?_
                refine lv_iadd hx hb dX4_countWays_118 ?_
                refine jx_iast2I (N := 16) hx hb hK (X := jW cI g P n st sm gr co en la ++ jY cI cO g ro ca qu) hP hD hS 0 rfl (by omega) (by omega) (by decide) dX4_countWays_119 (fun H locs hP hD hS => ?_)
                have hP : va_P D vwCl (jW cI g P n st sm gr co en la ++ jY cI cO g ro ca qu ++ jRI cI 16 16 ro (jxUp2 (jmC2 sm gr st (jmC1 a o P) ln) (sm ln + 8) (gr ln) (((jmC2 sm gr st (jmC1 a o P) ln) (sm ln + 8) (gr ln)) + (nI 1)))) H := hP
                have hD : va_D A (jW cI g P n st sm gr co en la ++ jY cI cO g ro ca qu ++ jRI cI 16 16 ro (jxUp2 (jmC2 sm gr st (jmC1 a o P) ln) (sm ln + 8) (gr ln) (((jmC2 sm gr st (jmC1 a o P) ln) (sm ln + 8) (gr ln)) + (nI 1)))) := jxD hD0 rfl
                refine lv_aload_n hx hb dX4_countWays_120 rfl (lv_at hl 0 rfl) ?_
                refine va_get (D := D) (ci := 4) (v := .ref (g 21)) (C := RX4) (T := TX4) (N := 4) hx hb hts in_X4_countWays_4 hown hK hP 6 rfl rfl 1 (by decide) (hts (.fieldLink RX4 13 "Twincuts$Ways" "room" "[[I") (List.mem_of_getElem? (i := 2) (by decide +kernel))) (fun _ h9 => h9) rfl dX4_countWays_121 ?_
                refine lv_aload_n hx hb dX4_countWays_124 rfl (lv_at hl 0 rfl) ?_
                refine va_get (D := D) (ci := 4) (v := .ref (g 0)) (C := RX4) (T := TX4) (N := 4) hx hb hts in_X4_countWays_4 hown hK hP 6 rfl rfl 0 (by decide) (hts (.fieldLink RX4 23 "Twincuts$Ways" "web" "LTwincuts$Web;") (List.mem_of_getElem? (i := 1) (by decide +kernel))) (fun _ h9 => h9) rfl dX4_countWays_125 ?_
                refine va_getN (D := D) (ci := 5) (v := .ref (g 2)) (C := RX5) (T := TX5) (N := 8) hx hb hts in_X4_countWays_5 hown hK hP 0 rfl rfl 4 (by decide) (hN.use 20 rfl) (fun _ h9 => h9) rfl dX4_countWays_128 ?_
                refine lv_iload_n hx hb dX4_countWays_131 rfl (lv_at hl 3 rfl) ?_
                refine jx_iald hx hb hK hP 2 0 rfl rfl (by omega) (by decide) dX4_countWays_132 ?_
                refine lv_bipush (v := nI 8) hx hb dX4_countWays_133 (by decide) ?_
                refine lv_iadd hx hb dX4_countWays_135 ?_
                refine jx_val (z := (nI (gr ln + 8))) (nI_add _ _) ?_
                refine jx_aald (N := 16) hx hb hK hP 7 1 rfl rfl (by omega) (by decide) dX4_countWays_136 ?_
                refine lv_aload_n hx hb dX4_countWays_137 rfl (lv_at hl 0 rfl) ?_
                refine va_get (D := D) (ci := 4) (v := .ref (g 0)) (C := RX4) (T := TX4) (N := 4) hx hb hts in_X4_countWays_4 hown hK hP 6 rfl rfl 0 (by decide) (hts (.fieldLink RX4 23 "Twincuts$Ways" "web" "LTwincuts$Web;") (List.mem_of_getElem? (i := 1) (by decide +kernel))) (fun _ h9 => h9) rfl dX4_countWays_138 ?_
                refine va_getN (D := D) (ci := 5) (v := .ref (g 1)) (C := RX5) (T := TX5) (N := 8) hx hb hts in_X4_countWays_5 hown hK hP 0 rfl rfl 3 (by decide) (hN.use 16 rfl) (fun _ h9 => h9) rfl dX4_countWays_141 ?_
                refine lv_iload_n hx hb dX4_countWays_144 rfl (lv_at hl 3 rfl) ?_
                refine jx_iald hx hb hK hP 1 0 rfl rfl (by omega) (by decide) dX4_countWays_145 ?_
                refine lv_dup2_11 hx hb dX4_countWays_146 rfl rfl ?_
                refine jx_iald2I (N := 16) hx hb hK (X := jW cI g P n st sm gr co en la ++ jY cI cO g ro ca qu) hP 0 rfl (by omega) (by omega) (by decide) dX4_countWays_147 ?_
                refine lv_iconst (v := nI 1) hx hb dX4_countWays_148 (by decide) ?_
                refine lv_iadd hx hb dX4_countWays_149 ?_
                refine jx_iast2I (N := 16) hx hb hK (X := jW cI g P n st sm gr co en la ++ jY cI cO g ro ca qu) hP hD hS 0 rfl (by omega) (by omega) (by decide) dX4_countWays_150 (fun H locs hP hD hS => ?_)
                have hP : va_P D vwCl (jW cI g P n st sm gr co en la ++ jY cI cO g ro ca qu ++ jRI cI 16 16 ro (jxUp2 (jxUp2 (jmC2 sm gr st (jmC1 a o P) ln) (sm ln + 8) (gr ln) (((jmC2 sm gr st (jmC1 a o P) ln) (sm ln + 8) (gr ln)) + (nI 1))) (gr ln + 8) (sm ln) (((jxUp2 (jmC2 sm gr st (jmC1 a o P) ln) (sm ln + 8) (gr ln) (((jmC2 sm gr st (jmC1 a o P) ln) (sm ln + 8) (gr ln)) + (nI 1))) (gr ln + 8) (sm ln)) + (nI 1)))) H := hP
                have hD : va_D A (jW cI g P n st sm gr co en la ++ jY cI cO g ro ca qu ++ jRI cI 16 16 ro (jxUp2 (jxUp2 (jmC2 sm gr st (jmC1 a o P) ln) (sm ln + 8) (gr ln) (((jmC2 sm gr st (jmC1 a o P) ln) (sm ln + 8) (gr ln)) + (nI 1))) (gr ln + 8) (sm ln) (((jxUp2 (jmC2 sm gr st (jmC1 a o P) ln) (sm ln + 8) (gr ln) (((jmC2 sm gr st (jmC1 a o P) ln) (sm ln + 8) (gr ln)) + (nI 1))) (gr ln + 8) (sm ln)) + (nI 1)))) := jxD hD0 rfl
                refine lv_iinc (v := nI (ln + 1)) (lv' := [(3, .int (nI (ln + 1))), (0, .ref (g 20)), (1, .int (nI a)), (2, .int (nI o))]) hx hb dX4_countWays_151 hl (k := 3) rfl (jx_inc _) (by decide) rfl (fun ls hl => ?_)
                refine lv_goto (tgt := 64) hx hb dX4_countWays_154 (by decide) ?_
                have ew_2 : jxUp2 (jxUp2 (jmC2 sm gr st (jmC1 a o P) ln) (sm ln + 8) (gr ln) (((jmC2 sm gr st (jmC1 a o P) ln) (sm ln + 8) (gr ln)) + (nI 1))) (gr ln + 8) (sm ln) (((jxUp2 (jmC2 sm gr st (jmC1 a o P) ln) (sm ln + 8) (gr ln) (((jmC2 sm gr st (jmC1 a o P) ln) (sm ln + 8) (gr ln)) + (nI 1))) (gr ln + 8) (sm ln)) + (nI 1)) = jmC2 sm gr st (jmC1 a o P) (ln + 1) := by first | exact jmC2_y c86 | exact jmC2_n c86
                exact ih64 (ln + 1) (by omega) (by omega) H locs (by rw [← ew_2]; exact hP) hS ls (lv_sub hl [1, 2, 3, 0] rfl)
        have ew_3 : jmC1 a o P = jmC2 sm gr st (jmC1 a o P) 0 := by rfl
        exact L64 ((n - 0) + 1) 0 (by omega) (Nat.lt_succ_self _) H locs (by rw [← ew_3]; exact hP) hS ls (lv_sub hl [1, 2, 3, 0] rfl)
      · have c14 : k7 < P := jx_nle (by omega) (by omega) c14
        refine lv_iload_n hx hb dX4_countWays_17 rfl (lv_at hl 3 rfl) ?_
        refine lv_iload_n hx hb dX4_countWays_18 rfl (lv_at hl 1 rfl) ?_
        refine lv_icmp_eq (tgt := 27) hx hb dX4_countWays_19 (by decide) (fun c19 => ?_) (fun c19 => ?_)
        · have c19 : k7 = a := jx_e (by omega) (by omega) c19
          refine lv_iconst (v := nI 1) hx hb dX4_countWays_27 (by decide) ?_
          refine lv_goto (tgt := 32) hx hb dX4_countWays_28 (by decide) ?_
          refine lv_istore (lv' := [(4, .int (nI 1)), (0, .ref (g 20)), (1, .int (nI a)), (2, .int (nI o)), (3, .int (nI k7))]) hx hb dX4_countWays_32 hl (by decide) rfl (fun ls hl => ?_)
          refine lv_aload_n hx hb dX4_countWays_34 rfl (lv_at hl 1 rfl) ?_
          refine va_get (D := D) (ci := 4) (v := .ref (g 21)) (C := RX4) (T := TX4) (N := 4) hx hb hts in_X4_countWays_4 hown hK hP 6 rfl rfl 1 (by decide) (hts (.fieldLink RX4 13 "Twincuts$Ways" "room" "[[I") (List.mem_of_getElem? (i := 2) (by decide +kernel))) (fun _ h9 => h9) rfl dX4_countWays_35 ?_
          refine lv_iload_n hx hb dX4_countWays_38 rfl (lv_at hl 4 rfl) ?_
          refine jx_aald (N := 16) hx hb hK hP 7 1 rfl rfl (by omega) (by decide) dX4_countWays_39 ?_
          refine lv_iload_n hx hb dX4_countWays_40 rfl (lv_at hl 4 rfl) ?_
          refine lv_bipush (v := nI 8) hx hb dX4_countWays_41 (by decide) ?_
          refine lv_iadd hx hb dX4_countWays_43 ?_
          refine jx_val (z := (nI (k7 + 8))) (nI_add _ _) ?_
          refine lv_iload hx hb dX4_countWays_44 (lv_at hl 0 rfl) ?_
          refine lv_if_eq (tgt := 54) hx hb dX4_countWays_46 (by decide) (fun c => absurd c (by decide)) (fun _ => ?_)
          refine lv_bipush (v := nI 17) hx hb dX4_countWays_49 (by decide) ?_
          refine lv_goto (tgt := 55) hx hb dX4_countWays_51 (by decide) ?_
          refine jx_iast2I (N := 16) hx hb hK (X := jW cI g P n st sm gr co en la ++ jY cI cO g ro ca qu) hP hD hS 0 rfl (by omega) (by omega) (by decide) dX4_countWays_55 (fun H locs hP hD hS => ?_)
          have hP : va_P D vwCl (jW cI g P n st sm gr co en la ++ jY cI cO g ro ca qu ++ jRI cI 16 16 ro (jxUp2 (jmC1 a o k7) k7 (k7 + 8) (nI 17))) H := hP
          have hD : va_D A (jW cI g P n st sm gr co en la ++ jY cI cO g ro ca qu ++ jRI cI 16 16 ro (jxUp2 (jmC1 a o k7) k7 (k7 + 8) (nI 17))) := jxD hD0 rfl
          refine lv_iinc (v := nI (k7 + 1)) (lv' := [(3, .int (nI (k7 + 1))), (4, .int (nI 1)), (0, .ref (g 20)), (1, .int (nI a)), (2, .int (nI o))]) hx hb dX4_countWays_56 hl (k := 4) rfl (jx_inc _) (by decide) rfl (fun ls hl => ?_)
          refine lv_goto (tgt := 6) hx hb dX4_countWays_59 (by decide) ?_
          have ew_4 : jxUp2 (jmC1 a o k7) k7 (k7 + 8) (nI 17) = jmC1 a o (k7 + 1) := by first | exact jmC1_p (Or.inl c19) | exact jmC1_p (Or.inr c24) | exact jmC1_n c19 c24
          exact ih6 (k7 + 1) (by omega) (by omega) H locs (by rw [← ew_4]; exact hP) hS ls (lv_sub hl [2, 3, 4, 0] rfl)
        · have c19 : k7 ≠ a := jx_ne c19
          refine lv_iload_n hx hb dX4_countWays_22 rfl (lv_at hl 3 rfl) ?_
          refine lv_iload_n hx hb dX4_countWays_23 rfl (lv_at hl 2 rfl) ?_
          refine lv_icmp_ne (tgt := 31) hx hb dX4_countWays_24 (by decide) (fun c24 => ?_) (fun c24 => ?_)
          · have c24 : k7 ≠ o := jx_ne c24
            refine lv_iconst (v := nI 0) hx hb dX4_countWays_31 (by decide) ?_
            refine lv_istore (lv' := [(4, .int (nI 0)), (0, .ref (g 20)), (1, .int (nI a)), (2, .int (nI o)), (3, .int (nI k7))]) hx hb dX4_countWays_32 hl (by decide) rfl (fun ls hl => ?_)
            refine lv_aload_n hx hb dX4_countWays_34 rfl (lv_at hl 1 rfl) ?_
            refine va_get (D := D) (ci := 4) (v := .ref (g 21)) (C := RX4) (T := TX4) (N := 4) hx hb hts in_X4_countWays_4 hown hK hP 6 rfl rfl 1 (by decide) (hts (.fieldLink RX4 13 "Twincuts$Ways" "room" "[[I") (List.mem_of_getElem? (i := 2) (by decide +kernel))) (fun _ h9 => h9) rfl dX4_countWays_35 ?_
            refine lv_iload_n hx hb dX4_countWays_38 rfl (lv_at hl 4 rfl) ?_
            refine jx_aald (N := 16) hx hb hK hP 7 1 rfl rfl (by omega) (by decide) dX4_countWays_39 ?_
            refine lv_iload_n hx hb dX4_countWays_40 rfl (lv_at hl 4 rfl) ?_
            refine lv_bipush (v := nI 8) hx hb dX4_countWays_41 (by decide) ?_
            refine lv_iadd hx hb dX4_countWays_43 ?_
            refine jx_val (z := (nI (k7 + 8))) (nI_add _ _) ?_
            refine lv_iload hx hb dX4_countWays_44 (lv_at hl 0 rfl) ?_
            refine lv_if_eq (tgt := 54) hx hb dX4_countWays_46 (by decide) (fun _ => ?_) (fun c => absurd c (by decide))
            refine lv_iconst (v := nI 1) hx hb dX4_countWays_54 (by decide) ?_
            refine jx_iast2I (N := 16) hx hb hK (X := jW cI g P n st sm gr co en la ++ jY cI cO g ro ca qu) hP hD hS 0 rfl (by omega) (by omega) (by decide) dX4_countWays_55 (fun H locs hP hD hS => ?_)
            have hP : va_P D vwCl (jW cI g P n st sm gr co en la ++ jY cI cO g ro ca qu ++ jRI cI 16 16 ro (jxUp2 (jmC1 a o k7) k7 (k7 + 8) (nI 1))) H := hP
            have hD : va_D A (jW cI g P n st sm gr co en la ++ jY cI cO g ro ca qu ++ jRI cI 16 16 ro (jxUp2 (jmC1 a o k7) k7 (k7 + 8) (nI 1))) := jxD hD0 rfl
            refine lv_iinc (v := nI (k7 + 1)) (lv' := [(3, .int (nI (k7 + 1))), (4, .int (nI 0)), (0, .ref (g 20)), (1, .int (nI a)), (2, .int (nI o))]) hx hb dX4_countWays_56 hl (k := 4) rfl (jx_inc _) (by decide) rfl (fun ls hl => ?_)
            refine lv_goto (tgt := 6) hx hb dX4_countWays_59 (by decide) ?_
            have ew_5 : jxUp2 (jmC1 a o k7) k7 (k7 + 8) (nI 1) = jmC1 a o (k7 + 1) := by first | exact jmC1_p (Or.inl c19) | exact jmC1_p (Or.inr c24) | exact jmC1_n c19 c24
            exact ih6 (k7 + 1) (by omega) (by omega) H locs (by rw [← ew_5]; exact hP) hS ls (lv_sub hl [2, 3, 4, 0] rfl)
          · have c24 : k7 = o := jx_e (by omega) (by omega) c24
            refine lv_iconst (v := nI 1) hx hb dX4_countWays_27 (by decide) ?_
            refine lv_goto (tgt := 32) hx hb dX4_countWays_28 (by decide) ?_
            refine lv_istore (lv' := [(4, .int (nI 1)), (0, .ref (g 20)), (1, .int (nI a)), (2, .int (nI o)), (3, .int (nI k7))]) hx hb dX4_countWays_32 hl (by decide) rfl (fun ls hl => ?_)
            refine lv_aload_n hx hb dX4_countWays_34 rfl (lv_at hl 1 rfl) ?_
            refine va_get (D := D) (ci := 4) (v := .ref (g 21)) (C := RX4) (T := TX4) (N := 4) hx hb hts in_X4_countWays_4 hown hK hP 6 rfl rfl 1 (by decide) (hts (.fieldLink RX4 13 "Twincuts$Ways" "room" "[[I") (List.mem_of_getElem? (i := 2) (by decide +kernel))) (fun _ h9 => h9) rfl dX4_countWays_35 ?_
            refine lv_iload_n hx hb dX4_countWays_38 rfl (lv_at hl 4 rfl) ?_
            refine jx_aald (N := 16) hx hb hK hP 7 1 rfl rfl (by omega) (by decide) dX4_countWays_39 ?_
            refine lv_iload_n hx hb dX4_countWays_40 rfl (lv_at hl 4 rfl) ?_
            refine lv_bipush (v := nI 8) hx hb dX4_countWays_41 (by decide) ?_
            refine lv_iadd hx hb dX4_countWays_43 ?_
            refine jx_val (z := (nI (k7 + 8))) (nI_add _ _) ?_
            refine lv_iload hx hb dX4_countWays_44 (lv_at hl 0 rfl) ?_
            refine lv_if_eq (tgt := 54) hx hb dX4_countWays_46 (by decide) (fun c => absurd c (by decide)) (fun _ => ?_)
            refine lv_bipush (v := nI 17) hx hb dX4_countWays_49 (by decide) ?_
            refine lv_goto (tgt := 55) hx hb dX4_countWays_51 (by decide) ?_
            refine jx_iast2I (N := 16) hx hb hK (X := jW cI g P n st sm gr co en la ++ jY cI cO g ro ca qu) hP hD hS 0 rfl (by omega) (by omega) (by decide) dX4_countWays_55 (fun H locs hP hD hS => ?_)
            have hP : va_P D vwCl (jW cI g P n st sm gr co en la ++ jY cI cO g ro ca qu ++ jRI cI 16 16 ro (jxUp2 (jmC1 a o k7) k7 (k7 + 8) (nI 17))) H := hP
            have hD : va_D A (jW cI g P n st sm gr co en la ++ jY cI cO g ro ca qu ++ jRI cI 16 16 ro (jxUp2 (jmC1 a o k7) k7 (k7 + 8) (nI 17))) := jxD hD0 rfl
            refine lv_iinc (v := nI (k7 + 1)) (lv' := [(3, .int (nI (k7 + 1))), (4, .int (nI 1)), (0, .ref (g 20)), (1, .int (nI a)), (2, .int (nI o))]) hx hb dX4_countWays_56 hl (k := 4) rfl (jx_inc _) (by decide) rfl (fun ls hl => ?_)
            refine lv_goto (tgt := 6) hx hb dX4_countWays_59 (by decide) ?_
            have ew_6 : jxUp2 (jmC1 a o k7) k7 (k7 + 8) (nI 17) = jmC1 a o (k7 + 1) := by first | exact jmC1_p (Or.inl c19) | exact jmC1_p (Or.inr c24) | exact jmC1_n c19 c24
            exact ih6 (k7 + 1) (by omega) (by omega) H locs (by rw [← ew_6]; exact hP) hS ls (lv_sub hl [2, 3, 4, 0] rfl)
  have ew_7 : (fun _ _ => 0) = jmC1 a o 0 := by rfl
  exact L6 ((P - 0) + 1) 0 (by omega) (Nat.lt_succ_self _) H locs (by rw [← ew_7]; exact hP) hS ls (lv_sub hl [1, 2, 3, 0] rfl)
