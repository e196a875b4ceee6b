set_option maxHeartbeats 4000000 in
set_option maxRecDepth 100000 in
/-- has(set, number): the bit -/
theorem c_X6_has (l : Launch) (D : va_G)  (a k : Nat) (ha : a < 2 ^ 31) (hk : k < 32) : jxRO l yX6_has wsX6_has ({ frames := 0, cells := 0, slots := 0, locals := 0 } : Room) D [] [] [.int (nI a), .int (nI k)] (fun r => r = nI (jB (a.testBit k))) := by
  refine jx_enterZ (by decide) rfl (Nat.le_of_ble_eq_true rfl) ?_
  intro p e s m args below meth c Q ls hx hb hml hts hown hN hP hK hl hQ
  have hown : s.vm.findClass RX6 = some m.cls := hown
  have hl : lv_has ls 2 [(0, .int (nI a)), (1, .int (nI k))] := hl
  refine lv_iload_n hx hb dX6_has_0 rfl (lv_at hl 0 rfl) ?_
  refine lv_iload_n hx hb dX6_has_1 rfl (lv_at hl 1 rfl) ?_
  refine lv_ishr hx hb dX6_has_2 ?_
  refine jx_val (z := (nI (a / 2 ^ k))) (jx_shr (by omega) (by omega)) ?_
  refine lv_iconst (v := nI 1) hx hb dX6_has_3 (by decide) ?_
  refine lv_iand hx hb dX6_has_4 ?_
  refine jx_val (z := (nI (jB (Nat.testBit a k)))) (jx_b1 _ _) ?_
  refine lv_if_eq (tgt := 12) hx hb dX6_has_5 (by decide) (fun c5 => ?_) (fun c5 => ?_)
  · have c5 := jB_0 c5
    refine lv_iconst (v := nI 0) hx hb dX6_has_12 (by decide) ?_
    exact hQ false _ _ dX6_has_13 (by rw [c5])
  · have c5 := jB_1 c5
    refine lv_iconst (v := nI 1) hx hb dX6_has_8 (by decide) ?_
    refine lv_goto (tgt := 13) hx hb dX6_has_9 (by decide) ?_
    exact hQ true _ _ dX6_has_13 (by rw [c5])
set_option maxRecDepth 20000 in
theorem in_X5_allPoints_5 : ∀ w ∈ wsX50, w ∈ wsX5_allPoints := by decide +kernel
set_option maxHeartbeats 4000000 in
set_option maxRecDepth 100000 in
/-- allPoints(): the set of all points -/
theorem c_X5_allPoints (l : Launch) (D : va_G) (cI : ClassId) (g : Nat → Nat) (P n st : Nat) (sm gr co en la : Nat → Nat) (hw : jmWF P n st sm gr co en la)  : jxRO l yX5_allPoints wsX5_allPoints ({ frames := 0, cells := 0, slots := 0, locals := 0 } : Room) D [(cI, .int)] (jW cI g P n st sm gr co en la) [.ref (g 0)] (fun r => r = nI (2 ^ P - 1)) := by
  refine jx_enter (by decide) rfl (Nat.le_of_ble_eq_true rfl) ?_
  intro p e s m args below meth c Q ls hx hb hml hts hown hN hP hK hl hQ
  have hown : s.vm.findClass RX5 = some m.cls := hown
  have hl : lv_has ls 1 [(0, .ref (g 0))] := hl
  have hP8 : P ≤ 8 := hw.1
  have hn16 : n ≤ 16 := hw.2.1
  have hst : st < 65536 := jmWF_st hw
  have hen : ∀ j, j < n → en j < 256 := jmWF_en hw
  have hla : ∀ q, q < P → la q < 65536 := jmWF_la hw
  have hgr : ∀ j, j < n → sm j < 8 ∧ gr j < 8 := jmWF_gr hw
  have hco : ∀ j, j < n → co j < 21 := jmWF_co hw
  refine lv_iconst (v := nI 1) hx hb dX5_allPoints_0 (by decide) ?_
  refine lv_aload_n hx hb dX5_allPoints_1 rfl (lv_at hl 0 rfl) ?_
  refine va_get (D := D) (ci := 5) (v := .int (nI P)) (C := RX5) (T := TX5) (N := 8) hx hb hts in_X5_allPoints_5 hown hK hP 0 rfl rfl 0 (by decide) (hts (.fieldLink RX5 9 "Twincuts$Web" "points" "I") (List.mem_of_getElem? (i := 1) (by decide +kernel))) (fun _ h9 => h9) rfl dX5_allPoints_2 ?_
  refine lv_ishl hx hb dX5_allPoints_5 ?_
  refine jx_val (z := (nI (2 ^ P))) (jx_1shl (by omega)) ?_
  refine lv_iconst (v := nI 1) hx hb dX5_allPoints_6 (by decide) ?_
  refine lv_isub hx hb dX5_allPoints_7 ?_
  refine jx_val (z := (nI ((2 ^ P) - 1))) (pk_sub Nat.one_le_two_pow) ?_
  exact hQ (nI ((2 ^ P) - 1)) _ _ dX5_allPoints_8 rfl
set_option maxRecDepth 20000 in
theorem in_X5_standingAt_5 : ∀ w ∈ wsX50, w ∈ wsX5_standingAt := by decide +kernel
set_option maxHeartbeats 4000000 in
set_option maxRecDepth 100000 in
/-- standingAt(point): its lines that stand -/
theorem c_X5_standingAt (l : Launch) (D : va_G) (cI : ClassId) (g : Nat → Nat) (P n st : Nat) (sm gr co en la : Nat → Nat) (hw : jmWF P n st sm gr co en la) (q : Nat) (hq : q < P) : jxRO l yX5_standingAt wsX5_standingAt ({ frames := 0, cells := 0, slots := 0, locals := 0 } : Room) D [(cI, .int)] (jW cI g P n st sm gr co en la) [.ref (g 0), .int (nI q)] (fun r => r = nI (la q &&& st)) := by
  refine jx_enter (by decide) rfl (Nat.le_of_ble_eq_true rfl) ?_
  intro p e s m args below meth c Q ls hx hb hml hts hown hN hP hK hl hQ
  have hown : s.vm.findClass RX5 = some m.cls := hown
  have hl : lv_has ls 2 [(0, .ref (g 0)), (1, .int (nI q))] := hl
  have hP8 : P ≤ 8 := hw.1
  have hn16 : n ≤ 16 := hw.2.1
  have hst : st < 65536 := jmWF_st hw
  have hen : ∀ j, j < n → en j < 256 := jmWF_en hw
  have hla : ∀ q, q < P → la q < 65536 := jmWF_la hw
  have hgr : ∀ j, j < n → sm j < 8 ∧ gr j < 8 := jmWF_gr hw
  have hco : ∀ j, j < n → co j < 21 := jmWF_co hw
  refine lv_aload_n hx hb dX5_standingAt_0 rfl (lv_at hl 0 rfl) ?_
  refine va_get (D := D) (ci := 5) (v := .ref (g 5)) (C := RX5) (T := TX5) (N := 8) hx hb hts in_X5_standingAt_5 hown hK hP 0 rfl rfl 7 (by decide) (hts (.fieldLink RX5 34 "Twincuts$Web" "linesAt" "[I") (List.mem_of_getElem? (i := 1) (by decide +kernel))) (fun _ h9 => h9) rfl dX5_standingAt_1 ?_
  refine lv_iload_n hx hb dX5_standingAt_4 rfl (lv_at hl 1 rfl) ?_
  refine jx_iald hx hb hK hP 5 0 rfl rfl (by omega) (by decide) dX5_standingAt_5 ?_
  refine lv_aload_n hx hb dX5_standingAt_6 rfl (lv_at hl 0 rfl) ?_
  refine va_get (D := D) (ci := 5) (v := .int (nI st)) (C := RX5) (T := TX5) (N := 8) hx hb hts in_X5_standingAt_5 hown hK hP 0 rfl rfl 2 (by decide) (hts (.fieldLink RX5 18 "Twincuts$Web" "standing" "I") (List.mem_of_getElem? (i := 2) (by decide +kernel))) (fun _ h9 => h9) rfl dX5_standingAt_7 ?_
  refine lv_iand hx hb dX5_standingAt_10 ?_
  refine jx_val (z := (nI ((la q) &&& st))) (fa_and _ _) ?_
  exact hQ (nI ((la q) &&& st)) _ _ dX5_standingAt_11 rfl
set_option maxRecDepth 20000 in
theorem in_X5_otherEnd_5 : ∀ w ∈ wsX50, w ∈ wsX5_otherEnd := by decide +kernel
set_option maxHeartbeats 4000000 in
set_option maxRecDepth 100000 in
/-- otherEnd(line, point) -/
theorem c_X5_otherEnd (l : Launch) (D : va_G) (cI : ClassId) (g : Nat → Nat) (P n st : Nat) (sm gr co en la : Nat → Nat) (hw : jmWF P n st sm gr co en la) (i q : Nat) (hi : i < n) (hq : q < 8) : jxRO l yX5_otherEnd wsX5_otherEnd ({ frames := 0, cells := 0, slots := 0, locals := 0 } : Room) D [(cI, .int)] (jW cI g P n st sm gr co en la) [.ref (g 0), .int (nI i), .int (nI q)] (fun r => r = nI (if sm i = q then gr i else sm i)) := by
  refine jx_enter (by decide) rfl (Nat.le_of_ble_eq_true rfl) ?_
  intro p e s m args below meth c Q ls hx hb hml hts hown hN hP hK hl hQ
  have hown : s.vm.findClass RX5 = some m.cls := hown
  have hl : lv_has ls 3 [(0, .ref (g 0)), (1, .int (nI i)), (2, .int (nI q))] := hl
  have hP8 : P ≤ 8 := hw.1
  have hn16 : n ≤ 16 := hw.2.1
  have hst : st < 65536 := jmWF_st hw
  have hen : ∀ j, j < n → en j < 256 := jmWF_en hw
  have hla : ∀ q, q < P → la q < 65536 := jmWF_la hw
  have hgr : ∀ j, j < n → sm j < 8 ∧ gr j < 8 := jmWF_gr hw
  have hco : ∀ j, j < n → co j < 21 := jmWF_co hw
  refine lv_aload_n hx hb dX5_otherEnd_0 rfl (lv_at hl 0 rfl) ?_
  refine va_get (D := D) (ci := 5) (v := .ref (g 1)) (C := RX5) (T := TX5) (N := 8) hx hb hts in_X5_otherEnd_5 hown hK hP 0 rfl rfl 3 (by decide) (hts (.fieldLink RX5 21 "Twincuts$Web" "smaller" "[I") (List.mem_of_getElem? (i := 1) (by decide +kernel))) (fun _ h9 => h9) rfl dX5_otherEnd_1 ?_
  refine lv_iload_n hx hb dX5_otherEnd_4 rfl (lv_at hl 1 rfl) ?_
  refine jx_iald hx hb hK hP 1 0 rfl rfl (by omega) (by decide) dX5_otherEnd_5 ?_
  refine lv_iload_n hx hb dX5_otherEnd_6 rfl (lv_at hl 2 rfl) ?_
  refine lv_icmp_ne (tgt := 19) hx hb dX5_otherEnd_7 (by decide) (fun c7 => ?_) (fun c7 => ?_)
  · have c7 : sm i ≠ q := jx_ne c7
    refine lv_aload_n hx hb dX5_otherEnd_19 rfl (lv_at hl 0 rfl) ?_
    refine va_get (D := D) (ci := 5) (v := .ref (g 1)) (C := RX5) (T := TX5) (N := 8) hx hb hts in_X5_otherEnd_5 hown hK hP 0 rfl rfl 3 (by decide) (hts (.fieldLink RX5 21 "Twincuts$Web" "smaller" "[I") (List.mem_of_getElem? (i := 1) (by decide +kernel))) (fun _ h9 => h9) rfl dX5_otherEnd_20 ?_
    refine lv_iload_n hx hb dX5_otherEnd_23 rfl (lv_at hl 1 rfl) ?_
    refine jx_iald hx hb hK hP 1 0 rfl rfl (by omega) (by decide) dX5_otherEnd_24 ?_
    exact hQ (nI (sm i)) _ _ dX5_otherEnd_25 (by rw [if_neg c7])
  · have c7 : sm i = q := jx_e (by have := hgr i (by omega); omega) (by omega) c7
    refine lv_aload_n hx hb dX5_otherEnd_10 rfl (lv_at hl 0 rfl) ?_
    refine va_get (D := D) (ci := 5) (v := .ref (g 2)) (C := RX5) (T := TX5) (N := 8) hx hb hts in_X5_otherEnd_5 hown hK hP 0 rfl rfl 4 (by decide) (hts (.fieldLink RX5 25 "Twincuts$Web" "greater" "[I") (List.mem_of_getElem? (i := 2) (by decide +kernel))) (fun _ h9 => h9) rfl dX5_otherEnd_11 ?_
    refine lv_iload_n hx hb dX5_otherEnd_14 rfl (lv_at hl 1 rfl) ?_
    refine jx_iald hx hb hK hP 2 0 rfl rfl (by omega) (by decide) dX5_otherEnd_15 ?_
    refine lv_goto (tgt := 25) hx hb dX5_otherEnd_16 (by decide) ?_
    exact hQ (nI (gr i)) _ _ dX5_otherEnd_25 (by rw [if_pos c7])
set_option maxRecDepth 20000 in
theorem in_X5_linkedWith_5 : ∀ w ∈ wsX50, w ∈ wsX5_linkedWith := by decide +kernel
set_option maxHeartbeats 4000000 in
set_option maxRecDepth 100000 in
/-- linkedWith(point): the points linked with it -/
theorem c_X5_linkedWith (l : Launch) (D : va_G) (cI : ClassId) (g : Nat → Nat) (P n st : Nat) (sm gr co en la : Nat → Nat) (hw : jmWF P n st sm gr co en la) (q : Nat) (hq : q < P) : jxRO l yX5_linkedWith wsX5_linkedWith ({ frames := 1, cells := 0, slots := 0, locals := 21 } : Room) D [(cI, .int)] (jW cI g P n st sm gr co en la) [.ref (g 0), .int (nI q)] (fun r => r = nI (jmLinked en la st n q)) := by
  refine jx_enter (by decide) rfl (Nat.le_of_ble_eq_true rfl) ?_
  intro p e s m args below meth c Q ls hx hb hml hts hown hN hP hK hl hQ
  have hown : s.vm.findClass RX5 = some m.cls := hown
  have hl : lv_has ls 4 [(0, .ref (g 0)), (1, .int (nI q))] := hl
  have hP8 : P ≤ 8 := hw.1
  have hn16 : n ≤ 16 := hw.2.1
  have hst : st < 65536 := jmWF_st hw
  have hen : ∀ j, j < n → en j < 256 := jmWF_en hw
  have hla : ∀ q, q < P → la q < 65536 := jmWF_la hw
  have hgr : ∀ j, j < n → sm j < 8 ∧ gr j < 8 := jmWF_gr hw
  have hco : ∀ j, j < n → co j < 21 := jmWF_co hw
  refine lv_iconst (v := nI 0) hx hb dX5_linkedWith_0 (by decide) ?_
  refine lv_istore_n (lv' := [(2, .int (nI 0)), (0, .ref (g 0)), (1, .int (nI q))]) hx hb dX5_linkedWith_1 rfl hl (by decide) rfl (fun ls hl => ?_)
  refine lv_iconst (v := nI 0) hx hb dX5_linkedWith_2 (by decide) ?_
  refine lv_istore_n (lv' := [(3, .int (nI 0)), (2, .int (nI 0)), (0, .ref (g 0)), (1, .int (nI q))]) hx hb dX5_linkedWith_3 rfl hl (by decide) rfl (fun ls hl => ?_)
  have L4 : ∀ (k : Nat) (ln : Nat) (hln : ln ≤ n), n - ln < k → ∀ ls : Array Slot, lv_has ls 4 [(0, .ref (g 0)), (1, .int (nI q)), (2, .int (nI (jmLW en (la q &&& st) ln))), (3, .int (nI ln))] → W p l e ({ frames := 1, cells := 0, slots := 0, locals := 21 } : Room) s m args below meth c s.heap [] 0 0 Q (F0 m 4 ls []) := by
    intro k
    induction k with
    | zero => intro ln hln hk; exact absurd hk (Nat.not_lt_zero _)
    | succ k ih4 =>
      intro ln hln hk ls hl
      refine lv_iload_n hx hb dX5_linkedWith_4 rfl (lv_at hl 3 rfl) ?_
      refine lv_aload_n hx hb dX5_linkedWith_5 rfl (lv_at hl 0 rfl) ?_
      refine va_get (D := D) (ci := 5) (v := .int (nI n)) (C := RX5) (T := TX5) (N := 8) hx hb hts in_X5_linkedWith_5 hown hK hP 0 rfl rfl 1 (by decide) (hts (.fieldLink RX5 15 "Twincuts$Web" "lines" "I") (List.mem_of_getElem? (i := 1) (by decide +kernel))) (fun _ h9 => h9) rfl dX5_linkedWith_6 ?_
      refine lv_icmp_ge (tgt := 45) hx hb dX5_linkedWith_9 (by decide) (fun c9 => ?_) (fun c9 => ?_)
      · have c9 : n ≤ ln := jx_le (by omega) (by omega) c9
        refine lv_iload_n hx hb dX5_linkedWith_45 rfl (lv_at hl 2 rfl) ?_
        have es_46 : n = ln := (by omega)
        subst es_46
        refine lv_iconst (v := nI 1) hx hb dX5_linkedWith_46 (by decide) ?_
        refine lv_iload_n hx hb dX5_linkedWith_47 rfl (lv_at hl 1 rfl) ?_
        refine lv_ishl hx hb dX5_linkedWith_48 ?_
        refine jx_val (z := (nI (2 ^ q))) (jx_1shl (by omega)) ?_
        refine lv_iconst (v := (-1)) hx hb dX5_linkedWith_49 (by decide) ?_
        refine lv_ixor hx hb dX5_linkedWith_50 ?_
        refine lv_iand hx hb dX5_linkedWith_51 ?_
        refine jx_val (z := (nI (jxAN (jmLW en (la q &&& st) n) (2 ^ q)))) (jx_not _ _) ?_
        exact hQ (nI (jxAN (jmLW en (la q &&& st) n) (2 ^ q))) _ _ dX5_linkedWith_52 rfl
      · have c9 : ln < n := jx_nle (by omega) (by omega) c9
        refine lv_aload_n hx hb dX5_linkedWith_12 rfl (lv_at hl 0 rfl) ?_
        refine va_get (D := D) (ci := 5) (v := .ref (g 5)) (C := RX5) (T := TX5) (N := 8) hx hb hts in_X5_linkedWith_5 hown hK hP 0 rfl rfl 7 (by decide) (hts (.fieldLink RX5 34 "Twincuts$Web" "linesAt" "[I") (List.mem_of_getElem? (i := 2) (by decide +kernel))) (fun _ h9 => h9) rfl dX5_linkedWith_13 ?_
        refine lv_iload_n hx hb dX5_linkedWith_16 rfl (lv_at hl 1 rfl) ?_
        refine jx_iald hx hb hK hP 5 0 rfl rfl (by omega) (by decide) dX5_linkedWith_17 ?_
        refine lv_aload_n hx hb dX5_linkedWith_18 rfl (lv_at hl 0 rfl) ?_
        refine va_get (D := D) (ci := 5) (v := .int (nI st)) (C := RX5) (T := TX5) (N := 8) hx hb hts in_X5_linkedWith_5 hown hK hP 0 rfl rfl 2 (by decide) (hts (.fieldLink RX5 18 "Twincuts$Web" "standing" "I") (List.mem_of_getElem? (i := 3) (by decide +kernel))) (fun _ h9 => h9) rfl dX5_linkedWith_19 ?_
        refine lv_iand hx hb dX5_linkedWith_22 ?_
        refine jx_val (z := (nI ((la q) &&& st))) (fa_and _ _) ?_
        refine lv_iload_n hx hb dX5_linkedWith_23 rfl (lv_at hl 3 rfl) ?_
        refine jx_callSN (As := [.int (nI ((la q) &&& st)), .int (nI ln)]) (rest := []) ⟨hx, hb, hml, hown, hts⟩ (c_X6_has l D ((la q) &&& st) ln (Nat.lt_of_le_of_lt Nat.and_le_left (by have := hla q (by omega); omega)) (by omega)) (va_cnB 2 hts gX5_linkedWith_X6_has_n37 rfl rfl rfl (hN.get 40 rfl) (hts (.initialized RX6) (List.mem_of_getElem? (i := 6) (by decide +kernel))) (by decide +kernel) ⟨Nat.le_of_ble_eq_true rfl, Nat.le_of_ble_eq_true rfl⟩) (hts (.static yX6_has) (List.mem_of_getElem? (i := 5) (by decide +kernel))) hN (hP.sub (ws' := []) [] rfl) (hK.sub (tys' := []) [] rfl) rfl hl.1 rfl (Nat.le_of_ble_eq_true rfl) dX5_linkedWith_24 ⟨Nat.zero_le _, Nat.zero_le _⟩ (fun r hr => ?_)
        subst hr
        refine lv_if_eq (tgt := 39) hx hb dX5_linkedWith_27 (by decide) (fun c27 => ?_) (fun c27 => ?_)
        · have c27 := jB_0 c27
          refine lv_iinc (v := nI (ln + 1)) (lv' := [(3, .int (nI (ln + 1))), (0, .ref (g 0)), (1, .int (nI q)), (2, .int (nI (jmLW en (la q &&& st) ln)))]) hx hb dX5_linkedWith_39 hl (k := 3) rfl (jx_inc _) (by decide) rfl (fun ls hl => ?_)
          refine lv_goto (tgt := 4) hx hb dX5_linkedWith_42 (by decide) ?_
          have ev_1 : jmLW en (la q &&& st) ln = jmLW en (la q &&& st) (ln + 1) := by first | rfl | (simp [jmLW, c9, c27]; done)
          exact ih4 (ln + 1) (by omega) (by omega) ls (by rw [← ev_1]; exact lv_sub hl [1, 2, 3, 0] rfl)
        · have c27 := jB_1 c27
          refine lv_iload_n hx hb dX5_linkedWith_30 rfl (lv_at hl 2 rfl) ?_
          refine lv_aload_n hx hb dX5_linkedWith_31 rfl (lv_at hl 0 rfl) ?_
          refine va_get (D := D) (ci := 5) (v := .ref (g 4)) (C := RX5) (T := TX5) (N := 8) hx hb hts in_X5_linkedWith_5 hown hK hP 0 rfl rfl 6 (by decide) (hts (.fieldLink RX5 31 "Twincuts$Web" "ends" "[I") (List.mem_of_getElem? (i := 4) (by decide +kernel))) (fun _ h9 => h9) rfl dX5_linkedWith_32 ?_
          refine lv_iload_n hx hb dX5_linkedWith_35 rfl (lv_at hl 3 rfl) ?_
          refine jx_iald hx hb hK hP 4 0 rfl rfl (by omega) (by decide) dX5_linkedWith_36 ?_
          refine lv_ior hx hb dX5_linkedWith_37 ?_
          refine jx_val (z := (nI ((jmLW en (la q &&& st) ln) ||| (en ln)))) (fa_or _ _) ?_
          refine lv_istore_n (lv' := [(2, .int (nI ((jmLW en (la q &&& st) ln) ||| (en ln)))), (0, .ref (g 0)), (1, .int (nI q)), (3, .int (nI ln))]) hx hb dX5_linkedWith_38 rfl hl (by decide) rfl (fun ls hl => ?_)
          refine lv_iinc (v := nI (ln + 1)) (lv' := [(3, .int (nI (ln + 1))), (2, .int (nI ((jmLW en (la q &&& st) ln) ||| (en ln)))), (0, .ref (g 0)), (1, .int (nI q))]) hx hb dX5_linkedWith_39 hl (k := 3) rfl (jx_inc _) (by decide) rfl (fun ls hl => ?_)
          refine lv_goto (tgt := 4) hx hb dX5_linkedWith_42 (by decide) ?_
          have ev_2 : (jmLW en (la q &&& st) ln) ||| (en ln) = jmLW en (la q &&& st) (ln + 1) := by first | rfl | (simp [jmLW, c9, c27]; done)
          exact ih4 (ln + 1) (by omega) (by omega) ls (by rw [← ev_2]; exact lv_sub hl [2, 3, 1, 0] rfl)
  have ev_3 : 0 = jmLW en (la q &&& st) 0 := by first | rfl | (simp [jmLW, if_true]; done)
  exact L4 ((n - 0) + 1) 0 (by omega) (Nat.lt_succ_self _) ls (by rw [← ev_3]; exact lv_sub hl [2, 3, 1, 0] rfl)
set_option maxRecDepth 20000 in
theorem in_X5_reach_5 : ∀ w ∈ wsX50, w ∈ wsX5_reach := by decide +kernel
set_option maxHeartbeats 4000000 in
set_option maxRecDepth 100000 in
/-- reach(start, within, by) -/
theorem c_X5_reach (l : Launch) (D : va_G) (cI : ClassId) (g : Nat → Nat) (P n st : Nat) (sm gr co en la : Nat → Nat) (hw : jmWF P n st sm gr co en la) (a wi b : Nat) (ha : a < 8) (hwi : wi < 65536) (hb16 : b < 65536) : jxRO l yX5_reach wsX5_reach ({ frames := 0, cells := 0, slots := 0, locals := 0 } : Room) D [(cI, .int)] (jW cI g P n st sm gr co en la) [.ref (g 0), .int (nI a), .int (nI wi), .int (nI b)] (fun r => r = nI (jmReach en wi b n a)) := by
  refine jx_enter (by decide) rfl (Nat.le_of_ble_eq_true rfl) ?_
  intro p e s m args below meth c Q ls hx hb hml hts hown hN hP hK hl hQ
  have hown : s.vm.findClass RX5 = some m.cls := hown
  have hl : lv_has ls 9 [(0, .ref (g 0)), (1, .int (nI a)), (2, .int (nI wi)), (3, .int (nI b))] := hl
  have hP8 : P ≤ 8 := hw.1
  have hn16 : n ≤ 16 := hw.2.1
  have hst : st < 65536 := jmWF_st hw
  have hen : ∀ j, j < n → en j < 256 := jmWF_en hw
  have hla : ∀ q, q < P → la q < 65536 := jmWF_la hw
  have hgr : ∀ j, j < n → sm j < 8 ∧ gr j < 8 := jmWF_gr hw
  have hco : ∀ j, j < n → co j < 21 := jmWF_co hw
  refine lv_iconst (v := nI 1) hx hb dX5_reach_0 (by decide) ?_
  refine lv_iload_n hx hb dX5_reach_1 rfl (lv_at hl 1 rfl) ?_
  refine lv_ishl hx hb dX5_reach_2 ?_
  refine jx_val (z := (nI (2 ^ a))) (jx_1shl (by omega)) ?_
  refine lv_istore (lv' := [(4, .int (nI (2 ^ a))), (0, .ref (g 0)), (1, .int (nI a)), (2, .int (nI wi)), (3, .int (nI b))]) hx hb dX5_reach_3 hl (by decide) rfl (fun ls hl => ?_)
  refine lv_iconst (v := nI 0) hx hb dX5_reach_5 (by decide) ?_
  refine lv_istore (lv' := [(5, .int (nI 0)), (4, .int (nI (2 ^ a))), (0, .ref (g 0)), (1, .int (nI a)), (2, .int (nI wi)), (3, .int (nI b))]) hx hb dX5_reach_6 hl (by decide) rfl (fun ls hl => ?_)
  have L8 : ∀ (k : Nat) (rd : Nat) (hrd : rd ≤ 8), 8 - rd < k → ∀ ls : Array Slot, lv_has ls 9 [(0, .ref (g 0)), (1, .int (nI a)), (2, .int (nI wi)), (3, .int (nI b)), (4, .int (nI (jmIt (jmStep en wi b n) rd (2 ^ a)))), (5, .int (nI rd))] → W p l e ({ frames := 0, cells := 0, slots := 0, locals := 0 } : Room) s m args below meth c s.heap [] 0 0 Q (F0 m 8 ls []) := by
    intro k
    induction k with
    | zero => intro rd hrd hk; exact absurd hk (Nat.not_lt_zero _)
    | succ k ih8 =>
      intro rd hrd hk ls hl
      have hM := jmReach_it_lt (wi := wi) (b := b) ha hen rd
      refine lv_iload hx hb dX5_reach_8 (lv_at hl 5 rfl) ?_
      refine lv_bipush (v := nI 8) hx hb dX5_reach_10 (by decide) ?_
      refine lv_icmp_ge (tgt := 113) hx hb dX5_reach_12 (by decide) (fun c12 => ?_) (fun c12 => ?_)
      · have c12 : 8 ≤ rd := jx_le (by decide) (by omega) c12
        refine lv_iload hx hb dX5_reach_113 (lv_at hl 4 rfl) ?_
        exact hQ (nI (jmIt (jmStep en wi b n) rd (2 ^ a))) _ _ dX5_reach_115 (by rw [show rd = 8 by omega]; rfl)
      · have c12 : rd < 8 := jx_nle (by decide) (by omega) c12
        refine lv_iload hx hb dX5_reach_15 (lv_at hl 4 rfl) ?_
        refine lv_istore (lv' := [(6, .int (nI (jmIt (jmStep en wi b n) rd (2 ^ a)))), (0, .ref (g 0)), (1, .int (nI a)), (2, .int (nI wi)), (3, .int (nI b)), (4, .int (nI (jmIt (jmStep en wi b n) rd (2 ^ a)))), (5, .int (nI rd))]) hx hb dX5_reach_17 hl (by decide) rfl (fun ls hl => ?_)
        refine lv_iconst (v := nI 0) hx hb dX5_reach_19 (by decide) ?_
        refine lv_istore (lv' := [(7, .int (nI 0)), (6, .int (nI (jmIt (jmStep en wi b n) rd (2 ^ a)))), (0, .ref (g 0)), (1, .int (nI a)), (2, .int (nI wi)), (3, .int (nI b)), (4, .int (nI (jmIt (jmStep en wi b n) rd (2 ^ a)))), (5, .int (nI rd))]) hx hb dX5_reach_20 hl (by decide) rfl (fun ls hl => ?_)
        have L22 : ∀ (k : Nat) (ln : Nat) (hln : ln ≤ n), n - ln < k → ∀ ls : Array Slot, lv_has ls 9 [(0, .ref (g 0)), (1, .int (nI a)), (2, .int (nI wi)), (3, .int (nI b)), (4, .int (nI (jmStep en wi b ln (jmIt (jmStep en wi b n) rd (2 ^ a))))), (5, .int (nI rd)), (6, .int (nI (jmIt (jmStep en wi b n) rd (2 ^ a)))), (7, .int (nI ln))] → W p l e ({ frames := 0, cells := 0, slots := 0, locals := 0 } : Room) s m args below meth c s.heap [] 0 0 Q (F0 m 22 ls []) := by
          intro k
          induction k with
          | zero => intro ln hln hk; exact absurd hk (Nat.not_lt_zero _)
          | succ k ih22 =>
            intro ln hln hk ls hl
            have hM2 := jmStep_lt (wi := wi) (b := b) (k := ln) hM (fun j hj => hen j (by omega))
            refine lv_iload hx hb dX5_reach_22 (lv_at hl 7 rfl) ?_
            refine lv_aload_n hx hb dX5_reach_24 rfl (lv_at hl 0 rfl) ?_
            refine va_get (D := D) (ci := 5) (v := .int (nI n)) (C := RX5) (T := TX5) (N := 8) hx hb hts in_X5_reach_5 hown hK hP 0 rfl rfl 1 (by decide) (hts (.fieldLink RX5 15 "Twincuts$Web" "lines" "I") (List.mem_of_getElem? (i := 1) (by decide +kernel))) (fun _ h9 => h9) rfl dX5_reach_25 ?_
            refine lv_icmp_ge (tgt := 97) hx hb dX5_reach_28 (by decide) (fun c28 => ?_) (fun c28 => ?_)
            · have c28 : n ≤ ln := jx_le (by omega) (by omega) c28
              have es_97 : n = ln := (by omega)
              subst es_97
              refine lv_iload hx hb dX5_reach_97 (lv_at hl 4 rfl) ?_
              refine lv_iload hx hb dX5_reach_99 (lv_at hl 6 rfl) ?_
              refine lv_icmp_ne (tgt := 107) hx hb dX5_reach_101 (by decide) (fun c101 => ?_) (fun c101 => ?_)
              · have c101 : jmStep en wi b n (jmIt (jmStep en wi b n) rd (2 ^ a)) ≠ jmIt (jmStep en wi b n) rd (2 ^ a) := jx_ne c101
                refine lv_iinc (v := nI (rd + 1)) (lv' := [(5, .int (nI (rd + 1))), (0, .ref (g 0)), (1, .int (nI a)), (2, .int (nI wi)), (3, .int (nI b)), (4, .int (nI (jmStep en wi b n (jmIt (jmStep en wi b n) rd (2 ^ a))))), (6, .int (nI (jmIt (jmStep en wi b n) rd (2 ^ a)))), (7, .int (nI n))]) hx hb dX5_reach_107 hl (k := 5) rfl (jx_inc _) (by decide) rfl (fun ls hl => ?_)
                refine lv_goto (tgt := 8) hx hb dX5_reach_110 (by decide) ?_
                have ev_1 : jmStep en wi b n (jmIt (jmStep en wi b n) rd (2 ^ a)) = jmIt (jmStep en wi b n) (rd + 1) (2 ^ a) := by first | rfl | (simp [*]; done)
                exact ih8 (rd + 1) (by omega) (by omega) ls (by rw [← ev_1]; exact lv_sub hl [1, 2, 3, 4, 5, 0] rfl)
              · have c101 : jmStep en wi b n (jmIt (jmStep en wi b n) rd (2 ^ a)) = jmIt (jmStep en wi b n) rd (2 ^ a) := jx_e (by omega) (by omega) c101
                refine lv_iload hx hb dX5_reach_104 (lv_at hl 4 rfl) ?_
                exact hQ (nI (jmStep en wi b n (jmIt (jmStep en wi b n) rd (2 ^ a)))) _ _ dX5_reach_106 (congrArg nI (jmIt_stop c101 (by omega)))
            · have c28 : ln < n := jx_nle (by omega) (by omega) c28
              refine lv_iload_n hx hb dX5_reach_31 rfl (lv_at hl 3 rfl) ?_
              refine lv_iload hx hb dX5_reach_32 (lv_at hl 7 rfl) ?_
              refine lv_ishr hx hb dX5_reach_34 ?_
              refine jx_val (z := (nI (b / 2 ^ ln))) (jx_shr (by omega) (by omega)) ?_
              refine lv_iconst (v := nI 1) hx hb dX5_reach_35 (by decide) ?_
              refine lv_iand hx hb dX5_reach_36 ?_
              refine jx_val (z := (nI (jB (Nat.testBit b ln)))) (jx_b1 _ _) ?_
              refine lv_if_eq (tgt := 57) hx hb dX5_reach_37 (by decide) (fun c37 => ?_) (fun c37 => ?_)
              · have c37 := jB_0 c37
                refine lv_iconst (v := nI 0) hx hb dX5_reach_57 (by decide) ?_
                refine lv_istore (lv' := [(8, .int (nI 0)), (0, .ref (g 0)), (1, .int (nI a)), (2, .int (nI wi)), (3, .int (nI b)), (4, .int (nI (jmStep en wi b ln (jmIt (jmStep en wi b n) rd (2 ^ a))))), (5, .int (nI rd)), (6, .int (nI (jmIt (jmStep en wi b n) rd (2 ^ a)))), (7, .int (nI ln))]) hx hb dX5_reach_58 hl (by decide) rfl (fun ls hl => ?_)
                refine lv_iload hx hb dX5_reach_60 (lv_at hl 0 rfl) ?_
                refine lv_if_eq (tgt := 91) hx hb dX5_reach_62 (by decide) (fun _ => ?_) (fun c => absurd c (by decide))
                refine lv_iinc (v := nI (ln + 1)) (lv' := [(7, .int (nI (ln + 1))), (8, .int (nI 0)), (0, .ref (g 0)), (1, .int (nI a)), (2, .int (nI wi)), (3, .int (nI b)), (4, .int (nI (jmStep en wi b ln (jmIt (jmStep en wi b n) rd (2 ^ a))))), (5, .int (nI rd)), (6, .int (nI (jmIt (jmStep en wi b n) rd (2 ^ a))))]) hx hb dX5_reach_91 hl (k := 8) rfl (jx_inc _) (by decide) rfl (fun ls hl => ?_)
                refine lv_goto (tgt := 22) hx hb dX5_reach_94 (by decide) ?_
                have ev_2 : jmStep en wi b ln (jmIt (jmStep en wi b n) rd (2 ^ a)) = jmStep en wi b (ln + 1) (jmIt (jmStep en wi b n) rd (2 ^ a)) := by first | rfl | (simp [jmStep, c28, c37]; done)
                exact ih22 (ln + 1) (by omega) (by omega) ls (by rw [← ev_2]; exact lv_sub hl [2, 3, 4, 5, 6, 7, 8, 0] rfl)
              · have c37 := jB_1 c37
                refine lv_aload_n hx hb dX5_reach_40 rfl (lv_at hl 0 rfl) ?_
                refine va_get (D := D) (ci := 5) (v := .ref (g 4)) (C := RX5) (T := TX5) (N := 8) hx hb hts in_X5_reach_5 hown hK hP 0 rfl rfl 6 (by decide) (hts (.fieldLink RX5 31 "Twincuts$Web" "ends" "[I") (List.mem_of_getElem? (i := 2) (by decide +kernel))) (fun _ h9 => h9) rfl dX5_reach_41 ?_
                refine lv_iload hx hb dX5_reach_44 (lv_at hl 7 rfl) ?_
                refine jx_iald hx hb hK hP 4 0 rfl rfl (by omega) (by decide) dX5_reach_46 ?_
                refine lv_iload hx hb dX5_reach_47 (lv_at hl 4 rfl) ?_
                refine lv_iand hx hb dX5_reach_49 ?_
                refine jx_val (z := (nI ((en ln) &&& (jmStep en wi b ln (jmIt (jmStep en wi b n) rd (2 ^ a)))))) (fa_and _ _) ?_
                refine lv_if_eq (tgt := 57) hx hb dX5_reach_50 (by decide) (fun c50 => ?_) (fun c50 => ?_)
                · have c50 : (en ln) &&& (jmStep en wi b ln (jmIt (jmStep en wi b n) rd (2 ^ a))) = 0 := jx_z (Nat.lt_of_le_of_lt Nat.and_le_left (by have := hen ln (by omega); omega)) c50
                  refine lv_iconst (v := nI 0) hx hb dX5_reach_57 (by decide) ?_
                  refine lv_istore (lv' := [(8, .int (nI 0)), (0, .ref (g 0)), (1, .int (nI a)), (2, .int (nI wi)), (3, .int (nI b)), (4, .int (nI (jmStep en wi b ln (jmIt (jmStep en wi b n) rd (2 ^ a))))), (5, .int (nI rd)), (6, .int (nI (jmIt (jmStep en wi b n) rd (2 ^ a)))), (7, .int (nI ln))]) hx hb dX5_reach_58 hl (by decide) rfl (fun ls hl => ?_)
                  refine lv_iload hx hb dX5_reach_60 (lv_at hl 0 rfl) ?_
                  refine lv_if_eq (tgt := 91) hx hb dX5_reach_62 (by decide) (fun _ => ?_) (fun c => absurd c (by decide))
                  refine lv_iinc (v := nI (ln + 1)) (lv' := [(7, .int (nI (ln + 1))), (8, .int (nI 0)), (0, .ref (g 0)), (1, .int (nI a)), (2, .int (nI wi)), (3, .int (nI b)), (4, .int (nI (jmStep en wi b ln (jmIt (jmStep en wi b n) rd (2 ^ a))))), (5, .int (nI rd)), (6, .int (nI (jmIt (jmStep en wi b n) rd (2 ^ a))))]) hx hb dX5_reach_91 hl (k := 8) rfl (jx_inc _) (by decide) rfl (fun ls hl => ?_)
                  refine lv_goto (tgt := 22) hx hb dX5_reach_94 (by decide) ?_
                  have ev_3 : jmStep en wi b ln (jmIt (jmStep en wi b n) rd (2 ^ a)) = jmStep en wi b (ln + 1) (jmIt (jmStep en wi b n) rd (2 ^ a)) := by first | rfl | (simp [jmStep, c28, c37, c50]; done)
                  exact ih22 (ln + 1) (by omega) (by omega) ls (by rw [← ev_3]; exact lv_sub hl [2, 3, 4, 5, 6, 7, 8, 0] rfl)
                · have c50 : (en ln) &&& (jmStep en wi b ln (jmIt (jmStep en wi b n) rd (2 ^ a))) ≠ 0 := jx_nz c50
                  refine lv_iconst (v := nI 1) hx hb dX5_reach_53 (by decide) ?_
                  refine lv_goto (tgt := 58) hx hb dX5_reach_54 (by decide) ?_
                  refine lv_istore (lv' := [(8, .int (nI 1)), (0, .ref (g 0)), (1, .int (nI a)), (2, .int (nI wi)), (3, .int (nI b)), (4, .int (nI (jmStep en wi b ln (jmIt (jmStep en wi b n) rd (2 ^ a))))), (5, .int (nI rd)), (6, .int (nI (jmIt (jmStep en wi b n) rd (2 ^ a)))), (7, .int (nI ln))]) hx hb dX5_reach_58 hl (by decide) rfl (fun ls hl => ?_)
                  refine lv_iload hx hb dX5_reach_60 (lv_at hl 0 rfl) ?_
                  refine lv_if_eq (tgt := 91) hx hb dX5_reach_62 (by decide) (fun c => absurd c (by decide)) (fun _ => ?_)
                  refine lv_aload_n hx hb dX5_reach_65 rfl (lv_at hl 1 rfl) ?_
                  refine va_get (D := D) (ci := 5) (v := .ref (g 4)) (C := RX5) (T := TX5) (N := 8) hx hb hts in_X5_reach_5 hown hK hP 0 rfl rfl 6 (by decide) (hts (.fieldLink RX5 31 "Twincuts$Web" "ends" "[I") (List.mem_of_getElem? (i := 2) (by decide +kernel))) (fun _ h9 => h9) rfl dX5_reach_66 ?_
                  refine lv_iload hx hb dX5_reach_69 (lv_at hl 8 rfl) ?_
                  refine jx_iald hx hb hK hP 4 0 rfl rfl (by omega) (by decide) dX5_reach_71 ?_
                  refine lv_iload_n hx hb dX5_reach_72 rfl (lv_at hl 3 rfl) ?_
                  refine lv_iconst (v := (-1)) hx hb dX5_reach_73 (by decide) ?_
                  refine lv_ixor hx hb dX5_reach_74 ?_
                  refine lv_iand hx hb dX5_reach_75 ?_
                  refine jx_val (z := (nI (jxAN (en ln) wi))) (jx_not _ _) ?_
                  refine lv_if_ne (tgt := 91) hx hb dX5_reach_76 (by decide) (fun c76 => ?_) (fun c76 => ?_)
                  · have c76 : jxAN (en ln) wi ≠ 0 := jx_nz c76
                    refine lv_iinc (v := nI (ln + 1)) (lv' := [(7, .int (nI (ln + 1))), (8, .int (nI 1)), (0, .ref (g 0)), (1, .int (nI a)), (2, .int (nI wi)), (3, .int (nI b)), (4, .int (nI (jmStep en wi b ln (jmIt (jmStep en wi b n) rd (2 ^ a))))), (5, .int (nI rd)), (6, .int (nI (jmIt (jmStep en wi b n) rd (2 ^ a))))]) hx hb dX5_reach_91 hl (k := 8) rfl (jx_inc _) (by decide) rfl (fun ls hl => ?_)
                    refine lv_goto (tgt := 22) hx hb dX5_reach_94 (by decide) ?_
                    have ev_4 : jmStep en wi b ln (jmIt (jmStep en wi b n) rd (2 ^ a)) = jmStep en wi b (ln + 1) (jmIt (jmStep en wi b n) rd (2 ^ a)) := by first | rfl | (simp [jmStep, c28, c37, c50, c76]; done)
                    exact ih22 (ln + 1) (by omega) (by omega) ls (by rw [← ev_4]; exact lv_sub hl [2, 3, 4, 5, 6, 7, 8, 0] rfl)
                  · have c76 : jxAN (en ln) wi = 0 := jx_z (jxAN_lt (by have := hen ln (by omega); omega)) c76
                    refine lv_iload hx hb dX5_reach_79 (lv_at hl 5 rfl) ?_
                    refine lv_aload_n hx hb dX5_reach_81 rfl (lv_at hl 1 rfl) ?_
                    refine va_get (D := D) (ci := 5) (v := .ref (g 4)) (C := RX5) (T := TX5) (N := 8) hx hb hts in_X5_reach_5 hown hK hP 0 rfl rfl 6 (by decide) (hts (.fieldLink RX5 31 "Twincuts$Web" "ends" "[I") (List.mem_of_getElem? (i := 2) (by decide +kernel))) (fun _ h9 => h9) rfl dX5_reach_82 ?_
                    refine lv_iload hx hb dX5_reach_85 (lv_at hl 8 rfl) ?_
                    refine jx_iald hx hb hK hP 4 0 rfl rfl (by omega) (by decide) dX5_reach_87 ?_
                    refine lv_ior hx hb dX5_reach_88 ?_
                    refine jx_val (z := (nI ((jmStep en wi b ln (jmIt (jmStep en wi b n) rd (2 ^ a))) ||| (en ln)))) (fa_or _ _) ?_
                    refine lv_istore (lv' := [(4, .int (nI ((jmStep en wi b ln (jmIt (jmStep en wi b n) rd (2 ^ a))) ||| (en ln)))), (8, .int (nI 1)), (0, .ref (g 0)), (1, .int (nI a)), (2, .int (nI wi)), (3, .int (nI b)), (5, .int (nI rd)), (6, .int (nI (jmIt (jmStep en wi b n) rd (2 ^ a)))), (7, .int (nI ln))]) hx hb dX5_reach_89 hl (by decide) rfl (fun ls hl => ?_)
                    refine lv_iinc (v := nI (ln + 1)) (lv' := [(7, .int (nI (ln + 1))), (4, .int (nI ((jmStep en wi b ln (jmIt (jmStep en wi b n) rd (2 ^ a))) ||| (en ln)))), (8, .int (nI 1)), (0, .ref (g 0)), (1, .int (nI a)), (2, .int (nI wi)), (3, .int (nI b)), (5, .int (nI rd)), (6, .int (nI (jmIt (jmStep en wi b n) rd (2 ^ a))))]) hx hb dX5_reach_91 hl (k := 8) rfl (jx_inc _) (by decide) rfl (fun ls hl => ?_)
                    refine lv_goto (tgt := 22) hx hb dX5_reach_94 (by decide) ?_
                    have ev_5 : (jmStep en wi b ln (jmIt (jmStep en wi b n) rd (2 ^ a))) ||| (en ln) = jmStep en wi b (ln + 1) (jmIt (jmStep en wi b n) rd (2 ^ a)) := by first | rfl | (simp [jmStep, c28, c37, c50, c76]; done)
                    exact ih22 (ln + 1) (by omega) (by omega) ls (by rw [← ev_5]; exact lv_sub hl [3, 4, 5, 6, 1, 7, 8, 0] rfl)
        have ev_6 : jmIt (jmStep en wi b n) rd (2 ^ a) = jmStep en wi b 0 (jmIt (jmStep en wi b n) rd (2 ^ a)) := by first | rfl | (simp [jmStep, c12]; done)
        exact L22 ((n - 0) + 1) 0 (by omega) (Nat.lt_succ_self _) ls (by rw [← ev_6]; exact lv_sub hl [2, 3, 4, 5, 6, 7, 1, 0] rfl)
  have ev_7 : 2 ^ a = jmIt (jmStep en wi b n) 0 (2 ^ a) := by first | rfl | (simp [*]; done)
  exact L8 ((8 - 0) + 1) 0 (by omega) (Nat.lt_succ_self _) ls (by rw [← ev_7]; exact lv_sub hl [2, 3, 4, 5, 1, 0] rfl)
set_option maxRecDepth 20000 in
theorem in_X5_countParts_5 : ∀ w ∈ wsX50, w ∈ wsX5_countParts := by decide +kernel
set_option maxHeartbeats 4000000 in
set_option maxRecDepth 100000 in
/-- countParts(within, by) -/
theorem c_X5_countParts (l : Launch) (D : va_G) (cI : ClassId) (g : Nat → Nat) (P n st : Nat) (sm gr co en la : Nat → Nat) (hw : jmWF P n st sm gr co en la) (wi b : Nat) (hwi : wi < 65536) (hb16 : b < 65536) : jxRO l yX5_countParts wsX5_countParts ({ frames := 1, cells := 0, slots := 0, locals := 28 } : Room) D [(cI, .int)] (jW cI g P n st sm gr co en la) [.ref (g 0), .int (nI wi), .int (nI b)] (fun r => r = nI (jmCPc en wi b n P)) := by
  refine jx_enter (by decide) rfl (Nat.le_of_ble_eq_true rfl) ?_
  intro p e s m args below meth c Q ls hx hb hml hts hown hN hP hK hl hQ
  have hown : s.vm.findClass RX5 = some m.cls := hown
  have hl : lv_has ls 6 [(0, .ref (g 0)), (1, .int (nI wi)), (2, .int (nI b))] := hl
  have hP8 : P ≤ 8 := hw.1
  have hn16 : n ≤ 16 := hw.2.1
  have hst : st < 65536 := jmWF_st hw
  have hen : ∀ j, j < n → en j < 256 := jmWF_en hw
  have hla : ∀ q, q < P → la q < 65536 := jmWF_la hw
  have hgr : ∀ j, j < n → sm j < 8 ∧ gr j < 8 := jmWF_gr hw
  have hco : ∀ j, j < n → co j < 21 := jmWF_co hw
  refine lv_iconst (v := nI 0) hx hb dX5_countParts_0 (by decide) ?_
  refine lv_istore_n (lv' := [(3, .int (nI 0)), (0, .ref (g 0)), (1, .int (nI wi)), (2, .int (nI b))]) hx hb dX5_countParts_1 rfl hl (by decide) rfl (fun ls hl => ?_)
  refine lv_iconst (v := nI 0) hx hb dX5_countParts_2 (by decide) ?_
  refine lv_istore (lv' := [(4, .int (nI 0)), (3, .int (nI 0)), (0, .ref (g 0)), (1, .int (nI wi)), (2, .int (nI b))]) hx hb dX5_countParts_3 hl (by decide) rfl (fun ls hl => ?_)
  refine lv_iconst (v := nI 0) hx hb dX5_countParts_5 (by decide) ?_
  refine lv_istore (lv' := [(5, .int (nI 0)), (4, .int (nI 0)), (3, .int (nI 0)), (0, .ref (g 0)), (1, .int (nI wi)), (2, .int (nI b))]) hx hb dX5_countParts_6 hl (by decide) rfl (fun ls hl => ?_)
  have L8 : ∀ (k : Nat) (q : Nat) (hq : q ≤ P), P - q < k → ∀ ls : Array Slot, lv_has ls 6 [(0, .ref (g 0)), (1, .int (nI wi)), (2, .int (nI b)), (3, .int (nI (jmCPc en wi b n q))), (4, .int (nI (jmCPm en wi b n q))), (5, .int (nI q))] → W p l e ({ frames := 1, cells := 0, slots := 0, locals := 28 } : Room) s m args below meth c s.heap [] 0 0 Q (F0 m 8 ls []) := by
    intro k
    induction k with
    | zero => intro q hq hk; exact absurd hk (Nat.not_lt_zero _)
    | succ k ih8 =>
      intro q hq hk ls hl
      have hM := jmCPm_lt (wi := wi) (b := b) hen (k := q) (by omega)
      refine lv_iload hx hb dX5_countParts_8 (lv_at hl 5 rfl) ?_
      refine lv_aload_n hx hb dX5_countParts_10 rfl (lv_at hl 0 rfl) ?_
      refine va_get (D := D) (ci := 5) (v := .int (nI P)) (C := RX5) (T := TX5) (N := 8) hx hb hts in_X5_countParts_5 hown hK hP 0 rfl rfl 0 (by decide) (hts (.fieldLink RX5 9 "Twincuts$Web" "points" "I") (List.mem_of_getElem? (i := 1) (by decide +kernel))) (fun _ h9 => h9) rfl dX5_countParts_11 ?_
      refine lv_icmp_ge (tgt := 53) hx hb dX5_countParts_14 (by decide) (fun c14 => ?_) (fun c14 => ?_)
      · have c14 : P ≤ q := jx_le (by omega) (by omega) c14
        have es_53 : P = q := (by omega)
        subst es_53
        refine lv_iload_n hx hb dX5_countParts_53 rfl (lv_at hl 3 rfl) ?_
        exact hQ (nI (jmCPc en wi b n P)) _ _ dX5_countParts_54 rfl
      · have c14 : q < P := jx_nle (by omega) (by omega) c14
        refine lv_iload_n hx hb dX5_countParts_17 rfl (lv_at hl 1 rfl) ?_
        refine lv_iload hx hb dX5_countParts_18 (lv_at hl 4 rfl) ?_
        refine lv_iconst (v := (-1)) hx hb dX5_countParts_20 (by decide) ?_
        refine lv_ixor hx hb dX5_countParts_21 ?_
        refine lv_iand hx hb dX5_countParts_22 ?_
        refine jx_val (z := (nI (jxAN wi (jmCPm en wi b n q)))) (jx_not _ _) ?_
        refine lv_iload hx hb dX5_countParts_23 (lv_at hl 5 rfl) ?_
        refine jx_callSN (As := [.int (nI (jxAN wi (jmCPm en wi b n q))), .int (nI q)]) (rest := []) ⟨hx, hb, hml, hown, hts⟩ (c_X6_has l D (jxAN wi (jmCPm en wi b n q)) q (jxAN_lt (by omega)) (by omega)) (va_cnB 2 hts gX5_countParts_X6_has_n37 rfl rfl rfl (hN.get 40 rfl) (hts (.initialized RX6) (List.mem_of_getElem? (i := 3) (by decide +kernel))) (by decide +kernel) ⟨Nat.le_of_ble_eq_true rfl, Nat.le_of_ble_eq_true rfl⟩) (hts (.static yX6_has) (List.mem_of_getElem? (i := 2) (by decide +kernel))) hN (hP.sub (ws' := []) [] rfl) (hK.sub (tys' := []) [] rfl) rfl hl.1 rfl (Nat.le_of_ble_eq_true rfl) dX5_countParts_25 ⟨Nat.zero_le _, Nat.zero_le _⟩ (fun r hr => ?_)
        subst hr
        refine lv_if_eq (tgt := 47) hx hb dX5_countParts_28 (by decide) (fun c28 => ?_) (fun c28 => ?_)
        · have c28 := jB_0 c28
          refine lv_iinc (v := nI (q + 1)) (lv' := [(5, .int (nI (q + 1))), (0, .ref (g 0)), (1, .int (nI wi)), (2, .int (nI b)), (3, .int (nI (jmCPc en wi b n q))), (4, .int (nI (jmCPm en wi b n q)))]) hx hb dX5_countParts_47 hl (k := 5) rfl (jx_inc _) (by decide) rfl (fun ls hl => ?_)
          refine lv_goto (tgt := 8) hx hb dX5_countParts_50 (by decide) ?_
          have ev_1 : jmCPc en wi b n q = jmCPc en wi b n (q + 1) := by first | rfl | (simp [jmCPm, jmCPc, c14, c28]; done)
          have ev_2 : jmCPm en wi b n q = jmCPm en wi b n (q + 1) := by first | rfl | (simp [jmCPm, jmCPc, c14, c28]; done)
          exact ih8 (q + 1) (by omega) (by omega) ls (by rw [← ev_1, ← ev_2]; exact lv_sub hl [1, 2, 3, 4, 5, 0] rfl)
        · have c28 := jB_1 c28
          refine lv_iload hx hb dX5_countParts_31 (lv_at hl 4 rfl) ?_
          refine lv_aload_n hx hb dX5_countParts_33 rfl (lv_at hl 0 rfl) ?_
          refine lv_iload hx hb dX5_countParts_34 (lv_at hl 5 rfl) ?_
          refine lv_iload_n hx hb dX5_countParts_36 rfl (lv_at hl 1 rfl) ?_
          refine lv_iload_n hx hb dX5_countParts_37 rfl (lv_at hl 2 rfl) ?_
          refine jx_callV (As := [.int (nI q), .int (nI wi), .int (nI b)]) (rest := [.int (nI (jmCPm en wi b n q))]) ⟨hx, hb, hml, hown, hts⟩ (c_X5_reach l D cI g P n st sm gr co en la hw q wi b (by omega) (by omega) (by omega)) (cwV 3 hts gX5_countParts_X5_reach rfl rfl rfl (by decide +kernel) ⟨Nat.le_of_ble_eq_true rfl, Nat.le_of_ble_eq_true rfl⟩) hN hP hK 0 5 rfl rfl rfl rfl hl.1 rfl (Nat.le_of_ble_eq_true rfl) dX5_countParts_38 ⟨Nat.zero_le _, Nat.zero_le _⟩ (fun r hr => ?_)
          subst hr
          refine lv_ior hx hb dX5_countParts_41 ?_
          refine jx_val (z := (nI ((jmCPm en wi b n q) ||| (jmReach en wi b n q)))) (fa_or _ _) ?_
          refine lv_istore (lv' := [(4, .int (nI ((jmCPm en wi b n q) ||| (jmReach en wi b n q)))), (0, .ref (g 0)), (1, .int (nI wi)), (2, .int (nI b)), (3, .int (nI (jmCPc en wi b n q))), (5, .int (nI q))]) hx hb dX5_countParts_42 hl (by decide) rfl (fun ls hl => ?_)
          refine lv_iinc (v := nI (jmCPc en wi b n q + 1)) (lv' := [(3, .int (nI (jmCPc en wi b n q + 1))), (4, .int (nI ((jmCPm en wi b n q) ||| (jmReach en wi b n q)))), (0, .ref (g 0)), (1, .int (nI wi)), (2, .int (nI b)), (5, .int (nI q))]) hx hb dX5_countParts_44 hl (k := 4) rfl (jx_inc _) (by decide) rfl (fun ls hl => ?_)
          refine lv_iinc (v := nI (q + 1)) (lv' := [(5, .int (nI (q + 1))), (3, .int (nI (jmCPc en wi b n q + 1))), (4, .int (nI ((jmCPm en wi b n q) ||| (jmReach en wi b n q)))), (0, .ref (g 0)), (1, .int (nI wi)), (2, .int (nI b))]) hx hb dX5_countParts_47 hl (k := 5) rfl (jx_inc _) (by decide) rfl (fun ls hl => ?_)
          refine lv_goto (tgt := 8) hx hb dX5_countParts_50 (by decide) ?_
          have ev_3 : jmCPc en wi b n q + 1 = jmCPc en wi b n (q + 1) := by first | rfl | (simp [jmCPm, jmCPc, c14, c28]; done)
          have ev_4 : (jmCPm en wi b n q) ||| (jmReach en wi b n q) = jmCPm en wi b n (q + 1) := by first | rfl | (simp [jmCPm, jmCPc, c14, c28]; done)
          exact ih8 (q + 1) (by omega) (by omega) ls (by rw [← ev_3, ← ev_4]; exact lv_sub hl [3, 4, 5, 1, 2, 0] rfl)
  have ev_5 : 0 = jmCPc en wi b n 0 := by first | rfl | (simp [jmCPm, jmCPc, if_true]; done)
  have ev_6 : 0 = jmCPm en wi b n 0 := by first | rfl | (simp [jmCPm, jmCPc, if_true]; done)
  exact L8 ((P - 0) + 1) 0 (by omega) (Nat.lt_succ_self _) ls (by rw [← ev_5, ← ev_6]; exact lv_sub hl [3, 4, 5, 2, 1, 0] rfl)
set_option maxRecDepth 20000 in
theorem in_X5_linkedWithAny_5 : ∀ w ∈ wsX50, w ∈ wsX5_linkedWithAny := by decide +kernel
set_option maxHeartbeats 4000000 in
set_option maxRecDepth 100000 in
/-- linkedWithAny(set) -/
theorem c_X5_linkedWithAny (l : Launch) (D : va_G) (cI : ClassId) (g : Nat → Nat) (P n st : Nat) (sm gr co en la : Nat → Nat) (hw : jmWF P n st sm gr co en la) (S : Nat) (hS : S < 65536) : jxRO l yX5_linkedWithAny wsX5_linkedWithAny ({ frames := 2, cells := 0, slots := 0, locals := 44 } : Room) D [(cI, .int)] (jW cI g P n st sm gr co en la) [.ref (g 0), .int (nI S)] (fun r => r = nI (jmLA en la st n S P)) := by
  refine jx_enter (by decide) rfl (Nat.le_of_ble_eq_true rfl) ?_
  intro p e s m args below meth c Q ls hx hb hml hts hown hN hP hK hl hQ
  have hown : s.vm.findClass RX5 = some m.cls := hown
  have hl : lv_has ls 4 [(0, .ref (g 0)), (1, .int (nI S))] := hl
  have hP8 : P ≤ 8 := hw.1
  have hn16 : n ≤ 16 := hw.2.1
  have hst : st < 65536 := jmWF_st hw
  have hen : ∀ j, j < n → en j < 256 := jmWF_en hw
  have hla : ∀ q, q < P → la q < 65536 := jmWF_la hw
  have hgr : ∀ j, j < n → sm j < 8 ∧ gr j < 8 := jmWF_gr hw
  have hco : ∀ j, j < n → co j < 21 := jmWF_co hw
  refine lv_iconst (v := nI 0) hx hb dX5_linkedWithAny_0 (by decide) ?_
  refine lv_istore_n (lv' := [(2, .int (nI 0)), (0, .ref (g 0)), (1, .int (nI S))]) hx hb dX5_linkedWithAny_1 rfl hl (by decide) rfl (fun ls hl => ?_)
  refine lv_iconst (v := nI 0) hx hb dX5_linkedWithAny_2 (by decide) ?_
  refine lv_istore_n (lv' := [(3, .int (nI 0)), (2, .int (nI 0)), (0, .ref (g 0)), (1, .int (nI S))]) hx hb dX5_linkedWithAny_3 rfl hl (by decide) rfl (fun ls hl => ?_)
  have L4 : ∀ (k : Nat) (q : Nat) (hq : q ≤ P), P - q < k → ∀ ls : Array Slot, lv_has ls 4 [(0, .ref (g 0)), (1, .int (nI S)), (2, .int (nI (jmLA en la st n S q))), (3, .int (nI q))] → W p l e ({ frames := 2, cells := 0, slots := 0, locals := 44 } : Room) s m args below meth c s.heap [] 0 0 Q (F0 m 4 ls []) := by
    intro k
    induction k with
    | zero => intro q hq hk; exact absurd hk (Nat.not_lt_zero _)
    | succ k ih4 =>
      intro q hq hk ls hl
      refine lv_iload_n hx hb dX5_linkedWithAny_4 rfl (lv_at hl 3 rfl) ?_
      refine lv_aload_n hx hb dX5_linkedWithAny_5 rfl (lv_at hl 0 rfl) ?_
      refine va_get (D := D) (ci := 5) (v := .int (nI P)) (C := RX5) (T := TX5) (N := 8) hx hb hts in_X5_linkedWithAny_5 hown hK hP 0 rfl rfl 0 (by decide) (hts (.fieldLink RX5 9 "Twincuts$Web" "points" "I") (List.mem_of_getElem? (i := 1) (by decide +kernel))) (fun _ h9 => h9) rfl dX5_linkedWithAny_6 ?_
      refine lv_icmp_ge (tgt := 34) hx hb dX5_linkedWithAny_9 (by decide) (fun c9 => ?_) (fun c9 => ?_)
      · have c9 : P ≤ q := jx_le (by omega) (by omega) c9
        have es_34 : P = q := (by omega)
        subst es_34
        refine lv_iload_n hx hb dX5_linkedWithAny_34 rfl (lv_at hl 2 rfl) ?_
        exact hQ (nI (jmLA en la st n S P)) _ _ dX5_linkedWithAny_35 rfl
      · have c9 : q < P := jx_nle (by omega) (by omega) c9
        refine lv_iload_n hx hb dX5_linkedWithAny_12 rfl (lv_at hl 1 rfl) ?_
        refine lv_iload_n hx hb dX5_linkedWithAny_13 rfl (lv_at hl 3 rfl) ?_
        refine jx_callSN (As := [.int (nI S), .int (nI q)]) (rest := []) ⟨hx, hb, hml, hown, hts⟩ (c_X6_has l D S q (by omega) (by omega)) (va_cnB 2 hts gX5_linkedWithAny_X6_has_n37 rfl rfl rfl (hN.get 40 rfl) (hts (.initialized RX6) (List.mem_of_getElem? (i := 3) (by decide +kernel))) (by decide +kernel) ⟨Nat.le_of_ble_eq_true rfl, Nat.le_of_ble_eq_true rfl⟩) (hts (.static yX6_has) (List.mem_of_getElem? (i := 2) (by decide +kernel))) hN (hP.sub (ws' := []) [] rfl) (hK.sub (tys' := []) [] rfl) rfl hl.1 rfl (Nat.le_of_ble_eq_true rfl) dX5_linkedWithAny_14 ⟨Nat.zero_le _, Nat.zero_le _⟩ (fun r hr => ?_)
        subst hr
        refine lv_if_eq (tgt := 28) hx hb dX5_linkedWithAny_17 (by decide) (fun c17 => ?_) (fun c17 => ?_)
        · have c17 := jB_0 c17
          refine lv_iinc (v := nI (q + 1)) (lv' := [(3, .int (nI (q + 1))), (0, .ref (g 0)), (1, .int (nI S)), (2, .int (nI (jmLA en la st n S q)))]) hx hb dX5_linkedWithAny_28 hl (k := 3) rfl (jx_inc _) (by decide) rfl (fun ls hl => ?_)
          refine lv_goto (tgt := 4) hx hb dX5_linkedWithAny_31 (by decide) ?_
          have ev_1 : jmLA en la st n S q = jmLA en la st n S (q + 1) := by first | rfl | (simp [jmLA, c9, c17]; done)
          exact ih4 (q + 1) (by omega) (by omega) ls (by rw [← ev_1]; exact lv_sub hl [1, 2, 3, 0] rfl)
        · have c17 := jB_1 c17
          refine lv_iload_n hx hb dX5_linkedWithAny_20 rfl (lv_at hl 2 rfl) ?_
          refine lv_aload_n hx hb dX5_linkedWithAny_21 rfl (lv_at hl 0 rfl) ?_
          refine lv_iload_n hx hb dX5_linkedWithAny_22 rfl (lv_at hl 3 rfl) ?_
          refine jx_callV (As := [.int (nI q)]) (rest := [.int (nI (jmLA en la st n S q))]) ⟨hx, hb, hml, hown, hts⟩ (c_X5_linkedWith l D cI g P n st sm gr co en la hw q (by omega)) (cwV 1 hts gX5_linkedWithAny_X5_linkedWith rfl rfl rfl (by decide +kernel) ⟨Nat.le_of_ble_eq_true rfl, Nat.le_of_ble_eq_true rfl⟩) hN hP hK 0 5 rfl rfl rfl rfl hl.1 rfl (Nat.le_of_ble_eq_true rfl) dX5_linkedWithAny_23 ⟨Nat.zero_le _, Nat.zero_le _⟩ (fun r hr => ?_)
          subst hr
          refine lv_ior hx hb dX5_linkedWithAny_26 ?_
          refine jx_val (z := (nI ((jmLA en la st n S q) ||| (jmLinked en la st n q)))) (fa_or _ _) ?_
          refine lv_istore_n (lv' := [(2, .int (nI ((jmLA en la st n S q) ||| (jmLinked en la st n q)))), (0, .ref (g 0)), (1, .int (nI S)), (3, .int (nI q))]) hx hb dX5_linkedWithAny_27 rfl hl (by decide) rfl (fun ls hl => ?_)
          refine lv_iinc (v := nI (q + 1)) (lv' := [(3, .int (nI (q + 1))), (2, .int (nI ((jmLA en la st n S q) ||| (jmLinked en la st n q)))), (0, .ref (g 0)), (1, .int (nI S))]) hx hb dX5_linkedWithAny_28 hl (k := 3) rfl (jx_inc _) (by decide) rfl (fun ls hl => ?_)
          refine lv_goto (tgt := 4) hx hb dX5_linkedWithAny_31 (by decide) ?_
          have ev_2 : (jmLA en la st n S q) ||| (jmLinked en la st n q) = jmLA en la st n S (q + 1) := by first | rfl | (simp [jmLA, c9, c17]; done)
          exact ih4 (q + 1) (by omega) (by omega) ls (by rw [← ev_2]; exact lv_sub hl [2, 3, 1, 0] rfl)
  have ev_3 : 0 = jmLA en la st n S 0 := by first | rfl | (simp [jmLA, if_true]; done)
  exact L4 ((P - 0) + 1) 0 (by omega) (Nat.lt_succ_self _) ls (by rw [← ev_3]; exact lv_sub hl [2, 3, 1, 0] rfl)
set_option maxRecDepth 20000 in
theorem in_X5_distance_5 : ∀ w ∈ wsX50, w ∈ wsX5_distance := by decide +kernel
set_option maxHeartbeats 4000000 in
set_option maxRecDepth 100000 in
/-- distance(one, other) -/
theorem c_X5_distance (l : Launch) (D : va_G) (cI : ClassId) (g : Nat → Nat) (P n st : Nat) (sm gr co en la : Nat → Nat) (hw : jmWF P n st sm gr co en la) (a o : Nat) (ha : a < 8) (ho : o < 8) : jxRO l yX5_distance wsX5_distance ({ frames := 3, cells := 0, slots := 0, locals := 67 } : Room) D [(cI, .int)] (jW cI g P n st sm gr co en la) [.ref (g 0), .int (nI a), .int (nI o)] (fun r => r = jmDist en la P st n a o) := by
  refine jx_enter (by decide) rfl (Nat.le_of_ble_eq_true rfl) ?_
  intro p e s m args below meth c Q ls hx hb hml hts hown hN hP hK hl hQ
  have hown : s.vm.findClass RX5 = some m.cls := hown
  have hl : lv_has ls 5 [(0, .ref (g 0)), (1, .int (nI a)), (2, .int (nI o))] := hl
  have hP8 : P ≤ 8 := hw.1
  have hn16 : n ≤ 16 := hw.2.1
  have hst : st < 65536 := jmWF_st hw
  have hen : ∀ j, j < n → en j < 256 := jmWF_en hw
  have hla : ∀ q, q < P → la q < 65536 := jmWF_la hw
  have hgr : ∀ j, j < n → sm j < 8 ∧ gr j < 8 := jmWF_gr hw
  have hco : ∀ j, j < n → co j < 21 := jmWF_co hw
  refine lv_iconst (v := nI 1) hx hb dX5_distance_0 (by decide) ?_
  refine lv_iload_n hx hb dX5_distance_1 rfl (lv_at hl 1 rfl) ?_
  refine lv_ishl hx hb dX5_distance_2 ?_
  refine jx_val (z := (nI (2 ^ a))) (jx_1shl (by omega)) ?_
  refine lv_istore_n (lv' := [(3, .int (nI (2 ^ a))), (0, .ref (g 0)), (1, .int (nI a)), (2, .int (nI o))]) hx hb dX5_distance_3 rfl hl (by decide) rfl (fun ls hl => ?_)
  refine lv_iconst (v := nI 0) hx hb dX5_distance_4 (by decide) ?_
  refine lv_istore (lv' := [(4, .int (nI 0)), (3, .int (nI (2 ^ a))), (0, .ref (g 0)), (1, .int (nI a)), (2, .int (nI o))]) hx hb dX5_distance_5 hl (by decide) rfl (fun ls hl => ?_)
  have L7 : ∀ (k : Nat) (k1 : Nat) (hk1 : k1 ≤ 8) (hd : jmDist en la P st n a o = jmFirst (jmWithin en la P st n a) o (8 - k1) k1), 8 - k1 < k → ∀ ls : Array Slot, lv_has ls 5 [(0, .ref (g 0)), (1, .int (nI a)), (2, .int (nI o)), (3, .int (nI (jmWithin en la P st n a k1))), (4, .int (nI k1))] → W p l e ({ frames := 3, cells := 0, slots := 0, locals := 67 } : Room) s m args below meth c s.heap [] 0 0 Q (F0 m 7 ls []) := by
    intro k
    induction k with
    | zero => intro k1 hk1 hd hk; exact absurd hk (Nat.not_lt_zero _)
    | succ k ih7 =>
      intro k1 hk1 hd hk ls hl
      have hM := jmWithin_lt (la := la) (P := P) (st := st) ha hen k1
      refine lv_iload hx hb dX5_distance_7 (lv_at hl 4 rfl) ?_
      refine lv_bipush (v := nI 8) hx hb dX5_distance_9 (by decide) ?_
      refine lv_icmp_ge (tgt := 39) hx hb dX5_distance_11 (by decide) (fun c11 => ?_) (fun c11 => ?_)
      · have c11 : 8 ≤ k1 := jx_le (by decide) (by omega) c11
        refine lv_iconst (v := (-1)) hx hb dX5_distance_39 (by decide) ?_
        exact hQ (-1 : Int32) _ _ dX5_distance_40 (by rw [hd, show k1 = 8 by omega]; rfl)
      · have c11 : k1 < 8 := jx_nle (by decide) (by omega) c11
        refine lv_iload_n hx hb dX5_distance_14 rfl (lv_at hl 3 rfl) ?_
        refine lv_iload_n hx hb dX5_distance_15 rfl (lv_at hl 2 rfl) ?_
        refine jx_callSN (As := [.int (nI (jmWithin en la P st n a k1)), .int (nI o)]) (rest := []) ⟨hx, hb, hml, hown, hts⟩ (c_X6_has l D (jmWithin en la P st n a k1) o (by omega) (by omega)) (va_cnB 2 hts gX5_distance_X6_has_n37 rfl rfl rfl (hN.get 40 rfl) (hts (.initialized RX6) (List.mem_of_getElem? (i := 2) (by decide +kernel))) (by decide +kernel) ⟨Nat.le_of_ble_eq_true rfl, Nat.le_of_ble_eq_true rfl⟩) (hts (.static yX6_has) (List.mem_of_getElem? (i := 1) (by decide +kernel))) hN (hP.sub (ws' := []) [] rfl) (hK.sub (tys' := []) [] rfl) rfl hl.1 rfl (Nat.le_of_ble_eq_true rfl) dX5_distance_16 ⟨Nat.zero_le _, Nat.zero_le _⟩ (fun r hr => ?_)
        subst hr
        refine lv_if_eq (tgt := 25) hx hb dX5_distance_19 (by decide) (fun c19 => ?_) (fun c19 => ?_)
        · have c19 := jB_0 c19
          refine lv_iload_n hx hb dX5_distance_25 rfl (lv_at hl 3 rfl) ?_
          refine lv_aload_n hx hb dX5_distance_26 rfl (lv_at hl 0 rfl) ?_
          refine lv_iload_n hx hb dX5_distance_27 rfl (lv_at hl 3 rfl) ?_
          refine jx_callV (As := [.int (nI (jmWithin en la P st n a k1))]) (rest := [.int (nI (jmWithin en la P st n a k1))]) ⟨hx, hb, hml, hown, hts⟩ (c_X5_linkedWithAny l D cI g P n st sm gr co en la hw (jmWithin en la P st n a k1) (by omega)) (cwV 1 hts gX5_distance_X5_linkedWithAny rfl rfl rfl (by decide +kernel) ⟨Nat.le_of_ble_eq_true rfl, Nat.le_of_ble_eq_true rfl⟩) hN hP hK 0 5 rfl rfl rfl rfl hl.1 rfl (Nat.le_of_ble_eq_true rfl) dX5_distance_28 ⟨Nat.zero_le _, Nat.zero_le _⟩ (fun r hr => ?_)
          subst hr
          refine lv_ior hx hb dX5_distance_31 ?_
          refine jx_val (z := (nI ((jmWithin en la P st n a k1) ||| (jmLA en la st n (jmWithin en la P st n a k1) P)))) (fa_or _ _) ?_
          refine lv_istore_n (lv' := [(3, .int (nI ((jmWithin en la P st n a k1) ||| (jmLA en la st n (jmWithin en la P st n a k1) P)))), (0, .ref (g 0)), (1, .int (nI a)), (2, .int (nI o)), (4, .int (nI k1))]) hx hb dX5_distance_32 rfl hl (by decide) rfl (fun ls hl => ?_)
          refine lv_iinc (v := nI (k1 + 1)) (lv' := [(4, .int (nI (k1 + 1))), (3, .int (nI ((jmWithin en la P st n a k1) ||| (jmLA en la st n (jmWithin en la P st n a k1) P)))), (0, .ref (g 0)), (1, .int (nI a)), (2, .int (nI o))]) hx hb dX5_distance_33 hl (k := 4) rfl (jx_inc _) (by decide) rfl (fun ls hl => ?_)
          refine lv_goto (tgt := 7) hx hb dX5_distance_36 (by decide) ?_
          have ev_1 : (jmWithin en la P st n a k1) ||| (jmLA en la st n (jmWithin en la P st n a k1) P) = jmWithin en la P st n a (k1 + 1) := by first | rfl | (simp [jmWithin, jmIt, c11, c19]; done)
          exact ih7 (k1 + 1) (by omega) (by rw [hd, show 8 - k1 = (8 - (k1 + 1)) + 1 by omega]; simp [jmFirst, c11, c19]) (by omega) ls (by rw [← ev_1]; exact lv_sub hl [2, 3, 4, 1, 0] rfl)
        · have c19 := jB_1 c19
          refine lv_iload hx hb dX5_distance_22 (lv_at hl 4 rfl) ?_
          exact hQ (nI k1) _ _ dX5_distance_24 (by rw [hd, show 8 - k1 = (8 - (k1 + 1)) + 1 by omega]; simp [jmFirst, c19])
  have ev_2 : 2 ^ a = jmWithin en la P st n a 0 := by first | rfl | (simp [jmWithin, jmIt, if_true]; done)
  exact L7 ((8 - 0) + 1) 0 (by omega) rfl (Nat.lt_succ_self _) ls (by rw [← ev_2]; exact lv_sub hl [2, 3, 4, 1, 0] rfl)
set_option maxRecDepth 20000 in
theorem in_X5_linesOutOf_5 : ∀ w ∈ wsX50, w ∈ wsX5_linesOutOf := by decide +kernel
set_option maxHeartbeats 4000000 in
set_option maxRecDepth 100000 in
/-- linesOutOf(set) -/
theorem c_X5_linesOutOf (l : Launch) (D : va_G) (cI : ClassId) (g : Nat → Nat) (P n st : Nat) (sm gr co en la : Nat → Nat) (hw : jmWF P n st sm gr co en la) (S : Nat) (hS : S < 65536) : jxRO l yX5_linesOutOf wsX5_linesOutOf ({ frames := 1, cells := 0, slots := 0, locals := 21 } : Room) D [(cI, .int)] (jW cI g P n st sm gr co en la) [.ref (g 0), .int (nI S)] (fun r => r = nI (jmOut la st S P)) := by
  refine jx_enter (by decide) rfl (Nat.le_of_ble_eq_true rfl) ?_
  intro p e s m args below meth c Q ls hx hb hml hts hown hN hP hK hl hQ
  have hown : s.vm.findClass RX5 = some m.cls := hown
  have hl : lv_has ls 4 [(0, .ref (g 0)), (1, .int (nI S))] := hl
  have hP8 : P ≤ 8 := hw.1
  have hn16 : n ≤ 16 := hw.2.1
  have hst : st < 65536 := jmWF_st hw
  have hen : ∀ j, j < n → en j < 256 := jmWF_en hw
  have hla : ∀ q, q < P → la q < 65536 := jmWF_la hw
  have hgr : ∀ j, j < n → sm j < 8 ∧ gr j < 8 := jmWF_gr hw
  have hco : ∀ j, j < n → co j < 21 := jmWF_co hw
  refine lv_iconst (v := nI 0) hx hb dX5_linesOutOf_0 (by decide) ?_
  refine lv_istore_n (lv' := [(2, .int (nI 0)), (0, .ref (g 0)), (1, .int (nI S))]) hx hb dX5_linesOutOf_1 rfl hl (by decide) rfl (fun ls hl => ?_)
  refine lv_iconst (v := nI 0) hx hb dX5_linesOutOf_2 (by decide) ?_
  refine lv_istore_n (lv' := [(3, .int (nI 0)), (2, .int (nI 0)), (0, .ref (g 0)), (1, .int (nI S))]) hx hb dX5_linesOutOf_3 rfl hl (by decide) rfl (fun ls hl => ?_)
  have L4 : ∀ (k : Nat) (q : Nat) (hq : q ≤ P), P - q < k → ∀ ls : Array Slot, lv_has ls 4 [(0, .ref (g 0)), (1, .int (nI S)), (2, .int (nI (jmOut la st S q))), (3, .int (nI q))] → W p l e ({ frames := 1, cells := 0, slots := 0, locals := 21 } : Room) s m args below meth c s.heap [] 0 0 Q (F0 m 4 ls []) := by
    intro k
    induction k with
    | zero => intro q hq hk; exact absurd hk (Nat.not_lt_zero _)
    | succ k ih4 =>
      intro q hq hk ls hl
      refine lv_iload_n hx hb dX5_linesOutOf_4 rfl (lv_at hl 3 rfl) ?_
      refine lv_aload_n hx hb dX5_linesOutOf_5 rfl (lv_at hl 0 rfl) ?_
      refine va_get (D := D) (ci := 5) (v := .int (nI P)) (C := RX5) (T := TX5) (N := 8) hx hb hts in_X5_linesOutOf_5 hown hK hP 0 rfl rfl 0 (by decide) (hts (.fieldLink RX5 9 "Twincuts$Web" "points" "I") (List.mem_of_getElem? (i := 1) (by decide +kernel))) (fun _ h9 => h9) rfl dX5_linesOutOf_6 ?_
      refine lv_icmp_ge (tgt := 34) hx hb dX5_linesOutOf_9 (by decide) (fun c9 => ?_) (fun c9 => ?_)
      · have c9 : P ≤ q := jx_le (by omega) (by omega) c9
        have es_34 : P = q := (by omega)
        subst es_34
        refine lv_iload_n hx hb dX5_linesOutOf_34 rfl (lv_at hl 2 rfl) ?_
        exact hQ (nI (jmOut la st S P)) _ _ dX5_linesOutOf_35 rfl
      · have c9 : q < P := jx_nle (by omega) (by omega) c9
        refine lv_iload_n hx hb dX5_linesOutOf_12 rfl (lv_at hl 1 rfl) ?_
        refine lv_iload_n hx hb dX5_linesOutOf_13 rfl (lv_at hl 3 rfl) ?_
        refine jx_callSN (As := [.int (nI S), .int (nI q)]) (rest := []) ⟨hx, hb, hml, hown, hts⟩ (c_X6_has l D S q (by omega) (by omega)) (va_cnB 2 hts gX5_linesOutOf_X6_has_n37 rfl rfl rfl (hN.get 40 rfl) (hts (.initialized RX6) (List.mem_of_getElem? (i := 3) (by decide +kernel))) (by decide +kernel) ⟨Nat.le_of_ble_eq_true rfl, Nat.le_of_ble_eq_true rfl⟩) (hts (.static yX6_has) (List.mem_of_getElem? (i := 2) (by decide +kernel))) hN (hP.sub (ws' := []) [] rfl) (hK.sub (tys' := []) [] rfl) rfl hl.1 rfl (Nat.le_of_ble_eq_true rfl) dX5_linesOutOf_14 ⟨Nat.zero_le _, Nat.zero_le _⟩ (fun r hr => ?_)
        subst hr
        refine lv_if_eq (tgt := 28) hx hb dX5_linesOutOf_17 (by decide) (fun c17 => ?_) (fun c17 => ?_)
        · have c17 := jB_0 c17
          refine lv_iinc (v := nI (q + 1)) (lv' := [(3, .int (nI (q + 1))), (0, .ref (g 0)), (1, .int (nI S)), (2, .int (nI (jmOut la st S q)))]) hx hb dX5_linesOutOf_28 hl (k := 3) rfl (jx_inc _) (by decide) rfl (fun ls hl => ?_)
          refine lv_goto (tgt := 4) hx hb dX5_linesOutOf_31 (by decide) ?_
          have ev_1 : jmOut la st S q = jmOut la st S (q + 1) := by first | rfl | (simp [jmOut, c9, c17]; done)
          exact ih4 (q + 1) (by omega) (by omega) ls (by rw [← ev_1]; exact lv_sub hl [1, 2, 3, 0] rfl)
        · have c17 := jB_1 c17
          refine lv_iload_n hx hb dX5_linesOutOf_20 rfl (lv_at hl 2 rfl) ?_
          refine lv_aload_n hx hb dX5_linesOutOf_21 rfl (lv_at hl 0 rfl) ?_
          refine lv_iload_n hx hb dX5_linesOutOf_22 rfl (lv_at hl 3 rfl) ?_
          refine jx_callV (As := [.int (nI q)]) (rest := [.int (nI (jmOut la st S q))]) ⟨hx, hb, hml, hown, hts⟩ (c_X5_standingAt l D cI g P n st sm gr co en la hw q (by omega)) (cwV 1 hts gX5_linesOutOf_X5_standingAt rfl rfl rfl (by decide +kernel) ⟨Nat.le_of_ble_eq_true rfl, Nat.le_of_ble_eq_true rfl⟩) hN hP hK 0 5 rfl rfl rfl rfl hl.1 rfl (Nat.le_of_ble_eq_true rfl) dX5_linesOutOf_23 ⟨Nat.zero_le _, Nat.zero_le _⟩ (fun r hr => ?_)
          subst hr
          refine lv_ixor hx hb dX5_linesOutOf_26 ?_
          refine jx_val (z := (nI ((jmOut la st S q) ^^^ (la q &&& st)))) (fa_xor _ _) ?_
          refine lv_istore_n (lv' := [(2, .int (nI ((jmOut la st S q) ^^^ (la q &&& st)))), (0, .ref (g 0)), (1, .int (nI S)), (3, .int (nI q))]) hx hb dX5_linesOutOf_27 rfl hl (by decide) rfl (fun ls hl => ?_)
          refine lv_iinc (v := nI (q + 1)) (lv' := [(3, .int (nI (q + 1))), (2, .int (nI ((jmOut la st S q) ^^^ (la q &&& st)))), (0, .ref (g 0)), (1, .int (nI S))]) hx hb dX5_linesOutOf_28 hl (k := 3) rfl (jx_inc _) (by decide) rfl (fun ls hl => ?_)
          refine lv_goto (tgt := 4) hx hb dX5_linesOutOf_31 (by decide) ?_
          have ev_2 : (jmOut la st S q) ^^^ (la q &&& st) = jmOut la st S (q + 1) := by first | rfl | (simp [jmOut, c9, c17]; done)
          exact ih4 (q + 1) (by omega) (by omega) ls (by rw [← ev_2]; exact lv_sub hl [2, 3, 1, 0] rfl)
  have ev_3 : 0 = jmOut la st S 0 := by first | rfl | (simp [jmOut, if_true]; done)
  exact L4 ((P - 0) + 1) 0 (by omega) (Nat.lt_succ_self _) ls (by rw [← ev_3]; exact lv_sub hl [2, 3, 1, 0] rfl)
set_option maxRecDepth 20000 in
theorem in_X5_greatestDistance_5 : ∀ w ∈ wsX50, w ∈ wsX5_greatestDistance := by decide +kernel
set_option maxHeartbeats 4000000 in
set_option maxRecDepth 100000 in
/-- greatestDistance() -/
theorem c_X5_greatestDistance (l : Launch) (D : va_G) (cI : ClassId) (g : Nat → Nat) (P n st : Nat) (sm gr co en la : Nat → Nat) (hw : jmWF P n st sm gr co en la)  : jxRO l yX5_greatestDistance wsX5_greatestDistance ({ frames := 4, cells := 0, slots := 0, locals := 91 } : Room) D [(cI, .int)] (jW cI g P n st sm gr co en la) [.ref (g 0)] (fun r => r = jmGD en la P st n P) := by
  refine jx_enter (by decide) rfl (Nat.le_of_ble_eq_true rfl) ?_
  intro p e s m args below meth c Q ls hx hb hml hts hown hN hP hK hl hQ
  have hown : s.vm.findClass RX5 = some m.cls := hown
  have hl : lv_has ls 4 [(0, .ref (g 0))] := hl
  have hP8 : P ≤ 8 := hw.1
  have hn16 : n ≤ 16 := hw.2.1
  have hst : st < 65536 := jmWF_st hw
  have hen : ∀ j, j < n → en j < 256 := jmWF_en hw
  have hla : ∀ q, q < P → la q < 65536 := jmWF_la hw
  have hgr : ∀ j, j < n → sm j < 8 ∧ gr j < 8 := jmWF_gr hw
  have hco : ∀ j, j < n → co j < 21 := jmWF_co hw
  refine lv_iconst (v := nI 0) hx hb dX5_greatestDistance_0 (by decide) ?_
  refine lv_istore_n (lv' := [(1, .int (nI 0)), (0, .ref (g 0))]) hx hb dX5_greatestDistance_1 rfl hl (by decide) rfl (fun ls hl => ?_)
  refine lv_iconst (v := nI 0) hx hb dX5_greatestDistance_2 (by decide) ?_
  refine lv_istore_n (lv' := [(2, .int (nI 0)), (1, .int (nI 0)), (0, .ref (g 0))]) hx hb dX5_greatestDistance_3 rfl hl (by decide) rfl (fun ls hl => ?_)
  have L4 : ∀ (k : Nat) (a : Nat) (hq : a ≤ P), P - a < k → ∀ ls : Array Slot, lv_has ls 4 [(0, .ref (g 0)), (1, .int (jmGD en la P st n a)), (2, .int (nI a))] → W p l e ({ frames := 4, cells := 0, slots := 0, locals := 91 } : Room) s m args below meth c s.heap [] 0 0 Q (F0 m 4 ls []) := by
    intro k
    induction k with
    | zero => intro a hq hk; exact absurd hk (Nat.not_lt_zero _)
    | succ k ih4 =>
      intro a hq hk ls hl
      refine lv_iload_n hx hb dX5_greatestDistance_4 rfl (lv_at hl 2 rfl) ?_
      refine lv_aload_n hx hb dX5_greatestDistance_5 rfl (lv_at hl 0 rfl) ?_
      refine va_get (D := D) (ci := 5) (v := .int (nI P)) (C := RX5) (T := TX5) (N := 8) hx hb hts in_X5_greatestDistance_5 hown hK hP 0 rfl rfl 0 (by decide) (hts (.fieldLink RX5 9 "Twincuts$Web" "points" "I") (List.mem_of_getElem? (i := 1) (by decide +kernel))) (fun _ h9 => h9) rfl dX5_greatestDistance_6 ?_
      refine lv_icmp_ge (tgt := 47) hx hb dX5_greatestDistance_9 (by decide) (fun c9 => ?_) (fun c9 => ?_)
      · have c9 : P ≤ a := jx_le (by omega) (by omega) c9
        have es_47 : P = a := (by omega)
        subst es_47
        refine lv_iload_n hx hb dX5_greatestDistance_47 rfl (lv_at hl 1 rfl) ?_
        exact hQ (jmGD en la P st n P) _ _ dX5_greatestDistance_48 rfl
      · have c9 : a < P := jx_nle (by omega) (by omega) c9
        refine lv_iload_n hx hb dX5_greatestDistance_12 rfl (lv_at hl 2 rfl) ?_
        refine lv_iconst (v := nI 1) hx hb dX5_greatestDistance_13 (by decide) ?_
        refine lv_iadd hx hb dX5_greatestDistance_14 ?_
        refine jx_val (z := (nI (a + 1))) (nI_add _ _) ?_
        refine lv_istore_n (lv' := [(3, .int (nI (a + 1))), (0, .ref (g 0)), (1, .int (jmGD en la P st n a)), (2, .int (nI a))]) hx hb dX5_greatestDistance_15 rfl hl (by decide) rfl (fun ls hl => ?_)
        have L16 : ∀ (k : Nat) (kk : Nat) (hkk : a + 1 + kk ≤ P), P - (a + 1 + kk) < k → ∀ ls : Array Slot, lv_has ls 4 [(0, .ref (g 0)), (1, .int (jmGDi en la P st n a (jmGD en la P st n a) kk)), (2, .int (nI a)), (3, .int (nI (a + 1 + kk)))] → W p l e ({ frames := 4, cells := 0, slots := 0, locals := 91 } : Room) s m args below meth c s.heap [] 0 0 Q (F0 m 16 ls []) := by
          intro k
          induction k with
          | zero => intro kk hkk hk; exact absurd hk (Nat.not_lt_zero _)
          | succ k ih16 =>
            intro kk hkk hk ls hl
            refine lv_iload_n hx hb dX5_greatestDistance_16 rfl (lv_at hl 3 rfl) ?_
            refine lv_aload_n hx hb dX5_greatestDistance_17 rfl (lv_at hl 0 rfl) ?_
            refine va_get (D := D) (ci := 5) (v := .int (nI P)) (C := RX5) (T := TX5) (N := 8) hx hb hts in_X5_greatestDistance_5 hown hK hP 0 rfl rfl 0 (by decide) (hts (.fieldLink RX5 9 "Twincuts$Web" "points" "I") (List.mem_of_getElem? (i := 1) (by decide +kernel))) (fun _ h9 => h9) rfl dX5_greatestDistance_18 ?_
            refine lv_icmp_ge (tgt := 41) hx hb dX5_greatestDistance_21 (by decide) (fun c21 => ?_) (fun c21 => ?_)
            · have c21 : P ≤ a + 1 + kk := jx_le (by omega) (by omega) c21
              have es_41 : kk = (P - (a + 1)) := (by omega)
              subst es_41
              refine lv_iinc (v := nI (a + 1)) (lv' := [(2, .int (nI (a + 1))), (0, .ref (g 0)), (1, .int (jmGDi en la P st n a (jmGD en la P st n a) (P - (a + 1)))), (3, .int (nI (a + 1 + (P - (a + 1)))))]) hx hb dX5_greatestDistance_41 hl (k := 2) rfl (jx_inc _) (by decide) rfl (fun ls hl => ?_)
              refine lv_goto (tgt := 4) hx hb dX5_greatestDistance_44 (by decide) ?_
              have ev_1 : jmGDi en la P st n a (jmGD en la P st n a) (P - (a + 1)) = jmGD en la P st n (a + 1) := by first | rfl | (simp [jmGD, c21]; done)
              exact ih4 (a + 1) (by omega) (by omega) ls (by rw [← ev_1]; exact lv_sub hl [1, 2, 0] rfl)
            · have c21 : a + 1 + kk < P := jx_nle (by omega) (by omega) c21
              refine lv_iload_n hx hb dX5_greatestDistance_24 rfl (lv_at hl 1 rfl) ?_
              refine lv_aload_n hx hb dX5_greatestDistance_25 rfl (lv_at hl 0 rfl) ?_
              refine lv_iload_n hx hb dX5_greatestDistance_26 rfl (lv_at hl 2 rfl) ?_
              refine lv_iload_n hx hb dX5_greatestDistance_27 rfl (lv_at hl 3 rfl) ?_
              refine jx_callV (As := [.int (nI a), .int (nI (a + 1 + kk))]) (rest := [.int (jmGDi en la P st n a (jmGD en la P st n a) kk)]) ⟨hx, hb, hml, hown, hts⟩ (c_X5_distance l D cI g P n st sm gr co en la hw a (a + 1 + kk) (by omega) (by omega)) (cwV 2 hts gX5_greatestDistance_X5_distance rfl rfl rfl (by decide +kernel) ⟨Nat.le_of_ble_eq_true rfl, Nat.le_of_ble_eq_true rfl⟩) hN hP hK 0 5 rfl rfl rfl rfl hl.1 rfl (Nat.le_of_ble_eq_true rfl) dX5_greatestDistance_28 ⟨Nat.zero_le _, Nat.zero_le _⟩ (fun r hr => ?_)
              subst hr
              refine va_mmax (rest := []) hx hb (hml.trans hl.1.symm) hown (hts (.methodLink RX5 56 Lib.Math.max.name) (List.mem_of_getElem? (i := 2) (by decide +kernel))) (hts (.static Lib.Math.max.name) (List.mem_of_getElem? (i := 3) (by decide +kernel))) (hts (.initialized "java/lang/Math") (List.mem_of_getElem? (i := 4) (by decide +kernel))) (hts (.code Lib.Math.max.name Lib.Math.max.code 2 (some .int)) (List.mem_of_getElem? (i := 5) (by decide +kernel))) (Nat.le_of_ble_eq_true rfl) (Nat.le_of_ble_eq_true rfl) (Nat.zero_le _) (Nat.zero_le _) dX5_greatestDistance_31 ?_
              refine lv_istore_n (lv' := [(1, .int (jmMax32 (jmGDi en la P st n a (jmGD en la P st n a) kk) (jmDist en la P st n a (a + 1 + kk)))), (0, .ref (g 0)), (2, .int (nI a)), (3, .int (nI (a + 1 + kk)))]) hx hb dX5_greatestDistance_34 rfl hl (by decide) rfl (fun ls hl => ?_)
              refine lv_iinc (v := nI (a + 1 + kk + 1)) (lv' := [(3, .int (nI (a + 1 + kk + 1))), (1, .int (jmMax32 (jmGDi en la P st n a (jmGD en la P st n a) kk) (jmDist en la P st n a (a + 1 + kk)))), (0, .ref (g 0)), (2, .int (nI a))]) hx hb dX5_greatestDistance_35 hl (k := 3) rfl (jx_inc _) (by decide) rfl (fun ls hl => ?_)
              refine lv_goto (tgt := 16) hx hb dX5_greatestDistance_38 (by decide) ?_
              have ev_2 : jmMax32 (jmGDi en la P st n a (jmGD en la P st n a) kk) (jmDist en la P st n a (a + 1 + kk)) = jmGDi en la P st n a (jmGD en la P st n a) (kk + 1) := by first | rfl | (simp [jmGD, jmGDi, c21]; done)
              have ev_3 : a + 1 + kk + 1 = a + 1 + (kk + 1) := by first | rfl | (simp [jmGD, jmGDi, c21]; done)
              exact ih16 (kk + 1) (by omega) (by omega) ls (by rw [← ev_2, ← ev_3]; exact lv_sub hl [2, 1, 3, 0] rfl)
        have ev_4 : jmGD en la P st n a = jmGDi en la P st n a (jmGD en la P st n a) 0 := by first | rfl | (simp [jmGD, jmGDi, c9]; done)
        have ev_5 : a + 1 = a + 1 + 0 := by first | rfl | (simp [jmGD, jmGDi, c9]; done)
        exact L16 ((P - (a + 1 + 0)) + 1) 0 (by omega) (Nat.lt_succ_self _) ls (by rw [← ev_4, ← ev_5]; exact lv_sub hl [1, 2, 3, 0] rfl)
  have ev_6 : (nI 0) = (jmGD en la P st n 0) := by first | rfl | (simp [jmGD, if_true]; done)
  exact L4 ((P - 0) + 1) 0 (by omega) (Nat.lt_succ_self _) ls (by rw [← ev_6]; exact lv_sub hl [2, 1, 0] rfl)
