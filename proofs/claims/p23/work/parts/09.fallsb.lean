set_option maxRecDepth 20000 in
theorem in_X1_findBridges_1 : ∀ w ∈ wsX10, w ∈ wsX1_findBridges := by decide +kernel
set_option maxRecDepth 20000 in
theorem in_X1_findBridges_5 : ∀ w ∈ wsX50, w ∈ wsX1_findBridges := by decide +kernel
set_option maxHeartbeats 4000000 in
set_option maxRecDepth 100000 in
/-- findBridges() -/
theorem c_X1_findBridges (l : Launch) (D : va_G) (cI : ClassId) (g : Nat → Nat) (P n st : Nat) (sm gr co en la : Nat → Nat) (fp fb fc fk fq ft : Nat) (pa ps fi : Nat → Nat) (bl : Nat → Int32) (sp gp sw gw : Nat → Nat) (sz : Nat) (hw : jmWF P n st sm gr co en la) (hfp : fp < 256) : jxWv l yX1_findBridges wsX1_findBridges ({ frames := 2, cells := 0, slots := 0, locals := 53 } : Room) D [(cI, .int)] (jW cI g P n st sm gr co en la ++ jF cI g fp fb fc fk fq ft pa ps fi bl sp gp sw gw) [.ref (g 10)] sz (jW cI g P n st sm gr co en la ++ jF cI g fp (jmBr en P n st fp n) fc fk fq ft pa ps fi bl sp gp sw gw) := by
  refine jxw_enterV (by decide) rfl (Nat.le_of_ble_eq_true rfl) ?_
  intro p e s m args below meth c Q A ls hx hb hml hts hown hN hP hK hD hA hl hQ
  have hD0 := hD
  obtain ⟨H, hH⟩ : ∃ h, h = s.heap := ⟨_, rfl⟩
  have hS : va_S A s.heap H [] := by rw [hH]; exact va_S.rf
  rw [← hH] at hP ⊢
  obtain ⟨locs, hlocs⟩ : ∃ z : List Loc, z = [] := ⟨_, rfl⟩
  rw [← hlocs] at hS ⊢
  have hown : s.vm.findClass RX1 = some m.cls := hown
  have hl : lv_has ls 3 [(0, .ref (g 10))] := hl
  have hP8 : P ≤ 8 := hw.1
  have hn16 : n ≤ 16 := hw.2.1
  have hst : st < 65536 := jmWF_st hw
  have hen : ∀ j, j < n → en j < 256 := jmWF_en hw
  have hla : ∀ q, q < P → la q < 65536 := jmWF_la hw
  have hgr : ∀ j, j < n → sm j < 8 ∧ gr j < 8 := jmWF_gr hw
  have hco : ∀ j, j < n → co j < 21 := jmWF_co hw
  have hP2 := jx_pow256 hP8
  refine lv_aload_n hx hb dX1_findBridges_0 rfl (lv_at hl 0 rfl) ?_
  refine lv_iconst (v := nI 0) hx hb dX1_findBridges_1 (by decide) ?_
  refine va_put (D := D) (ci := 1) (v := .int (nI 0)) (ty := .int) (C := RX1) (T := TX1) (N := 15) hx hb hts in_X1_findBridges_1 tyX1 tyX1_ok nmX1 hown hK hP hD hS 6 rfl rfl 2 (by decide) (hts (.fieldLink RX1 15 "Twincuts$Falls" "bridgeSet" "I") (List.mem_of_getElem? (i := 1) (by decide +kernel))) (fun _ h9 => h9) rfl (by decide +kernel) rfl rfl (Nat.le_of_ble_eq_true rfl) dX1_findBridges_2 (fun H locs hP hD hS => ?_)
  have hP : va_P D vwCl (jW cI g P n st sm gr co en la ++ jF cI g fp 0 fc fk fq ft pa ps fi bl sp gp sw gw) H := hP
  have hD : va_D A (jW cI g P n st sm gr co en la ++ jF cI g fp 0 fc fk fq ft pa ps fi bl sp gp sw gw) := jxD hD0 rfl
  refine lv_iconst (v := nI 0) hx hb dX1_findBridges_5 (by decide) ?_
  refine lv_istore_n (lv' := [(1, .int (nI 0)), (0, .ref (g 10))]) hx hb dX1_findBridges_6 rfl hl (by decide) rfl (fun ls hl => ?_)
  have L7 : ∀ (k : Nat) (ln : Nat) (hln : ln ≤ n), n - ln < k → ∀ (H : Heap) (locs : List Loc), va_P D vwCl (jW cI g P n st sm gr co en la ++ jF cI g fp (jmBr en P n st fp ln) fc fk fq ft pa ps fi bl sp gp sw gw) H → va_S A s.heap H locs → ∀ ls : Array Slot, lv_has ls 3 [(0, .ref (g 10)), (1, .int (nI ln))] → W p l e ({ frames := 2, cells := 0, slots := 0, locals := 53 } : Room) s m args below meth c H locs 0 0 Q (F0 m 7 ls []) := by
    intro k
    induction k with
    | zero => intro ln hln hk; exact absurd hk (Nat.not_lt_zero _)
    | succ k ih7 =>
      intro ln hln hk H locs hP hS ls hl
      have hD : va_D A (jW cI g P n st sm gr co en la ++ jF cI g fp (jmBr en P n st fp ln) fc fk fq ft pa ps fi bl sp gp sw gw) := jxD hD0 rfl
      refine lv_iload_n hx hb dX1_findBridges_7 rfl (lv_at hl 1 rfl) ?_
      refine lv_aload_n hx hb dX1_findBridges_8 rfl (lv_at hl 0 rfl) ?_
      refine va_get (D := D) (ci := 1) (v := .ref (g 0)) (C := RX1) (T := TX1) (N := 15) hx hb hts in_X1_findBridges_1 hown hK hP 6 rfl rfl 0 (by decide) (hts (.fieldLink RX1 55 "Twincuts$Falls" "web" "LTwincuts$Web;") (List.mem_of_getElem? (i := 2) (by decide +kernel))) (fun _ h9 => h9) rfl dX1_findBridges_9 ?_
      refine va_getN (D := D) (ci := 5) (v := .int (nI n)) (C := RX5) (T := TX5) (N := 8) hx hb hts in_X1_findBridges_5 hown hK hP 0 rfl rfl 1 (by decide) (hN.use 7 rfl) (fun _ h9 => h9) rfl dX1_findBridges_12 ?_
      refine lv_icmp_ge (tgt := 86) hx hb dX1_findBridges_15 (by decide) (fun c15 => ?_) (fun c15 => ?_)
      · have c15 : n ≤ ln := jx_le (by omega) (by omega) c15
        have es_86 : n = ln := (by omega)
        subst es_86
        exact hQ H locs _ _ dX1_findBridges_86 hP hS
      · have c15 : ln < n := jx_nle (by omega) (by omega) c15
        refine lv_aload_n hx hb dX1_findBridges_18 rfl (lv_at hl 0 rfl) ?_
        refine va_get (D := D) (ci := 1) (v := .ref (g 0)) (C := RX1) (T := TX1) (N := 15) hx hb hts in_X1_findBridges_1 hown hK hP 6 rfl rfl 0 (by decide) (hts (.fieldLink RX1 55 "Twincuts$Falls" "web" "LTwincuts$Web;") (List.mem_of_getElem? (i := 2) (by decide +kernel))) (fun _ h9 => h9) rfl dX1_findBridges_19 ?_
        refine va_getN (D := D) (ci := 5) (v := .int (nI st)) (C := RX5) (T := TX5) (N := 8) hx hb hts in_X1_findBridges_5 hown hK hP 0 rfl rfl 2 (by decide) (hN.use 14 rfl) (fun _ h9 => h9) rfl dX1_findBridges_22 ?_
        refine lv_iconst (v := nI 1) hx hb dX1_findBridges_25 (by decide) ?_
        refine lv_iload_n hx hb dX1_findBridges_26 rfl (lv_at hl 1 rfl) ?_
        refine lv_ishl hx hb dX1_findBridges_27 ?_
        refine jx_val (z := (nI (2 ^ ln))) (jx_1shl (by omega)) ?_
        refine lv_iconst (v := (-1)) hx hb dX1_findBridges_28 (by decide) ?_
        refine lv_ixor hx hb dX1_findBridges_29 ?_
        refine lv_iand hx hb dX1_findBridges_30 ?_
        refine jx_val (z := (nI (jxAN st (2 ^ ln)))) (jx_not _ _) ?_
        refine lv_istore_n (lv' := [(2, .int (nI (jxAN st (2 ^ ln)))), (0, .ref (g 10)), (1, .int (nI ln))]) hx hb dX1_findBridges_31 rfl hl (by decide) rfl (fun ls hl => ?_)
        refine lv_aload_n hx hb dX1_findBridges_32 rfl (lv_at hl 1 rfl) ?_
        refine va_get (D := D) (ci := 1) (v := .ref (g 0)) (C := RX1) (T := TX1) (N := 15) hx hb hts in_X1_findBridges_1 hown hK hP 6 rfl rfl 0 (by decide) (hts (.fieldLink RX1 55 "Twincuts$Falls" "web" "LTwincuts$Web;") (List.mem_of_getElem? (i := 2) (by decide +kernel))) (fun _ h9 => h9) rfl dX1_findBridges_33 ?_
        refine va_getN (D := D) (ci := 5) (v := .int (nI st)) (C := RX5) (T := TX5) (N := 8) hx hb hts in_X1_findBridges_5 hown hK hP 0 rfl rfl 2 (by decide) (hN.use 14 rfl) (fun _ h9 => h9) rfl dX1_findBridges_36 ?_
        refine lv_iload_n hx hb dX1_findBridges_39 rfl (lv_at hl 2 rfl) ?_
        refine jx_callSN (As := [.int (nI st), .int (nI ln)]) (rest := []) ⟨hx, hb, hml, hown, hts⟩ (c_X6_has l D st ln (by omega) (by omega)) (va_cnB 2 hts gX1_findBridges_X6_has_n89 rfl rfl rfl (hN.get 43 rfl) (hts (.initialized RX6) (List.mem_of_getElem? (i := 5) (by decide +kernel))) (by decide +kernel) ⟨Nat.le_of_ble_eq_true rfl, Nat.le_of_ble_eq_true rfl⟩) (hts (.static yX6_has) (List.mem_of_getElem? (i := 4) (by decide +kernel))) hN (hP.sub (ws' := []) [] rfl) (hK.sub (tys' := []) [] rfl) rfl hl.1 rfl (Nat.le_of_ble_eq_true rfl) dX1_findBridges_40 ⟨Nat.zero_le _, Nat.zero_le _⟩ (fun r hr => ?_)
        subst hr
        refine lv_if_eq (tgt := 80) hx hb dX1_findBridges_43 (by decide) (fun c43 => ?_) (fun c43 => ?_)
        · have c43 := jB_0 c43
          refine lv_iinc (v := nI (ln + 1)) (lv' := [(1, .int (nI (ln + 1))), (2, .int (nI (jxAN st (2 ^ ln)))), (0, .ref (g 10))]) hx hb dX1_findBridges_80 hl (k := 2) rfl (jx_inc _) (by decide) rfl (fun ls hl => ?_)
          refine lv_goto (tgt := 7) hx hb dX1_findBridges_83 (by decide) ?_
          have ew_1 : jmBr en P n st fp ln = jmBr en P n st fp (ln + 1) := by first | with_reducible rfl | (simp [jmBr, c15, c43]; done) | (simp [jmBr, c15, c43]; omega) | omega
          exact ih7 (ln + 1) (by omega) (by omega) H locs (by rw [← ew_1]; exact hP) hS ls (lv_sub hl [2, 0] rfl)
        · have c43 := jB_1 c43
          refine lv_aload_n hx hb dX1_findBridges_46 rfl (lv_at hl 1 rfl) ?_
          refine va_get (D := D) (ci := 1) (v := .ref (g 0)) (C := RX1) (T := TX1) (N := 15) hx hb hts in_X1_findBridges_1 hown hK hP 6 rfl rfl 0 (by decide) (hts (.fieldLink RX1 55 "Twincuts$Falls" "web" "LTwincuts$Web;") (List.mem_of_getElem? (i := 2) (by decide +kernel))) (fun _ h9 => h9) rfl dX1_findBridges_47 ?_
          refine lv_aload_n hx hb dX1_findBridges_50 rfl (lv_at hl 1 rfl) ?_
          refine va_get (D := D) (ci := 1) (v := .ref (g 0)) (C := RX1) (T := TX1) (N := 15) hx hb hts in_X1_findBridges_1 hown hK hP 6 rfl rfl 0 (by decide) (hts (.fieldLink RX1 55 "Twincuts$Falls" "web" "LTwincuts$Web;") (List.mem_of_getElem? (i := 2) (by decide +kernel))) (fun _ h9 => h9) rfl dX1_findBridges_51 ?_
          refine jx_callV (As := []) (rest := [.ref (g 0)]) ⟨hx, hb, hml, hown, hts⟩ (c_X5_allPoints l D cI g P n st sm gr co en la hw ) (cwV 0 hts gX1_findBridges_X5_allPoints rfl rfl rfl (by decide +kernel) ⟨Nat.le_of_ble_eq_true rfl, Nat.le_of_ble_eq_true rfl⟩) hN (hP.sub (ws' := jW cI g P n st sm gr co en la) [0, 1, 2, 3, 4, 5] rfl) (hK.sub (tys' := [(cI, .int)]) [0] rfl) 0 5 rfl rfl rfl rfl hl.1 rfl (Nat.le_of_ble_eq_true rfl) dX1_findBridges_54 ⟨Nat.zero_le _, Nat.zero_le _⟩ (fun r hr => ?_)
          subst hr
          refine lv_iload_n hx hb dX1_findBridges_57 rfl (lv_at hl 0 rfl) ?_
          refine jx_callV (As := [.int (nI (2 ^ P - 1)), .int (nI (jxAN st (2 ^ ln)))]) (rest := []) ⟨hx, hb, hml, hown, hts⟩ (c_X5_countParts l D cI g P n st sm gr co en la hw (2 ^ P - 1) (jxAN st (2 ^ ln)) (by omega) (Nat.lt_of_lt_of_le (jxAN_lt hst) (by decide))) (cwV 2 hts gX1_findBridges_X5_countParts rfl rfl rfl (by decide +kernel) ⟨Nat.le_of_ble_eq_true rfl, Nat.le_of_ble_eq_true rfl⟩) hN (hP.sub (ws' := jW cI g P n st sm gr co en la) [0, 1, 2, 3, 4, 5] rfl) (hK.sub (tys' := [(cI, .int)]) [0] rfl) 0 5 rfl rfl rfl rfl hl.1 rfl (Nat.le_of_ble_eq_true rfl) dX1_findBridges_58 ⟨Nat.zero_le _, Nat.zero_le _⟩ (fun r hr => ?_)
          subst hr
          refine lv_aload_n hx hb dX1_findBridges_61 rfl (lv_at hl 1 rfl) ?_
          refine va_get (D := D) (ci := 1) (v := .int (nI fp)) (C := RX1) (T := TX1) (N := 15) hx hb hts in_X1_findBridges_1 hown hK hP 6 rfl rfl 1 (by decide) (hts (.fieldLink RX1 9 "Twincuts$Falls" "parts" "I") (List.mem_of_getElem? (i := 3) (by decide +kernel))) (fun _ h9 => h9) rfl dX1_findBridges_62 ?_
          refine lv_icmp_le (tgt := 80) hx hb dX1_findBridges_65 (by decide) (fun c65 => ?_) (fun c65 => ?_)
          · have c65 : jmCPc en (2 ^ P - 1) (jxAN st (2 ^ ln)) n P ≤ fp := jx_le (Nat.lt_of_le_of_lt (jmCPc_le _) (by omega)) (by omega) c65
            refine lv_iinc (v := nI (ln + 1)) (lv' := [(1, .int (nI (ln + 1))), (2, .int (nI (jxAN st (2 ^ ln)))), (0, .ref (g 10))]) hx hb dX1_findBridges_80 hl (k := 2) rfl (jx_inc _) (by decide) rfl (fun ls hl => ?_)
            refine lv_goto (tgt := 7) hx hb dX1_findBridges_83 (by decide) ?_
            have ew_2 : jmBr en P n st fp ln = jmBr en P n st fp (ln + 1) := by first | with_reducible rfl | (simp [jmBr, c15, c43, c65]; done) | (simp [jmBr, c15, c43, c65]; omega) | omega
            exact ih7 (ln + 1) (by omega) (by omega) H locs (by rw [← ew_2]; exact hP) hS ls (lv_sub hl [2, 0] rfl)
          · have c65 : fp < jmCPc en (2 ^ P - 1) (jxAN st (2 ^ ln)) n P := jx_nle (Nat.lt_of_le_of_lt (jmCPc_le _) (by omega)) (by omega) c65
            refine lv_aload_n hx hb dX1_findBridges_68 rfl (lv_at hl 1 rfl) ?_
            refine lv_dup hx hb dX1_findBridges_69 rfl ?_
            refine va_get (D := D) (ci := 1) (v := .int (nI (jmBr en P n st fp ln))) (C := RX1) (T := TX1) (N := 15) hx hb hts in_X1_findBridges_1 hown hK hP 6 rfl rfl 2 (by decide) (hts (.fieldLink RX1 15 "Twincuts$Falls" "bridgeSet" "I") (List.mem_of_getElem? (i := 1) (by decide +kernel))) (fun _ h9 => h9) rfl dX1_findBridges_70 ?_
            refine lv_iconst (v := nI 1) hx hb dX1_findBridges_73 (by decide) ?_
            refine lv_iload_n hx hb dX1_findBridges_74 rfl (lv_at hl 2 rfl) ?_
            refine lv_ishl hx hb dX1_findBridges_75 ?_
            refine jx_val (z := (nI (2 ^ ln))) (jx_1shl (by omega)) ?_
            refine lv_ior hx hb dX1_findBridges_76 ?_
            refine jx_val (z := (nI ((jmBr en P n st fp ln) ||| (2 ^ ln)))) (fa_or _ _) ?_
            refine va_put (D := D) (ci := 1) (v := .int (nI ((jmBr en P n st fp ln) ||| (2 ^ ln)))) (ty := .int) (C := RX1) (T := TX1) (N := 15) hx hb hts in_X1_findBridges_1 tyX1 tyX1_ok nmX1 hown hK hP hD hS 6 rfl rfl 2 (by decide) (hts (.fieldLink RX1 15 "Twincuts$Falls" "bridgeSet" "I") (List.mem_of_getElem? (i := 1) (by decide +kernel))) (fun _ h9 => h9) rfl (by decide +kernel) rfl rfl (Nat.le_of_ble_eq_true rfl) dX1_findBridges_77 (fun H locs hP hD hS => ?_)
            have hP : va_P D vwCl (jW cI g P n st sm gr co en la ++ jF cI g fp ((jmBr en P n st fp ln) ||| (2 ^ ln)) fc fk fq ft pa ps fi bl sp gp sw gw) H := hP
            have hD : va_D A (jW cI g P n st sm gr co en la ++ jF cI g fp ((jmBr en P n st fp ln) ||| (2 ^ ln)) fc fk fq ft pa ps fi bl sp gp sw gw) := jxD hD0 rfl
            refine lv_iinc (v := nI (ln + 1)) (lv' := [(1, .int (nI (ln + 1))), (2, .int (nI (jxAN st (2 ^ ln)))), (0, .ref (g 10))]) hx hb dX1_findBridges_80 hl (k := 2) rfl (jx_inc _) (by decide) rfl (fun ls hl => ?_)
            refine lv_goto (tgt := 7) hx hb dX1_findBridges_83 (by decide) ?_
            have ew_3 : (jmBr en P n st fp ln) ||| (2 ^ ln) = jmBr en P n st fp (ln + 1) := by first | with_reducible rfl | (simp [jmBr, c15, c43, c65]; done) | (simp [jmBr, c15, c43, c65]; omega) | omega
            exact ih7 (ln + 1) (by omega) (by omega) H locs (by rw [← ew_3]; exact hP) hS ls (lv_sub hl [2, 0] rfl)
  have ew_4 : 0 = jmBr en P n st fp 0 := by first | with_reducible rfl | (simp [jmBr, if_true]; done) | (simp [jmBr, if_true]; omega) | omega
  exact L7 ((n - 0) + 1) 0 (by omega) (Nat.lt_succ_self _) H locs (by rw [← ew_4]; exact hP) hS ls (lv_sub hl [1, 0] rfl)
set_option maxRecDepth 20000 in
theorem in_X1_findCutPoints_1 : ∀ w ∈ wsX10, w ∈ wsX1_findCutPoints := by decide +kernel
set_option maxRecDepth 20000 in
theorem in_X1_findCutPoints_5 : ∀ w ∈ wsX50, w ∈ wsX1_findCutPoints := by decide +kernel
set_option maxHeartbeats 4000000 in
set_option maxRecDepth 100000 in
/-- findCutPoints() -/
theorem c_X1_findCutPoints (l : Launch) (D : va_G) (cI : ClassId) (g : Nat → Nat) (P n st : Nat) (sm gr co en la : Nat → Nat) (fp fb fc fk fq ft : Nat) (pa ps fi : Nat → Nat) (bl : Nat → Int32) (sp gp sw gw : Nat → Nat) (sz : Nat) (hw : jmWF P n st sm gr co en la) (hps : ∀ j, j < 8 → ps j < 256) : jxWv l yX1_findCutPoints wsX1_findCutPoints ({ frames := 2, cells := 0, slots := 0, locals := 53 } : Room) D [(cI, .int)] (jW cI g P n st sm gr co en la ++ jF cI g fp fb fc fk fq ft pa ps fi bl sp gp sw gw) [.ref (g 10)] sz (jW cI g P n st sm gr co en la ++ jF cI g fp fb (jmCut en P n st ps P) fk fq ft pa ps fi bl sp gp sw gw) := by
  refine jxw_enterV (by decide) rfl (Nat.le_of_ble_eq_true rfl) ?_
  intro p e s m args below meth c Q A ls hx hb hml hts hown hN hP hK hD hA hl hQ
  have hD0 := hD
  obtain ⟨H, hH⟩ : ∃ h, h = s.heap := ⟨_, rfl⟩
  have hS : va_S A s.heap H [] := by rw [hH]; exact va_S.rf
  rw [← hH] at hP ⊢
  obtain ⟨locs, hlocs⟩ : ∃ z : List Loc, z = [] := ⟨_, rfl⟩
  rw [← hlocs] at hS ⊢
  have hown : s.vm.findClass RX1 = some m.cls := hown
  have hl : lv_has ls 2 [(0, .ref (g 10))] := hl
  have hP8 : P ≤ 8 := hw.1
  have hn16 : n ≤ 16 := hw.2.1
  have hst : st < 65536 := jmWF_st hw
  have hen : ∀ j, j < n → en j < 256 := jmWF_en hw
  have hla : ∀ q, q < P → la q < 65536 := jmWF_la hw
  have hgr : ∀ j, j < n → sm j < 8 ∧ gr j < 8 := jmWF_gr hw
  have hco : ∀ j, j < n → co j < 21 := jmWF_co hw
  have hP2 := jx_pow256 hP8
  refine lv_aload_n hx hb dX1_findCutPoints_0 rfl (lv_at hl 0 rfl) ?_
  refine lv_iconst (v := nI 0) hx hb dX1_findCutPoints_1 (by decide) ?_
  refine va_put (D := D) (ci := 1) (v := .int (nI 0)) (ty := .int) (C := RX1) (T := TX1) (N := 15) hx hb hts in_X1_findCutPoints_1 tyX1 tyX1_ok nmX1 hown hK hP hD hS 6 rfl rfl 3 (by decide) (hts (.fieldLink RX1 18 "Twincuts$Falls" "cutPointSet" "I") (List.mem_of_getElem? (i := 1) (by decide +kernel))) (fun _ h9 => h9) rfl (by decide +kernel) rfl rfl (Nat.le_of_ble_eq_true rfl) dX1_findCutPoints_2 (fun H locs hP hD hS => ?_)
  have hP : va_P D vwCl (jW cI g P n st sm gr co en la ++ jF cI g fp fb 0 fk fq ft pa ps fi bl sp gp sw gw) H := hP
  have hD : va_D A (jW cI g P n st sm gr co en la ++ jF cI g fp fb 0 fk fq ft pa ps fi bl sp gp sw gw) := jxD hD0 rfl
  refine lv_iconst (v := nI 0) hx hb dX1_findCutPoints_5 (by decide) ?_
  refine lv_istore_n (lv' := [(1, .int (nI 0)), (0, .ref (g 10))]) hx hb dX1_findCutPoints_6 rfl hl (by decide) rfl (fun ls hl => ?_)
  have L7 : ∀ (k : Nat) (q : Nat) (hq : q ≤ P), P - q < k → ∀ (H : Heap) (locs : List Loc), va_P D vwCl (jW cI g P n st sm gr co en la ++ jF cI g fp fb (jmCut en P n st ps q) fk fq ft pa ps fi bl sp gp sw gw) H → va_S A s.heap H locs → ∀ ls : Array Slot, lv_has ls 2 [(0, .ref (g 10)), (1, .int (nI q))] → W p l e ({ frames := 2, cells := 0, slots := 0, locals := 53 } : Room) s m args below meth c H locs 0 0 Q (F0 m 7 ls []) := by
    intro k
    induction k with
    | zero => intro q hq hk; exact absurd hk (Nat.not_lt_zero _)
    | succ k ih7 =>
      intro q hq hk H locs hP hS ls hl
      have hD : va_D A (jW cI g P n st sm gr co en la ++ jF cI g fp fb (jmCut en P n st ps q) fk fq ft pa ps fi bl sp gp sw gw) := jxD hD0 rfl
      refine lv_iload_n hx hb dX1_findCutPoints_7 rfl (lv_at hl 1 rfl) ?_
      refine lv_aload_n hx hb dX1_findCutPoints_8 rfl (lv_at hl 0 rfl) ?_
      refine va_get (D := D) (ci := 1) (v := .ref (g 0)) (C := RX1) (T := TX1) (N := 15) hx hb hts in_X1_findCutPoints_1 hown hK hP 6 rfl rfl 0 (by decide) (hts (.fieldLink RX1 55 "Twincuts$Falls" "web" "LTwincuts$Web;") (List.mem_of_getElem? (i := 2) (by decide +kernel))) (fun _ h9 => h9) rfl dX1_findCutPoints_9 ?_
      refine va_getN (D := D) (ci := 5) (v := .int (nI P)) (C := RX5) (T := TX5) (N := 8) hx hb hts in_X1_findCutPoints_5 hown hK hP 0 rfl rfl 0 (by decide) (hN.use 4 rfl) (fun _ h9 => h9) rfl dX1_findCutPoints_12 ?_
      refine lv_icmp_ge (tgt := 66) hx hb dX1_findCutPoints_15 (by decide) (fun c15 => ?_) (fun c15 => ?_)
      · have c15 : P ≤ q := jx_le (by omega) (by omega) c15
        have es_66 : P = q := (by omega)
        subst es_66
        exact hQ H locs _ _ dX1_findCutPoints_66 hP hS
      · have c15 : q < P := jx_nle (by omega) (by omega) c15
        refine lv_aload_n hx hb dX1_findCutPoints_18 rfl (lv_at hl 0 rfl) ?_
        refine va_get (D := D) (ci := 1) (v := .ref (g 0)) (C := RX1) (T := TX1) (N := 15) hx hb hts in_X1_findCutPoints_1 hown hK hP 6 rfl rfl 0 (by decide) (hts (.fieldLink RX1 55 "Twincuts$Falls" "web" "LTwincuts$Web;") (List.mem_of_getElem? (i := 2) (by decide +kernel))) (fun _ h9 => h9) rfl dX1_findCutPoints_19 ?_
        refine lv_aload_n hx hb dX1_findCutPoints_22 rfl (lv_at hl 0 rfl) ?_
        refine va_get (D := D) (ci := 1) (v := .ref (g 12)) (C := RX1) (T := TX1) (N := 15) hx hb hts in_X1_findCutPoints_1 hown hK hP 6 rfl rfl 8 (by decide) (hts (.fieldLink RX1 34 "Twincuts$Falls" "partSet" "[I") (List.mem_of_getElem? (i := 3) (by decide +kernel))) (fun _ h9 => h9) rfl dX1_findCutPoints_23 ?_
        refine lv_iload_n hx hb dX1_findCutPoints_26 rfl (lv_at hl 1 rfl) ?_
        refine jx_iald hx hb hK hP 8 0 rfl rfl (by omega) (by decide) dX1_findCutPoints_27 ?_
        refine lv_iconst (v := nI 1) hx hb dX1_findCutPoints_28 (by decide) ?_
        refine lv_iload_n hx hb dX1_findCutPoints_29 rfl (lv_at hl 1 rfl) ?_
        refine lv_ishl hx hb dX1_findCutPoints_30 ?_
        refine jx_val (z := (nI (2 ^ q))) (jx_1shl (by omega)) ?_
        refine lv_iconst (v := (-1)) hx hb dX1_findCutPoints_31 (by decide) ?_
        refine lv_ixor hx hb dX1_findCutPoints_32 ?_
        refine lv_iand hx hb dX1_findCutPoints_33 ?_
        refine jx_val (z := (nI (jxAN (ps q) (2 ^ q)))) (jx_not _ _) ?_
        refine lv_aload_n hx hb dX1_findCutPoints_34 rfl (lv_at hl 0 rfl) ?_
        refine va_get (D := D) (ci := 1) (v := .ref (g 0)) (C := RX1) (T := TX1) (N := 15) hx hb hts in_X1_findCutPoints_1 hown hK hP 6 rfl rfl 0 (by decide) (hts (.fieldLink RX1 55 "Twincuts$Falls" "web" "LTwincuts$Web;") (List.mem_of_getElem? (i := 2) (by decide +kernel))) (fun _ h9 => h9) rfl dX1_findCutPoints_35 ?_
        refine va_getN (D := D) (ci := 5) (v := .int (nI st)) (C := RX5) (T := TX5) (N := 8) hx hb hts in_X1_findCutPoints_5 hown hK hP 0 rfl rfl 2 (by decide) (hN.use 14 rfl) (fun _ h9 => h9) rfl dX1_findCutPoints_38 ?_
        refine jx_callV (As := [.int (nI (jxAN (ps q) (2 ^ q))), .int (nI st)]) (rest := []) ⟨hx, hb, hml, hown, hts⟩ (c_X5_countParts l D cI g P n st sm gr co en la hw (jxAN (ps q) (2 ^ q)) st (Nat.lt_trans (jxAN_lt (hps _ (by omega))) (by decide)) (by omega)) (cwV 2 hts gX1_findCutPoints_X5_countParts rfl rfl rfl (by decide +kernel) ⟨Nat.le_of_ble_eq_true rfl, Nat.le_of_ble_eq_true rfl⟩) hN (hP.sub (ws' := jW cI g P n st sm gr co en la) [0, 1, 2, 3, 4, 5] rfl) (hK.sub (tys' := [(cI, .int)]) [0] rfl) 0 5 rfl rfl rfl rfl hl.1 rfl (Nat.le_of_ble_eq_true rfl) dX1_findCutPoints_41 ⟨Nat.zero_le _, Nat.zero_le _⟩ (fun r hr => ?_)
        subst hr
        refine lv_iconst (v := nI 1) hx hb dX1_findCutPoints_44 (by decide) ?_
        refine lv_icmp_le (tgt := 60) hx hb dX1_findCutPoints_45 (by decide) (fun c45 => ?_) (fun c45 => ?_)
        · have c45 : jmCPc en (jxAN (ps q) (2 ^ q)) st n P ≤ 1 := jx_le (Nat.lt_of_le_of_lt (jmCPc_le _) (by omega)) (by decide) c45
          refine lv_iinc (v := nI (q + 1)) (lv' := [(1, .int (nI (q + 1))), (0, .ref (g 10))]) hx hb dX1_findCutPoints_60 hl (k := 1) rfl (jx_inc _) (by decide) rfl (fun ls hl => ?_)
          refine lv_goto (tgt := 7) hx hb dX1_findCutPoints_63 (by decide) ?_
          have ew_1 : jmCut en P n st ps q = jmCut en P n st ps (q + 1) := by first | with_reducible rfl | (simp [jmCut, c15, c45]; done) | (simp [jmCut, c15, c45]; omega) | omega
          exact ih7 (q + 1) (by omega) (by omega) H locs (by rw [← ew_1]; exact hP) hS ls (lv_sub hl [1, 0] rfl)
        · have c45 : 1 < jmCPc en (jxAN (ps q) (2 ^ q)) st n P := jx_nle (Nat.lt_of_le_of_lt (jmCPc_le _) (by omega)) (by decide) c45
          refine lv_aload_n hx hb dX1_findCutPoints_48 rfl (lv_at hl 0 rfl) ?_
          refine lv_dup hx hb dX1_findCutPoints_49 rfl ?_
          refine va_get (D := D) (ci := 1) (v := .int (nI (jmCut en P n st ps q))) (C := RX1) (T := TX1) (N := 15) hx hb hts in_X1_findCutPoints_1 hown hK hP 6 rfl rfl 3 (by decide) (hts (.fieldLink RX1 18 "Twincuts$Falls" "cutPointSet" "I") (List.mem_of_getElem? (i := 1) (by decide +kernel))) (fun _ h9 => h9) rfl dX1_findCutPoints_50 ?_
          refine lv_iconst (v := nI 1) hx hb dX1_findCutPoints_53 (by decide) ?_
          refine lv_iload_n hx hb dX1_findCutPoints_54 rfl (lv_at hl 1 rfl) ?_
          refine lv_ishl hx hb dX1_findCutPoints_55 ?_
          refine jx_val (z := (nI (2 ^ q))) (jx_1shl (by omega)) ?_
          refine lv_ior hx hb dX1_findCutPoints_56 ?_
          refine jx_val (z := (nI ((jmCut en P n st ps q) ||| (2 ^ q)))) (fa_or _ _) ?_
          refine va_put (D := D) (ci := 1) (v := .int (nI ((jmCut en P n st ps q) ||| (2 ^ q)))) (ty := .int) (C := RX1) (T := TX1) (N := 15) hx hb hts in_X1_findCutPoints_1 tyX1 tyX1_ok nmX1 hown hK hP hD hS 6 rfl rfl 3 (by decide) (hts (.fieldLink RX1 18 "Twincuts$Falls" "cutPointSet" "I") (List.mem_of_getElem? (i := 1) (by decide +kernel))) (fun _ h9 => h9) rfl (by decide +kernel) rfl rfl (Nat.le_of_ble_eq_true rfl) dX1_findCutPoints_57 (fun H locs hP hD hS => ?_)
          have hP : va_P D vwCl (jW cI g P n st sm gr co en la ++ jF cI g fp fb ((jmCut en P n st ps q) ||| (2 ^ q)) fk fq ft pa ps fi bl sp gp sw gw) H := hP
          have hD : va_D A (jW cI g P n st sm gr co en la ++ jF cI g fp fb ((jmCut en P n st ps q) ||| (2 ^ q)) fk fq ft pa ps fi bl sp gp sw gw) := jxD hD0 rfl
          refine lv_iinc (v := nI (q + 1)) (lv' := [(1, .int (nI (q + 1))), (0, .ref (g 10))]) hx hb dX1_findCutPoints_60 hl (k := 1) rfl (jx_inc _) (by decide) rfl (fun ls hl => ?_)
          refine lv_goto (tgt := 7) hx hb dX1_findCutPoints_63 (by decide) ?_
          have ew_2 : (jmCut en P n st ps q) ||| (2 ^ q) = jmCut en P n st ps (q + 1) := by first | with_reducible rfl | (simp [jmCut, c15, c45]; done) | (simp [jmCut, c15, c45]; omega) | omega
          exact ih7 (q + 1) (by omega) (by omega) H locs (by rw [← ew_2]; exact hP) hS ls (lv_sub hl [1, 0] rfl)
  have ew_3 : 0 = jmCut en P n st ps 0 := by first | with_reducible rfl | (simp [jmCut, if_true]; done) | (simp [jmCut, if_true]; omega) | omega
  exact L7 ((P - 0) + 1) 0 (by omega) (Nat.lt_succ_self _) H locs (by rw [← ew_3]; exact hP) hS ls (lv_sub hl [1, 0] rfl)
