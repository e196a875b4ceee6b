set_option maxRecDepth 20000 in
theorem in_X1_joinAtPoint_1 : ∀ w ∈ wsX10, w ∈ wsX1_joinAtPoint := by decide +kernel
set_option maxRecDepth 20000 in
theorem in_X1_joinAtPoint_5 : ∀ w ∈ wsX50, w ∈ wsX1_joinAtPoint := by decide +kernel
set_option maxHeartbeats 4000000 in
set_option maxRecDepth 100000 in
/-- joinAtPoint(point, line) -/
theorem c_X1_joinAtPoint (l : Launch) (D : va_G) (cI : ClassId) (g : Nat → Nat) (P n st : Nat) (sm gr co en la : Nat → Nat) (fp fb fc fk fq ft : Nat) (pa ps fi : Nat → Nat) (bl : Nat → Int32) (sp gp sw gw : Nat → Nat) (sz : Nat) (hw : jmWF P n st sm gr co en la) (q i : Nat) (hq : q < P) (hi : i < n) (hfi : ∀ j, j < 16 → fi j < 16) : jxWv l yX1_joinAtPoint wsX1_joinAtPoint ({ frames := 2, cells := 0, slots := 0, locals := 45 } : Room) D [(cI, .int)] (jW cI g P n st sm gr co en la ++ jF cI g fp fb fc fk fq ft pa ps fi bl sp gp sw gw) [.ref (g 10), .int (nI q), .int (nI i)] sz (jW cI g P n st sm gr co en la ++ jF cI g fp fb fc fk fq ft pa ps (jmJAP en la sm gr P n st fi q i (n - (i + 1))) bl sp gp sw gw) := by
  refine jxw_enterV (by decide) rfl (Nat.le_of_ble_eq_true rfl) ?_
  intro p e s m args below meth c Q A ls hx hb hml hts hown hN hP hK hD hA hl hQ
  have hD0 := hD
  obtain ⟨H, hH⟩ : ∃ h, h = s.heap := ⟨_, rfl⟩
  have hS : va_S A s.heap H [] := by rw [hH]; exact va_S.rf
  rw [← hH] at hP ⊢
  obtain ⟨locs, hlocs⟩ : ∃ z : List Loc, z = [] := ⟨_, rfl⟩
  rw [← hlocs] at hS ⊢
  have hown : s.vm.findClass RX1 = some m.cls := hown
  have hl : lv_has ls 6 [(0, .ref (g 10)), (1, .int (nI q)), (2, .int (nI i))] := hl
  have hP8 : P ≤ 8 := hw.1
  have hn16 : n ≤ 16 := hw.2.1
  have hst : st < 65536 := jmWF_st hw
  have hen : ∀ j, j < n → en j < 256 := jmWF_en hw
  have hla : ∀ q, q < P → la q < 65536 := jmWF_la hw
  have hgr : ∀ j, j < n → sm j < 8 ∧ gr j < 8 := jmWF_gr hw
  have hco : ∀ j, j < n → co j < 21 := jmWF_co hw
  have hP2 := jx_pow256 hP8
  have hen1 : jmEnd sm gr i q < 8 := by unfold jmEnd; have := hgr i hi; split <;> omega
  refine lv_aload_n hx hb dX1_joinAtPoint_0 rfl (lv_at hl 0 rfl) ?_
  refine va_get (D := D) (ci := 1) (v := .ref (g 0)) (C := RX1) (T := TX1) (N := 15) hx hb hts in_X1_joinAtPoint_1 hown hK hP 6 rfl rfl 0 (by decide) (hts (.fieldLink RX1 55 "Twincuts$Falls" "web" "LTwincuts$Web;") (List.mem_of_getElem? (i := 1) (by decide +kernel))) (fun _ h9 => h9) rfl dX1_joinAtPoint_1 ?_
  refine jx_callV (As := []) (rest := []) ⟨hx, hb, hml, hown, hts⟩ (c_X5_allPoints l D cI g P n st sm gr co en la hw ) (cwV 0 hts gX1_joinAtPoint_X5_allPoints rfl rfl rfl (by decide +kernel) ⟨Nat.le_of_ble_eq_true rfl, Nat.le_of_ble_eq_true rfl⟩) hN (hP.sub (ws' := jW cI g P n st sm gr co en la) [0, 1, 2, 3, 4, 5] rfl) (hK.sub (tys' := [(cI, .int)]) [0] rfl) 0 5 rfl rfl rfl rfl hl.1 rfl (Nat.le_of_ble_eq_true rfl) dX1_joinAtPoint_4 ⟨Nat.zero_le _, Nat.zero_le _⟩ (fun r hr => ?_)
  subst hr
  refine lv_iconst (v := nI 1) hx hb dX1_joinAtPoint_7 (by decide) ?_
  refine lv_iload_n hx hb dX1_joinAtPoint_8 rfl (lv_at hl 1 rfl) ?_
  refine lv_ishl hx hb dX1_joinAtPoint_9 ?_
  refine jx_val (z := (nI (2 ^ q))) (jx_1shl (by omega)) ?_
  refine lv_iconst (v := (-1)) hx hb dX1_joinAtPoint_10 (by decide) ?_
  refine lv_ixor hx hb dX1_joinAtPoint_11 ?_
  refine lv_iand hx hb dX1_joinAtPoint_12 ?_
  refine jx_val (z := (nI (jxAN (2 ^ P - 1) (2 ^ q)))) (jx_not _ _) ?_
  refine lv_istore_n (lv' := [(3, .int (nI (jxAN (2 ^ P - 1) (2 ^ q)))), (0, .ref (g 10)), (1, .int (nI q)), (2, .int (nI i))]) hx hb dX1_joinAtPoint_13 rfl hl (by decide) rfl (fun ls hl => ?_)
  refine lv_aload_n hx hb dX1_joinAtPoint_14 rfl (lv_at hl 1 rfl) ?_
  refine va_get (D := D) (ci := 1) (v := .ref (g 0)) (C := RX1) (T := TX1) (N := 15) hx hb hts in_X1_joinAtPoint_1 hown hK hP 6 rfl rfl 0 (by decide) (hts (.fieldLink RX1 55 "Twincuts$Falls" "web" "LTwincuts$Web;") (List.mem_of_getElem? (i := 1) (by decide +kernel))) (fun _ h9 => h9) rfl dX1_joinAtPoint_15 ?_
  refine lv_aload_n hx hb dX1_joinAtPoint_18 rfl (lv_at hl 1 rfl) ?_
  refine va_get (D := D) (ci := 1) (v := .ref (g 0)) (C := RX1) (T := TX1) (N := 15) hx hb hts in_X1_joinAtPoint_1 hown hK hP 6 rfl rfl 0 (by decide) (hts (.fieldLink RX1 55 "Twincuts$Falls" "web" "LTwincuts$Web;") (List.mem_of_getElem? (i := 1) (by decide +kernel))) (fun _ h9 => h9) rfl dX1_joinAtPoint_19 ?_
  refine lv_iload_n hx hb dX1_joinAtPoint_22 rfl (lv_at hl 3 rfl) ?_
  refine lv_iload_n hx hb dX1_joinAtPoint_23 rfl (lv_at hl 2 rfl) ?_
  refine jx_callV (As := [.int (nI i), .int (nI q)]) (rest := [.ref (g 0)]) ⟨hx, hb, hml, hown, hts⟩ (c_X5_otherEnd l D cI g P n st sm gr co en la hw i q (by omega) (by omega)) (cwV 2 hts gX1_joinAtPoint_X5_otherEnd rfl rfl rfl (by decide +kernel) ⟨Nat.le_of_ble_eq_true rfl, Nat.le_of_ble_eq_true rfl⟩) hN (hP.sub (ws' := jW cI g P n st sm gr co en la) [0, 1, 2, 3, 4, 5] rfl) (hK.sub (tys' := [(cI, .int)]) [0] rfl) 0 5 rfl rfl rfl rfl hl.1 rfl (Nat.le_of_ble_eq_true rfl) dX1_joinAtPoint_24 ⟨Nat.zero_le _, Nat.zero_le _⟩ (fun r hr => ?_)
  subst hr
  refine jx_val (z := (nI (jmEnd sm gr i q))) rfl ?_
  refine lv_iload_n hx hb dX1_joinAtPoint_27 rfl (lv_at hl 0 rfl) ?_
  refine lv_aload_n hx hb dX1_joinAtPoint_28 rfl (lv_at hl 1 rfl) ?_
  refine va_get (D := D) (ci := 1) (v := .ref (g 0)) (C := RX1) (T := TX1) (N := 15) hx hb hts in_X1_joinAtPoint_1 hown hK hP 6 rfl rfl 0 (by decide) (hts (.fieldLink RX1 55 "Twincuts$Falls" "web" "LTwincuts$Web;") (List.mem_of_getElem? (i := 1) (by decide +kernel))) (fun _ h9 => h9) rfl dX1_joinAtPoint_29 ?_
  refine va_getN (D := D) (ci := 5) (v := .int (nI st)) (C := RX5) (T := TX5) (N := 8) hx hb hts in_X1_joinAtPoint_5 hown hK hP 0 rfl rfl 2 (by decide) (hN.use 14 rfl) (fun _ h9 => h9) rfl dX1_joinAtPoint_32 ?_
  refine jx_callV (As := [.int (nI (jmEnd sm gr i q)), .int (nI (jxAN (2 ^ P - 1) (2 ^ q))), .int (nI st)]) (rest := []) ⟨hx, hb, hml, hown, hts⟩ (c_X5_reach l D cI g P n st sm gr co en la hw (jmEnd sm gr i q) (jxAN (2 ^ P - 1) (2 ^ q)) st (by omega) (Nat.lt_trans (jxAN_lt (N := 256) (by omega)) (by decide)) (by omega)) (cwV 3 hts gX1_joinAtPoint_X5_reach rfl rfl rfl (by decide +kernel) ⟨Nat.le_of_ble_eq_true rfl, Nat.le_of_ble_eq_true rfl⟩) hN (hP.sub (ws' := jW cI g P n st sm gr co en la) [0, 1, 2, 3, 4, 5] rfl) (hK.sub (tys' := [(cI, .int)]) [0] rfl) 0 5 rfl rfl rfl rfl hl.1 rfl (Nat.le_of_ble_eq_true rfl) dX1_joinAtPoint_35 ⟨Nat.zero_le _, Nat.zero_le _⟩ (fun r hr => ?_)
  subst hr
  refine lv_istore (lv' := [(4, .int (nI (jmReach en (jxAN (2 ^ P - 1) (2 ^ q)) st n (jmEnd sm gr i q)))), (3, .int (nI (jxAN (2 ^ P - 1) (2 ^ q)))), (0, .ref (g 10)), (1, .int (nI q)), (2, .int (nI i))]) hx hb dX1_joinAtPoint_38 hl (by decide) rfl (fun ls hl => ?_)
  refine lv_iload_n hx hb dX1_joinAtPoint_40 rfl (lv_at hl 4 rfl) ?_
  refine lv_iconst (v := nI 1) hx hb dX1_joinAtPoint_41 (by decide) ?_
  refine lv_iadd hx hb dX1_joinAtPoint_42 ?_
  refine jx_val (z := (nI (i + 1))) (nI_add _ _) ?_
  refine lv_istore (lv' := [(5, .int (nI (i + 1))), (4, .int (nI (jmReach en (jxAN (2 ^ P - 1) (2 ^ q)) st n (jmEnd sm gr i q)))), (3, .int (nI (jxAN (2 ^ P - 1) (2 ^ q)))), (0, .ref (g 10)), (1, .int (nI q)), (2, .int (nI i))]) hx hb dX1_joinAtPoint_43 hl (by decide) rfl (fun ls hl => ?_)
  have L45 : ∀ (k : Nat) (k1 : Nat) (hk1 : i + 1 + k1 ≤ n), n - (i + 1 + k1) < k → ∀ (H : Heap) (locs : List Loc), va_P D vwCl (jW cI g P n st sm gr co en la ++ jF cI g fp fb fc fk fq ft pa ps (jmJAP en la sm gr P n st fi q i k1) bl sp gp sw gw) H → va_S A s.heap H locs → ∀ ls : Array Slot, lv_has ls 6 [(0, .ref (g 10)), (1, .int (nI q)), (2, .int (nI i)), (4, .int (nI (jmReach en (jxAN (2 ^ P - 1) (2 ^ q)) st n (jmEnd sm gr i q)))), (5, .int (nI (i + 1 + k1)))] → W p l e ({ frames := 2, cells := 0, slots := 0, locals := 45 } : Room) s m args below meth c H locs 0 0 Q (F0 m 45 ls []) := by
    intro k
    induction k with
    | zero => intro k1 hk1 hk; exact absurd hk (Nat.not_lt_zero _)
    | succ k ih45 =>
      intro k1 hk1 hk H locs hP hS ls hl
      have hD : va_D A (jW cI g P n st sm gr co en la ++ jF cI g fp fb fc fk fq ft pa ps (jmJAP en la sm gr P n st fi q i k1) bl sp gp sw gw) := jxD hD0 rfl
      have hJ := jmJAP_lt (en := en) (la := la) (sm := sm) (gr := gr) (P := P) (st := st) (q := q) hn16 hi hfi hk1
      refine lv_iload hx hb dX1_joinAtPoint_45 (lv_at hl 4 rfl) ?_
      refine lv_aload_n hx hb dX1_joinAtPoint_47 rfl (lv_at hl 0 rfl) ?_
      refine va_get (D := D) (ci := 1) (v := .ref (g 0)) (C := RX1) (T := TX1) (N := 15) hx hb hts in_X1_joinAtPoint_1 hown hK hP 6 rfl rfl 0 (by decide) (hts (.fieldLink RX1 55 "Twincuts$Falls" "web" "LTwincuts$Web;") (List.mem_of_getElem? (i := 1) (by decide +kernel))) (fun _ h9 => h9) rfl dX1_joinAtPoint_48 ?_
      refine va_getN (D := D) (ci := 5) (v := .int (nI n)) (C := RX5) (T := TX5) (N := 8) hx hb hts in_X1_joinAtPoint_5 hown hK hP 0 rfl rfl 1 (by decide) (hN.use 7 rfl) (fun _ h9 => h9) rfl dX1_joinAtPoint_51 ?_
      refine lv_icmp_ge (tgt := 114) hx hb dX1_joinAtPoint_54 (by decide) (fun c54 => ?_) (fun c54 => ?_)
      · have c54 : n ≤ i + 1 + k1 := jx_le (by omega) (by omega) c54
        have es_114 : k1 = (n - (i + 1)) := (by omega)
        subst es_114
        exact hQ H locs _ _ dX1_joinAtPoint_114 hP hS
      · have c54 : i + 1 + k1 < n := jx_nle (by omega) (by omega) c54
        refine lv_aload_n hx hb dX1_joinAtPoint_57 rfl (lv_at hl 0 rfl) ?_
        refine va_get (D := D) (ci := 1) (v := .ref (g 0)) (C := RX1) (T := TX1) (N := 15) hx hb hts in_X1_joinAtPoint_1 hown hK hP 6 rfl rfl 0 (by decide) (hts (.fieldLink RX1 55 "Twincuts$Falls" "web" "LTwincuts$Web;") (List.mem_of_getElem? (i := 1) (by decide +kernel))) (fun _ h9 => h9) rfl dX1_joinAtPoint_58 ?_
        refine lv_iload_n hx hb dX1_joinAtPoint_61 rfl (lv_at hl 1 rfl) ?_
        refine jx_callV (As := [.int (nI q)]) (rest := []) ⟨hx, hb, hml, hown, hts⟩ (c_X5_standingAt l D cI g P n st sm gr co en la hw q (by omega)) (cwV 1 hts gX1_joinAtPoint_X5_standingAt rfl rfl rfl (by decide +kernel) ⟨Nat.le_of_ble_eq_true rfl, Nat.le_of_ble_eq_true rfl⟩) hN (hP.sub (ws' := jW cI g P n st sm gr co en la) [0, 1, 2, 3, 4, 5] rfl) (hK.sub (tys' := [(cI, .int)]) [0] rfl) 0 5 rfl rfl rfl rfl hl.1 rfl (Nat.le_of_ble_eq_true rfl) dX1_joinAtPoint_62 ⟨Nat.zero_le _, Nat.zero_le _⟩ (fun r hr => ?_)
        subst hr
        refine lv_iload hx hb dX1_joinAtPoint_65 (lv_at hl 4 rfl) ?_
        refine jx_callSN (As := [.int (nI (la q &&& st)), .int (nI (i + 1 + k1))]) (rest := []) ⟨hx, hb, hml, hown, hts⟩ (c_X6_has l D (la q &&& st) (i + 1 + k1) (Nat.lt_of_le_of_lt Nat.and_le_left (by have := hla q (by omega); omega)) (by omega)) (va_cnB 2 hts gX1_joinAtPoint_X6_has_n89 rfl rfl rfl (hN.get 43 rfl) (hts (.initialized RX6) (List.mem_of_getElem? (i := 28) (by decide +kernel))) (by decide +kernel) ⟨Nat.le_of_ble_eq_true rfl, Nat.le_of_ble_eq_true rfl⟩) (hts (.static yX6_has) (List.mem_of_getElem? (i := 27) (by decide +kernel))) hN (hP.sub (ws' := []) [] rfl) (hK.sub (tys' := []) [] rfl) rfl hl.1 rfl (Nat.le_of_ble_eq_true rfl) dX1_joinAtPoint_67 ⟨Nat.zero_le _, Nat.zero_le _⟩ (fun r hr => ?_)
        subst hr
        refine lv_if_eq (tgt := 108) hx hb dX1_joinAtPoint_70 (by decide) (fun c70 => ?_) (fun c70 => ?_)
        · have c70 := jB_0 c70
          refine lv_iinc (v := nI (i + 1 + k1 + 1)) (lv' := [(5, .int (nI (i + 1 + k1 + 1))), (0, .ref (g 10)), (1, .int (nI q)), (2, .int (nI i)), (4, .int (nI (jmReach en (jxAN (2 ^ P - 1) (2 ^ q)) st n (jmEnd sm gr i q))))]) hx hb dX1_joinAtPoint_108 hl (k := 4) rfl (jx_inc _) (by decide) rfl (fun ls hl => ?_)
          refine lv_goto (tgt := 45) hx hb dX1_joinAtPoint_111 (by decide) ?_
          have ev_1 : i + 1 + k1 + 1 = i + 1 + (k1 + 1) := by first | with_reducible rfl | (simp [jmJAP, c54, c70]; done) | omega
          have ew_2 : jmJAP en la sm gr P n st fi q i k1 = jmJAP en la sm gr P n st fi q i (k1 + 1) := by first | with_reducible rfl | (simp [jmJAP, c54, c70]; done) | omega
          exact ih45 (k1 + 1) (by omega) (by omega) H locs (by rw [← ew_2]; exact hP) hS ls (by rw [← ev_1]; exact lv_sub hl [1, 2, 3, 4, 0] rfl)
        · have c70 := jB_1 c70
          refine lv_iload hx hb dX1_joinAtPoint_73 (lv_at hl 3 rfl) ?_
          refine lv_aload_n hx hb dX1_joinAtPoint_75 rfl (lv_at hl 0 rfl) ?_
          refine va_get (D := D) (ci := 1) (v := .ref (g 0)) (C := RX1) (T := TX1) (N := 15) hx hb hts in_X1_joinAtPoint_1 hown hK hP 6 rfl rfl 0 (by decide) (hts (.fieldLink RX1 55 "Twincuts$Falls" "web" "LTwincuts$Web;") (List.mem_of_getElem? (i := 1) (by decide +kernel))) (fun _ h9 => h9) rfl dX1_joinAtPoint_76 ?_
          refine lv_iload hx hb dX1_joinAtPoint_79 (lv_at hl 4 rfl) ?_
          refine lv_iload_n hx hb dX1_joinAtPoint_81 rfl (lv_at hl 1 rfl) ?_
          have hen2 : jmEnd sm gr (i + 1 + k1) q < 8 := by unfold jmEnd; have := hgr (i + 1 + k1) (by omega); split <;> omega
          refine jx_callV (As := [.int (nI (i + 1 + k1)), .int (nI q)]) (rest := [.int (nI (jmReach en (jxAN (2 ^ P - 1) (2 ^ q)) st n (jmEnd sm gr i q)))]) ⟨hx, hb, hml, hown, hts⟩ (c_X5_otherEnd l D cI g P n st sm gr co en la hw (i + 1 + k1) q (by omega) (by omega)) (cwV 2 hts gX1_joinAtPoint_X5_otherEnd rfl rfl rfl (by decide +kernel) ⟨Nat.le_of_ble_eq_true rfl, Nat.le_of_ble_eq_true rfl⟩) hN (hP.sub (ws' := jW cI g P n st sm gr co en la) [0, 1, 2, 3, 4, 5] rfl) (hK.sub (tys' := [(cI, .int)]) [0] rfl) 0 5 rfl rfl rfl rfl hl.1 rfl (Nat.le_of_ble_eq_true rfl) dX1_joinAtPoint_82 ⟨Nat.zero_le _, Nat.zero_le _⟩ (fun r hr => ?_)
          subst hr
          refine jx_val (z := (nI (jmEnd sm gr (i + 1 + k1) q))) rfl ?_
          refine jx_callSN (As := [.int (nI (jmReach en (jxAN (2 ^ P - 1) (2 ^ q)) st n (jmEnd sm gr i q))), .int (nI (jmEnd sm gr (i + 1 + k1) q))]) (rest := []) ⟨hx, hb, hml, hown, hts⟩ (c_X6_has l D (jmReach en (jxAN (2 ^ P - 1) (2 ^ q)) st n (jmEnd sm gr i q)) (jmEnd sm gr (i + 1 + k1) q) (Nat.lt_trans (jmReach_lt hen1 hen) (by decide)) (by omega)) (va_cnB 2 hts gX1_joinAtPoint_X6_has_n89 rfl rfl rfl (hN.get 43 rfl) (hts (.initialized RX6) (List.mem_of_getElem? (i := 28) (by decide +kernel))) (by decide +kernel) ⟨Nat.le_of_ble_eq_true rfl, Nat.le_of_ble_eq_true rfl⟩) (hts (.static yX6_has) (List.mem_of_getElem? (i := 27) (by decide +kernel))) hN (hP.sub (ws' := []) [] rfl) (hK.sub (tys' := []) [] rfl) rfl hl.1 rfl (Nat.le_of_ble_eq_true rfl) dX1_joinAtPoint_85 ⟨Nat.zero_le _, Nat.zero_le _⟩ (fun r hr => ?_)
          subst hr
          refine lv_if_eq (tgt := 108) hx hb dX1_joinAtPoint_88 (by decide) (fun c88 => ?_) (fun c88 => ?_)
          · have c88 := jB_0 c88
            refine lv_iinc (v := nI (i + 1 + k1 + 1)) (lv' := [(5, .int (nI (i + 1 + k1 + 1))), (0, .ref (g 10)), (1, .int (nI q)), (2, .int (nI i)), (4, .int (nI (jmReach en (jxAN (2 ^ P - 1) (2 ^ q)) st n (jmEnd sm gr i q))))]) hx hb dX1_joinAtPoint_108 hl (k := 4) rfl (jx_inc _) (by decide) rfl (fun ls hl => ?_)
            refine lv_goto (tgt := 45) hx hb dX1_joinAtPoint_111 (by decide) ?_
            have ev_3 : i + 1 + k1 + 1 = i + 1 + (k1 + 1) := by first | with_reducible rfl | (simp [jmJAP, c54, c70, c88]; done) | omega
            have ew_4 : jmJAP en la sm gr P n st fi q i k1 = jmJAP en la sm gr P n st fi q i (k1 + 1) := by first | with_reducible rfl | (simp [jmJAP, c54, c70, c88]; done) | omega
            exact ih45 (k1 + 1) (by omega) (by omega) H locs (by rw [← ew_4]; exact hP) hS ls (by rw [← ev_3]; exact lv_sub hl [1, 2, 3, 4, 0] rfl)
          · have c88 := jB_1 c88
            refine lv_aload_n hx hb dX1_joinAtPoint_91 rfl (lv_at hl 0 rfl) ?_
            refine lv_aload_n hx hb dX1_joinAtPoint_92 rfl (lv_at hl 0 rfl) ?_
            refine va_get (D := D) (ci := 1) (v := .ref (g 13)) (C := RX1) (T := TX1) (N := 15) hx hb hts in_X1_joinAtPoint_1 hown hK hP 6 rfl rfl 9 (by decide) (hts (.fieldLink RX1 37 "Twincuts$Falls" "first" "[I") (List.mem_of_getElem? (i := 2) (by decide +kernel))) (fun _ h9 => h9) rfl dX1_joinAtPoint_93 ?_
            refine lv_iload_n hx hb dX1_joinAtPoint_96 rfl (lv_at hl 2 rfl) ?_
            refine jx_iald hx hb hK hP 9 0 rfl rfl (by omega) (by decide) dX1_joinAtPoint_97 ?_
            refine lv_aload_n hx hb dX1_joinAtPoint_98 rfl (lv_at hl 0 rfl) ?_
            refine va_get (D := D) (ci := 1) (v := .ref (g 13)) (C := RX1) (T := TX1) (N := 15) hx hb hts in_X1_joinAtPoint_1 hown hK hP 6 rfl rfl 9 (by decide) (hts (.fieldLink RX1 37 "Twincuts$Falls" "first" "[I") (List.mem_of_getElem? (i := 2) (by decide +kernel))) (fun _ h9 => h9) rfl dX1_joinAtPoint_99 ?_
            refine lv_iload hx hb dX1_joinAtPoint_102 (lv_at hl 4 rfl) ?_
            refine jx_iald hx hb hK hP 9 0 rfl rfl (by omega) (by decide) dX1_joinAtPoint_104 ?_
            refine jxw_callV (X := jW cI g P n st sm gr co en la ++ jF cI g fp fb fc fk fq ft pa ps (jmJAP en la sm gr P n st fi q i k1) bl sp gp sw gw) (X' := jW cI g P n st sm gr co en la ++ jF cI g fp fb fc fk fq ft pa ps (jmJoin (jmJAP en la sm gr P n st fi q i k1) ((jmJAP en la sm gr P n st fi q i k1) i) ((jmJAP en la sm gr P n st fi q i k1) (i + 1 + k1)) n) bl sp gp sw gw) (wc := jW cI g P n st sm gr co en la ++ jF cI g fp fb fc fk fq ft pa ps (jmJAP en la sm gr P n st fi q i k1) bl sp gp sw gw) (wc' := jW cI g P n st sm gr co en la ++ jF cI g fp fb fc fk fq ft pa ps (jmJoin (jmJAP en la sm gr P n st fi q i k1) ((jmJAP en la sm gr P n st fi q i k1) i) ((jmJAP en la sm gr P n st fi q i k1) (i + 1 + k1)) n) bl sp gp sw gw) (wr := []) (N := 15) (As := [.int (nI ((jmJAP en la sm gr P n st fi q i k1) i)), .int (nI ((jmJAP en la sm gr P n st fi q i k1) (i + 1 + k1)))]) (rest := []) ⟨hx, hb, hml, hown, hts⟩ (c_X1_join l D cI g P n st sm gr co en la fp fb fc fk fq ft pa ps (jmJAP en la sm gr P n st fi q i k1) bl sp gp sw gw H.size hw ((jmJAP en la sm gr P n st fi q i k1) i) ((jmJAP en la sm gr P n st fi q i k1) (i + 1 + k1)) (hJ _ (by omega)) (hJ _ (by omega)) hJ) (cwV 2 hts gX1_joinAtPoint_X1_join rfl rfl rfl (by decide +kernel) ⟨Nat.le_of_ble_eq_true rfl, Nat.le_of_ble_eq_true rfl⟩) hN hP hD (hK.sub (tys' := [(cI, .int)]) [0] rfl) hS hA [0, 1, 2, 3, 4, 5, 6, 7, 8, 9, 10, 11, 12, 13, 14] [] rfl rfl rfl rfl rfl rfl (by decide) (by decide) 6 1 rfl rfl rfl (hK.sub (tys' := [(cI, .int)]) [0] rfl) rfl hl.1 rfl (Nat.le_of_ble_eq_true rfl) dX1_joinAtPoint_105 ⟨Nat.zero_le _, Nat.zero_le _⟩ (fun H locs hP hS => ?_)
            have hD : va_D A (jW cI g P n st sm gr co en la ++ jF cI g fp fb fc fk fq ft pa ps (jmJoin (jmJAP en la sm gr P n st fi q i k1) ((jmJAP en la sm gr P n st fi q i k1) i) ((jmJAP en la sm gr P n st fi q i k1) (i + 1 + k1)) n) bl sp gp sw gw) := jxD hD0 rfl
            refine lv_iinc (v := nI (i + 1 + k1 + 1)) (lv' := [(5, .int (nI (i + 1 + k1 + 1))), (0, .ref (g 10)), (1, .int (nI q)), (2, .int (nI i)), (4, .int (nI (jmReach en (jxAN (2 ^ P - 1) (2 ^ q)) st n (jmEnd sm gr i q))))]) hx hb dX1_joinAtPoint_108 hl (k := 4) rfl (jx_inc _) (by decide) rfl (fun ls hl => ?_)
            refine lv_goto (tgt := 45) hx hb dX1_joinAtPoint_111 (by decide) ?_
            have ev_5 : i + 1 + k1 + 1 = i + 1 + (k1 + 1) := by first | with_reducible rfl | (simp [jmJAP, c54, c70, c88]; done) | omega
            have ew_6 : jmJoin (jmJAP en la sm gr P n st fi q i k1) ((jmJAP en la sm gr P n st fi q i k1) i) ((jmJAP en la sm gr P n st fi q i k1) (i + 1 + k1)) n = jmJAP en la sm gr P n st fi q i (k1 + 1) := by first | with_reducible rfl | (simp [jmJAP, c54, c70, c88]; done) | omega
            exact ih45 (k1 + 1) (by omega) (by omega) H locs (by rw [← ew_6]; exact hP) hS ls (by rw [← ev_5]; exact lv_sub hl [1, 2, 3, 4, 0] rfl)
  have ev_7 : i + 1 = i + 1 + 0 := by first | with_reducible rfl | (simp [jmJAP, if_true]; done) | omega
  have ew_8 : fi = jmJAP en la sm gr P n st fi q i 0 := by first | with_reducible rfl | (simp [jmJAP, if_true]; done) | omega
  exact L45 ((n - (i + 1 + 0)) + 1) 0 (by omega) (Nat.lt_succ_self _) H locs (by rw [← ew_8]; exact hP) hS ls (by rw [← ev_7]; exact lv_sub hl [3, 4, 5, 1, 0] rfl)
