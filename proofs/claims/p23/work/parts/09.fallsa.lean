set_option maxRecDepth 20000 in
theorem in_X1_putInPart_1 : ∀ w ∈ wsX10, w ∈ wsX1_putInPart := by decide +kernel
set_option maxRecDepth 20000 in
theorem in_X1_putInPart_5 : ∀ w ∈ wsX50, w ∈ wsX1_putInPart := by decide +kernel
set_option maxHeartbeats 4000000 in
set_option maxRecDepth 100000 in
/-- putInPart(set) -/
theorem c_X1_putInPart (l : Launch) (D : va_G) (cI : ClassId) (g : Nat → Nat) (P n st : Nat) (sm gr co en la : Nat → Nat) (fp fb fc fk fq ft : Nat) (pa ps fi : Nat → Nat) (bl : Nat → Int32) (sp gp sw gw : Nat → Nat) (sz : Nat) (hw : jmWF P n st sm gr co en la) (S : Nat) (hS : S < 65536) : jxWv l yX1_putInPart wsX1_putInPart ({ frames := 1, cells := 0, slots := 0, locals := 21 } : Room) D [(cI, .int)] (jW cI g P n st sm gr co en la ++ jF cI g fp fb fc fk fq ft pa ps fi bl sp gp sw gw) [.ref (g 10), .int (nI S)] sz (jW cI g P n st sm gr co en la ++ jF cI g fp fb fc fk fq ft (jmPut pa S fp P) (jmPut ps S S P) fi bl sp gp sw gw) := by
  refine jxw_enterV (by decide) rfl (Nat.le_of_ble_eq_true rfl) ?_
  intro p e s m args below meth c Q A ls hx hb hml hts hown hN hP hK hD hA hl hQ
  have hD0 := hD
  obtain ⟨H, hH⟩ : ∃ h, h = s.heap := ⟨_, rfl⟩
  have hS : va_S A s.heap H [] := by rw [hH]; exact va_S.rf
  rw [← hH] at hP ⊢
  obtain ⟨locs, hlocs⟩ : ∃ z : List Loc, z = [] := ⟨_, rfl⟩
  rw [← hlocs] at hS ⊢
  have hown : s.vm.findClass RX1 = some m.cls := hown
  have hl : lv_has ls 3 [(0, .ref (g 10)), (1, .int (nI S))] := hl
  have hP8 : P ≤ 8 := hw.1
  have hn16 : n ≤ 16 := hw.2.1
  have hst : st < 65536 := jmWF_st hw
  have hen : ∀ j, j < n → en j < 256 := jmWF_en hw
  have hla : ∀ q, q < P → la q < 65536 := jmWF_la hw
  have hgr : ∀ j, j < n → sm j < 8 ∧ gr j < 8 := jmWF_gr hw
  have hco : ∀ j, j < n → co j < 21 := jmWF_co hw
  refine lv_iconst (v := nI 0) hx hb dX1_putInPart_0 (by decide) ?_
  refine lv_istore_n (lv' := [(2, .int (nI 0)), (0, .ref (g 10)), (1, .int (nI S))]) hx hb dX1_putInPart_1 rfl hl (by decide) rfl (fun ls hl => ?_)
  have L2 : ∀ (k : Nat) (q : Nat) (hq : q ≤ P), P - q < k → ∀ (H : Heap) (locs : List Loc), va_P D vwCl (jW cI g P n st sm gr co en la ++ jF cI g fp fb fc fk fq ft (jmPut pa S fp q) (jmPut ps S S q) fi bl sp gp sw gw) H → va_S A s.heap H locs → ∀ ls : Array Slot, lv_has ls 3 [(0, .ref (g 10)), (1, .int (nI S)), (2, .int (nI q))] → W p l e ({ frames := 1, cells := 0, slots := 0, locals := 21 } : Room) s m args below meth c H locs 0 0 Q (F0 m 2 ls []) := by
    intro k
    induction k with
    | zero => intro q hq hk; exact absurd hk (Nat.not_lt_zero _)
    | succ k ih2 =>
      intro q hq hk H locs hP hS ls hl
      have hD : va_D A (jW cI g P n st sm gr co en la ++ jF cI g fp fb fc fk fq ft (jmPut pa S fp q) (jmPut ps S S q) fi bl sp gp sw gw) := jxD hD0 rfl
      refine lv_iload_n hx hb dX1_putInPart_2 rfl (lv_at hl 2 rfl) ?_
      refine lv_aload_n hx hb dX1_putInPart_3 rfl (lv_at hl 0 rfl) ?_
      refine va_get (D := D) (ci := 1) (v := .ref (g 0)) (C := RX1) (T := TX1) (N := 15) hx hb hts in_X1_putInPart_1 hown hK hP 6 rfl rfl 0 (by decide) (hts (.fieldLink RX1 55 "Twincuts$Falls" "web" "LTwincuts$Web;") (List.mem_of_getElem? (i := 1) (by decide +kernel))) (fun _ h9 => h9) rfl dX1_putInPart_4 ?_
      refine va_getN (D := D) (ci := 5) (v := .int (nI P)) (C := RX5) (T := TX5) (N := 8) hx hb hts in_X1_putInPart_5 hown hK hP 0 rfl rfl 0 (by decide) (hN.use 4 rfl) (fun _ h9 => h9) rfl dX1_putInPart_7 ?_
      refine lv_icmp_ge (tgt := 44) hx hb dX1_putInPart_10 (by decide) (fun c10 => ?_) (fun c10 => ?_)
      · have c10 : P ≤ q := jx_le (by omega) (by omega) c10
        have es_44 : P = q := (by omega)
        subst es_44
        exact hQ H locs _ _ dX1_putInPart_44 hP hS
      · have c10 : q < P := jx_nle (by omega) (by omega) c10
        refine lv_iload_n hx hb dX1_putInPart_13 rfl (lv_at hl 1 rfl) ?_
        refine lv_iload_n hx hb dX1_putInPart_14 rfl (lv_at hl 2 rfl) ?_
        refine jx_callSN (As := [.int (nI S), .int (nI q)]) (rest := []) ⟨hx, hb, hml, hown, hts⟩ (c_X6_has l D S q (by omega) (by omega)) (va_cnB 2 hts gX1_putInPart_X6_has_n89 rfl rfl rfl (hN.get 43 rfl) (hts (.initialized RX6) (List.mem_of_getElem? (i := 6) (by decide +kernel))) (by decide +kernel) ⟨Nat.le_of_ble_eq_true rfl, Nat.le_of_ble_eq_true rfl⟩) (hts (.static yX6_has) (List.mem_of_getElem? (i := 5) (by decide +kernel))) hN (hP.sub (ws' := []) [] rfl) (hK.sub (tys' := []) [] rfl) rfl hl.1 rfl (Nat.le_of_ble_eq_true rfl) dX1_putInPart_15 ⟨Nat.zero_le _, Nat.zero_le _⟩ (fun r hr => ?_)
        subst hr
        refine lv_if_eq (tgt := 38) hx hb dX1_putInPart_18 (by decide) (fun c18 => ?_) (fun c18 => ?_)
        · have c18 := jB_0 c18
          refine lv_iinc (v := nI (q + 1)) (lv' := [(2, .int (nI (q + 1))), (0, .ref (g 10)), (1, .int (nI S))]) hx hb dX1_putInPart_38 hl (k := 2) rfl (jx_inc _) (by decide) rfl (fun ls hl => ?_)
          refine lv_goto (tgt := 2) hx hb dX1_putInPart_41 (by decide) ?_
          have ew_1 : jmPut pa S fp q = jmPut pa S fp (q + 1) := by first | with_reducible rfl | exact jmPut_up c18 | exact jmPut_no c18 | omega
          have ew_2 : jmPut ps S S q = jmPut ps S S (q + 1) := by first | with_reducible rfl | exact jmPut_up c18 | exact jmPut_no c18 | omega
          exact ih2 (q + 1) (by omega) (by omega) H locs (by rw [← ew_1, ← ew_2]; exact hP) hS ls (lv_sub hl [1, 2, 0] rfl)
        · have c18 := jB_1 c18
          refine lv_aload_n hx hb dX1_putInPart_21 rfl (lv_at hl 0 rfl) ?_
          refine va_get (D := D) (ci := 1) (v := .ref (g 11)) (C := RX1) (T := TX1) (N := 15) hx hb hts in_X1_putInPart_1 hown hK hP 6 rfl rfl 7 (by decide) (hts (.fieldLink RX1 30 "Twincuts$Falls" "part" "[I") (List.mem_of_getElem? (i := 2) (by decide +kernel))) (fun _ h9 => h9) rfl dX1_putInPart_22 ?_
          refine lv_iload_n hx hb dX1_putInPart_25 rfl (lv_at hl 2 rfl) ?_
          refine lv_aload_n hx hb dX1_putInPart_26 rfl (lv_at hl 0 rfl) ?_
          refine va_get (D := D) (ci := 1) (v := .int (nI fp)) (C := RX1) (T := TX1) (N := 15) hx hb hts in_X1_putInPart_1 hown hK hP 6 rfl rfl 1 (by decide) (hts (.fieldLink RX1 9 "Twincuts$Falls" "parts" "I") (List.mem_of_getElem? (i := 3) (by decide +kernel))) (fun _ h9 => h9) rfl dX1_putInPart_27 ?_
          refine jx_iastN hx hb hK hP hD hS 7 0 rfl rfl (by omega) (by decide) dX1_putInPart_30 (fun H locs hP hD hS => ?_)
          have hP : va_P D vwCl (jW cI g P n st sm gr co en la ++ jF cI g fp fb fc fk fq ft (jxUp (jmPut pa S fp q) q fp) (jmPut ps S S q) fi bl sp gp sw gw) H := hP
          have hD : va_D A (jW cI g P n st sm gr co en la ++ jF cI g fp fb fc fk fq ft (jxUp (jmPut pa S fp q) q fp) (jmPut ps S S q) fi bl sp gp sw gw) := jxD hD0 rfl
          refine lv_aload_n hx hb dX1_putInPart_31 rfl (lv_at hl 0 rfl) ?_
          refine va_get (D := D) (ci := 1) (v := .ref (g 12)) (C := RX1) (T := TX1) (N := 15) hx hb hts in_X1_putInPart_1 hown hK hP 6 rfl rfl 8 (by decide) (hts (.fieldLink RX1 34 "Twincuts$Falls" "partSet" "[I") (List.mem_of_getElem? (i := 4) (by decide +kernel))) (fun _ h9 => h9) rfl dX1_putInPart_32 ?_
          refine lv_iload_n hx hb dX1_putInPart_35 rfl (lv_at hl 2 rfl) ?_
          refine lv_iload_n hx hb dX1_putInPart_36 rfl (lv_at hl 1 rfl) ?_
          refine jx_iastN hx hb hK hP hD hS 8 0 rfl rfl (by omega) (by decide) dX1_putInPart_37 (fun H locs hP hD hS => ?_)
          have hP : va_P D vwCl (jW cI g P n st sm gr co en la ++ jF cI g fp fb fc fk fq ft (jxUp (jmPut pa S fp q) q fp) (jxUp (jmPut ps S S q) q S) fi bl sp gp sw gw) H := hP
          have hD : va_D A (jW cI g P n st sm gr co en la ++ jF cI g fp fb fc fk fq ft (jxUp (jmPut pa S fp q) q fp) (jxUp (jmPut ps S S q) q S) fi bl sp gp sw gw) := jxD hD0 rfl
          refine lv_iinc (v := nI (q + 1)) (lv' := [(2, .int (nI (q + 1))), (0, .ref (g 10)), (1, .int (nI S))]) hx hb dX1_putInPart_38 hl (k := 2) rfl (jx_inc _) (by decide) rfl (fun ls hl => ?_)
          refine lv_goto (tgt := 2) hx hb dX1_putInPart_41 (by decide) ?_
          have ew_3 : jxUp (jmPut pa S fp q) q fp = jmPut pa S fp (q + 1) := by first | with_reducible rfl | exact jmPut_up c18 | exact jmPut_no c18 | omega
          have ew_4 : jxUp (jmPut ps S S q) q S = jmPut ps S S (q + 1) := by first | with_reducible rfl | exact jmPut_up c18 | exact jmPut_no c18 | omega
          exact ih2 (q + 1) (by omega) (by omega) H locs (by rw [← ew_3, ← ew_4]; exact hP) hS ls (lv_sub hl [1, 2, 0] rfl)
  have ew_5 : pa = jmPut pa S fp 0 := by exact jmPut_0 _ _ _
  have ew_6 : ps = jmPut ps S S 0 := by exact jmPut_0 _ _ _
  exact L2 ((P - 0) + 1) 0 (by omega) (Nat.lt_succ_self _) H locs (by rw [← ew_5, ← ew_6]; exact hP) hS ls (lv_sub hl [1, 2, 0] rfl)
set_option maxRecDepth 20000 in
theorem in_X1_numberParts_1 : ∀ w ∈ wsX10, w ∈ wsX1_numberParts := by decide +kernel
set_option maxRecDepth 20000 in
theorem in_X1_numberParts_5 : ∀ w ∈ wsX50, w ∈ wsX1_numberParts := by decide +kernel
set_option maxHeartbeats 4000000 in
set_option maxRecDepth 100000 in
/-- numberParts() -/
theorem c_X1_numberParts (l : Launch) (D : va_G) (cI : ClassId) (g : Nat → Nat) (P n st : Nat) (sm gr co en la : Nat → Nat) (fp fb fc fk fq ft : Nat) (pa ps fi : Nat → Nat) (bl : Nat → Int32) (sp gp sw gw : Nat → Nat) (sz : Nat) (hw : jmWF P n st sm gr co en la)  : jxWv l yX1_numberParts wsX1_numberParts ({ frames := 2, cells := 0, slots := 0, locals := 43 } : Room) D [(cI, .int)] (jW cI g P n st sm gr co en la ++ jF cI g fp fb fc fk fq ft pa ps fi bl sp gp sw gw) [.ref (g 10)] sz (jW cI g P n st sm gr co en la ++ jF cI g (jmNPc en P n st P) fb fc fk fq ft (jmNPa en P n st pa P) (jmNPs en P n st ps P) fi bl sp gp sw gw) := by
  refine jxw_enterV (by decide) rfl (Nat.le_of_ble_eq_true rfl) ?_
  intro p e s m args below meth c Q A ls hx hb hml hts hown hN hP hK hD hA hl hQ
  have hD0 := hD
  obtain ⟨H, hH⟩ : ∃ h, h = s.heap := ⟨_, rfl⟩
  have hS : va_S A s.heap H [] := by rw [hH]; exact va_S.rf
  rw [← hH] at hP ⊢
  obtain ⟨locs, hlocs⟩ : ∃ z : List Loc, z = [] := ⟨_, rfl⟩
  rw [← hlocs] at hS ⊢
  have hown : s.vm.findClass RX1 = some m.cls := hown
  have hl : lv_has ls 4 [(0, .ref (g 10))] := hl
  have hP8 : P ≤ 8 := hw.1
  have hn16 : n ≤ 16 := hw.2.1
  have hst : st < 65536 := jmWF_st hw
  have hen : ∀ j, j < n → en j < 256 := jmWF_en hw
  have hla : ∀ q, q < P → la q < 65536 := jmWF_la hw
  have hgr : ∀ j, j < n → sm j < 8 ∧ gr j < 8 := jmWF_gr hw
  have hco : ∀ j, j < n → co j < 21 := jmWF_co hw
  have hP2 := jx_pow256 hP8
  refine lv_aload_n hx hb dX1_numberParts_0 rfl (lv_at hl 0 rfl) ?_
  refine lv_iconst (v := nI 0) hx hb dX1_numberParts_1 (by decide) ?_
  refine va_put (D := D) (ci := 1) (v := .int (nI 0)) (ty := .int) (C := RX1) (T := TX1) (N := 15) hx hb hts in_X1_numberParts_1 tyX1 tyX1_ok nmX1 hown hK hP hD hS 6 rfl rfl 1 (by decide) (hts (.fieldLink RX1 9 "Twincuts$Falls" "parts" "I") (List.mem_of_getElem? (i := 1) (by decide +kernel))) (fun _ h9 => h9) rfl (by decide +kernel) rfl rfl (Nat.le_of_ble_eq_true rfl) dX1_numberParts_2 (fun H locs hP hD hS => ?_)
  have hP : va_P D vwCl (jW cI g P n st sm gr co en la ++ jF cI g 0 fb fc fk fq ft pa ps fi bl sp gp sw gw) H := hP
  have hD : va_D A (jW cI g P n st sm gr co en la ++ jF cI g 0 fb fc fk fq ft pa ps fi bl sp gp sw gw) := jxD hD0 rfl
  refine lv_iconst (v := nI 0) hx hb dX1_numberParts_5 (by decide) ?_
  refine lv_istore_n (lv' := [(1, .int (nI 0)), (0, .ref (g 10))]) hx hb dX1_numberParts_6 rfl hl (by decide) rfl (fun ls hl => ?_)
  refine lv_iconst (v := nI 0) hx hb dX1_numberParts_7 (by decide) ?_
  refine lv_istore_n (lv' := [(2, .int (nI 0)), (1, .int (nI 0)), (0, .ref (g 10))]) hx hb dX1_numberParts_8 rfl hl (by decide) rfl (fun ls hl => ?_)
  have L9 : ∀ (k : Nat) (q : Nat) (hq : q ≤ P), P - q < k → ∀ (H : Heap) (locs : List Loc), va_P D vwCl (jW cI g P n st sm gr co en la ++ jF cI g (jmNPc en P n st q) fb fc fk fq ft (jmNPa en P n st pa q) (jmNPs en P n st ps q) fi bl sp gp sw gw) H → va_S A s.heap H locs → ∀ ls : Array Slot, lv_has ls 4 [(0, .ref (g 10)), (1, .int (nI (jmNPm en P n st q))), (2, .int (nI q))] → W p l e ({ frames := 2, cells := 0, slots := 0, locals := 43 } : Room) s m args below meth c H locs 0 0 Q (F0 m 9 ls []) := by
    intro k
    induction k with
    | zero => intro q hq hk; exact absurd hk (Nat.not_lt_zero _)
    | succ k ih9 =>
      intro q hq hk H locs hP hS ls hl
      have hD : va_D A (jW cI g P n st sm gr co en la ++ jF cI g (jmNPc en P n st q) fb fc fk fq ft (jmNPa en P n st pa q) (jmNPs en P n st ps q) fi bl sp gp sw gw) := jxD hD0 rfl
      have hM := jmNPm_lt (P := P) (st := st) hen (k := q) (by omega)
      refine lv_iload_n hx hb dX1_numberParts_9 rfl (lv_at hl 2 rfl) ?_
      refine lv_aload_n hx hb dX1_numberParts_10 rfl (lv_at hl 0 rfl) ?_
      refine va_get (D := D) (ci := 1) (v := .ref (g 0)) (C := RX1) (T := TX1) (N := 15) hx hb hts in_X1_numberParts_1 hown hK hP 6 rfl rfl 0 (by decide) (hts (.fieldLink RX1 55 "Twincuts$Falls" "web" "LTwincuts$Web;") (List.mem_of_getElem? (i := 2) (by decide +kernel))) (fun _ h9 => h9) rfl dX1_numberParts_11 ?_
      refine va_getN (D := D) (ci := 5) (v := .int (nI P)) (C := RX5) (T := TX5) (N := 8) hx hb hts in_X1_numberParts_5 hown hK hP 0 rfl rfl 0 (by decide) (hN.use 4 rfl) (fun _ h9 => h9) rfl dX1_numberParts_14 ?_
      refine lv_icmp_ge (tgt := 76) hx hb dX1_numberParts_17 (by decide) (fun c17 => ?_) (fun c17 => ?_)
      · have c17 : P ≤ q := jx_le (by omega) (by omega) c17
        have es_76 : P = q := (by omega)
        subst es_76
        exact hQ H locs _ _ dX1_numberParts_76 hP hS
      · have c17 : q < P := jx_nle (by omega) (by omega) c17
        refine lv_iload_n hx hb dX1_numberParts_20 rfl (lv_at hl 1 rfl) ?_
        refine lv_iload_n hx hb dX1_numberParts_21 rfl (lv_at hl 2 rfl) ?_
        refine jx_callSN (As := [.int (nI (jmNPm en P n st q)), .int (nI q)]) (rest := []) ⟨hx, hb, hml, hown, hts⟩ (c_X6_has l D (jmNPm en P n st q) q (by omega) (by omega)) (va_cnB 2 hts gX1_numberParts_X6_has_n89 rfl rfl rfl (hN.get 43 rfl) (hts (.initialized RX6) (List.mem_of_getElem? (i := 4) (by decide +kernel))) (by decide +kernel) ⟨Nat.le_of_ble_eq_true rfl, Nat.le_of_ble_eq_true rfl⟩) (hts (.static yX6_has) (List.mem_of_getElem? (i := 3) (by decide +kernel))) hN (hP.sub (ws' := []) [] rfl) (hK.sub (tys' := []) [] rfl) rfl hl.1 rfl (Nat.le_of_ble_eq_true rfl) dX1_numberParts_22 ⟨Nat.zero_le _, Nat.zero_le _⟩ (fun r hr => ?_)
        subst hr
        refine lv_if_ne (tgt := 70) hx hb dX1_numberParts_25 (by decide) (fun c25 => ?_) (fun c25 => ?_)
        · have c25 := jB_1 c25
          refine lv_iinc (v := nI (q + 1)) (lv' := [(2, .int (nI (q + 1))), (0, .ref (g 10)), (1, .int (nI (jmNPm en P n st q)))]) hx hb dX1_numberParts_70 hl (k := 2) rfl (jx_inc _) (by decide) rfl (fun ls hl => ?_)
          refine lv_goto (tgt := 9) hx hb dX1_numberParts_73 (by decide) ?_
          have ev_1 : jmNPm en P n st q = jmNPm en P n st (q + 1) := by first | with_reducible rfl | (simp [jmNPm, jmNPc, jmNPa, jmNPs, c17, c25]; done) | omega
          have ew_2 : jmNPc en P n st q = jmNPc en P n st (q + 1) := by first | with_reducible rfl | (simp [jmNPm, jmNPc, jmNPa, jmNPs, c17, c25]; done) | omega
          have ew_3 : jmNPa en P n st pa q = jmNPa en P n st pa (q + 1) := by first | with_reducible rfl | (simp [jmNPm, jmNPc, jmNPa, jmNPs, c17, c25]; done) | omega
          have ew_4 : jmNPs en P n st ps q = jmNPs en P n st ps (q + 1) := by first | with_reducible rfl | (simp [jmNPm, jmNPc, jmNPa, jmNPs, c17, c25]; done) | omega
          exact ih9 (q + 1) (by omega) (by omega) H locs (by rw [← ew_2, ← ew_3, ← ew_4]; exact hP) hS ls (by rw [← ev_1]; exact lv_sub hl [1, 2, 0] rfl)
        · have c25 := jB_0 c25
          refine lv_aload_n hx hb dX1_numberParts_28 rfl (lv_at hl 0 rfl) ?_
          refine va_get (D := D) (ci := 1) (v := .ref (g 0)) (C := RX1) (T := TX1) (N := 15) hx hb hts in_X1_numberParts_1 hown hK hP 6 rfl rfl 0 (by decide) (hts (.fieldLink RX1 55 "Twincuts$Falls" "web" "LTwincuts$Web;") (List.mem_of_getElem? (i := 2) (by decide +kernel))) (fun _ h9 => h9) rfl dX1_numberParts_29 ?_
          refine lv_iload_n hx hb dX1_numberParts_32 rfl (lv_at hl 2 rfl) ?_
          refine lv_aload_n hx hb dX1_numberParts_33 rfl (lv_at hl 0 rfl) ?_
          refine va_get (D := D) (ci := 1) (v := .ref (g 0)) (C := RX1) (T := TX1) (N := 15) hx hb hts in_X1_numberParts_1 hown hK hP 6 rfl rfl 0 (by decide) (hts (.fieldLink RX1 55 "Twincuts$Falls" "web" "LTwincuts$Web;") (List.mem_of_getElem? (i := 2) (by decide +kernel))) (fun _ h9 => h9) rfl dX1_numberParts_34 ?_
          refine jx_callV (As := []) (rest := [.int (nI q), .ref (g 0)]) ⟨hx, hb, hml, hown, hts⟩ (c_X5_allPoints l D cI g P n st sm gr co en la hw ) (cwV 0 hts gX1_numberParts_X5_allPoints rfl rfl rfl (by decide +kernel) ⟨Nat.le_of_ble_eq_true rfl, Nat.le_of_ble_eq_true rfl⟩) hN (hP.sub (ws' := jW cI g P n st sm gr co en la) [0, 1, 2, 3, 4, 5] rfl) (hK.sub (tys' := [(cI, .int)]) [0] rfl) 0 5 rfl rfl rfl rfl hl.1 rfl (Nat.le_of_ble_eq_true rfl) dX1_numberParts_37 ⟨Nat.zero_le _, Nat.zero_le _⟩ (fun r hr => ?_)
          subst hr
          refine lv_aload_n hx hb dX1_numberParts_40 rfl (lv_at hl 0 rfl) ?_
          refine va_get (D := D) (ci := 1) (v := .ref (g 0)) (C := RX1) (T := TX1) (N := 15) hx hb hts in_X1_numberParts_1 hown hK hP 6 rfl rfl 0 (by decide) (hts (.fieldLink RX1 55 "Twincuts$Falls" "web" "LTwincuts$Web;") (List.mem_of_getElem? (i := 2) (by decide +kernel))) (fun _ h9 => h9) rfl dX1_numberParts_41 ?_
          refine va_getN (D := D) (ci := 5) (v := .int (nI st)) (C := RX5) (T := TX5) (N := 8) hx hb hts in_X1_numberParts_5 hown hK hP 0 rfl rfl 2 (by decide) (hN.use 14 rfl) (fun _ h9 => h9) rfl dX1_numberParts_44 ?_
          refine jx_callV (As := [.int (nI q), .int (nI (2 ^ P - 1)), .int (nI st)]) (rest := []) ⟨hx, hb, hml, hown, hts⟩ (c_X5_reach l D cI g P n st sm gr co en la hw q (2 ^ P - 1) st (by omega) (by omega) (by omega)) (cwV 3 hts gX1_numberParts_X5_reach rfl rfl rfl (by decide +kernel) ⟨Nat.le_of_ble_eq_true rfl, Nat.le_of_ble_eq_true rfl⟩) hN (hP.sub (ws' := jW cI g P n st sm gr co en la) [0, 1, 2, 3, 4, 5] rfl) (hK.sub (tys' := [(cI, .int)]) [0] rfl) 0 5 rfl rfl rfl rfl hl.1 rfl (Nat.le_of_ble_eq_true rfl) dX1_numberParts_47 ⟨Nat.zero_le _, Nat.zero_le _⟩ (fun r hr => ?_)
          subst hr
          refine lv_istore_n (lv' := [(3, .int (nI (jmReach en (2 ^ P - 1) st n q))), (0, .ref (g 10)), (1, .int (nI (jmNPm en P n st q))), (2, .int (nI q))]) hx hb dX1_numberParts_50 rfl hl (by decide) rfl (fun ls hl => ?_)
          refine lv_aload_n hx hb dX1_numberParts_51 rfl (lv_at hl 1 rfl) ?_
          refine lv_iload_n hx hb dX1_numberParts_52 rfl (lv_at hl 0 rfl) ?_
          refine jxw_callV (X := jW cI g P n st sm gr co en la ++ jF cI g (jmNPc en P n st q) fb fc fk fq ft (jmNPa en P n st pa q) (jmNPs en P n st ps q) fi bl sp gp sw gw) (X' := jW cI g P n st sm gr co en la ++ jF cI g (jmNPc en P n st q) fb fc fk fq ft (jmPut (jmNPa en P n st pa q) (jmReach en (2 ^ P - 1) st n q) (jmNPc en P n st q) P) (jmPut (jmNPs en P n st ps q) (jmReach en (2 ^ P - 1) st n q) (jmReach en (2 ^ P - 1) st n q) P) fi bl sp gp sw gw) (wc := jW cI g P n st sm gr co en la ++ jF cI g (jmNPc en P n st q) fb fc fk fq ft (jmNPa en P n st pa q) (jmNPs en P n st ps q) fi bl sp gp sw gw) (wc' := jW cI g P n st sm gr co en la ++ jF cI g (jmNPc en P n st q) fb fc fk fq ft (jmPut (jmNPa en P n st pa q) (jmReach en (2 ^ P - 1) st n q) (jmNPc en P n st q) P) (jmPut (jmNPs en P n st ps q) (jmReach en (2 ^ P - 1) st n q) (jmReach en (2 ^ P - 1) st n q) P) fi bl sp gp sw gw) (wr := []) (N := 15) (As := [.int (nI (jmReach en (2 ^ P - 1) st n q))]) (rest := []) ⟨hx, hb, hml, hown, hts⟩ (c_X1_putInPart l D cI g P n st sm gr co en la (jmNPc en P n st q) fb fc fk fq ft (jmNPa en P n st pa q) (jmNPs en P n st ps q) fi bl sp gp sw gw H.size hw (jmReach en (2 ^ P - 1) st n q) (Nat.lt_trans (jmReach_lt (by omega) hen) (by decide))) (cwV 1 hts gX1_numberParts_X1_putInPart rfl rfl rfl (by decide +kernel) ⟨Nat.le_of_ble_eq_true rfl, Nat.le_of_ble_eq_true rfl⟩) hN hP hD (hK.sub (tys' := [(cI, .int)]) [0] rfl) hS hA [0, 1, 2, 3, 4, 5, 6, 7, 8, 9, 10, 11, 12, 13, 14] [] rfl rfl rfl rfl rfl rfl (by decide) (by decide) 6 1 rfl rfl rfl (hK.sub (tys' := [(cI, .int)]) [0] rfl) rfl hl.1 rfl (Nat.le_of_ble_eq_true rfl) dX1_numberParts_53 ⟨Nat.zero_le _, Nat.zero_le _⟩ (fun H locs hP hS => ?_)
          have hD : va_D A (jW cI g P n st sm gr co en la ++ jF cI g (jmNPc en P n st q) fb fc fk fq ft (jmPut (jmNPa en P n st pa q) (jmReach en (2 ^ P - 1) st n q) (jmNPc en P n st q) P) (jmPut (jmNPs en P n st ps q) (jmReach en (2 ^ P - 1) st n q) (jmReach en (2 ^ P - 1) st n q) P) fi bl sp gp sw gw) := jxD hD0 rfl
          refine lv_iload_n hx hb dX1_numberParts_56 rfl (lv_at hl 2 rfl) ?_
          refine lv_iload_n hx hb dX1_numberParts_57 rfl (lv_at hl 0 rfl) ?_
          refine lv_ior hx hb dX1_numberParts_58 ?_
          refine jx_val (z := (nI ((jmNPm en P n st q) ||| (jmReach en (2 ^ P - 1) st n q)))) (fa_or _ _) ?_
          refine lv_istore_n (lv' := [(1, .int (nI ((jmNPm en P n st q) ||| (jmReach en (2 ^ P - 1) st n q)))), (3, .int (nI (jmReach en (2 ^ P - 1) st n q))), (0, .ref (g 10)), (2, .int (nI q))]) hx hb dX1_numberParts_59 rfl hl (by decide) rfl (fun ls hl => ?_)
          refine lv_aload_n hx hb dX1_numberParts_60 rfl (lv_at hl 2 rfl) ?_
          refine lv_dup hx hb dX1_numberParts_61 rfl ?_
          refine va_get (D := D) (ci := 1) (v := .int (nI (jmNPc en P n st q))) (C := RX1) (T := TX1) (N := 15) hx hb hts in_X1_numberParts_1 hown hK hP 6 rfl rfl 1 (by decide) (hts (.fieldLink RX1 9 "Twincuts$Falls" "parts" "I") (List.mem_of_getElem? (i := 1) (by decide +kernel))) (fun _ h9 => h9) rfl dX1_numberParts_62 ?_
          refine lv_iconst (v := nI 1) hx hb dX1_numberParts_65 (by decide) ?_
          refine lv_iadd hx hb dX1_numberParts_66 ?_
          refine jx_val (z := (nI (jmNPc en P n st q + 1))) (nI_add _ _) ?_
          refine va_put (D := D) (ci := 1) (v := .int (nI (jmNPc en P n st q + 1))) (ty := .int) (C := RX1) (T := TX1) (N := 15) hx hb hts in_X1_numberParts_1 tyX1 tyX1_ok nmX1 hown hK hP hD hS 6 rfl rfl 1 (by decide) (hts (.fieldLink RX1 9 "Twincuts$Falls" "parts" "I") (List.mem_of_getElem? (i := 1) (by decide +kernel))) (fun _ h9 => h9) rfl (by decide +kernel) rfl rfl (Nat.le_of_ble_eq_true rfl) dX1_numberParts_67 (fun H locs hP hD hS => ?_)
          have hP : va_P D vwCl (jW cI g P n st sm gr co en la ++ jF cI g (jmNPc en P n st q + 1) fb fc fk fq ft (jmPut (jmNPa en P n st pa q) (jmReach en (2 ^ P - 1) st n q) (jmNPc en P n st q) P) (jmPut (jmNPs en P n st ps q) (jmReach en (2 ^ P - 1) st n q) (jmReach en (2 ^ P - 1) st n q) P) fi bl sp gp sw gw) H := hP
          have hD : va_D A (jW cI g P n st sm gr co en la ++ jF cI g (jmNPc en P n st q + 1) fb fc fk fq ft (jmPut (jmNPa en P n st pa q) (jmReach en (2 ^ P - 1) st n q) (jmNPc en P n st q) P) (jmPut (jmNPs en P n st ps q) (jmReach en (2 ^ P - 1) st n q) (jmReach en (2 ^ P - 1) st n q) P) fi bl sp gp sw gw) := jxD hD0 rfl
          refine lv_iinc (v := nI (q + 1)) (lv' := [(2, .int (nI (q + 1))), (1, .int (nI ((jmNPm en P n st q) ||| (jmReach en (2 ^ P - 1) st n q)))), (3, .int (nI (jmReach en (2 ^ P - 1) st n q))), (0, .ref (g 10))]) hx hb dX1_numberParts_70 hl (k := 3) rfl (jx_inc _) (by decide) rfl (fun ls hl => ?_)
          refine lv_goto (tgt := 9) hx hb dX1_numberParts_73 (by decide) ?_
          have ev_5 : (jmNPm en P n st q) ||| (jmReach en (2 ^ P - 1) st n q) = jmNPm en P n st (q + 1) := by first | with_reducible rfl | (simp [jmNPm, jmNPc, jmNPa, jmNPs, c17, c25]; done) | omega
          have ew_6 : jmNPc en P n st q + 1 = jmNPc en P n st (q + 1) := by first | with_reducible rfl | (simp [jmNPm, jmNPc, jmNPa, jmNPs, c17, c25]; done) | omega
          have ew_7 : jmPut (jmNPa en P n st pa q) (jmReach en (2 ^ P - 1) st n q) (jmNPc en P n st q) P = jmNPa en P n st pa (q + 1) := by first | with_reducible rfl | (simp [jmNPm, jmNPc, jmNPa, jmNPs, c17, c25]; done) | omega
          have ew_8 : jmPut (jmNPs en P n st ps q) (jmReach en (2 ^ P - 1) st n q) (jmReach en (2 ^ P - 1) st n q) P = jmNPs en P n st ps (q + 1) := by first | with_reducible rfl | (simp [jmNPm, jmNPc, jmNPa, jmNPs, c17, c25]; done) | omega
          exact ih9 (q + 1) (by omega) (by omega) H locs (by rw [← ew_6, ← ew_7, ← ew_8]; exact hP) hS ls (by rw [← ev_5]; exact lv_sub hl [3, 1, 0] rfl)
  have ev_9 : 0 = jmNPm en P n st 0 := by first | with_reducible rfl | (simp [jmNPm, jmNPc, jmNPa, jmNPs, if_true]; done) | omega
  have ew_10 : 0 = jmNPc en P n st 0 := by first | with_reducible rfl | (simp [jmNPm, jmNPc, jmNPa, jmNPs, if_true]; done) | omega
  have ew_11 : pa = jmNPa en P n st pa 0 := by first | with_reducible rfl | (simp [jmNPm, jmNPc, jmNPa, jmNPs, if_true]; done) | omega
  have ew_12 : ps = jmNPs en P n st ps 0 := by first | with_reducible rfl | (simp [jmNPm, jmNPc, jmNPa, jmNPs, if_true]; done) | omega
  exact L9 ((P - 0) + 1) 0 (by omega) (Nat.lt_succ_self _) H locs (by rw [← ew_10, ← ew_11, ← ew_12]; exact hP) hS ls (by rw [← ev_9]; exact lv_sub hl [2, 1, 0] rfl)
