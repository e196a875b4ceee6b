set_option maxRecDepth 20000 in
theorem in_X1_joinBlocks_1 : ∀ w ∈ wsX10, w ∈ wsX1_joinBlocks := by decide +kernel
set_option maxRecDepth 20000 in
theorem in_X1_joinBlocks_5 : ∀ w ∈ wsX50, w ∈ wsX1_joinBlocks := by decide +kernel
set_option maxHeartbeats 4000000 in
set_option maxRecDepth 100000 in
/-- joinBlocks() -/
theorem c_X1_joinBlocks (l : Launch) (D : va_G) (cI : ClassId) (g : Nat → Nat) (P n st : Nat) (sm gr co en la : Nat → Nat) (fp fb fc fk fq ft : Nat) (pa ps fi : Nat → Nat) (bl : Nat → Int32) (sp gp sw gw : Nat → Nat) (sz : Nat) (hw : jmWF P n st sm gr co en la) (hfi : ∀ j, j < 16 → fi j < 16) : jxWv l yX1_joinBlocks wsX1_joinBlocks ({ frames := 3, cells := 0, slots := 0, locals := 70 } : Room) D [(cI, .int)] (jW cI g P n st sm gr co en la ++ jF cI g fp fb fc fk fq ft pa ps fi bl sp gp sw gw) [.ref (g 10)] sz (jW cI g P n st sm gr co en la ++ jF cI g fp fb fc fk fq ft pa ps (jmJBo en la sm gr P n st fi P) bl sp gp sw gw) := by
  refine jxw_enterV (by decide) rfl (Nat.le_of_ble_eq_true rfl) ?_
  intro p e s m args below meth c Q A ls hx hb hml hts hown hN hP hK hD hA hl hQ
  have hD0 := hD
  obtain ⟨H, hH⟩ : ∃ h, h = s.heap := ⟨_, rfl⟩
  have hS : va_S A s.heap H [] := by rw [hH]; exact va_S.rf
  rw [← hH] at hP ⊢
  obtain ⟨locs, hlocs⟩ : ∃ z : List Loc, z = [] := ⟨_, rfl⟩
  rw [← hlocs] at hS ⊢
  have hown : s.vm.findClass RX1 = some m.cls := hown
  have hl : lv_has ls 3 [(0, .ref (g 10))] := hl
  have hP8 : P ≤ 8 := hw.1
  have hn16 : n ≤ 16 := hw.2.1
  have hst : st < 65536 := jmWF_st hw
  have hen : ∀ j, j < n → en j < 256 := jmWF_en hw
  have hla : ∀ q, q < P → la q < 65536 := jmWF_la hw
  have hgr : ∀ j, j < n → sm j < 8 ∧ gr j < 8 := jmWF_gr hw
  have hco : ∀ j, j < n → co j < 21 := jmWF_co hw
  refine lv_iconst (v := nI 0) hx hb dX1_joinBlocks_0 (by decide) ?_
  refine lv_istore_n (lv' := [(1, .int (nI 0)), (0, .ref (g 10))]) hx hb dX1_joinBlocks_1 rfl hl (by decide) rfl (fun ls hl => ?_)
  have L2 : ∀ (k : Nat) (ln : Nat) (hln : ln ≤ n), n - ln < k → ∀ (H : Heap) (locs : List Loc), va_P D vwCl (jW cI g P n st sm gr co en la ++ jF cI g fp fb fc fk fq ft pa ps (jmIota fi ln) bl sp gp sw gw) H → va_S A s.heap H locs → ∀ ls : Array Slot, lv_has ls 3 [(0, .ref (g 10)), (1, .int (nI ln))] → W p l e ({ frames := 3, cells := 0, slots := 0, locals := 70 } : Room) s m args below meth c H locs 0 0 Q (F0 m 2 ls []) := by
    intro k
    induction k with
    | zero => intro ln hln hk; exact absurd hk (Nat.not_lt_zero _)
    | succ k ih2 =>
      intro ln hln hk H locs hP hS ls hl
      have hD : va_D A (jW cI g P n st sm gr co en la ++ jF cI g fp fb fc fk fq ft pa ps (jmIota fi ln) bl sp gp sw gw) := jxD hD0 rfl
      refine lv_iload_n hx hb dX1_joinBlocks_2 rfl (lv_at hl 1 rfl) ?_
      refine lv_aload_n hx hb dX1_joinBlocks_3 rfl (lv_at hl 0 rfl) ?_
      refine va_get (D := D) (ci := 1) (v := .ref (g 0)) (C := RX1) (T := TX1) (N := 15) hx hb hts in_X1_joinBlocks_1 hown hK hP 6 rfl rfl 0 (by decide) (hts (.fieldLink RX1 55 "Twincuts$Falls" "web" "LTwincuts$Web;") (List.mem_of_getElem? (i := 1) (by decide +kernel))) (fun _ h9 => h9) rfl dX1_joinBlocks_4 ?_
      refine va_getN (D := D) (ci := 5) (v := .int (nI n)) (C := RX5) (T := TX5) (N := 8) hx hb hts in_X1_joinBlocks_5 hown hK hP 0 rfl rfl 1 (by decide) (hN.use 7 rfl) (fun _ h9 => h9) rfl dX1_joinBlocks_7 ?_
      refine lv_icmp_ge (tgt := 26) hx hb dX1_joinBlocks_10 (by decide) (fun c10 => ?_) (fun c10 => ?_)
      · have c10 : n ≤ ln := jx_le (by omega) (by omega) c10
        have es_26 : n = ln := (by omega)
        subst es_26
        refine lv_iconst (v := nI 0) hx hb dX1_joinBlocks_26 (by decide) ?_
        refine lv_istore_n (lv' := [(1, .int (nI 0)), (0, .ref (g 10))]) hx hb dX1_joinBlocks_27 rfl hl (by decide) rfl (fun ls hl => ?_)
        have L28 : ∀ (k : Nat) (q : Nat) (hq : q ≤ P), P - q < k → ∀ (H : Heap) (locs : List Loc), va_P D vwCl (jW cI g P n st sm gr co en la ++ jF cI g fp fb fc fk fq ft pa ps (jmJBo en la sm gr P n st fi q) bl sp gp sw gw) H → va_S A s.heap H locs → ∀ ls : Array Slot, lv_has ls 3 [(0, .ref (g 10)), (1, .int (nI q))] → W p l e ({ frames := 3, cells := 0, slots := 0, locals := 70 } : Room) s m args below meth c H locs 0 0 Q (F0 m 28 ls []) := by
          intro k
          induction k with
          | zero => intro q hq hk; exact absurd hk (Nat.not_lt_zero _)
          | succ k ih28 =>
            intro q hq hk H locs hP hS ls hl
            have hD : va_D A (jW cI g P n st sm gr co en la ++ jF cI g fp fb fc fk fq ft pa ps (jmJBo en la sm gr P n st fi q) bl sp gp sw gw) := jxD hD0 rfl
            refine lv_iload_n hx hb dX1_joinBlocks_28 rfl (lv_at hl 1 rfl) ?_
            refine lv_aload_n hx hb dX1_joinBlocks_29 rfl (lv_at hl 0 rfl) ?_
            refine va_get (D := D) (ci := 1) (v := .ref (g 0)) (C := RX1) (T := TX1) (N := 15) hx hb hts in_X1_joinBlocks_1 hown hK hP 6 rfl rfl 0 (by decide) (hts (.fieldLink RX1 55 "Twincuts$Falls" "web" "LTwincuts$Web;") (List.mem_of_getElem? (i := 1) (by decide +kernel))) (fun _ h9 => h9) rfl dX1_joinBlocks_30 ?_
            refine va_getN (D := D) (ci := 5) (v := .int (nI P)) (C := RX5) (T := TX5) (N := 8) hx hb hts in_X1_joinBlocks_5 hown hK hP 0 rfl rfl 0 (by decide) (hN.use 4 rfl) (fun _ h9 => h9) rfl dX1_joinBlocks_33 ?_
            refine lv_icmp_ge (tgt := 85) hx hb dX1_joinBlocks_36 (by decide) (fun c36 => ?_) (fun c36 => ?_)
            · have c36 : P ≤ q := jx_le (by omega) (by omega) c36
              have es_85 : P = q := (by omega)
              subst es_85
              exact hQ H locs _ _ dX1_joinBlocks_85 hP hS
            · have c36 : q < P := jx_nle (by omega) (by omega) c36
              refine lv_iconst (v := nI 0) hx hb dX1_joinBlocks_39 (by decide) ?_
              refine lv_istore_n (lv' := [(2, .int (nI 0)), (0, .ref (g 10)), (1, .int (nI q))]) hx hb dX1_joinBlocks_40 rfl hl (by decide) rfl (fun ls hl => ?_)
              have L41 : ∀ (k : Nat) (ln : Nat) (hln : ln ≤ n), n - ln < k → ∀ (H : Heap) (locs : List Loc), va_P D vwCl (jW cI g P n st sm gr co en la ++ jF cI g fp fb fc fk fq ft pa ps (jmJBi en la sm gr P n st (jmJBo en la sm gr P n st fi q) q ln) bl sp gp sw gw) H → va_S A s.heap H locs → ∀ ls : Array Slot, lv_has ls 3 [(0, .ref (g 10)), (1, .int (nI q)), (2, .int (nI ln))] → W p l e ({ frames := 3, cells := 0, slots := 0, locals := 70 } : Room) s m args below meth c H locs 0 0 Q (F0 m 41 ls []) := by
                intro k
                induction k with
                | zero => intro ln hln hk; exact absurd hk (Nat.not_lt_zero _)
                | succ k ih41 =>
                  intro ln hln hk H locs hP hS ls hl
                  have hD : va_D A (jW cI g P n st sm gr co en la ++ jF cI g fp fb fc fk fq ft pa ps (jmJBi en la sm gr P n st (jmJBo en la sm gr P n st fi q) q ln) bl sp gp sw gw) := jxD hD0 rfl
                  have hJ := jmJBi_lt (en := en) (la := la) (sm := sm) (gr := gr) (P := P) (st := st) (q := q) hn16 (fun j hj => jmJBo_lt (en := en) (la := la) (sm := sm) (gr := gr) (P := P) (st := st) hn16 hfi (k := q) j hj) hln
                  refine lv_iload_n hx hb dX1_joinBlocks_41 rfl (lv_at hl 2 rfl) ?_
                  refine lv_aload_n hx hb dX1_joinBlocks_42 rfl (lv_at hl 0 rfl) ?_
                  refine va_get (D := D) (ci := 1) (v := .ref (g 0)) (C := RX1) (T := TX1) (N := 15) hx hb hts in_X1_joinBlocks_1 hown hK hP 6 rfl rfl 0 (by decide) (hts (.fieldLink RX1 55 "Twincuts$Falls" "web" "LTwincuts$Web;") (List.mem_of_getElem? (i := 1) (by decide +kernel))) (fun _ h9 => h9) rfl dX1_joinBlocks_43 ?_
                  refine va_getN (D := D) (ci := 5) (v := .int (nI n)) (C := RX5) (T := TX5) (N := 8) hx hb hts in_X1_joinBlocks_5 hown hK hP 0 rfl rfl 1 (by decide) (hN.use 7 rfl) (fun _ h9 => h9) rfl dX1_joinBlocks_46 ?_
                  refine lv_icmp_ge (tgt := 79) hx hb dX1_joinBlocks_49 (by decide) (fun c49 => ?_) (fun c49 => ?_)
                  · have c49 : n ≤ ln := jx_le (by omega) (by omega) c49
                    have es_79 : n = ln := (by omega)
                    subst es_79
                    refine lv_iinc (v := nI (q + 1)) (lv' := [(1, .int (nI (q + 1))), (0, .ref (g 10)), (2, .int (nI n))]) hx hb dX1_joinBlocks_79 hl (k := 1) rfl (jx_inc _) (by decide) rfl (fun ls hl => ?_)
                    refine lv_goto (tgt := 28) hx hb dX1_joinBlocks_82 (by decide) ?_
                    have ew_1 : jmJBi en la sm gr P n st (jmJBo en la sm gr P n st fi q) q n = jmJBo en la sm gr P n st fi (q + 1) := by first | with_reducible rfl | (simp [jmJBo, c49]; done) | omega
                    exact ih28 (q + 1) (by omega) (by omega) H locs (by rw [← ew_1]; exact hP) hS ls (lv_sub hl [1, 0] rfl)
                  · have c49 : ln < n := jx_nle (by omega) (by omega) c49
                    refine lv_aload_n hx hb dX1_joinBlocks_52 rfl (lv_at hl 0 rfl) ?_
                    refine va_get (D := D) (ci := 1) (v := .ref (g 0)) (C := RX1) (T := TX1) (N := 15) hx hb hts in_X1_joinBlocks_1 hown hK hP 6 rfl rfl 0 (by decide) (hts (.fieldLink RX1 55 "Twincuts$Falls" "web" "LTwincuts$Web;") (List.mem_of_getElem? (i := 1) (by decide +kernel))) (fun _ h9 => h9) rfl dX1_joinBlocks_53 ?_
                    refine lv_iload_n hx hb dX1_joinBlocks_56 rfl (lv_at hl 1 rfl) ?_
                    refine jx_callV (As := [.int (nI q)]) (rest := []) ⟨hx, hb, hml, hown, hts⟩ (c_X5_standingAt l D cI g P n st sm gr co en la hw q (by omega)) (cwV 1 hts gX1_joinBlocks_X5_standingAt rfl rfl rfl (by decide +kernel) ⟨Nat.le_of_ble_eq_true rfl, Nat.le_of_ble_eq_true rfl⟩) hN (hP.sub (ws' := jW cI g P n st sm gr co en la) [0, 1, 2, 3, 4, 5] rfl) (hK.sub (tys' := [(cI, .int)]) [0] rfl) 0 5 rfl rfl rfl rfl hl.1 rfl (Nat.le_of_ble_eq_true rfl) dX1_joinBlocks_57 ⟨Nat.zero_le _, Nat.zero_le _⟩ (fun r hr => ?_)
                    subst hr
                    refine lv_iload_n hx hb dX1_joinBlocks_60 rfl (lv_at hl 2 rfl) ?_
                    refine jx_callSN (As := [.int (nI (la q &&& st)), .int (nI ln)]) (rest := []) ⟨hx, hb, hml, hown, hts⟩ (c_X6_has l D (la q &&& st) ln (Nat.lt_of_le_of_lt Nat.and_le_left (by have := hla q (by omega); omega)) (by omega)) (va_cnB 2 hts gX1_joinBlocks_X6_has_n89 rfl rfl rfl (hN.get 43 rfl) (hts (.initialized RX6) (List.mem_of_getElem? (i := 11) (by decide +kernel))) (by decide +kernel) ⟨Nat.le_of_ble_eq_true rfl, Nat.le_of_ble_eq_true rfl⟩) (hts (.static yX6_has) (List.mem_of_getElem? (i := 10) (by decide +kernel))) hN (hP.sub (ws' := []) [] rfl) (hK.sub (tys' := []) [] rfl) rfl hl.1 rfl (Nat.le_of_ble_eq_true rfl) dX1_joinBlocks_61 ⟨Nat.zero_le _, Nat.zero_le _⟩ (fun r hr => ?_)
                    subst hr
                    refine lv_if_eq (tgt := 73) hx hb dX1_joinBlocks_64 (by decide) (fun c64 => ?_) (fun c64 => ?_)
                    · have c64 := jB_0 c64
                      refine lv_iinc (v := nI (ln + 1)) (lv' := [(2, .int (nI (ln + 1))), (0, .ref (g 10)), (1, .int (nI q))]) hx hb dX1_joinBlocks_73 hl (k := 2) rfl (jx_inc _) (by decide) rfl (fun ls hl => ?_)
                      refine lv_goto (tgt := 41) hx hb dX1_joinBlocks_76 (by decide) ?_
                      have ew_2 : jmJBi en la sm gr P n st (jmJBo en la sm gr P n st fi q) q ln = jmJBi en la sm gr P n st (jmJBo en la sm gr P n st fi q) q (ln + 1) := by first | with_reducible rfl | (simp [jmJBi, c49, c64]; done) | omega
                      exact ih41 (ln + 1) (by omega) (by omega) H locs (by rw [← ew_2]; exact hP) hS ls (lv_sub hl [1, 2, 0] rfl)
                    · have c64 := jB_1 c64
                      refine lv_aload_n hx hb dX1_joinBlocks_67 rfl (lv_at hl 0 rfl) ?_
                      refine lv_iload_n hx hb dX1_joinBlocks_68 rfl (lv_at hl 1 rfl) ?_
                      refine lv_iload_n hx hb dX1_joinBlocks_69 rfl (lv_at hl 2 rfl) ?_
                      refine jxw_callV (X := jW cI g P n st sm gr co en la ++ jF cI g fp fb fc fk fq ft pa ps (jmJBi en la sm gr P n st (jmJBo en la sm gr P n st fi q) q ln) bl sp gp sw gw) (X' := jW cI g P n st sm gr co en la ++ jF cI g fp fb fc fk fq ft pa ps (jmJAP en la sm gr P n st (jmJBi en la sm gr P n st (jmJBo en la sm gr P n st fi q) q ln) q ln (n - (ln + 1))) bl sp gp sw gw) (wc := jW cI g P n st sm gr co en la ++ jF cI g fp fb fc fk fq ft pa ps (jmJBi en la sm gr P n st (jmJBo en la sm gr P n st fi q) q ln) bl sp gp sw gw) (wc' := jW cI g P n st sm gr co en la ++ jF cI g fp fb fc fk fq ft pa ps (jmJAP en la sm gr P n st (jmJBi en la sm gr P n st (jmJBo en la sm gr P n st fi q) q ln) q ln (n - (ln + 1))) bl sp gp sw gw) (wr := []) (N := 15) (As := [.int (nI q), .int (nI ln)]) (rest := []) ⟨hx, hb, hml, hown, hts⟩ (c_X1_joinAtPoint l D cI g P n st sm gr co en la fp fb fc fk fq ft pa ps (jmJBi en la sm gr P n st (jmJBo en la sm gr P n st fi q) q ln) bl sp gp sw gw H.size hw q ln (by omega) (by omega) hJ) (cwV 2 hts gX1_joinBlocks_X1_joinAtPoint rfl rfl rfl (by decide +kernel) ⟨Nat.le_of_ble_eq_true rfl, Nat.le_of_ble_eq_true rfl⟩) hN hP hD (hK.sub (tys' := [(cI, .int)]) [0] rfl) hS hA [0, 1, 2, 3, 4, 5, 6, 7, 8, 9, 10, 11, 12, 13, 14] [] rfl rfl rfl rfl rfl rfl (by decide) (by decide) 6 1 rfl rfl rfl (hK.sub (tys' := [(cI, .int)]) [0] rfl) rfl hl.1 rfl (Nat.le_of_ble_eq_true rfl) dX1_joinBlocks_70 ⟨Nat.zero_le _, Nat.zero_le _⟩ (fun H locs hP hS => ?_)
                      have hD : va_D A (jW cI g P n st sm gr co en la ++ jF cI g fp fb fc fk fq ft pa ps (jmJAP en la sm gr P n st (jmJBi en la sm gr P n st (jmJBo en la sm gr P n st fi q) q ln) q ln (n - (ln + 1))) bl sp gp sw gw) := jxD hD0 rfl
                      refine lv_iinc (v := nI (ln + 1)) (lv' := [(2, .int (nI (ln + 1))), (0, .ref (g 10)), (1, .int (nI q))]) hx hb dX1_joinBlocks_73 hl (k := 2) rfl (jx_inc _) (by decide) rfl (fun ls hl => ?_)
                      refine lv_goto (tgt := 41) hx hb dX1_joinBlocks_76 (by decide) ?_
                      have ew_3 : jmJAP en la sm gr P n st (jmJBi en la sm gr P n st (jmJBo en la sm gr P n st fi q) q ln) q ln (n - (ln + 1)) = jmJBi en la sm gr P n st (jmJBo en la sm gr P n st fi q) q (ln + 1) := by first | with_reducible rfl | (simp [jmJBi, c49, c64]; done) | omega
                      exact ih41 (ln + 1) (by omega) (by omega) H locs (by rw [← ew_3]; exact hP) hS ls (lv_sub hl [1, 2, 0] rfl)
              have ew_4 : jmJBo en la sm gr P n st fi q = jmJBi en la sm gr P n st (jmJBo en la sm gr P n st fi q) q 0 := by first | with_reducible rfl | (simp [jmJBi, c36]; done) | omega
              exact L41 ((n - 0) + 1) 0 (by omega) (Nat.lt_succ_self _) H locs (by rw [← ew_4]; exact hP) hS ls (lv_sub hl [1, 2, 0] rfl)
        have ew_5 : jmIota fi n = jmJBo en la sm gr P n st fi 0 := by first | with_reducible rfl | (simp [jmJBo, c10]; done) | omega
        exact L28 ((P - 0) + 1) 0 (by omega) (Nat.lt_succ_self _) H locs (by rw [← ew_5]; exact hP) hS ls (lv_sub hl [1, 0] rfl)
      · have c10 : ln < n := jx_nle (by omega) (by omega) c10
        refine lv_aload_n hx hb dX1_joinBlocks_13 rfl (lv_at hl 0 rfl) ?_
        refine va_get (D := D) (ci := 1) (v := .ref (g 13)) (C := RX1) (T := TX1) (N := 15) hx hb hts in_X1_joinBlocks_1 hown hK hP 6 rfl rfl 9 (by decide) (hts (.fieldLink RX1 37 "Twincuts$Falls" "first" "[I") (List.mem_of_getElem? (i := 2) (by decide +kernel))) (fun _ h9 => h9) rfl dX1_joinBlocks_14 ?_
        refine lv_iload_n hx hb dX1_joinBlocks_17 rfl (lv_at hl 1 rfl) ?_
        refine lv_iload_n hx hb dX1_joinBlocks_18 rfl (lv_at hl 1 rfl) ?_
        refine jx_iastN hx hb hK hP hD hS 9 0 rfl rfl (by omega) (by decide) dX1_joinBlocks_19 (fun H locs hP hD hS => ?_)
        have hP : va_P D vwCl (jW cI g P n st sm gr co en la ++ jF cI g fp fb fc fk fq ft pa ps (jxUp (jmIota fi ln) ln ln) bl sp gp sw gw) H := hP
        have hD : va_D A (jW cI g P n st sm gr co en la ++ jF cI g fp fb fc fk fq ft pa ps (jxUp (jmIota fi ln) ln ln) bl sp gp sw gw) := jxD hD0 rfl
        refine lv_iinc (v := nI (ln + 1)) (lv' := [(1, .int (nI (ln + 1))), (0, .ref (g 10))]) hx hb dX1_joinBlocks_20 hl (k := 1) rfl (jx_inc _) (by decide) rfl (fun ls hl => ?_)
        refine lv_goto (tgt := 2) hx hb dX1_joinBlocks_23 (by decide) ?_
        have ew_6 : jxUp (jmIota fi ln) ln ln = jmIota fi (ln + 1) := by first | with_reducible rfl | exact jmIota_up _ _ | omega
        exact ih2 (ln + 1) (by omega) (by omega) H locs (by rw [← ew_6]; exact hP) hS ls (lv_sub hl [1, 0] rfl)
  have ew_7 : fi = jmIota fi 0 := by exact jmIota_0 _
  exact L2 ((n - 0) + 1) 0 (by omega) (Nat.lt_succ_self _) H locs (by rw [← ew_7]; exact hP) hS ls (lv_sub hl [1, 0] rfl)
