set_option maxRecDepth 20000 in
theorem in_X0_bestPlace_0 : ∀ w ∈ wsX00, w ∈ wsX0_bestPlace := by decide +kernel
set_option maxRecDepth 20000 in
theorem in_X0_bestPlace_5 : ∀ w ∈ wsX50, w ∈ wsX0_bestPlace := by decide +kernel
set_option maxHeartbeats 4000000 in
set_option maxRecDepth 100000 in
/-- bestPlace(point) -/
theorem c_X0_bestPlace (l : Launch) (D : va_G) (cI : ClassId) (cO : ClassId) (g : Nat → Nat) (P n st : Nat) (sm gr co en la : Nat → Nat) (rd le : Nat → Nat) (wk : Nat) (fa : Nat → Int32) (od : Nat → Nat → Nat) (sz : Nat) (hw : jmWF P n st sm gr co en la) (hdw : jmDW P n le od) (q : Nat) (hq : q < P) (hwk : wk ≤ 32) : jxWi l yX0_bestPlace wsX0_bestPlace ({ frames := 3, cells := 0, slots := 0, locals := 72 } : Room) D [(cI, .int), (cO, .array .int)] (jW cI g P n st sm gr co en la ++ jD cI cO g rd le wk fa ++ jRN cI 8 16 rd od) [.ref (g 50), .int (nI q)] sz (fun r => r = (jmBP sm gr la P n st le od q (wk + jmIso la st P) (le q)).1) (jW cI g P n st sm gr co en la ++ jD cI cO g rd le ((jmLn sm gr n st le od).1) ((jmLn sm gr n st le od).2) ++ jRN cI 8 16 rd od) := by
  refine jxw_enter (by decide) rfl (Nat.le_of_ble_eq_true rfl) ?_
  intro p e s m args below meth c Q A ls hx hb hml hts hown hN hP hK hD hA hl hQ
  have hD0 := hD
  obtain ⟨H, hH⟩ : ∃ h, h = s.heap := ⟨_, rfl⟩
  have hS : va_S A s.heap H [] := by rw [hH]; exact va_S.rf
  rw [← hH] at hP ⊢
  obtain ⟨locs, hlocs⟩ : ∃ z : List Loc, z = [] := ⟨_, rfl⟩
  rw [← hlocs] at hS ⊢
  have hown : s.vm.findClass RX0 = some m.cls := hown
  have hl : lv_has ls 5 [(0, .ref (g 50)), (1, .int (nI q))] := hl
  have hP8 : P ≤ 8 := hw.1
  have hn16 : n ≤ 16 := hw.2.1
  have hst : st < 65536 := jmWF_st hw
  have hen : ∀ j, j < n → en j < 256 := jmWF_en hw
  have hla : ∀ q, q < P → la q < 65536 := jmWF_la hw
  have hgr : ∀ j, j < n → sm j < 8 ∧ gr j < 8 := jmWF_gr hw
  have hco : ∀ j, j < n → co j < 21 := jmWF_co hw
  have hle := hdw.1 q hq
  have hiso := jmIso_le la st P
  refine lv_iconst (v := (-1)) hx hb dX0_bestPlace_0 (by decide) ?_
  refine lv_istore_n (lv' := [(2, .int (-1 : Int32)), (0, .ref (g 50)), (1, .int (nI q))]) hx hb dX0_bestPlace_1 rfl hl (by decide) rfl (fun ls hl => ?_)
  refine lv_aload_n hx hb dX0_bestPlace_2 rfl (lv_at hl 1 rfl) ?_
  refine jx_callV (As := []) (rest := []) ⟨hx, hb, hml, hown, hts⟩ (c_X0_allFaces l D cI cO g P n st sm gr co en la rd le wk fa hw (by omega)) (cwV 0 hts gX0_bestPlace_X0_allFaces rfl rfl rfl (by decide +kernel) ⟨Nat.le_of_ble_eq_true rfl, Nat.le_of_ble_eq_true rfl⟩) hN (hP.sub (ws' := jW cI g P n st sm gr co en la ++ jD cI cO g rd le wk fa) [0, 1, 2, 3, 4, 5, 6, 7, 8, 9] rfl) (hK.sub (tys' := [(cI, .int), (cO, .array .int)]) [0, 1] rfl) 6 0 rfl rfl rfl rfl hl.1 rfl (Nat.le_of_ble_eq_true rfl) dX0_bestPlace_3 ⟨Nat.zero_le _, Nat.zero_le _⟩ (fun r hr => ?_)
  subst hr
  refine lv_istore_n (lv' := [(3, .int (nI (wk + jmIso la st P))), (2, .int (-1 : Int32)), (0, .ref (g 50)), (1, .int (nI q))]) hx hb dX0_bestPlace_6 rfl hl (by decide) rfl (fun ls hl => ?_)
  refine lv_iconst (v := nI 0) hx hb dX0_bestPlace_7 (by decide) ?_
  refine lv_istore (lv' := [(4, .int (nI 0)), (3, .int (nI (wk + jmIso la st P))), (2, .int (-1 : Int32)), (0, .ref (g 50)), (1, .int (nI q))]) hx hb dX0_bestPlace_8 hl (by decide) rfl (fun ls hl => ?_)
  have L10 : ∀ (k : Nat) (k1 : Nat) (w9 : Nat) (g9 : Nat → Int32) (hk1 : k1 ≤ le q), le q - k1 < k → ∀ (H : Heap) (locs : List Loc), va_P D vwCl (jW cI g P n st sm gr co en la ++ jD cI cO g rd le w9 g9 ++ jRN cI 8 16 rd od) H → va_S A s.heap H locs → ∀ ls : Array Slot, lv_has ls 5 [(0, .ref (g 50)), (1, .int (nI q)), (2, .int ((jmBP sm gr la P n st le od q (wk + jmIso la st P) k1).1)), (3, .int (nI ((jmBP sm gr la P n st le od q (wk + jmIso la st P) k1).2))), (4, .int (nI k1))] → W p l e ({ frames := 3, cells := 0, slots := 0, locals := 72 } : Room) s m args below meth c H locs 0 0 Q (F0 m 10 ls []) := by
    intro k
    induction k with
    | zero => intro k1 w9 g9 hk1 hk; exact absurd hk (Nat.not_lt_zero _)
    | succ k ih10 =>
      intro k1 w9 g9 hk1 hk H locs hP hS ls hl
      have hD : va_D A (jW cI g P n st sm gr co en la ++ jD cI cO g rd le w9 g9 ++ jRN cI 8 16 rd od) := jxD hD0 rfl
      have hB := jmBP_le (sm := sm) (gr := gr) (la := la) (P := P) (n := n) (st := st) (le := le) (od := od) (q := q) (m0 := wk + jmIso la st P) (N := 40) hn16 hP8 (by omega) (by omega) k1
      refine lv_iload hx hb dX0_bestPlace_10 (lv_at hl 4 rfl) ?_
      refine lv_aload_n hx hb dX0_bestPlace_12 rfl (lv_at hl 0 rfl) ?_
      refine va_get (D := D) (ci := 0) (v := .ref (g 52)) (C := RX0) (T := TX0) (N := 5) hx hb hts in_X0_bestPlace_0 hown hK hP 6 rfl rfl 2 (by decide) (hts (.fieldLink RX0 16 "Twincuts$Drawing" "length" "[I") (List.mem_of_getElem? (i := 1) (by decide +kernel))) (fun _ h9 => h9) rfl dX0_bestPlace_13 ?_
      refine lv_iload_n hx hb dX0_bestPlace_16 rfl (lv_at hl 1 rfl) ?_
      refine jx_iald hx hb hK hP 8 0 rfl rfl (by omega) (by decide) dX0_bestPlace_17 ?_
      refine lv_icmp_ge (tgt := 61) hx hb dX0_bestPlace_18 (by decide) (fun c18 => ?_) (fun c18 => ?_)
      · have c18 : le q ≤ k1 := jx_le (by omega) (by omega) c18
        have es_61 : k1 = (le q) := (by omega)
        subst es_61
        refine lv_aload_n hx hb dX0_bestPlace_61 rfl (lv_at hl 0 rfl) ?_
        refine jxw_callV (X := jW cI g P n st sm gr co en la ++ jD cI cO g rd le w9 g9 ++ jRN cI 8 16 rd od) (X' := jW cI g P n st sm gr co en la ++ jD cI cO g rd le ((jmLn sm gr n st le od).1) ((jmLn sm gr n st le od).2) ++ jRN cI 8 16 rd od) (wc := jW cI g P n st sm gr co en la ++ jD cI cO g rd le w9 g9 ++ jRN cI 8 16 rd od) (wc' := jW cI g P n st sm gr co en la ++ jD cI cO g rd le ((jmLn sm gr n st le od).1) ((jmLn sm gr n st le od).2) ++ jRN cI 8 16 rd od) (wr := []) (N := 18) (As := []) (rest := []) ⟨hx, hb, hml, hown, hts⟩ (c_X0_learn l D cI cO g P n st sm gr co en la rd le w9 g9 od H.size hw hdw) (cwV 0 hts gX0_bestPlace_X0_learn rfl rfl rfl (by decide +kernel) ⟨Nat.le_of_ble_eq_true rfl, Nat.le_of_ble_eq_true rfl⟩) hN hP hD (hK.sub (tys' := [(cI, .int), (cO, .array .int)]) [0, 1] rfl) hS hA [0, 1, 2, 3, 4, 5, 6, 7, 8, 9, 10, 11, 12, 13, 14, 15, 16, 17] [] rfl rfl rfl rfl rfl rfl (by decide) (by decide) 6 0 rfl rfl rfl (hK.sub (tys' := [(cI, .int), (cO, .array .int)]) [0, 1] rfl) rfl hl.1 rfl (Nat.le_of_ble_eq_true rfl) dX0_bestPlace_62 ⟨Nat.zero_le _, Nat.zero_le _⟩ (fun H locs hP hS => ?_)
        have hD : va_D A (jW cI g P n st sm gr co en la ++ jD cI cO g rd le ((jmLn sm gr n st le od).1) ((jmLn sm gr n st le od).2) ++ jRN cI 8 16 rd od) := jxD hD0 rfl
        refine lv_iload_n hx hb dX0_bestPlace_65 rfl (lv_at hl 2 rfl) ?_
        exact hQ ((jmBP sm gr la P n st le od q (wk + jmIso la st P) (le q)).1) H locs _ _ dX0_bestPlace_66 rfl hP hS
      · have c18 : k1 < le q := jx_nle (by omega) (by omega) c18
        refine lv_aload_n hx hb dX0_bestPlace_21 rfl (lv_at hl 0 rfl) ?_
        refine lv_iload_n hx hb dX0_bestPlace_22 rfl (lv_at hl 1 rfl) ?_
        refine lv_iload hx hb dX0_bestPlace_23 (lv_at hl 4 rfl) ?_
        refine jxw_callV (X := jW cI g P n st sm gr co en la ++ jD cI cO g rd le w9 g9 ++ jRN cI 8 16 rd od) (X' := jW cI g P n st sm gr co en la ++ jD cI cO g rd le w9 g9 ++ jRN cI 8 16 rd (jmSw (le q) od q k1)) (wc := jD cI cO g rd le w9 g9 ++ jRN cI 8 16 rd od) (wc' := jD cI cO g rd le w9 g9 ++ jRN cI 8 16 rd (jmSw (le q) od q k1)) (wr := jW cI g P n st sm gr co en la) (N := 18) (As := [.int (nI q), .int (nI k1)]) (rest := []) ⟨hx, hb, hml, hown, hts⟩ (c_X0_swap l D cI cO g rd le w9 g9 od H.size q k1 (by omega) (by omega) (by omega)) (cwV 2 hts gX0_bestPlace_X0_swap rfl rfl rfl (by decide +kernel) ⟨Nat.le_of_ble_eq_true rfl, Nat.le_of_ble_eq_true rfl⟩) hN hP hD (hK.sub (tys' := [(cI, .int), (cO, .array .int)]) [0, 1] rfl) hS hA [6, 7, 8, 9, 10, 11, 12, 13, 14, 15, 16, 17] [0, 1, 2, 3, 4, 5] rfl rfl rfl rfl rfl rfl (by decide) (by decide) 6 0 rfl rfl rfl (hK.sub (tys' := [(cI, .int), (cO, .array .int)]) [0, 1] rfl) rfl hl.1 rfl (Nat.le_of_ble_eq_true rfl) dX0_bestPlace_25 ⟨Nat.zero_le _, Nat.zero_le _⟩ (fun H locs hP hS => ?_)
        have hD : va_D A (jW cI g P n st sm gr co en la ++ jD cI cO g rd le w9 g9 ++ jRN cI 8 16 rd (jmSw (le q) od q k1)) := jxD hD0 rfl
        refine lv_aload_n hx hb dX0_bestPlace_28 rfl (lv_at hl 0 rfl) ?_
        have hl1 := jmLe_le (jmWalk sm gr st le (jmSw (le q) od q k1)) st (2 * n)
        have hl2 : (jmLn sm gr n st le (jmSw (le q) od q k1)).1 ≤ 32 := by show (jmLe _ st (2 * n)).1 ≤ 32; omega
        refine jxw_callV (X := jW cI g P n st sm gr co en la ++ jD cI cO g rd le w9 g9 ++ jRN cI 8 16 rd (jmSw (le q) od q k1)) (X' := jW cI g P n st sm gr co en la ++ jD cI cO g rd le ((jmLn sm gr n st le (jmSw (le q) od q k1)).1) ((jmLn sm gr n st le (jmSw (le q) od q k1)).2) ++ jRN cI 8 16 rd (jmSw (le q) od q k1)) (wc := jW cI g P n st sm gr co en la ++ jD cI cO g rd le w9 g9 ++ jRN cI 8 16 rd (jmSw (le q) od q k1)) (wc' := jW cI g P n st sm gr co en la ++ jD cI cO g rd le ((jmLn sm gr n st le (jmSw (le q) od q k1)).1) ((jmLn sm gr n st le (jmSw (le q) od q k1)).2) ++ jRN cI 8 16 rd (jmSw (le q) od q k1)) (wr := []) (N := 18) (As := []) (rest := []) ⟨hx, hb, hml, hown, hts⟩ (c_X0_learn l D cI cO g P n st sm gr co en la rd le w9 g9 (jmSw (le q) od q k1) H.size hw (jmSw_ok hdw hq (by omega))) (cwV 0 hts gX0_bestPlace_X0_learn rfl rfl rfl (by decide +kernel) ⟨Nat.le_of_ble_eq_true rfl, Nat.le_of_ble_eq_true rfl⟩) hN hP hD (hK.sub (tys' := [(cI, .int), (cO, .array .int)]) [0, 1] rfl) hS hA [0, 1, 2, 3, 4, 5, 6, 7, 8, 9, 10, 11, 12, 13, 14, 15, 16, 17] [] rfl rfl rfl rfl rfl rfl (by decide) (by decide) 6 0 rfl rfl rfl (hK.sub (tys' := [(cI, .int), (cO, .array .int)]) [0, 1] rfl) rfl hl.1 rfl (Nat.le_of_ble_eq_true rfl) dX0_bestPlace_29 ⟨Nat.zero_le _, Nat.zero_le _⟩ (fun H locs hP hS => ?_)
        have hD : va_D A (jW cI g P n st sm gr co en la ++ jD cI cO g rd le ((jmLn sm gr n st le (jmSw (le q) od q k1)).1) ((jmLn sm gr n st le (jmSw (le q) od q k1)).2) ++ jRN cI 8 16 rd (jmSw (le q) od q k1)) := jxD hD0 rfl
        refine lv_aload_n hx hb dX0_bestPlace_32 rfl (lv_at hl 0 rfl) ?_
        refine lv_iload_n hx hb dX0_bestPlace_33 rfl (lv_at hl 1 rfl) ?_
        refine lv_iload hx hb dX0_bestPlace_34 (lv_at hl 4 rfl) ?_
        refine jxw_callV (X := jW cI g P n st sm gr co en la ++ jD cI cO g rd le ((jmLn sm gr n st le (jmSw (le q) od q k1)).1) ((jmLn sm gr n st le (jmSw (le q) od q k1)).2) ++ jRN cI 8 16 rd (jmSw (le q) od q k1)) (X' := jW cI g P n st sm gr co en la ++ jD cI cO g rd le ((jmLn sm gr n st le (jmSw (le q) od q k1)).1) ((jmLn sm gr n st le (jmSw (le q) od q k1)).2) ++ jRN cI 8 16 rd (jmSw (le q) (jmSw (le q) od q k1) q k1)) (wc := jD cI cO g rd le ((jmLn sm gr n st le (jmSw (le q) od q k1)).1) ((jmLn sm gr n st le (jmSw (le q) od q k1)).2) ++ jRN cI 8 16 rd (jmSw (le q) od q k1)) (wc' := jD cI cO g rd le ((jmLn sm gr n st le (jmSw (le q) od q k1)).1) ((jmLn sm gr n st le (jmSw (le q) od q k1)).2) ++ jRN cI 8 16 rd (jmSw (le q) (jmSw (le q) od q k1) q k1)) (wr := jW cI g P n st sm gr co en la) (N := 18) (As := [.int (nI q), .int (nI k1)]) (rest := []) ⟨hx, hb, hml, hown, hts⟩ (c_X0_swap l D cI cO g rd le ((jmLn sm gr n st le (jmSw (le q) od q k1)).1) ((jmLn sm gr n st le (jmSw (le q) od q k1)).2) (jmSw (le q) od q k1) H.size q k1 (by omega) (by omega) (by omega)) (cwV 2 hts gX0_bestPlace_X0_swap rfl rfl rfl (by decide +kernel) ⟨Nat.le_of_ble_eq_true rfl, Nat.le_of_ble_eq_true rfl⟩) hN hP hD (hK.sub (tys' := [(cI, .int), (cO, .array .int)]) [0, 1] rfl) hS hA [6, 7, 8, 9, 10, 11, 12, 13, 14, 15, 16, 17] [0, 1, 2, 3, 4, 5] rfl rfl rfl rfl rfl rfl (by decide) (by decide) 6 0 rfl rfl rfl (hK.sub (tys' := [(cI, .int), (cO, .array .int)]) [0, 1] rfl) rfl hl.1 rfl (Nat.le_of_ble_eq_true rfl) dX0_bestPlace_36 ⟨Nat.zero_le _, Nat.zero_le _⟩ (fun H locs hP hS => ?_)
        have hD : va_D A (jW cI g P n st sm gr co en la ++ jD cI cO g rd le ((jmLn sm gr n st le (jmSw (le q) od q k1)).1) ((jmLn sm gr n st le (jmSw (le q) od q k1)).2) ++ jRN cI 8 16 rd (jmSw (le q) (jmSw (le q) od q k1) q k1)) := jxD hD0 rfl
        rw [show jmSw (le q) (jmSw (le q) od q k1) q k1 = od from jmSw_sw] at hP
        have hP : va_P D vwCl (jW cI g P n st sm gr co en la ++ jD cI cO g rd le ((jmLn sm gr n st le (jmSw (le q) od q k1)).1) ((jmLn sm gr n st le (jmSw (le q) od q k1)).2) ++ jRN cI 8 16 rd od) H := hP
        have hD : va_D A (jW cI g P n st sm gr co en la ++ jD cI cO g rd le ((jmLn sm gr n st le (jmSw (le q) od q k1)).1) ((jmLn sm gr n st le (jmSw (le q) od q k1)).2) ++ jRN cI 8 16 rd od) := jxD hD0 rfl
        refine lv_aload_n hx hb dX0_bestPlace_39 rfl (lv_at hl 0 rfl) ?_
        refine jx_callV (As := []) (rest := []) ⟨hx, hb, hml, hown, hts⟩ (c_X0_allFaces l D cI cO g P n st sm gr co en la rd le ((jmLn sm gr n st le (jmSw (le q) od q k1)).1) ((jmLn sm gr n st le (jmSw (le q) od q k1)).2) hw (by omega)) (cwV 0 hts gX0_bestPlace_X0_allFaces rfl rfl rfl (by decide +kernel) ⟨Nat.le_of_ble_eq_true rfl, Nat.le_of_ble_eq_true rfl⟩) hN (hP.sub (ws' := jW cI g P n st sm gr co en la ++ jD cI cO g rd le ((jmLn sm gr n st le (jmSw (le q) od q k1)).1) ((jmLn sm gr n st le (jmSw (le q) od q k1)).2)) [0, 1, 2, 3, 4, 5, 6, 7, 8, 9] rfl) (hK.sub (tys' := [(cI, .int), (cO, .array .int)]) [0, 1] rfl) 6 0 rfl rfl rfl rfl hl.1 rfl (Nat.le_of_ble_eq_true rfl) dX0_bestPlace_40 ⟨Nat.zero_le _, Nat.zero_le _⟩ (fun r hr => ?_)
        subst hr
        refine lv_iload_n hx hb dX0_bestPlace_43 rfl (lv_at hl 3 rfl) ?_
        refine lv_icmp_le (tgt := 55) hx hb dX0_bestPlace_44 (by decide) (fun c44 => ?_) (fun c44 => ?_)
        · have c44 : ((jmLn sm gr n st le (jmSw (le q) od q k1)).1) + jmIso la st P ≤ (jmBP sm gr la P n st le od q (wk + jmIso la st P) k1).2 := jx_le (by omega) (by omega) c44
          refine lv_iinc (v := nI (k1 + 1)) (lv' := [(4, .int (nI (k1 + 1))), (0, .ref (g 50)), (1, .int (nI q)), (2, .int ((jmBP sm gr la P n st le od q (wk + jmIso la st P) k1).1)), (3, .int (nI ((jmBP sm gr la P n st le od q (wk + jmIso la st P) k1).2)))]) hx hb dX0_bestPlace_55 hl (k := 4) rfl (jx_inc _) (by decide) rfl (fun ls hl => ?_)
          refine lv_goto (tgt := 10) hx hb dX0_bestPlace_58 (by decide) ?_
          have ev_1 : (jmBP sm gr la P n st le od q (wk + jmIso la st P) k1).1 = (jmBP sm gr la P n st le od q (wk + jmIso la st P) (k1 + 1)).1 := by first | with_reducible rfl | (rw [jmBP_y c44]; done) | (rw [jmBP_n c44]; done) | rw [jmBP_y c44] | rw [jmBP_n c44]
          have ev_2 : (jmBP sm gr la P n st le od q (wk + jmIso la st P) k1).2 = (jmBP sm gr la P n st le od q (wk + jmIso la st P) (k1 + 1)).2 := by first | with_reducible rfl | (rw [jmBP_y c44]; done) | (rw [jmBP_n c44]; done) | rw [jmBP_y c44] | rw [jmBP_n c44]
          exact ih10 (k1 + 1) ((jmLn sm gr n st le (jmSw (le q) od q k1)).1) ((jmLn sm gr n st le (jmSw (le q) od q k1)).2) (by omega) (by omega) H locs hP hS ls (by rw [← ev_2, ← ev_1]; exact lv_sub hl [1, 2, 3, 4, 0] rfl)
        · have c44 : (jmBP sm gr la P n st le od q (wk + jmIso la st P) k1).2 < ((jmLn sm gr n st le (jmSw (le q) od q k1)).1) + jmIso la st P := jx_nle (by omega) (by omega) c44
          refine lv_aload_n hx hb dX0_bestPlace_47 rfl (lv_at hl 0 rfl) ?_
          refine jx_callV (As := []) (rest := []) ⟨hx, hb, hml, hown, hts⟩ (c_X0_allFaces l D cI cO g P n st sm gr co en la rd le ((jmLn sm gr n st le (jmSw (le q) od q k1)).1) ((jmLn sm gr n st le (jmSw (le q) od q k1)).2) hw (by omega)) (cwV 0 hts gX0_bestPlace_X0_allFaces rfl rfl rfl (by decide +kernel) ⟨Nat.le_of_ble_eq_true rfl, Nat.le_of_ble_eq_true rfl⟩) hN (hP.sub (ws' := jW cI g P n st sm gr co en la ++ jD cI cO g rd le ((jmLn sm gr n st le (jmSw (le q) od q k1)).1) ((jmLn sm gr n st le (jmSw (le q) od q k1)).2)) [0, 1, 2, 3, 4, 5, 6, 7, 8, 9] rfl) (hK.sub (tys' := [(cI, .int), (cO, .array .int)]) [0, 1] rfl) 6 0 rfl rfl rfl rfl hl.1 rfl (Nat.le_of_ble_eq_true rfl) dX0_bestPlace_48 ⟨Nat.zero_le _, Nat.zero_le _⟩ (fun r hr => ?_)
          subst hr
          refine lv_istore_n (lv' := [(3, .int (nI (((jmLn sm gr n st le (jmSw (le q) od q k1)).1) + jmIso la st P))), (0, .ref (g 50)), (1, .int (nI q)), (2, .int ((jmBP sm gr la P n st le od q (wk + jmIso la st P) k1).1)), (4, .int (nI k1))]) hx hb dX0_bestPlace_51 rfl hl (by decide) rfl (fun ls hl => ?_)
          refine lv_iload hx hb dX0_bestPlace_52 (lv_at hl 4 rfl) ?_
          refine lv_istore_n (lv' := [(2, .int (nI k1)), (3, .int (nI (((jmLn sm gr n st le (jmSw (le q) od q k1)).1) + jmIso la st P))), (0, .ref (g 50)), (1, .int (nI q)), (4, .int (nI k1))]) hx hb dX0_bestPlace_54 rfl hl (by decide) rfl (fun ls hl => ?_)
          refine lv_iinc (v := nI (k1 + 1)) (lv' := [(4, .int (nI (k1 + 1))), (2, .int (nI k1)), (3, .int (nI (((jmLn sm gr n st le (jmSw (le q) od q k1)).1) + jmIso la st P))), (0, .ref (g 50)), (1, .int (nI q))]) hx hb dX0_bestPlace_55 hl (k := 4) rfl (jx_inc _) (by decide) rfl (fun ls hl => ?_)
          refine lv_goto (tgt := 10) hx hb dX0_bestPlace_58 (by decide) ?_
          have ev_3 : (nI k1) = ((jmBP sm gr la P n st le od q (wk + jmIso la st P) (k1 + 1)).1) := by first | with_reducible rfl | (rw [jmBP_y c44]; done) | (rw [jmBP_n c44]; done) | rw [jmBP_y c44] | rw [jmBP_n c44]
          have ev_4 : ((jmLn sm gr n st le (jmSw (le q) od q k1)).1) + jmIso la st P = (jmBP sm gr la P n st le od q (wk + jmIso la st P) (k1 + 1)).2 := by first | with_reducible rfl | (rw [jmBP_y c44]; done) | (rw [jmBP_n c44]; done) | rw [jmBP_y c44] | rw [jmBP_n c44]
          exact ih10 (k1 + 1) ((jmLn sm gr n st le (jmSw (le q) od q k1)).1) ((jmLn sm gr n st le (jmSw (le q) od q k1)).2) (by omega) (by omega) H locs hP hS ls (by rw [← ev_4, ← ev_3]; exact lv_sub hl [3, 4, 1, 2, 0] rfl)
  have ev_5 : (-1 : Int32) = (jmBP sm gr la P n st le od q (wk + jmIso la st P) 0).1 := by rfl
  have ev_6 : wk + jmIso la st P = (jmBP sm gr la P n st le od q (wk + jmIso la st P) 0).2 := by rfl
  exact L10 ((le q - 0) + 1) 0 wk fa (by omega) (Nat.lt_succ_self _) H locs hP hS ls (by rw [← ev_6, ← ev_5]; exact lv_sub hl [3, 4, 2, 1, 0] rfl)
