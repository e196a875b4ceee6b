set_option maxRecDepth 20000 in
theorem in_X1_join_1 : ∀ w ∈ wsX10, w ∈ wsX1_join := by decide +kernel
set_option maxRecDepth 20000 in
theorem in_X1_join_5 : ∀ w ∈ wsX50, w ∈ wsX1_join := by decide +kernel
set_option maxHeartbeats 4000000 in
set_option maxRecDepth 100000 in
/-- join(one, other) -/
theorem c_X1_join (l : Launch) (D : va_G) (cI : ClassId) (g : Nat → Nat) (P n st : Nat) (sm gr co en la : Nat → Nat) (fp fb fc fk fq ft : Nat) (pa ps fi : Nat → Nat) (bl : Nat → Int32) (sp gp sw gw : Nat → Nat) (sz : Nat) (hw : jmWF P n st sm gr co en la) (x y : Nat) (hx9 : x < 16) (hy9 : y < 16) (hfi : ∀ j, j < 16 → fi j < 16) : jxWv l yX1_join wsX1_join ({ frames := 1, cells := 0, slots := 0, locals := 21 } : Room) D [(cI, .int)] (jW cI g P n st sm gr co en la ++ jF cI g fp fb fc fk fq ft pa ps fi bl sp gp sw gw) [.ref (g 10), .int (nI x), .int (nI y)] sz (jW cI g P n st sm gr co en la ++ jF cI g fp fb fc fk fq ft pa ps (jmJoin fi x y n) bl sp gp sw gw) := by
  refine jxw_enterV (by decide) rfl (Nat.le_of_ble_eq_true rfl) ?_
  intro p e s m args below meth c Q A ls hx hb hml hts hown hN hP hK hD hA hl hQ
  have hD0 := hD
  obtain ⟨H, hH⟩ : ∃ h, h = s.heap := ⟨_, rfl⟩
  have hS : va_S A s.heap H [] := by rw [hH]; exact va_S.rf
  rw [← hH] at hP ⊢
  obtain ⟨locs, hlocs⟩ : ∃ z : List Loc, z = [] := ⟨_, rfl⟩
  rw [← hlocs] at hS ⊢
  have hown : s.vm.findClass RX1 = some m.cls := hown
  have hl : lv_has ls 5 [(0, .ref (g 10)), (1, .int (nI x)), (2, .int (nI y))] := hl
  have hP8 : P ≤ 8 := hw.1
  have hn16 : n ≤ 16 := hw.2.1
  have hst : st < 65536 := jmWF_st hw
  have hen : ∀ j, j < n → en j < 256 := jmWF_en hw
  have hla : ∀ q, q < P → la q < 65536 := jmWF_la hw
  have hgr : ∀ j, j < n → sm j < 8 ∧ gr j < 8 := jmWF_gr hw
  have hco : ∀ j, j < n → co j < 21 := jmWF_co hw
  refine lv_iload_n hx hb dX1_join_0 rfl (lv_at hl 1 rfl) ?_
  refine lv_iload_n hx hb dX1_join_1 rfl (lv_at hl 2 rfl) ?_
  refine va_mmin (rest := []) hx hb (hml.trans hl.1.symm) hown (hts (.methodLink RX1 130 Lib.Math.min.name) (List.mem_of_getElem? (i := 1) (by decide +kernel))) (hts (.static Lib.Math.min.name) (List.mem_of_getElem? (i := 2) (by decide +kernel))) (hts (.initialized "java/lang/Math") (List.mem_of_getElem? (i := 3) (by decide +kernel))) (hts (.code Lib.Math.min.name Lib.Math.min.code 2 (some .int)) (List.mem_of_getElem? (i := 4) (by decide +kernel))) (Nat.le_of_ble_eq_true rfl) (Nat.le_of_ble_eq_true rfl) (Nat.zero_le _) (Nat.zero_le _) dX1_join_2 ?_
  refine jx_val (z := (nI (min x y))) (jx_min (by omega) (by omega)) ?_
  refine lv_istore_n (lv' := [(3, .int (nI (min x y))), (0, .ref (g 10)), (1, .int (nI x)), (2, .int (nI y))]) hx hb dX1_join_5 rfl hl (by decide) rfl (fun ls hl => ?_)
  refine lv_iconst (v := nI 0) hx hb dX1_join_6 (by decide) ?_
  refine lv_istore (lv' := [(4, .int (nI 0)), (3, .int (nI (min x y))), (0, .ref (g 10)), (1, .int (nI x)), (2, .int (nI y))]) hx hb dX1_join_7 hl (by decide) rfl (fun ls hl => ?_)
  have L9 : ∀ (k : Nat) (ln : Nat) (hln : ln ≤ n), n - ln < k → ∀ (H : Heap) (locs : List Loc), va_P D vwCl (jW cI g P n st sm gr co en la ++ jF cI g fp fb fc fk fq ft pa ps (jmJoin fi x y ln) bl sp gp sw gw) H → va_S A s.heap H locs → ∀ ls : Array Slot, lv_has ls 5 [(0, .ref (g 10)), (1, .int (nI x)), (2, .int (nI y)), (3, .int (nI (min x y))), (4, .int (nI ln))] → W p l e ({ frames := 1, cells := 0, slots := 0, locals := 21 } : Room) s m args below meth c H locs 0 0 Q (F0 m 9 ls []) := by
    intro k
    induction k with
    | zero => intro ln hln hk; exact absurd hk (Nat.not_lt_zero _)
    | succ k ih9 =>
      intro ln hln hk H locs hP hS ls hl
      have hD : va_D A (jW cI g P n st sm gr co en la ++ jF cI g fp fb fc fk fq ft pa ps (jmJoin fi x y ln) bl sp gp sw gw) := jxD hD0 rfl
      refine lv_iload hx hb dX1_join_9 (lv_at hl 4 rfl) ?_
      refine lv_aload_n hx hb dX1_join_11 rfl (lv_at hl 0 rfl) ?_
      refine va_get (D := D) (ci := 1) (v := .ref (g 0)) (C := RX1) (T := TX1) (N := 15) hx hb hts in_X1_join_1 hown hK hP 6 rfl rfl 0 (by decide) (hts (.fieldLink RX1 55 "Twincuts$Falls" "web" "LTwincuts$Web;") (List.mem_of_getElem? (i := 5) (by decide +kernel))) (fun _ h9 => h9) rfl dX1_join_12 ?_
      refine va_getN (D := D) (ci := 5) (v := .int (nI n)) (C := RX5) (T := TX5) (N := 8) hx hb hts in_X1_join_5 hown hK hP 0 rfl rfl 1 (by decide) (hN.use 7 rfl) (fun _ h9 => h9) rfl dX1_join_15 ?_
      refine lv_icmp_ge (tgt := 57) hx hb dX1_join_18 (by decide) (fun c18 => ?_) (fun c18 => ?_)
      · have c18 : n ≤ ln := jx_le (by omega) (by omega) c18
        have es_57 : n = ln := (by omega)
        subst es_57
        exact hQ H locs _ _ dX1_join_57 hP hS
      · have c18 : ln < n := jx_nle (by omega) (by omega) c18
        refine lv_aload_n hx hb dX1_join_21 rfl (lv_at hl 0 rfl) ?_
        refine va_get (D := D) (ci := 1) (v := .ref (g 13)) (C := RX1) (T := TX1) (N := 15) hx hb hts in_X1_join_1 hown hK hP 6 rfl rfl 9 (by decide) (hts (.fieldLink RX1 37 "Twincuts$Falls" "first" "[I") (List.mem_of_getElem? (i := 6) (by decide +kernel))) (fun _ h9 => h9) rfl dX1_join_22 ?_
        refine lv_iload hx hb dX1_join_25 (lv_at hl 4 rfl) ?_
        refine jx_iald hx hb hK hP 9 0 rfl rfl (by omega) (by decide) dX1_join_27 ?_
        refine jx_val (z := (nI (fi ln))) (congrArg nI (jmJoin_at _ _ _ _)) ?_
        refine lv_iload_n hx hb dX1_join_28 rfl (lv_at hl 1 rfl) ?_
        refine lv_icmp_eq (tgt := 43) hx hb dX1_join_29 (by decide) (fun c29 => ?_) (fun c29 => ?_)
        · have c29 : fi ln = x := jx_e (by have := hfi ln (by omega); omega) (by omega) c29
          refine lv_aload_n hx hb dX1_join_43 rfl (lv_at hl 0 rfl) ?_
          refine va_get (D := D) (ci := 1) (v := .ref (g 13)) (C := RX1) (T := TX1) (N := 15) hx hb hts in_X1_join_1 hown hK hP 6 rfl rfl 9 (by decide) (hts (.fieldLink RX1 37 "Twincuts$Falls" "first" "[I") (List.mem_of_getElem? (i := 6) (by decide +kernel))) (fun _ h9 => h9) rfl dX1_join_44 ?_
          refine lv_iload hx hb dX1_join_47 (lv_at hl 4 rfl) ?_
          refine lv_iload_n hx hb dX1_join_49 rfl (lv_at hl 3 rfl) ?_
          refine jx_iastN hx hb hK hP hD hS 9 0 rfl rfl (by omega) (by decide) dX1_join_50 (fun H locs hP hD hS => ?_)
          have hP : va_P D vwCl (jW cI g P n st sm gr co en la ++ jF cI g fp fb fc fk fq ft pa ps (jxUp (jmJoin fi x y ln) ln (min x y)) bl sp gp sw gw) H := hP
          have hD : va_D A (jW cI g P n st sm gr co en la ++ jF cI g fp fb fc fk fq ft pa ps (jxUp (jmJoin fi x y ln) ln (min x y)) bl sp gp sw gw) := jxD hD0 rfl
          refine lv_iinc (v := nI (ln + 1)) (lv' := [(4, .int (nI (ln + 1))), (0, .ref (g 10)), (1, .int (nI x)), (2, .int (nI y)), (3, .int (nI (min x y)))]) hx hb dX1_join_51 hl (k := 4) rfl (jx_inc _) (by decide) rfl (fun ls hl => ?_)
          refine lv_goto (tgt := 9) hx hb dX1_join_54 (by decide) ?_
          have ew_1 : jxUp (jmJoin fi x y ln) ln (min x y) = jmJoin fi x y (ln + 1) := by first | with_reducible rfl | exact jmJoin_up (Or.inl c29) | exact jmJoin_up (Or.inr c40) | exact jmJoin_no c29 c40 | omega
          exact ih9 (ln + 1) (by omega) (by omega) H locs (by rw [← ew_1]; exact hP) hS ls (lv_sub hl [1, 2, 3, 4, 0] rfl)
        · have c29 : fi ln ≠ x := jx_ne c29
          refine lv_aload_n hx hb dX1_join_32 rfl (lv_at hl 0 rfl) ?_
          refine va_get (D := D) (ci := 1) (v := .ref (g 13)) (C := RX1) (T := TX1) (N := 15) hx hb hts in_X1_join_1 hown hK hP 6 rfl rfl 9 (by decide) (hts (.fieldLink RX1 37 "Twincuts$Falls" "first" "[I") (List.mem_of_getElem? (i := 6) (by decide +kernel))) (fun _ h9 => h9) rfl dX1_join_33 ?_
          refine lv_iload hx hb dX1_join_36 (lv_at hl 4 rfl) ?_
          refine jx_iald hx hb hK hP 9 0 rfl rfl (by omega) (by decide) dX1_join_38 ?_
          refine jx_val (z := (nI (fi ln))) (congrArg nI (jmJoin_at _ _ _ _)) ?_
          refine lv_iload_n hx hb dX1_join_39 rfl (lv_at hl 2 rfl) ?_
          refine lv_icmp_ne (tgt := 51) hx hb dX1_join_40 (by decide) (fun c40 => ?_) (fun c40 => ?_)
          · have c40 : fi ln ≠ y := jx_ne c40
            refine lv_iinc (v := nI (ln + 1)) (lv' := [(4, .int (nI (ln + 1))), (0, .ref (g 10)), (1, .int (nI x)), (2, .int (nI y)), (3, .int (nI (min x y)))]) hx hb dX1_join_51 hl (k := 4) rfl (jx_inc _) (by decide) rfl (fun ls hl => ?_)
            refine lv_goto (tgt := 9) hx hb dX1_join_54 (by decide) ?_
            have ew_2 : jmJoin fi x y ln = jmJoin fi x y (ln + 1) := by first | with_reducible rfl | exact jmJoin_up (Or.inl c29) | exact jmJoin_up (Or.inr c40) | exact jmJoin_no c29 c40 | omega
            exact ih9 (ln + 1) (by omega) (by omega) H locs (by rw [← ew_2]; exact hP) hS ls (lv_sub hl [1, 2, 3, 4, 0] rfl)
          · have c40 : fi ln = y := jx_e (by have := hfi ln (by omega); omega) (by omega) c40
            refine lv_aload_n hx hb dX1_join_43 rfl (lv_at hl 0 rfl) ?_
            refine va_get (D := D) (ci := 1) (v := .ref (g 13)) (C := RX1) (T := TX1) (N := 15) hx hb hts in_X1_join_1 hown hK hP 6 rfl rfl 9 (by decide) (hts (.fieldLink RX1 37 "Twincuts$Falls" "first" "[I") (List.mem_of_getElem? (i := 6) (by decide +kernel))) (fun _ h9 => h9) rfl dX1_join_44 ?_
            refine lv_iload hx hb dX1_join_47 (lv_at hl 4 rfl) ?_
            refine lv_iload_n hx hb dX1_join_49 rfl (lv_at hl 3 rfl) ?_
            refine jx_iastN hx hb hK hP hD hS 9 0 rfl rfl (by omega) (by decide) dX1_join_50 (fun H locs hP hD hS => ?_)
            have hP : va_P D vwCl (jW cI g P n st sm gr co en la ++ jF cI g fp fb fc fk fq ft pa ps (jxUp (jmJoin fi x y ln) ln (min x y)) bl sp gp sw gw) H := hP
            have hD : va_D A (jW cI g P n st sm gr co en la ++ jF cI g fp fb fc fk fq ft pa ps (jxUp (jmJoin fi x y ln) ln (min x y)) bl sp gp sw gw) := jxD hD0 rfl
            refine lv_iinc (v := nI (ln + 1)) (lv' := [(4, .int (nI (ln + 1))), (0, .ref (g 10)), (1, .int (nI x)), (2, .int (nI y)), (3, .int (nI (min x y)))]) hx hb dX1_join_51 hl (k := 4) rfl (jx_inc _) (by decide) rfl (fun ls hl => ?_)
            refine lv_goto (tgt := 9) hx hb dX1_join_54 (by decide) ?_
            have ew_3 : jxUp (jmJoin fi x y ln) ln (min x y) = jmJoin fi x y (ln + 1) := by first | with_reducible rfl | exact jmJoin_up (Or.inl c29) | exact jmJoin_up (Or.inr c40) | exact jmJoin_no c29 c40 | omega
            exact ih9 (ln + 1) (by omega) (by omega) H locs (by rw [← ew_3]; exact hP) hS ls (lv_sub hl [1, 2, 3, 4, 0] rfl)
  have ew_4 : fi = jmJoin fi x y 0 := by exact jmJoin_0 _ _ _
  exact L9 ((n - 0) + 1) 0 (by omega) (Nat.lt_succ_self _) H locs (by rw [← ew_4]; exact hP) hS ls (lv_sub hl [2, 3, 4, 1, 0] rfl)
