set_option maxRecDepth 20000 in
theorem in_X1_numberBlocks_1 : ∀ w ∈ wsX10, w ∈ wsX1_numberBlocks := by decide +kernel
set_option maxRecDepth 20000 in
theorem in_X1_numberBlocks_5 : ∀ w ∈ wsX50, w ∈ wsX1_numberBlocks := by decide +kernel
set_option maxHeartbeats 4000000 in
set_option maxRecDepth 100000 in
/-- numberBlocks() -/
theorem c_X1_numberBlocks (l : Launch) (D : va_G) (cI : ClassId) (g : Nat → Nat) (P n st : Nat) (sm gr co en la : Nat → Nat) (fp fb fc fk fq ft : Nat) (pa ps fi : Nat → Nat) (bl : Nat → Int32) (sp gp sw gw : Nat → Nat) (sz : Nat) (hw : jmWF P n st sm gr co en la) (hfi : ∀ j, j < 16 → fi j < 16) : jxWv l yX1_numberBlocks wsX1_numberBlocks ({ frames := 1, cells := 0, slots := 0, locals := 21 } : Room) D [(cI, .int)] (jW cI g P n st sm gr co en la ++ jF cI g fp fb fc fk fq ft pa ps fi bl sp gp sw gw) [.ref (g 10)] sz (jW cI g P n st sm gr co en la ++ jF cI g fp fb fc ((jmNB st fi bl n).1) fq ft pa ps fi ((jmNB st fi bl n).2) sp gp sw gw) := by
  refine jxw_enterV (by decide) rfl (Nat.le_of_ble_eq_true rfl) ?_
  intro p e s m args below meth c Q A ls hx hb hml hts hown hN hP hK hD hA hl hQ
  have hD0 := hD
  obtain ⟨H, hH⟩ : ∃ h, h = s.heap := ⟨_, rfl⟩
  have hS : va_S A s.heap H [] := by rw [hH]; exact va_S.rf
  rw [← hH] at hP ⊢
  obtain ⟨locs, hlocs⟩ : ∃ z : List Loc, z = [] := ⟨_, rfl⟩
  rw [← hlocs] at hS ⊢
  have hown : s.vm.findClass RX1 = some m.cls := hown
  have hl : lv_has ls 2 [(0, .ref (g 10))] := hl
  have hP8 : P ≤ 8 := hw.1
  have hn16 : n ≤ 16 := hw.2.1
  have hst : st < 65536 := jmWF_st hw
  have hen : ∀ j, j < n → en j < 256 := jmWF_en hw
  have hla : ∀ q, q < P → la q < 65536 := jmWF_la hw
  have hgr : ∀ j, j < n → sm j < 8 ∧ gr j < 8 := jmWF_gr hw
  have hco : ∀ j, j < n → co j < 21 := jmWF_co hw
  refine lv_aload_n hx hb dX1_numberBlocks_0 rfl (lv_at hl 0 rfl) ?_
  refine lv_iconst (v := nI 0) hx hb dX1_numberBlocks_1 (by decide) ?_
  refine va_put (D := D) (ci := 1) (v := .int (nI 0)) (ty := .int) (C := RX1) (T := TX1) (N := 15) hx hb hts in_X1_numberBlocks_1 tyX1 tyX1_ok nmX1 hown hK hP hD hS 6 rfl rfl 4 (by decide) (hts (.fieldLink RX1 21 "Twincuts$Falls" "blocks" "I") (List.mem_of_getElem? (i := 1) (by decide +kernel))) (fun _ h9 => h9) rfl (by decide +kernel) rfl rfl (Nat.le_of_ble_eq_true rfl) dX1_numberBlocks_2 (fun H locs hP hD hS => ?_)
  have hP : va_P D vwCl (jW cI g P n st sm gr co en la ++ jF cI g fp fb fc 0 fq ft pa ps fi bl sp gp sw gw) H := hP
  have hD : va_D A (jW cI g P n st sm gr co en la ++ jF cI g fp fb fc 0 fq ft pa ps fi bl sp gp sw gw) := jxD hD0 rfl
  refine lv_iconst (v := nI 0) hx hb dX1_numberBlocks_5 (by decide) ?_
  refine lv_istore_n (lv' := [(1, .int (nI 0)), (0, .ref (g 10))]) hx hb dX1_numberBlocks_6 rfl hl (by decide) rfl (fun ls hl => ?_)
  have L7 : ∀ (k : Nat) (ln : Nat) (hln : ln ≤ n), n - ln < k → ∀ (H : Heap) (locs : List Loc), va_P D vwCl (jW cI g P n st sm gr co en la ++ jF cI g fp fb fc ((jmNB st fi bl ln).1) fq ft pa ps fi ((jmNB st fi bl ln).2) sp gp sw gw) H → va_S A s.heap H locs → ∀ ls : Array Slot, lv_has ls 2 [(0, .ref (g 10)), (1, .int (nI ln))] → W p l e ({ frames := 1, cells := 0, slots := 0, locals := 21 } : Room) s m args below meth c H locs 0 0 Q (F0 m 7 ls []) := by
    intro k
    induction k with
    | zero => intro ln hln hk; exact absurd hk (Nat.not_lt_zero _)
    | succ k ih7 =>
      intro ln hln hk H locs hP hS ls hl
      have hD : va_D A (jW cI g P n st sm gr co en la ++ jF cI g fp fb fc ((jmNB st fi bl ln).1) fq ft pa ps fi ((jmNB st fi bl ln).2) sp gp sw gw) := jxD hD0 rfl
      refine lv_iload_n hx hb dX1_numberBlocks_7 rfl (lv_at hl 1 rfl) ?_
      refine lv_aload_n hx hb dX1_numberBlocks_8 rfl (lv_at hl 0 rfl) ?_
      refine va_get (D := D) (ci := 1) (v := .ref (g 0)) (C := RX1) (T := TX1) (N := 15) hx hb hts in_X1_numberBlocks_1 hown hK hP 6 rfl rfl 0 (by decide) (hts (.fieldLink RX1 55 "Twincuts$Falls" "web" "LTwincuts$Web;") (List.mem_of_getElem? (i := 2) (by decide +kernel))) (fun _ h9 => h9) rfl dX1_numberBlocks_9 ?_
      refine va_getN (D := D) (ci := 5) (v := .int (nI n)) (C := RX5) (T := TX5) (N := 8) hx hb hts in_X1_numberBlocks_5 hown hK hP 0 rfl rfl 1 (by decide) (hN.use 7 rfl) (fun _ h9 => h9) rfl dX1_numberBlocks_12 ?_
      refine lv_icmp_ge (tgt := 98) hx hb dX1_numberBlocks_15 (by decide) (fun c15 => ?_) (fun c15 => ?_)
      · have c15 : n ≤ ln := jx_le (by omega) (by omega) c15
        have es_98 : n = ln := (by omega)
        subst es_98
        exact hQ H locs _ _ dX1_numberBlocks_98 hP hS
      · have c15 : ln < n := jx_nle (by omega) (by omega) c15
        refine lv_aload_n hx hb dX1_numberBlocks_18 rfl (lv_at hl 0 rfl) ?_
        refine va_get (D := D) (ci := 1) (v := .ref (g 0)) (C := RX1) (T := TX1) (N := 15) hx hb hts in_X1_numberBlocks_1 hown hK hP 6 rfl rfl 0 (by decide) (hts (.fieldLink RX1 55 "Twincuts$Falls" "web" "LTwincuts$Web;") (List.mem_of_getElem? (i := 2) (by decide +kernel))) (fun _ h9 => h9) rfl dX1_numberBlocks_19 ?_
        refine va_getN (D := D) (ci := 5) (v := .int (nI st)) (C := RX5) (T := TX5) (N := 8) hx hb hts in_X1_numberBlocks_5 hown hK hP 0 rfl rfl 2 (by decide) (hN.use 14 rfl) (fun _ h9 => h9) rfl dX1_numberBlocks_22 ?_
        refine lv_iload_n hx hb dX1_numberBlocks_25 rfl (lv_at hl 1 rfl) ?_
        refine jx_callSN (As := [.int (nI st), .int (nI ln)]) (rest := []) ⟨hx, hb, hml, hown, hts⟩ (c_X6_has l D st ln (by omega) (by omega)) (va_cnB 2 hts gX1_numberBlocks_X6_has_n89 rfl rfl rfl (hN.get 43 rfl) (hts (.initialized RX6) (List.mem_of_getElem? (i := 6) (by decide +kernel))) (by decide +kernel) ⟨Nat.le_of_ble_eq_true rfl, Nat.le_of_ble_eq_true rfl⟩) (hts (.static yX6_has) (List.mem_of_getElem? (i := 5) (by decide +kernel))) hN (hP.sub (ws' := []) [] rfl) (hK.sub (tys' := []) [] rfl) rfl hl.1 rfl (Nat.le_of_ble_eq_true rfl) dX1_numberBlocks_26 ⟨Nat.zero_le _, Nat.zero_le _⟩ (fun r hr => ?_)
        subst hr
        refine lv_if_ne (tgt := 42) hx hb dX1_numberBlocks_29 (by decide) (fun c29 => ?_) (fun c29 => ?_)
        · have c29 := jB_1 c29
          refine lv_aload_n hx hb dX1_numberBlocks_42 rfl (lv_at hl 0 rfl) ?_
          refine va_get (D := D) (ci := 1) (v := .ref (g 13)) (C := RX1) (T := TX1) (N := 15) hx hb hts in_X1_numberBlocks_1 hown hK hP 6 rfl rfl 9 (by decide) (hts (.fieldLink RX1 37 "Twincuts$Falls" "first" "[I") (List.mem_of_getElem? (i := 4) (by decide +kernel))) (fun _ h9 => h9) rfl dX1_numberBlocks_43 ?_
          refine lv_iload_n hx hb dX1_numberBlocks_46 rfl (lv_at hl 1 rfl) ?_
          refine jx_iald hx hb hK hP 9 0 rfl rfl (by omega) (by decide) dX1_numberBlocks_47 ?_
          refine lv_iload_n hx hb dX1_numberBlocks_48 rfl (lv_at hl 1 rfl) ?_
          refine lv_icmp_ne (tgt := 75) hx hb dX1_numberBlocks_49 (by decide) (fun c49 => ?_) (fun c49 => ?_)
          · have c49 : fi ln ≠ ln := jx_ne c49
            refine lv_aload_n hx hb dX1_numberBlocks_75 rfl (lv_at hl 0 rfl) ?_
            refine va_get (D := D) (ci := 1) (v := .ref (g 14)) (C := RX1) (T := TX1) (N := 15) hx hb hts in_X1_numberBlocks_1 hown hK hP 6 rfl rfl 10 (by decide) (hts (.fieldLink RX1 40 "Twincuts$Falls" "block" "[I") (List.mem_of_getElem? (i := 3) (by decide +kernel))) (fun _ h9 => h9) rfl dX1_numberBlocks_76 ?_
            refine lv_iload_n hx hb dX1_numberBlocks_79 rfl (lv_at hl 1 rfl) ?_
            refine lv_aload_n hx hb dX1_numberBlocks_80 rfl (lv_at hl 0 rfl) ?_
            refine va_get (D := D) (ci := 1) (v := .ref (g 14)) (C := RX1) (T := TX1) (N := 15) hx hb hts in_X1_numberBlocks_1 hown hK hP 6 rfl rfl 10 (by decide) (hts (.fieldLink RX1 40 "Twincuts$Falls" "block" "[I") (List.mem_of_getElem? (i := 3) (by decide +kernel))) (fun _ h9 => h9) rfl dX1_numberBlocks_81 ?_
            refine lv_aload_n hx hb dX1_numberBlocks_84 rfl (lv_at hl 0 rfl) ?_
            refine va_get (D := D) (ci := 1) (v := .ref (g 13)) (C := RX1) (T := TX1) (N := 15) hx hb hts in_X1_numberBlocks_1 hown hK hP 6 rfl rfl 9 (by decide) (hts (.fieldLink RX1 37 "Twincuts$Falls" "first" "[I") (List.mem_of_getElem? (i := 4) (by decide +kernel))) (fun _ h9 => h9) rfl dX1_numberBlocks_85 ?_
            refine lv_iload_n hx hb dX1_numberBlocks_88 rfl (lv_at hl 1 rfl) ?_
            refine jx_iald hx hb hK hP 9 0 rfl rfl (by omega) (by decide) dX1_numberBlocks_89 ?_
            refine jx_iald hx hb hK hP 10 0 rfl rfl (hfi ln (by omega)) (by decide) dX1_numberBlocks_90 ?_
            refine jx_iastI hx hb hK hP hD hS 10 0 rfl rfl (by omega) (by decide) dX1_numberBlocks_91 (fun H locs hP hD hS => ?_)
            have hP : va_P D vwCl (jW cI g P n st sm gr co en la ++ jF cI g fp fb fc ((jmNB st fi bl ln).1) fq ft pa ps fi (jxUp ((jmNB st fi bl ln).2) ln (((jmNB st fi bl ln).2) (fi ln))) sp gp sw gw) H := hP
            have hD : va_D A (jW cI g P n st sm gr co en la ++ jF cI g fp fb fc ((jmNB st fi bl ln).1) fq ft pa ps fi (jxUp ((jmNB st fi bl ln).2) ln (((jmNB st fi bl ln).2) (fi ln))) sp gp sw gw) := jxD hD0 rfl
            refine lv_iinc (v := nI (ln + 1)) (lv' := [(1, .int (nI (ln + 1))), (0, .ref (g 10))]) hx hb dX1_numberBlocks_92 hl (k := 1) rfl (jx_inc _) (by decide) rfl (fun ls hl => ?_)
            refine lv_goto (tgt := 7) hx hb dX1_numberBlocks_95 (by decide) ?_
            have ew_1 : (jmNB st fi bl ln).1 = (jmNB st fi bl (ln + 1)).1 := by first | with_reducible rfl | (simp [jmNB, c15, c29, c49]; done) | omega
            have ew_2 : jxUp ((jmNB st fi bl ln).2) ln (((jmNB st fi bl ln).2) (fi ln)) = (jmNB st fi bl (ln + 1)).2 := by first | with_reducible rfl | (simp [jmNB, c15, c29, c49]; done) | omega
            exact ih7 (ln + 1) (by omega) (by omega) H locs (by rw [← ew_1, ← ew_2]; exact hP) hS ls (lv_sub hl [1, 0] rfl)
          · have c49 : fi ln = ln := jx_e (by have := hfi ln (by omega); omega) (by omega) c49
            refine lv_aload_n hx hb dX1_numberBlocks_52 rfl (lv_at hl 0 rfl) ?_
            refine va_get (D := D) (ci := 1) (v := .ref (g 14)) (C := RX1) (T := TX1) (N := 15) hx hb hts in_X1_numberBlocks_1 hown hK hP 6 rfl rfl 10 (by decide) (hts (.fieldLink RX1 40 "Twincuts$Falls" "block" "[I") (List.mem_of_getElem? (i := 3) (by decide +kernel))) (fun _ h9 => h9) rfl dX1_numberBlocks_53 ?_
            refine lv_iload_n hx hb dX1_numberBlocks_56 rfl (lv_at hl 1 rfl) ?_
            refine lv_aload_n hx hb dX1_numberBlocks_57 rfl (lv_at hl 0 rfl) ?_
            refine va_get (D := D) (ci := 1) (v := .int (nI ((jmNB st fi bl ln).1))) (C := RX1) (T := TX1) (N := 15) hx hb hts in_X1_numberBlocks_1 hown hK hP 6 rfl rfl 4 (by decide) (hts (.fieldLink RX1 21 "Twincuts$Falls" "blocks" "I") (List.mem_of_getElem? (i := 1) (by decide +kernel))) (fun _ h9 => h9) rfl dX1_numberBlocks_58 ?_
            refine jx_iastI hx hb hK hP hD hS 10 0 rfl rfl (by omega) (by decide) dX1_numberBlocks_61 (fun H locs hP hD hS => ?_)
            have hP : va_P D vwCl (jW cI g P n st sm gr co en la ++ jF cI g fp fb fc ((jmNB st fi bl ln).1) fq ft pa ps fi (jxUp ((jmNB st fi bl ln).2) ln (nI ((jmNB st fi bl ln).1))) sp gp sw gw) H := hP
            have hD : va_D A (jW cI g P n st sm gr co en la ++ jF cI g fp fb fc ((jmNB st fi bl ln).1) fq ft pa ps fi (jxUp ((jmNB st fi bl ln).2) ln (nI ((jmNB st fi bl ln).1))) sp gp sw gw) := jxD hD0 rfl
            refine lv_aload_n hx hb dX1_numberBlocks_62 rfl (lv_at hl 0 rfl) ?_
            refine lv_dup hx hb dX1_numberBlocks_63 rfl ?_
            refine va_get (D := D) (ci := 1) (v := .int (nI ((jmNB st fi bl ln).1))) (C := RX1) (T := TX1) (N := 15) hx hb hts in_X1_numberBlocks_1 hown hK hP 6 rfl rfl 4 (by decide) (hts (.fieldLink RX1 21 "Twincuts$Falls" "blocks" "I") (List.mem_of_getElem? (i := 1) (by decide +kernel))) (fun _ h9 => h9) rfl dX1_numberBlocks_64 ?_
            refine lv_iconst (v := nI 1) hx hb dX1_numberBlocks_67 (by decide) ?_
            refine lv_iadd hx hb dX1_numberBlocks_68 ?_
            refine jx_val (z := (nI (((jmNB st fi bl ln).1) + 1))) (nI_add _ _) ?_
            refine va_put (D := D) (ci := 1) (v := .int (nI (((jmNB st fi bl ln).1) + 1))) (ty := .int) (C := RX1) (T := TX1) (N := 15) hx hb hts in_X1_numberBlocks_1 tyX1 tyX1_ok nmX1 hown hK hP hD hS 6 rfl rfl 4 (by decide) (hts (.fieldLink RX1 21 "Twincuts$Falls" "blocks" "I") (List.mem_of_getElem? (i := 1) (by decide +kernel))) (fun _ h9 => h9) rfl (by decide +kernel) rfl rfl (Nat.le_of_ble_eq_true rfl) dX1_numberBlocks_69 (fun H locs hP hD hS => ?_)
            have hP : va_P D vwCl (jW cI g P n st sm gr co en la ++ jF cI g fp fb fc (((jmNB st fi bl ln).1) + 1) fq ft pa ps fi (jxUp ((jmNB st fi bl ln).2) ln (nI ((jmNB st fi bl ln).1))) sp gp sw gw) H := hP
            have hD : va_D A (jW cI g P n st sm gr co en la ++ jF cI g fp fb fc (((jmNB st fi bl ln).1) + 1) fq ft pa ps fi (jxUp ((jmNB st fi bl ln).2) ln (nI ((jmNB st fi bl ln).1))) sp gp sw gw) := jxD hD0 rfl
            refine lv_goto (tgt := 92) hx hb dX1_numberBlocks_72 (by decide) ?_
            refine lv_iinc (v := nI (ln + 1)) (lv' := [(1, .int (nI (ln + 1))), (0, .ref (g 10))]) hx hb dX1_numberBlocks_92 hl (k := 1) rfl (jx_inc _) (by decide) rfl (fun ls hl => ?_)
            refine lv_goto (tgt := 7) hx hb dX1_numberBlocks_95 (by decide) ?_
            have ew_3 : ((jmNB st fi bl ln).1) + 1 = (jmNB st fi bl (ln + 1)).1 := by first | with_reducible rfl | (simp [jmNB, c15, c29, c49]; done) | omega
            have ew_4 : jxUp ((jmNB st fi bl ln).2) ln (nI ((jmNB st fi bl ln).1)) = (jmNB st fi bl (ln + 1)).2 := by first | with_reducible rfl | (simp [jmNB, c15, c29, c49]; done) | omega
            exact ih7 (ln + 1) (by omega) (by omega) H locs (by rw [← ew_3, ← ew_4]; exact hP) hS ls (lv_sub hl [1, 0] rfl)
        · have c29 := jB_0 c29
          refine lv_aload_n hx hb dX1_numberBlocks_32 rfl (lv_at hl 0 rfl) ?_
          refine va_get (D := D) (ci := 1) (v := .ref (g 14)) (C := RX1) (T := TX1) (N := 15) hx hb hts in_X1_numberBlocks_1 hown hK hP 6 rfl rfl 10 (by decide) (hts (.fieldLink RX1 40 "Twincuts$Falls" "block" "[I") (List.mem_of_getElem? (i := 3) (by decide +kernel))) (fun _ h9 => h9) rfl dX1_numberBlocks_33 ?_
          refine lv_iload_n hx hb dX1_numberBlocks_36 rfl (lv_at hl 1 rfl) ?_
          refine lv_iconst (v := (-1)) hx hb dX1_numberBlocks_37 (by decide) ?_
          refine jx_iastI hx hb hK hP hD hS 10 0 rfl rfl (by omega) (by decide) dX1_numberBlocks_38 (fun H locs hP hD hS => ?_)
          have hP : va_P D vwCl (jW cI g P n st sm gr co en la ++ jF cI g fp fb fc ((jmNB st fi bl ln).1) fq ft pa ps fi (jxUp ((jmNB st fi bl ln).2) ln (-1 : Int32)) sp gp sw gw) H := hP
          have hD : va_D A (jW cI g P n st sm gr co en la ++ jF cI g fp fb fc ((jmNB st fi bl ln).1) fq ft pa ps fi (jxUp ((jmNB st fi bl ln).2) ln (-1 : Int32)) sp gp sw gw) := jxD hD0 rfl
          refine lv_goto (tgt := 92) hx hb dX1_numberBlocks_39 (by decide) ?_
          refine lv_iinc (v := nI (ln + 1)) (lv' := [(1, .int (nI (ln + 1))), (0, .ref (g 10))]) hx hb dX1_numberBlocks_92 hl (k := 1) rfl (jx_inc _) (by decide) rfl (fun ls hl => ?_)
          refine lv_goto (tgt := 7) hx hb dX1_numberBlocks_95 (by decide) ?_
          have ew_5 : (jmNB st fi bl ln).1 = (jmNB st fi bl (ln + 1)).1 := by first | with_reducible rfl | (simp [jmNB, c15, c29]; done) | omega
          have ew_6 : jxUp ((jmNB st fi bl ln).2) ln (-1 : Int32) = (jmNB st fi bl (ln + 1)).2 := by first | with_reducible rfl | (simp [jmNB, c15, c29]; done) | omega
          exact ih7 (ln + 1) (by omega) (by omega) H locs (by rw [← ew_5, ← ew_6]; exact hP) hS ls (lv_sub hl [1, 0] rfl)
  have ew_7 : 0 = (jmNB st fi bl 0).1 := by first | with_reducible rfl | (simp [jmNB, if_true]; done) | omega
  have ew_8 : bl = (jmNB st fi bl 0).2 := by first | with_reducible rfl | (simp [jmNB, if_true]; done) | omega
  exact L7 ((n - 0) + 1) 0 (by omega) (Nat.lt_succ_self _) H locs (by rw [← ew_7, ← ew_8]; exact hP) hS ls (lv_sub hl [1, 0] rfl)
