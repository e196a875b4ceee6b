set_option maxRecDepth 20000 in
theorem in_X0_learn_0 : ∀ w ∈ wsX00, w ∈ wsX0_learn := by decide +kernel
set_option maxRecDepth 20000 in
theorem in_X0_learn_5 : ∀ w ∈ wsX50, w ∈ wsX0_learn := by decide +kernel
set_option maxHeartbeats 4000000 in
set_option maxRecDepth 100000 in
/-- learn() -/
theorem c_X0_learn (l : Launch) (D : va_G) (cI : ClassId) (cO : ClassId) (g : Nat → Nat) (P n st : Nat) (sm gr co en la : Nat → Nat) (rd le : Nat → Nat) (wk : Nat) (fa : Nat → Int32) (od : Nat → Nat → Nat) (sz : Nat) (hw : jmWF P n st sm gr co en la) (hdw : jmDW P n le od)  : jxWv l yX0_learn wsX0_learn ({ frames := 2, cells := 0, slots := 0, locals := 49 } : Room) D [(cI, .int), (cO, .array .int)] (jW cI g P n st sm gr co en la ++ jD cI cO g rd le wk fa ++ jRN cI 8 16 rd od) [.ref (g 50)] sz (jW cI g P n st sm gr co en la ++ jD cI cO g rd le ((jmLn sm gr n st le od).1) ((jmLn sm gr n st le od).2) ++ jRN cI 8 16 rd od) := by
  refine jxw_enterV (by decide) rfl (Nat.le_of_ble_eq_true rfl) ?_
  intro p e s m args below meth c Q A ls hx hb hml hts hown hN hP hK hD hA hl hQ
  have hD0 := hD
  obtain ⟨H, hH⟩ : ∃ h, h = s.heap := ⟨_, rfl⟩
  have hS : va_S A s.heap H [] := by rw [hH]; exact va_S.rf
  rw [← hH] at hP ⊢
  obtain ⟨locs, hlocs⟩ : ∃ z : List Loc, z = [] := ⟨_, rfl⟩
  rw [← hlocs] at hS ⊢
  have hown : s.vm.findClass RX0 = some m.cls := hown
  have hl : lv_has ls 4 [(0, .ref (g 50))] := hl
  have hP8 : P ≤ 8 := hw.1
  have hn16 : n ≤ 16 := hw.2.1
  have hst : st < 65536 := jmWF_st hw
  have hen : ∀ j, j < n → en j < 256 := jmWF_en hw
  have hla : ∀ q, q < P → la q < 65536 := jmWF_la hw
  have hgr : ∀ j, j < n → sm j < 8 ∧ gr j < 8 := jmWF_gr hw
  have hco : ∀ j, j < n → co j < 21 := jmWF_co hw
  refine lv_aload_n hx hb dX0_learn_0 rfl (lv_at hl 0 rfl) ?_
  refine lv_iconst (v := nI 0) hx hb dX0_learn_1 (by decide) ?_
  refine va_put (D := D) (ci := 0) (v := .int (nI 0)) (ty := .int) (C := RX0) (T := TX0) (N := 5) hx hb hts in_X0_learn_0 tyX0 tyX0_ok nmX0 hown hK hP hD hS 6 rfl rfl 3 (by decide) (hts (.fieldLink RX0 20 "Twincuts$Drawing" "walked" "I") (List.mem_of_getElem? (i := 1) (by decide +kernel))) (fun _ h9 => h9) rfl (by decide +kernel) rfl rfl (Nat.le_of_ble_eq_true rfl) dX0_learn_2 (fun H locs hP hD hS => ?_)
  have hP : va_P D vwCl (jW cI g P n st sm gr co en la ++ jD cI cO g rd le 0 fa ++ jRN cI 8 16 rd od) H := hP
  have hD : va_D A (jW cI g P n st sm gr co en la ++ jD cI cO g rd le 0 fa ++ jRN cI 8 16 rd od) := jxD hD0 rfl
  refine lv_iconst (v := nI 0) hx hb dX0_learn_5 (by decide) ?_
  refine lv_istore_n (lv' := [(1, .int (nI 0)), (0, .ref (g 50))]) hx hb dX0_learn_6 rfl hl (by decide) rfl (fun ls hl => ?_)
  have L7 : ∀ (k : Nat) (k1 : Nat) (hk1 : k1 ≤ 32), 32 - k1 < k → ∀ (H : Heap) (locs : List Loc), va_P D vwCl (jW cI g P n st sm gr co en la ++ jD cI cO g rd le 0 (jmFl1 (-1) fa k1) ++ jRN cI 8 16 rd od) H → va_S A s.heap H locs → ∀ ls : Array Slot, lv_has ls 4 [(0, .ref (g 50)), (1, .int (nI k1))] → W p l e ({ frames := 2, cells := 0, slots := 0, locals := 49 } : Room) s m args below meth c H locs 0 0 Q (F0 m 7 ls []) := by
    intro k
    induction k with
    | zero => intro k1 hk1 hk; exact absurd hk (Nat.not_lt_zero _)
    | succ k ih7 =>
      intro k1 hk1 hk H locs hP hS ls hl
      have hD : va_D A (jW cI g P n st sm gr co en la ++ jD cI cO g rd le 0 (jmFl1 (-1) fa k1) ++ jRN cI 8 16 rd od) := jxD hD0 rfl
      refine lv_iload_n hx hb dX0_learn_7 rfl (lv_at hl 1 rfl) ?_
      refine lv_bipush (v := nI 32) hx hb dX0_learn_8 (by decide) ?_
      refine lv_icmp_ge (tgt := 26) hx hb dX0_learn_10 (by decide) (fun c10 => ?_) (fun c10 => ?_)
      · have c10 : 32 ≤ k1 := jx_le (by decide) (by omega) c10
        have es_26 : 32 = k1 := (by omega)
        subst es_26
        have hP := jx_canonS hP (k := 9) (a := g 53) (c := cI) (x := (32, .inl (jmFl1 (-1) fa 32))) (x' := (32, .inl (fun _ => -1))) rfl (jx_cellI (fun j hj => jmFl1_end _ _ hj))
        have hP : va_P D vwCl (jW cI g P n st sm gr co en la ++ jD cI cO g rd le 0 (fun _ => -1) ++ jRN cI 8 16 rd od) H := hP
        have hD : va_D A (jW cI g P n st sm gr co en la ++ jD cI cO g rd le 0 (fun _ => -1) ++ jRN cI 8 16 rd od) := jxD hD0 rfl
        refine lv_iconst (v := nI 0) hx hb dX0_learn_26 (by decide) ?_
        refine lv_istore_n (lv' := [(1, .int (nI 0)), (0, .ref (g 50))]) hx hb dX0_learn_27 rfl hl (by decide) rfl (fun ls hl => ?_)
        have L28 : ∀ (k : Nat) (f9 : Nat) (hf9 : f9 ≤ 2 * n), 2 * n - f9 < k → ∀ (H : Heap) (locs : List Loc), va_P D vwCl (jW cI g P n st sm gr co en la ++ jD cI cO g rd le ((jmLe (jmWalk sm gr st le od) st f9).1) ((jmLe (jmWalk sm gr st le od) st f9).2) ++ jRN cI 8 16 rd od) H → va_S A s.heap H locs → ∀ ls : Array Slot, lv_has ls 4 [(0, .ref (g 50)), (1, .int (nI f9))] → W p l e ({ frames := 2, cells := 0, slots := 0, locals := 49 } : Room) s m args below meth c H locs 0 0 Q (F0 m 28 ls []) := by
          intro k
          induction k with
          | zero => intro f9 hf9 hk; exact absurd hk (Nat.not_lt_zero _)
          | succ k ih28 =>
            intro f9 hf9 hk H locs hP hS ls hl
            have hD : va_D A (jW cI g P n st sm gr co en la ++ jD cI cO g rd le ((jmLe (jmWalk sm gr st le od) st f9).1) ((jmLe (jmWalk sm gr st le od) st f9).2) ++ jRN cI 8 16 rd od) := jxD hD0 rfl
            refine lv_iload_n hx hb dX0_learn_28 rfl (lv_at hl 1 rfl) ?_
            refine lv_iconst (v := nI 2) hx hb dX0_learn_29 (by decide) ?_
            refine lv_aload_n hx hb dX0_learn_30 rfl (lv_at hl 0 rfl) ?_
            refine va_get (D := D) (ci := 0) (v := .ref (g 0)) (C := RX0) (T := TX0) (N := 5) hx hb hts in_X0_learn_0 hown hK hP 6 rfl rfl 0 (by decide) (hts (.fieldLink RX0 27 "Twincuts$Drawing" "web" "LTwincuts$Web;") (List.mem_of_getElem? (i := 3) (by decide +kernel))) (fun _ h9 => h9) rfl dX0_learn_31 ?_
            refine va_getN (D := D) (ci := 5) (v := .int (nI n)) (C := RX5) (T := TX5) (N := 8) hx hb hts in_X0_learn_5 hown hK hP 0 rfl rfl 1 (by decide) (hN.use 10 rfl) (fun _ h9 => h9) rfl dX0_learn_34 ?_
            refine lv_imul hx hb dX0_learn_37 ?_
            refine jx_val (z := (nI (2 * n))) (pk_mul _ _) ?_
            refine lv_icmp_ge (tgt := 125) hx hb dX0_learn_38 (by decide) (fun c38 => ?_) (fun c38 => ?_)
            · have c38 : 2 * n ≤ f9 := jx_le (by omega) (by omega) c38
              have es_125 : f9 = (2 * n) := (by omega)
              subst es_125
              have ev_1 : (jmLe (jmWalk sm gr st le od) st (2 * n)).1 = (jmLn sm gr n st le od).1 := by rfl
              have ev_2 : (jmLe (jmWalk sm gr st le od) st (2 * n)).2 = (jmLn sm gr n st le od).2 := by rfl
              exact hQ H locs _ _ dX0_learn_125 (by rw [← ev_1, ← ev_2]; exact hP) hS
            · have c38 : f9 < 2 * n := jx_nle (by omega) (by omega) c38
              refine lv_aload_n hx hb dX0_learn_41 rfl (lv_at hl 0 rfl) ?_
              refine va_get (D := D) (ci := 0) (v := .ref (g 0)) (C := RX0) (T := TX0) (N := 5) hx hb hts in_X0_learn_0 hown hK hP 6 rfl rfl 0 (by decide) (hts (.fieldLink RX0 27 "Twincuts$Drawing" "web" "LTwincuts$Web;") (List.mem_of_getElem? (i := 3) (by decide +kernel))) (fun _ h9 => h9) rfl dX0_learn_42 ?_
              refine va_getN (D := D) (ci := 5) (v := .int (nI st)) (C := RX5) (T := TX5) (N := 8) hx hb hts in_X0_learn_5 hown hK hP 0 rfl rfl 2 (by decide) (hN.use 13 rfl) (fun _ h9 => h9) rfl dX0_learn_45 ?_
              refine lv_iload_n hx hb dX0_learn_48 rfl (lv_at hl 1 rfl) ?_
              refine lv_iconst (v := nI 2) hx hb dX0_learn_49 (by decide) ?_
              refine lv_idiv hx hb dX0_learn_50 (by decide) ?_
              refine jx_val (z := (nI (f9 / 2))) (pk_div (by omega) (by decide) (by decide)) ?_
              refine jx_callSN (As := [.int (nI st), .int (nI (f9 / 2))]) (rest := []) ⟨hx, hb, hml, hown, hts⟩ (c_X6_has l D st (f9 / 2) (by omega) (by omega)) (va_cnB 2 hts gX0_learn_X6_has_n43 rfl rfl rfl (hN.get 44 rfl) (hts (.initialized RX6) (List.mem_of_getElem? (i := 5) (by decide +kernel))) (by decide +kernel) ⟨Nat.le_of_ble_eq_true rfl, Nat.le_of_ble_eq_true rfl⟩) (hts (.static yX6_has) (List.mem_of_getElem? (i := 4) (by decide +kernel))) hN (hP.sub (ws' := []) [] rfl) (hK.sub (tys' := []) [] rfl) rfl hl.1 rfl (Nat.le_of_ble_eq_true rfl) dX0_learn_51 ⟨Nat.zero_le _, Nat.zero_le _⟩ (fun r hr => ?_)
              subst hr
              refine lv_if_eq (tgt := 119) hx hb dX0_learn_54 (by decide) (fun c54 => ?_) (fun c54 => ?_)
              · have c54 := jB_0 c54
                refine lv_iinc (v := nI (f9 + 1)) (lv' := [(1, .int (nI (f9 + 1))), (0, .ref (g 50))]) hx hb dX0_learn_119 hl (k := 1) rfl (jx_inc _) (by decide) rfl (fun ls hl => ?_)
                refine lv_goto (tgt := 28) hx hb dX0_learn_122 (by decide) ?_
                have ew_3 : (jmLe (jmWalk sm gr st le od) st f9).1 = (jmLe (jmWalk sm gr st le od) st (f9 + 1)).1 := by first | rw [jmLe_n1 c54] | rw [jmLe_n2 c64] | rw [jmLe_y c54 c64]
                have ew_4 : (jmLe (jmWalk sm gr st le od) st f9).2 = (jmLe (jmWalk sm gr st le od) st (f9 + 1)).2 := by first | rw [jmLe_n1 c54] | rw [jmLe_n2 c64] | rw [hF, jmLe_y c54 c64]
                exact ih28 (f9 + 1) (by omega) (by omega) H locs (by rw [← ew_3, ← ew_4]; exact hP) hS ls (lv_sub hl [1, 0] rfl)
              · have c54 := jB_1 c54
                refine lv_aload_n hx hb dX0_learn_57 rfl (lv_at hl 0 rfl) ?_
                refine va_get (D := D) (ci := 0) (v := .ref (g 53)) (C := RX0) (T := TX0) (N := 5) hx hb hts in_X0_learn_0 hown hK hP 6 rfl rfl 4 (by decide) (hts (.fieldLink RX0 24 "Twincuts$Drawing" "face" "[I") (List.mem_of_getElem? (i := 2) (by decide +kernel))) (fun _ h9 => h9) rfl dX0_learn_58 ?_
                refine lv_iload_n hx hb dX0_learn_61 rfl (lv_at hl 1 rfl) ?_
                refine jx_iald hx hb hK hP 9 0 rfl rfl (by omega) (by decide) dX0_learn_62 ?_
                refine lv_iconst (v := (-1)) hx hb dX0_learn_63 (by decide) ?_
                refine lv_icmp_ne (tgt := 119) hx hb dX0_learn_64 (by decide) (fun c64 => ?_) (fun c64 => ?_)
                · skip
                  refine lv_iinc (v := nI (f9 + 1)) (lv' := [(1, .int (nI (f9 + 1))), (0, .ref (g 50))]) hx hb dX0_learn_119 hl (k := 1) rfl (jx_inc _) (by decide) rfl (fun ls hl => ?_)
                  refine lv_goto (tgt := 28) hx hb dX0_learn_122 (by decide) ?_
                  have ew_5 : (jmLe (jmWalk sm gr st le od) st f9).1 = (jmLe (jmWalk sm gr st le od) st (f9 + 1)).1 := by first | rw [jmLe_n1 c54] | rw [jmLe_n2 c64] | rw [jmLe_y c54 c64]
                  have ew_6 : (jmLe (jmWalk sm gr st le od) st f9).2 = (jmLe (jmWalk sm gr st le od) st (f9 + 1)).2 := by first | rw [jmLe_n1 c54] | rw [jmLe_n2 c64] | rw [hF, jmLe_y c54 c64]
                  exact ih28 (f9 + 1) (by omega) (by omega) H locs (by rw [← ew_5, ← ew_6]; exact hP) hS ls (lv_sub hl [1, 0] rfl)
                · skip
                  refine lv_iload_n hx hb dX0_learn_67 rfl (lv_at hl 1 rfl) ?_
                  refine lv_istore_n (lv' := [(2, .int (nI f9)), (0, .ref (g 50)), (1, .int (nI f9))]) hx hb dX0_learn_68 rfl hl (by decide) rfl (fun ls hl => ?_)
                  refine lv_iconst (v := nI 0) hx hb dX0_learn_69 (by decide) ?_
                  refine lv_istore_n (lv' := [(3, .int (nI 0)), (2, .int (nI f9)), (0, .ref (g 50)), (1, .int (nI f9))]) hx hb dX0_learn_70 rfl hl (by decide) rfl (fun ls hl => ?_)
                  have L71 : ∀ (k : Nat) (w9 : Nat) (k1 : Nat) (g9 : Nat → Int32) (hk1 : k1 ≤ 32) (hw9 : w9 < 2 * n) (hd : jmFc (jmWalk sm gr st le od) (nI (jmLe (jmWalk sm gr st le od) st f9).1) 32 f9 (jmLe (jmWalk sm gr st le od) st f9).2 = jmFc (jmWalk sm gr st le od) (nI (jmLe (jmWalk sm gr st le od) st f9).1) (32 - k1) w9 g9), 32 - k1 < k → ∀ (H : Heap) (locs : List Loc), va_P D vwCl (jW cI g P n st sm gr co en la ++ jD cI cO g rd le ((jmLe (jmWalk sm gr st le od) st f9).1) g9 ++ jRN cI 8 16 rd od) H → va_S A s.heap H locs → ∀ ls : Array Slot, lv_has ls 4 [(0, .ref (g 50)), (1, .int (nI f9)), (2, .int (nI w9)), (3, .int (nI k1))] → W p l e ({ frames := 2, cells := 0, slots := 0, locals := 49 } : Room) s m args below meth c H locs 0 0 Q (F0 m 71 ls []) := by
                    intro k
                    induction k with
                    | zero => intro w9 k1 g9 hk1 hw9 hd hk; exact absurd hk (Nat.not_lt_zero _)
                    | succ k ih71 =>
                      intro w9 k1 g9 hk1 hw9 hd hk H locs hP hS ls hl
                      have hD : va_D A (jW cI g P n st sm gr co en la ++ jD cI cO g rd le ((jmLe (jmWalk sm gr st le od) st f9).1) g9 ++ jRN cI 8 16 rd od) := jxD hD0 rfl
                      refine lv_iload_n hx hb dX0_learn_71 rfl (lv_at hl 3 rfl) ?_
                      refine lv_bipush (v := nI 32) hx hb dX0_learn_72 (by decide) ?_
                      refine lv_icmp_ge (tgt := 109) hx hb dX0_learn_74 (by decide) (fun c74 => ?_) (fun c74 => ?_)
                      · have c74 : 32 ≤ k1 := jx_le (by decide) (by omega) c74
                        have hF : g9 = jmFc (jmWalk sm gr st le od) (nI (jmLe (jmWalk sm gr st le od) st f9).1) 32 f9 (jmLe (jmWalk sm gr st le od) st f9).2 := by first | (rw [hd, show 32 - k1 = 0 by omega]; rfl) | (rw [hd, jmFc_st c84])
                        refine lv_aload_n hx hb dX0_learn_109 rfl (lv_at hl 0 rfl) ?_
                        refine lv_dup hx hb dX0_learn_110 rfl ?_
                        refine va_get (D := D) (ci := 0) (v := .int (nI ((jmLe (jmWalk sm gr st le od) st f9).1))) (C := RX0) (T := TX0) (N := 5) hx hb hts in_X0_learn_0 hown hK hP 6 rfl rfl 3 (by decide) (hts (.fieldLink RX0 20 "Twincuts$Drawing" "walked" "I") (List.mem_of_getElem? (i := 1) (by decide +kernel))) (fun _ h9 => h9) rfl dX0_learn_111 ?_
                        refine lv_iconst (v := nI 1) hx hb dX0_learn_114 (by decide) ?_
                        refine lv_iadd hx hb dX0_learn_115 ?_
                        refine jx_val (z := (nI (((jmLe (jmWalk sm gr st le od) st f9).1) + 1))) (nI_add _ _) ?_
                        refine va_put (D := D) (ci := 0) (v := .int (nI (((jmLe (jmWalk sm gr st le od) st f9).1) + 1))) (ty := .int) (C := RX0) (T := TX0) (N := 5) hx hb hts in_X0_learn_0 tyX0 tyX0_ok nmX0 hown hK hP hD hS 6 rfl rfl 3 (by decide) (hts (.fieldLink RX0 20 "Twincuts$Drawing" "walked" "I") (List.mem_of_getElem? (i := 1) (by decide +kernel))) (fun _ h9 => h9) rfl (by decide +kernel) rfl rfl (Nat.le_of_ble_eq_true rfl) dX0_learn_116 (fun H locs hP hD hS => ?_)
                        have hP : va_P D vwCl (jW cI g P n st sm gr co en la ++ jD cI cO g rd le (((jmLe (jmWalk sm gr st le od) st f9).1) + 1) g9 ++ jRN cI 8 16 rd od) H := hP
                        have hD : va_D A (jW cI g P n st sm gr co en la ++ jD cI cO g rd le (((jmLe (jmWalk sm gr st le od) st f9).1) + 1) g9 ++ jRN cI 8 16 rd od) := jxD hD0 rfl
                        refine lv_iinc (v := nI (f9 + 1)) (lv' := [(1, .int (nI (f9 + 1))), (0, .ref (g 50)), (2, .int (nI w9)), (3, .int (nI k1))]) hx hb dX0_learn_119 hl (k := 1) rfl (jx_inc _) (by decide) rfl (fun ls hl => ?_)
                        refine lv_goto (tgt := 28) hx hb dX0_learn_122 (by decide) ?_
                        have ew_7 : ((jmLe (jmWalk sm gr st le od) st f9).1) + 1 = (jmLe (jmWalk sm gr st le od) st (f9 + 1)).1 := by first | rw [jmLe_n1 c54] | rw [jmLe_n2 c64] | rw [jmLe_y c54 c64]
                        have ew_8 : g9 = (jmLe (jmWalk sm gr st le od) st (f9 + 1)).2 := by first | rw [jmLe_n1 c54] | rw [jmLe_n2 c64] | rw [hF, jmLe_y c54 c64]
                        exact ih28 (f9 + 1) (by omega) (by omega) H locs (by rw [← ew_7, ← ew_8]; exact hP) hS ls (lv_sub hl [1, 0] rfl)
                      · have c74 : k1 < 32 := jx_nle (by decide) (by omega) c74
                        refine lv_aload_n hx hb dX0_learn_77 rfl (lv_at hl 0 rfl) ?_
                        refine va_get (D := D) (ci := 0) (v := .ref (g 53)) (C := RX0) (T := TX0) (N := 5) hx hb hts in_X0_learn_0 hown hK hP 6 rfl rfl 4 (by decide) (hts (.fieldLink RX0 24 "Twincuts$Drawing" "face" "[I") (List.mem_of_getElem? (i := 2) (by decide +kernel))) (fun _ h9 => h9) rfl dX0_learn_78 ?_
                        refine lv_iload_n hx hb dX0_learn_81 rfl (lv_at hl 2 rfl) ?_
                        refine jx_iald hx hb hK hP 9 0 rfl rfl (by omega) (by decide) dX0_learn_82 ?_
                        refine lv_iconst (v := (-1)) hx hb dX0_learn_83 (by decide) ?_
                        refine lv_icmp_ne (tgt := 109) hx hb dX0_learn_84 (by decide) (fun c84 => ?_) (fun c84 => ?_)
                        · skip
                          have hF : g9 = jmFc (jmWalk sm gr st le od) (nI (jmLe (jmWalk sm gr st le od) st f9).1) 32 f9 (jmLe (jmWalk sm gr st le od) st f9).2 := by first | (rw [hd, show 32 - k1 = 0 by omega]; rfl) | (rw [hd, jmFc_st c84])
                          refine lv_aload_n hx hb dX0_learn_109 rfl (lv_at hl 0 rfl) ?_
                          refine lv_dup hx hb dX0_learn_110 rfl ?_
                          refine va_get (D := D) (ci := 0) (v := .int (nI ((jmLe (jmWalk sm gr st le od) st f9).1))) (C := RX0) (T := TX0) (N := 5) hx hb hts in_X0_learn_0 hown hK hP 6 rfl rfl 3 (by decide) (hts (.fieldLink RX0 20 "Twincuts$Drawing" "walked" "I") (List.mem_of_getElem? (i := 1) (by decide +kernel))) (fun _ h9 => h9) rfl dX0_learn_111 ?_
                          refine lv_iconst (v := nI 1) hx hb dX0_learn_114 (by decide) ?_
                          refine lv_iadd hx hb dX0_learn_115 ?_
                          refine jx_val (z := (nI (((jmLe (jmWalk sm gr st le od) st f9).1) + 1))) (nI_add _ _) ?_
                          refine va_put (D := D) (ci := 0) (v := .int (nI (((jmLe (jmWalk sm gr st le od) st f9).1) + 1))) (ty := .int) (C := RX0) (T := TX0) (N := 5) hx hb hts in_X0_learn_0 tyX0 tyX0_ok nmX0 hown hK hP hD hS 6 rfl rfl 3 (by decide) (hts (.fieldLink RX0 20 "Twincuts$Drawing" "walked" "I") (List.mem_of_getElem? (i := 1) (by decide +kernel))) (fun _ h9 => h9) rfl (by decide +kernel) rfl rfl (Nat.le_of_ble_eq_true rfl) dX0_learn_116 (fun H locs hP hD hS => ?_)
                          have hP : va_P D vwCl (jW cI g P n st sm gr co en la ++ jD cI cO g rd le (((jmLe (jmWalk sm gr st le od) st f9).1) + 1) g9 ++ jRN cI 8 16 rd od) H := hP
                          have hD : va_D A (jW cI g P n st sm gr co en la ++ jD cI cO g rd le (((jmLe (jmWalk sm gr st le od) st f9).1) + 1) g9 ++ jRN cI 8 16 rd od) := jxD hD0 rfl
                          refine lv_iinc (v := nI (f9 + 1)) (lv' := [(1, .int (nI (f9 + 1))), (0, .ref (g 50)), (2, .int (nI w9)), (3, .int (nI k1))]) hx hb dX0_learn_119 hl (k := 1) rfl (jx_inc _) (by decide) rfl (fun ls hl => ?_)
                          refine lv_goto (tgt := 28) hx hb dX0_learn_122 (by decide) ?_
                          have ew_9 : ((jmLe (jmWalk sm gr st le od) st f9).1) + 1 = (jmLe (jmWalk sm gr st le od) st (f9 + 1)).1 := by first | rw [jmLe_n1 c54] | rw [jmLe_n2 c64] | rw [jmLe_y c54 c64]
                          have ew_10 : g9 = (jmLe (jmWalk sm gr st le od) st (f9 + 1)).2 := by first | rw [jmLe_n1 c54] | rw [jmLe_n2 c64] | rw [hF, jmLe_y c54 c64]
                          exact ih28 (f9 + 1) (by omega) (by omega) H locs (by rw [← ew_9, ← ew_10]; exact hP) hS ls (lv_sub hl [1, 0] rfl)
                        · skip
                          refine lv_aload_n hx hb dX0_learn_87 rfl (lv_at hl 0 rfl) ?_
                          refine va_get (D := D) (ci := 0) (v := .ref (g 53)) (C := RX0) (T := TX0) (N := 5) hx hb hts in_X0_learn_0 hown hK hP 6 rfl rfl 4 (by decide) (hts (.fieldLink RX0 24 "Twincuts$Drawing" "face" "[I") (List.mem_of_getElem? (i := 2) (by decide +kernel))) (fun _ h9 => h9) rfl dX0_learn_88 ?_
                          refine lv_iload_n hx hb dX0_learn_91 rfl (lv_at hl 2 rfl) ?_
                          refine lv_aload_n hx hb dX0_learn_92 rfl (lv_at hl 0 rfl) ?_
                          refine va_get (D := D) (ci := 0) (v := .int (nI ((jmLe (jmWalk sm gr st le od) st f9).1))) (C := RX0) (T := TX0) (N := 5) hx hb hts in_X0_learn_0 hown hK hP 6 rfl rfl 3 (by decide) (hts (.fieldLink RX0 20 "Twincuts$Drawing" "walked" "I") (List.mem_of_getElem? (i := 1) (by decide +kernel))) (fun _ h9 => h9) rfl dX0_learn_93 ?_
                          refine jx_iastI hx hb hK hP hD hS 9 0 rfl rfl (by omega) (by decide) dX0_learn_96 (fun H locs hP hD hS => ?_)
                          have hP : va_P D vwCl (jW cI g P n st sm gr co en la ++ jD cI cO g rd le ((jmLe (jmWalk sm gr st le od) st f9).1) (jxUp g9 w9 (nI ((jmLe (jmWalk sm gr st le od) st f9).1))) ++ jRN cI 8 16 rd od) H := hP
                          have hD : va_D A (jW cI g P n st sm gr co en la ++ jD cI cO g rd le ((jmLe (jmWalk sm gr st le od) st f9).1) (jxUp g9 w9 (nI ((jmLe (jmWalk sm gr st le od) st f9).1))) ++ jRN cI 8 16 rd od) := jxD hD0 rfl
                          refine lv_aload_n hx hb dX0_learn_97 rfl (lv_at hl 0 rfl) ?_
                          refine lv_iload_n hx hb dX0_learn_98 rfl (lv_at hl 2 rfl) ?_
                          refine jx_callV (As := [.int (nI w9)]) (rest := []) ⟨hx, hb, hml, hown, hts⟩ (c_X0_walkBehind l D cI cO g P n st sm gr co en la rd le ((jmLe (jmWalk sm gr st le od) st f9).1) (jxUp g9 w9 (nI ((jmLe (jmWalk sm gr st le od) st f9).1))) od hw hdw w9 (jmWalkAt sm gr w9) (by omega) rfl) (cwV 1 hts gX0_learn_X0_walkBehind rfl rfl rfl (by decide +kernel) ⟨Nat.le_of_ble_eq_true rfl, Nat.le_of_ble_eq_true rfl⟩) hN (hP.sub (ws' := jW cI g P n st sm gr co en la ++ jD cI cO g rd le ((jmLe (jmWalk sm gr st le od) st f9).1) (jxUp g9 w9 (nI ((jmLe (jmWalk sm gr st le od) st f9).1))) ++ jRN cI 8 16 rd od) [0, 1, 2, 3, 4, 5, 6, 7, 8, 9, 10, 11, 12, 13, 14, 15, 16, 17] rfl) (hK.sub (tys' := [(cI, .int), (cO, .array .int)]) [0, 1] rfl) 6 0 rfl rfl rfl rfl hl.1 rfl (Nat.le_of_ble_eq_true rfl) dX0_learn_99 ⟨Nat.zero_le _, Nat.zero_le _⟩ (fun r hr => ?_)
                          subst hr
                          refine lv_istore_n (lv' := [(2, .int (nI (jmWalk sm gr st le od w9))), (0, .ref (g 50)), (1, .int (nI f9)), (3, .int (nI k1))]) hx hb dX0_learn_102 rfl hl (by decide) rfl (fun ls hl => ?_)
                          refine lv_iinc (v := nI (k1 + 1)) (lv' := [(3, .int (nI (k1 + 1))), (2, .int (nI (jmWalk sm gr st le od w9))), (0, .ref (g 50)), (1, .int (nI f9))]) hx hb dX0_learn_103 hl (k := 3) rfl (jx_inc _) (by decide) rfl (fun ls hl => ?_)
                          refine lv_goto (tgt := 71) hx hb dX0_learn_106 (by decide) ?_
                          exact ih71 (jmWalk sm gr st le od w9) (k1 + 1) (jxUp g9 w9 (nI ((jmLe (jmWalk sm gr st le od) st f9).1))) (by omega) (jmWalk_lt hw hdw hw9) (by rw [hd, show 32 - k1 = (32 - (k1 + 1)) + 1 by omega, jmFc_go c84]) (by omega) H locs hP hS ls (lv_sub hl [2, 3, 1, 0] rfl)
                  exact L71 ((32 - 0) + 1) f9 0 ((jmLe (jmWalk sm gr st le od) st f9).2) (by omega) (by omega) rfl (Nat.lt_succ_self _) H locs hP hS ls (lv_sub hl [2, 3, 1, 0] rfl)
        have ew_11 : 0 = (jmLe (jmWalk sm gr st le od) st 0).1 := by rfl
        have ew_12 : (fun _ => -1) = (jmLe (jmWalk sm gr st le od) st 0).2 := by rfl
        exact L28 ((2 * n - 0) + 1) 0 (by omega) (Nat.lt_succ_self _) H locs (by rw [← ew_11, ← ew_12]; exact hP) hS ls (lv_sub hl [1, 0] rfl)
      · have c10 : k1 < 32 := jx_nle (by decide) (by omega) c10
        refine lv_aload_n hx hb dX0_learn_13 rfl (lv_at hl 0 rfl) ?_
        refine va_get (D := D) (ci := 0) (v := .ref (g 53)) (C := RX0) (T := TX0) (N := 5) hx hb hts in_X0_learn_0 hown hK hP 6 rfl rfl 4 (by decide) (hts (.fieldLink RX0 24 "Twincuts$Drawing" "face" "[I") (List.mem_of_getElem? (i := 2) (by decide +kernel))) (fun _ h9 => h9) rfl dX0_learn_14 ?_
        refine lv_iload_n hx hb dX0_learn_17 rfl (lv_at hl 1 rfl) ?_
        refine lv_iconst (v := (-1)) hx hb dX0_learn_18 (by decide) ?_
        refine jx_iastI hx hb hK hP hD hS 9 0 rfl rfl (by omega) (by decide) dX0_learn_19 (fun H locs hP hD hS => ?_)
        have hP : va_P D vwCl (jW cI g P n st sm gr co en la ++ jD cI cO g rd le 0 (jxUp (jmFl1 (-1) fa k1) k1 (-1 : Int32)) ++ jRN cI 8 16 rd od) H := hP
        have hD : va_D A (jW cI g P n st sm gr co en la ++ jD cI cO g rd le 0 (jxUp (jmFl1 (-1) fa k1) k1 (-1 : Int32)) ++ jRN cI 8 16 rd od) := jxD hD0 rfl
        refine lv_iinc (v := nI (k1 + 1)) (lv' := [(1, .int (nI (k1 + 1))), (0, .ref (g 50))]) hx hb dX0_learn_20 hl (k := 1) rfl (jx_inc _) (by decide) rfl (fun ls hl => ?_)
        refine lv_goto (tgt := 7) hx hb dX0_learn_23 (by decide) ?_
        have ew_13 : jxUp (jmFl1 (-1) fa k1) k1 (-1 : Int32) = jmFl1 (-1) fa (k1 + 1) := by exact jmFl1_up _ _ _
        exact ih7 (k1 + 1) (by omega) (by omega) H locs (by rw [← ew_13]; exact hP) hS ls (lv_sub hl [1, 0] rfl)
  have ew_14 : fa = jmFl1 (-1) fa 0 := by exact jmFl1_0 _ _
  exact L7 ((32 - 0) + 1) 0 (by omega) (Nat.lt_succ_self _) H locs (by rw [← ew_14]; exact hP) hS ls (lv_sub hl [1, 0] rfl)
