set_option maxRecDepth 20000 in
theorem in_X4_findsWay_4 : ∀ w ∈ wsX40, w ∈ wsX4_findsWay := by decide +kernel
set_option maxHeartbeats 4000000 in
set_option maxRecDepth 100000 in
/-- findsWay(source, target) -/
theorem c_X4_findsWay (l : Launch) (D : va_G) (cI : ClassId) (cO : ClassId) (g : Nat → Nat) (ro : Nat → Nat) (ca : Nat → Int32) (qu : Nat → Nat) (rm : Nat → Nat → Int32) (sz : Nat) (a o : Nat) (ha : a < 16) (ho : o < 16) (hqu : ∀ j, j < 16 → qu j < 16) : jxWi l yX4_findsWay wsX4_findsWay ({ frames := 0, cells := 0, slots := 0, locals := 0 } : Room) D [(cI, .int), (cO, .array .int)] (jY cI cO g ro ca qu ++ jRI cI 16 16 ro rm) [.ref (g 20), .int (nI a), .int (nI o)] sz (fun r => r = nI (jB (jmFound rm a qu o))) (jY cI cO g ro ((jmFW rm a qu).2.1) ((jmFW rm a qu).2.2) ++ jRI cI 16 16 ro rm) := by
  refine jxw_enterZ (by decide) rfl (Nat.le_of_ble_eq_true rfl) ?_
  intro p e s m args below meth c Q A ls hx hb hml hts hown hN hP hK hD hA hl hQ
  have hD0 := hD
  obtain ⟨H, hH⟩ : ∃ h, h = s.heap := ⟨_, rfl⟩
  have hS : va_S A s.heap H [] := by rw [hH]; exact va_S.rf
  rw [← hH] at hP ⊢
  obtain ⟨locs, hlocs⟩ : ∃ z : List Loc, z = [] := ⟨_, rfl⟩
  rw [← hlocs] at hS ⊢
  have hown : s.vm.findClass RX4 = some m.cls := hown
  have hl : lv_has ls 7 [(0, .ref (g 20)), (1, .int (nI a)), (2, .int (nI o))] := hl
  refine lv_iconst (v := nI 0) hx hb dX4_findsWay_0 (by decide) ?_
  refine lv_istore_n (lv' := [(3, .int (nI 0)), (0, .ref (g 20)), (1, .int (nI a)), (2, .int (nI o))]) hx hb dX4_findsWay_1 rfl hl (by decide) rfl (fun ls hl => ?_)
  have L2 : ∀ (k : Nat) (k1 : Nat) (hk1 : k1 ≤ 16), 16 - k1 < k → ∀ (H : Heap) (locs : List Loc), va_P D vwCl (jY cI cO g ro (jmFl1 (-1) ca k1) qu ++ jRI cI 16 16 ro rm) H → va_S A s.heap H locs → ∀ ls : Array Slot, lv_has ls 7 [(0, .ref (g 20)), (1, .int (nI a)), (2, .int (nI o)), (3, .int (nI k1))] → W p l e ({ frames := 0, cells := 0, slots := 0, locals := 0 } : Room) s m args below meth c H locs 0 0 Q (F0 m 2 ls []) := by
    intro k
    induction k with
    | zero => intro k1 hk1 hk; exact absurd hk (Nat.not_lt_zero _)
    | succ k ih2 =>
      intro k1 hk1 hk H locs hP hS ls hl
      have hD : va_D A (jY cI cO g ro (jmFl1 (-1) ca k1) qu ++ jRI cI 16 16 ro rm) := jxD hD0 rfl
      refine lv_iload_n hx hb dX4_findsWay_2 rfl (lv_at hl 3 rfl) ?_
      refine lv_bipush (v := nI 16) hx hb dX4_findsWay_3 (by decide) ?_
      refine lv_icmp_ge (tgt := 21) hx hb dX4_findsWay_5 (by decide) (fun c5 => ?_) (fun c5 => ?_)
      · have c5 : 16 ≤ k1 := jx_le (by decide) (by omega) c5
        have es_21 : 16 = k1 := (by omega)
        subst es_21
        have hP := jx_canonS hP (k := 2) (a := g 22) (c := cI) (x := (16, .inl (jmFl1 (-1) ca 16))) (x' := (16, .inl (fun _ => -1))) rfl (jx_cellI (fun j hj => jmFl1_end _ _ hj))
        have hP : va_P D vwCl (jY cI cO g ro (fun _ => -1) qu ++ jRI cI 16 16 ro rm) H := hP
        have hD : va_D A (jY cI cO g ro (fun _ => -1) qu ++ jRI cI 16 16 ro rm) := jxD hD0 rfl
        refine lv_aload_n hx hb dX4_findsWay_21 rfl (lv_at hl 0 rfl) ?_
        refine va_get (D := D) (ci := 4) (v := .ref (g 22)) (C := RX4) (T := TX4) (N := 4) hx hb hts in_X4_findsWay_4 hown hK hP 0 rfl rfl 2 (by decide) (hts (.fieldLink RX4 16 "Twincuts$Ways" "cameFrom" "[I") (List.mem_of_getElem? (i := 1) (by decide +kernel))) (fun _ h9 => h9) rfl dX4_findsWay_22 ?_
        refine lv_iload_n hx hb dX4_findsWay_25 rfl (lv_at hl 1 rfl) ?_
        refine lv_iload_n hx hb dX4_findsWay_26 rfl (lv_at hl 1 rfl) ?_
        refine jx_iastI hx hb hK hP hD hS 2 0 rfl rfl (by omega) (by decide) dX4_findsWay_27 (fun H locs hP hD hS => ?_)
        have hP : va_P D vwCl (jY cI cO g ro (jxUp (fun _ => -1) a (nI a)) qu ++ jRI cI 16 16 ro rm) H := hP
        have hD : va_D A (jY cI cO g ro (jxUp (fun _ => -1) a (nI a)) qu ++ jRI cI 16 16 ro rm) := jxD hD0 rfl
        refine lv_aload_n hx hb dX4_findsWay_28 rfl (lv_at hl 0 rfl) ?_
        refine va_get (D := D) (ci := 4) (v := .ref (g 23)) (C := RX4) (T := TX4) (N := 4) hx hb hts in_X4_findsWay_4 hown hK hP 0 rfl rfl 3 (by decide) (hts (.fieldLink RX4 20 "Twincuts$Ways" "queue" "[I") (List.mem_of_getElem? (i := 2) (by decide +kernel))) (fun _ h9 => h9) rfl dX4_findsWay_29 ?_
        refine lv_iconst (v := nI 0) hx hb dX4_findsWay_32 (by decide) ?_
        refine lv_iload_n hx hb dX4_findsWay_33 rfl (lv_at hl 1 rfl) ?_
        refine jx_iastN hx hb hK hP hD hS 3 0 rfl rfl (by omega) (by decide) dX4_findsWay_34 (fun H locs hP hD hS => ?_)
        have hP : va_P D vwCl (jY cI cO g ro (jxUp (fun _ => -1) a (nI a)) (jxUp qu 0 a) ++ jRI cI 16 16 ro rm) H := hP
        have hD : va_D A (jY cI cO g ro (jxUp (fun _ => -1) a (nI a)) (jxUp qu 0 a) ++ jRI cI 16 16 ro rm) := jxD hD0 rfl
        refine lv_iconst (v := nI 1) hx hb dX4_findsWay_35 (by decide) ?_
        refine lv_istore_n (lv' := [(3, .int (nI 1)), (0, .ref (g 20)), (1, .int (nI a)), (2, .int (nI o))]) hx hb dX4_findsWay_36 rfl hl (by decide) rfl (fun ls hl => ?_)
        refine lv_iconst (v := nI 0) hx hb dX4_findsWay_37 (by decide) ?_
        refine lv_istore (lv' := [(4, .int (nI 0)), (3, .int (nI 1)), (0, .ref (g 20)), (1, .int (nI a)), (2, .int (nI o))]) hx hb dX4_findsWay_38 hl (by decide) rfl (fun ls hl => ?_)
        have L40 : ∀ (k : Nat) (nx : Nat) (hnx : nx ≤ 16), 16 - nx < k → ∀ (H : Heap) (locs : List Loc), va_P D vwCl (jY cI cO g ro ((jmFO rm (jmF0 a qu) nx).2.1) ((jmFO rm (jmF0 a qu) nx).2.2) ++ jRI cI 16 16 ro rm) H → va_S A s.heap H locs → ∀ ls : Array Slot, lv_has ls 7 [(0, .ref (g 20)), (1, .int (nI a)), (2, .int (nI o)), (3, .int (nI ((jmFO rm (jmF0 a qu) nx).1))), (4, .int (nI nx))] → W p l e ({ frames := 0, cells := 0, slots := 0, locals := 0 } : Room) s m args below meth c H locs 0 0 Q (F0 m 40 ls []) := by
          intro k
          induction k with
          | zero => intro nx hnx hk; exact absurd hk (Nat.not_lt_zero _)
          | succ k ih40 =>
            intro nx hnx hk H locs hP hS ls hl
            have hD : va_D A (jY cI cO g ro ((jmFO rm (jmF0 a qu) nx).2.1) ((jmFO rm (jmF0 a qu) nx).2.2) ++ jRI cI 16 16 ro rm) := jxD hD0 rfl
            have hT := jmFO_ok (rm := rm) (jmF0_ok ha hqu) nx (by omega)
            refine lv_iload hx hb dX4_findsWay_40 (lv_at hl 4 rfl) ?_
            refine lv_iload_n hx hb dX4_findsWay_42 rfl (lv_at hl 3 rfl) ?_
            refine lv_icmp_ge (tgt := 134) hx hb dX4_findsWay_43 (by decide) (fun c43 => ?_) (fun c43 => ?_)
            · have c43 : (jmFO rm (jmF0 a qu) nx).1 ≤ nx := jx_le (by have := hT.1; omega) (by omega) c43
              have hF : (jmFO rm (jmF0 a qu) nx) = (jmFW rm a qu) := by first | exact (jmFO_stop c43 (by omega)).trans (jmFW_eq _ _ _).symm | rw [jmFW_eq, show nx = 16 by omega]
              refine lv_aload_n hx hb dX4_findsWay_134 rfl (lv_at hl 0 rfl) ?_
              refine va_get (D := D) (ci := 4) (v := .ref (g 22)) (C := RX4) (T := TX4) (N := 4) hx hb hts in_X4_findsWay_4 hown hK hP 0 rfl rfl 2 (by decide) (hts (.fieldLink RX4 16 "Twincuts$Ways" "cameFrom" "[I") (List.mem_of_getElem? (i := 1) (by decide +kernel))) (fun _ h9 => h9) rfl dX4_findsWay_135 ?_
              refine lv_iload_n hx hb dX4_findsWay_138 rfl (lv_at hl 2 rfl) ?_
              refine jx_iald hx hb hK hP 2 0 rfl rfl (by omega) (by decide) dX4_findsWay_139 ?_
              refine lv_iconst (v := (-1)) hx hb dX4_findsWay_140 (by decide) ?_
              refine lv_icmp_eq (tgt := 148) hx hb dX4_findsWay_141 (by decide) (fun c141 => ?_) (fun c141 => ?_)
              · skip
                refine lv_iconst (v := nI 0) hx hb dX4_findsWay_148 (by decide) ?_
                have ev_1 : (jmFO rm (jmF0 a qu) nx).2.1 = (jmFW rm a qu).2.1 := by rw [hF]
                have ev_2 : (jmFO rm (jmF0 a qu) nx).2.2 = (jmFW rm a qu).2.2 := by rw [hF]
                exact hQ false H locs _ _ dX4_findsWay_149 (by rw [hF] at c141; simp [jmFound, c141]) (by rw [← ev_1, ← ev_2]; exact hP) hS
              · skip
                refine lv_iconst (v := nI 1) hx hb dX4_findsWay_144 (by decide) ?_
                refine lv_goto (tgt := 149) hx hb dX4_findsWay_145 (by decide) ?_
                have ev_3 : (jmFO rm (jmF0 a qu) nx).2.1 = (jmFW rm a qu).2.1 := by rw [hF]
                have ev_4 : (jmFO rm (jmF0 a qu) nx).2.2 = (jmFW rm a qu).2.2 := by rw [hF]
                exact hQ true H locs _ _ dX4_findsWay_149 (by rw [hF] at c141; simp [jmFound, c141]) (by rw [← ev_3, ← ev_4]; exact hP) hS
            · have c43 : nx < (jmFO rm (jmF0 a qu) nx).1 := jx_nle (by have := hT.1; omega) (by omega) c43
              refine lv_iload hx hb dX4_findsWay_46 (lv_at hl 4 rfl) ?_
              refine lv_bipush (v := nI 16) hx hb dX4_findsWay_48 (by decide) ?_
              refine lv_icmp_ge (tgt := 134) hx hb dX4_findsWay_50 (by decide) (fun c50 => ?_) (fun c50 => ?_)
              · have c50 : 16 ≤ nx := jx_le (by decide) (by omega) c50
                have hF : (jmFO rm (jmF0 a qu) nx) = (jmFW rm a qu) := by first | exact (jmFO_stop c43 (by omega)).trans (jmFW_eq _ _ _).symm | rw [jmFW_eq, show nx = 16 by omega]
                refine lv_aload_n hx hb dX4_findsWay_134 rfl (lv_at hl 0 rfl) ?_
                refine va_get (D := D) (ci := 4) (v := .ref (g 22)) (C := RX4) (T := TX4) (N := 4) hx hb hts in_X4_findsWay_4 hown hK hP 0 rfl rfl 2 (by decide) (hts (.fieldLink RX4 16 "Twincuts$Ways" "cameFrom" "[I") (List.mem_of_getElem? (i := 1) (by decide +kernel))) (fun _ h9 => h9) rfl dX4_findsWay_135 ?_
                refine lv_iload_n hx hb dX4_findsWay_138 rfl (lv_at hl 2 rfl) ?_
                refine jx_iald hx hb hK hP 2 0 rfl rfl (by omega) (by decide) dX4_findsWay_139 ?_
                refine lv_iconst (v := (-1)) hx hb dX4_findsWay_140 (by decide) ?_
                refine lv_icmp_eq (tgt := 148) hx hb dX4_findsWay_141 (by decide) (fun c141 => ?_) (fun c141 => ?_)
                · skip
                  refine lv_iconst (v := nI 0) hx hb dX4_findsWay_148 (by decide) ?_
                  have ev_5 : (jmFO rm (jmF0 a qu) nx).2.1 = (jmFW rm a qu).2.1 := by rw [hF]
                  have ev_6 : (jmFO rm (jmF0 a qu) nx).2.2 = (jmFW rm a qu).2.2 := by rw [hF]
                  exact hQ false H locs _ _ dX4_findsWay_149 (by rw [hF] at c141; simp [jmFound, c141]) (by rw [← ev_5, ← ev_6]; exact hP) hS
                · skip
                  refine lv_iconst (v := nI 1) hx hb dX4_findsWay_144 (by decide) ?_
                  refine lv_goto (tgt := 149) hx hb dX4_findsWay_145 (by decide) ?_
                  have ev_7 : (jmFO rm (jmF0 a qu) nx).2.1 = (jmFW rm a qu).2.1 := by rw [hF]
                  have ev_8 : (jmFO rm (jmF0 a qu) nx).2.2 = (jmFW rm a qu).2.2 := by rw [hF]
                  exact hQ true H locs _ _ dX4_findsWay_149 (by rw [hF] at c141; simp [jmFound, c141]) (by rw [← ev_7, ← ev_8]; exact hP) hS
              · have c50 : nx < 16 := jx_nle (by decide) (by omega) c50
                refine lv_aload_n hx hb dX4_findsWay_53 rfl (lv_at hl 0 rfl) ?_
                refine va_get (D := D) (ci := 4) (v := .ref (g 23)) (C := RX4) (T := TX4) (N := 4) hx hb hts in_X4_findsWay_4 hown hK hP 0 rfl rfl 3 (by decide) (hts (.fieldLink RX4 20 "Twincuts$Ways" "queue" "[I") (List.mem_of_getElem? (i := 2) (by decide +kernel))) (fun _ h9 => h9) rfl dX4_findsWay_54 ?_
                refine lv_iload hx hb dX4_findsWay_57 (lv_at hl 4 rfl) ?_
                refine jx_iald hx hb hK hP 3 0 rfl rfl (by omega) (by decide) dX4_findsWay_59 ?_
                refine lv_istore (lv' := [(5, .int (nI (((jmFO rm (jmF0 a qu) nx).2.2) nx))), (0, .ref (g 20)), (1, .int (nI a)), (2, .int (nI o)), (3, .int (nI ((jmFO rm (jmF0 a qu) nx).1))), (4, .int (nI nx))]) hx hb dX4_findsWay_60 hl (by decide) rfl (fun ls hl => ?_)
                refine lv_iconst (v := nI 0) hx hb dX4_findsWay_62 (by decide) ?_
                refine lv_istore (lv' := [(6, .int (nI 0)), (5, .int (nI (((jmFO rm (jmF0 a qu) nx).2.2) nx))), (0, .ref (g 20)), (1, .int (nI a)), (2, .int (nI o)), (3, .int (nI ((jmFO rm (jmF0 a qu) nx).1))), (4, .int (nI nx))]) hx hb dX4_findsWay_63 hl (by decide) rfl (fun ls hl => ?_)
                have L65 : ∀ (k : Nat) (k1 : Nat) (hk1 : k1 ≤ 16), 16 - k1 < k → ∀ (H : Heap) (locs : List Loc), va_P D vwCl (jY cI cO g ro ((jmFI rm ((jmFO rm (jmF0 a qu) nx).2.2 nx) (jmFO rm (jmF0 a qu) nx) k1).2.1) ((jmFI rm ((jmFO rm (jmF0 a qu) nx).2.2 nx) (jmFO rm (jmF0 a qu) nx) k1).2.2) ++ jRI cI 16 16 ro rm) H → va_S A s.heap H locs → ∀ ls : Array Slot, lv_has ls 7 [(0, .ref (g 20)), (1, .int (nI a)), (2, .int (nI o)), (3, .int (nI ((jmFI rm ((jmFO rm (jmF0 a qu) nx).2.2 nx) (jmFO rm (jmF0 a qu) nx) k1).1))), (4, .int (nI nx)), (5, .int (nI ((jmFO rm (jmF0 a qu) nx).2.2 nx))), (6, .int (nI k1))] → W p l e ({ frames := 0, cells := 0, slots := 0, locals := 0 } : Room) s m args below meth c H locs 0 0 Q (F0 m 65 ls []) := by
                  intro k
                  induction k with
                  | zero => intro k1 hk1 hk; exact absurd hk (Nat.not_lt_zero _)
                  | succ k ih65 =>
                    intro k1 hk1 hk H locs hP hS ls hl
                    have hD : va_D A (jY cI cO g ro ((jmFI rm ((jmFO rm (jmF0 a qu) nx).2.2 nx) (jmFO rm (jmF0 a qu) nx) k1).2.1) ((jmFI rm ((jmFO rm (jmF0 a qu) nx).2.2 nx) (jmFO rm (jmF0 a qu) nx) k1).2.2) ++ jRI cI 16 16 ro rm) := jxD hD0 rfl
                    have hI := jmFI_ok (rm := rm) hT (hT.2.1 nx (by omega)) k1 (by omega)
                    refine lv_iload hx hb dX4_findsWay_65 (lv_at hl 6 rfl) ?_
                    refine lv_bipush (v := nI 16) hx hb dX4_findsWay_67 (by decide) ?_
                    refine lv_icmp_ge (tgt := 128) hx hb dX4_findsWay_69 (by decide) (fun c69 => ?_) (fun c69 => ?_)
                    · have c69 : 16 ≤ k1 := jx_le (by decide) (by omega) c69
                      have es_128 : 16 = k1 := (by omega)
                      subst es_128
                      refine lv_iinc (v := nI (nx + 1)) (lv' := [(4, .int (nI (nx + 1))), (0, .ref (g 20)), (1, .int (nI a)), (2, .int (nI o)), (3, .int (nI ((jmFI rm ((jmFO rm (jmF0 a qu) nx).2.2 nx) (jmFO rm (jmF0 a qu) nx) 16).1))), (5, .int (nI ((jmFO rm (jmF0 a qu) nx).2.2 nx))), (6, .int (nI 16))]) hx hb dX4_findsWay_128 hl (k := 4) rfl (jx_inc _) (by decide) rfl (fun ls hl => ?_)
                      refine lv_goto (tgt := 40) hx hb dX4_findsWay_131 (by decide) ?_
                      have ev_9 : (jmFI rm ((jmFO rm (jmF0 a qu) nx).2.2 nx) (jmFO rm (jmF0 a qu) nx) 16).1 = (jmFO rm (jmF0 a qu) (nx + 1)).1 := by first | with_reducible rfl | rw [jmFO_y c43] | omega
                      have ew_10 : (jmFI rm ((jmFO rm (jmF0 a qu) nx).2.2 nx) (jmFO rm (jmF0 a qu) nx) 16).2.1 = (jmFO rm (jmF0 a qu) (nx + 1)).2.1 := by first | with_reducible rfl | rw [jmFO_y c43] | omega
                      have ew_11 : (jmFI rm ((jmFO rm (jmF0 a qu) nx).2.2 nx) (jmFO rm (jmF0 a qu) nx) 16).2.2 = (jmFO rm (jmF0 a qu) (nx + 1)).2.2 := by first | with_reducible rfl | rw [jmFO_y c43] | omega
                      exact ih40 (nx + 1) (by omega) (by omega) H locs (by rw [← ew_10, ← ew_11]; exact hP) hS ls (by rw [← ev_9]; exact lv_sub hl [1, 2, 3, 4, 0] rfl)
                    · have c69 : k1 < 16 := jx_nle (by decide) (by omega) c69
                      refine lv_aload_n hx hb dX4_findsWay_72 rfl (lv_at hl 0 rfl) ?_
                      refine va_get (D := D) (ci := 4) (v := .ref (g 21)) (C := RX4) (T := TX4) (N := 4) hx hb hts in_X4_findsWay_4 hown hK hP 0 rfl rfl 1 (by decide) (hts (.fieldLink RX4 13 "Twincuts$Ways" "room" "[[I") (List.mem_of_getElem? (i := 3) (by decide +kernel))) (fun _ h9 => h9) rfl dX4_findsWay_73 ?_
                      refine lv_iload hx hb dX4_findsWay_76 (lv_at hl 5 rfl) ?_
                      refine jx_aald (N := 16) hx hb hK hP 1 1 rfl rfl (hT.2.1 nx (by omega)) (by decide) dX4_findsWay_78 ?_
                      refine lv_iload hx hb dX4_findsWay_79 (lv_at hl 6 rfl) ?_
                      refine jx_iald2I (N := 16) hx hb hK (X := jY cI cO g ro ((jmFI rm ((jmFO rm (jmF0 a qu) nx).2.2 nx) (jmFO rm (jmF0 a qu) nx) k1).2.1) ((jmFI rm ((jmFO rm (jmF0 a qu) nx).2.2 nx) (jmFO rm (jmF0 a qu) nx) k1).2.2)) hP 0 rfl (hT.2.1 nx (by omega)) (by omega) (by decide) dX4_findsWay_81 ?_
                      refine lv_if_le (tgt := 122) hx hb dX4_findsWay_82 (by decide) (fun c82 => ?_) (fun c82 => ?_)
                      · skip
                        refine lv_iinc (v := nI (k1 + 1)) (lv' := [(6, .int (nI (k1 + 1))), (0, .ref (g 20)), (1, .int (nI a)), (2, .int (nI o)), (3, .int (nI ((jmFI rm ((jmFO rm (jmF0 a qu) nx).2.2 nx) (jmFO rm (jmF0 a qu) nx) k1).1))), (4, .int (nI nx)), (5, .int (nI ((jmFO rm (jmF0 a qu) nx).2.2 nx)))]) hx hb dX4_findsWay_122 hl (k := 6) rfl (jx_inc _) (by decide) rfl (fun ls hl => ?_)
                        refine lv_goto (tgt := 65) hx hb dX4_findsWay_125 (by decide) ?_
                        have ev_12 : (jmFI rm ((jmFO rm (jmF0 a qu) nx).2.2 nx) (jmFO rm (jmF0 a qu) nx) k1).1 = (jmFI rm ((jmFO rm (jmF0 a qu) nx).2.2 nx) (jmFO rm (jmF0 a qu) nx) (k1 + 1)).1 := by first | with_reducible rfl | (simp [jmFI, c69, c82]; done) | (simp [jmFI, Nat.not_lt.mpr c99, c69, c82]; done) | omega
                        have ew_13 : (jmFI rm ((jmFO rm (jmF0 a qu) nx).2.2 nx) (jmFO rm (jmF0 a qu) nx) k1).2.1 = (jmFI rm ((jmFO rm (jmF0 a qu) nx).2.2 nx) (jmFO rm (jmF0 a qu) nx) (k1 + 1)).2.1 := by first | with_reducible rfl | (simp [jmFI, c69, c82]; done) | (simp [jmFI, Nat.not_lt.mpr c99, c69, c82]; done) | omega
                        have ew_14 : (jmFI rm ((jmFO rm (jmF0 a qu) nx).2.2 nx) (jmFO rm (jmF0 a qu) nx) k1).2.2 = (jmFI rm ((jmFO rm (jmF0 a qu) nx).2.2 nx) (jmFO rm (jmF0 a qu) nx) (k1 + 1)).2.2 := by first | with_reducible rfl | (simp [jmFI, c69, c82]; done) | (simp [jmFI, Nat.not_lt.mpr c99, c69, c82]; done) | omega
                        exact ih65 (k1 + 1) (by omega) (by omega) H locs (by rw [← ew_13, ← ew_14]; exact hP) hS ls (by rw [← ev_12]; exact lv_sub hl [1, 2, 3, 4, 5, 6, 0] rfl)
                      · skip
                        refine lv_aload_n hx hb dX4_findsWay_85 rfl (lv_at hl 0 rfl) ?_
                        refine va_get (D := D) (ci := 4) (v := .ref (g 22)) (C := RX4) (T := TX4) (N := 4) hx hb hts in_X4_findsWay_4 hown hK hP 0 rfl rfl 2 (by decide) (hts (.fieldLink RX4 16 "Twincuts$Ways" "cameFrom" "[I") (List.mem_of_getElem? (i := 1) (by decide +kernel))) (fun _ h9 => h9) rfl dX4_findsWay_86 ?_
                        refine lv_iload hx hb dX4_findsWay_89 (lv_at hl 6 rfl) ?_
                        refine jx_iald hx hb hK hP 2 0 rfl rfl (by omega) (by decide) dX4_findsWay_91 ?_
                        refine lv_iconst (v := (-1)) hx hb dX4_findsWay_92 (by decide) ?_
                        refine lv_icmp_ne (tgt := 122) hx hb dX4_findsWay_93 (by decide) (fun c93 => ?_) (fun c93 => ?_)
                        · skip
                          refine lv_iinc (v := nI (k1 + 1)) (lv' := [(6, .int (nI (k1 + 1))), (0, .ref (g 20)), (1, .int (nI a)), (2, .int (nI o)), (3, .int (nI ((jmFI rm ((jmFO rm (jmF0 a qu) nx).2.2 nx) (jmFO rm (jmF0 a qu) nx) k1).1))), (4, .int (nI nx)), (5, .int (nI ((jmFO rm (jmF0 a qu) nx).2.2 nx)))]) hx hb dX4_findsWay_122 hl (k := 6) rfl (jx_inc _) (by decide) rfl (fun ls hl => ?_)
                          refine lv_goto (tgt := 65) hx hb dX4_findsWay_125 (by decide) ?_
                          have ev_15 : (jmFI rm ((jmFO rm (jmF0 a qu) nx).2.2 nx) (jmFO rm (jmF0 a qu) nx) k1).1 = (jmFI rm ((jmFO rm (jmF0 a qu) nx).2.2 nx) (jmFO rm (jmF0 a qu) nx) (k1 + 1)).1 := by first | with_reducible rfl | (simp [jmFI, c69, c82, c93]; done) | (simp [jmFI, Nat.not_lt.mpr c99, c69, c82, c93]; done) | omega
                          have ew_16 : (jmFI rm ((jmFO rm (jmF0 a qu) nx).2.2 nx) (jmFO rm (jmF0 a qu) nx) k1).2.1 = (jmFI rm ((jmFO rm (jmF0 a qu) nx).2.2 nx) (jmFO rm (jmF0 a qu) nx) (k1 + 1)).2.1 := by first | with_reducible rfl | (simp [jmFI, c69, c82, c93]; done) | (simp [jmFI, Nat.not_lt.mpr c99, c69, c82, c93]; done) | omega
                          have ew_17 : (jmFI rm ((jmFO rm (jmF0 a qu) nx).2.2 nx) (jmFO rm (jmF0 a qu) nx) k1).2.2 = (jmFI rm ((jmFO rm (jmF0 a qu) nx).2.2 nx) (jmFO rm (jmF0 a qu) nx) (k1 + 1)).2.2 := by first | with_reducible rfl | (simp [jmFI, c69, c82, c93]; done) | (simp [jmFI, Nat.not_lt.mpr c99, c69, c82, c93]; done) | omega
                          exact ih65 (k1 + 1) (by omega) (by omega) H locs (by rw [← ew_16, ← ew_17]; exact hP) hS ls (by rw [← ev_15]; exact lv_sub hl [1, 2, 3, 4, 5, 6, 0] rfl)
                        · skip
                          refine lv_iload_n hx hb dX4_findsWay_96 rfl (lv_at hl 3 rfl) ?_
                          refine lv_bipush (v := nI 16) hx hb dX4_findsWay_97 (by decide) ?_
                          refine lv_icmp_ge (tgt := 122) hx hb dX4_findsWay_99 (by decide) (fun c99 => ?_) (fun c99 => ?_)
                          · have c99 : 16 ≤ (jmFI rm ((jmFO rm (jmF0 a qu) nx).2.2 nx) (jmFO rm (jmF0 a qu) nx) k1).1 := jx_le (by decide) (by have := hI.1; omega) c99
                            refine lv_iinc (v := nI (k1 + 1)) (lv' := [(6, .int (nI (k1 + 1))), (0, .ref (g 20)), (1, .int (nI a)), (2, .int (nI o)), (3, .int (nI ((jmFI rm ((jmFO rm (jmF0 a qu) nx).2.2 nx) (jmFO rm (jmF0 a qu) nx) k1).1))), (4, .int (nI nx)), (5, .int (nI ((jmFO rm (jmF0 a qu) nx).2.2 nx)))]) hx hb dX4_findsWay_122 hl (k := 6) rfl (jx_inc _) (by decide) rfl (fun ls hl => ?_)
                            refine lv_goto (tgt := 65) hx hb dX4_findsWay_125 (by decide) ?_
                            have ev_18 : (jmFI rm ((jmFO rm (jmF0 a qu) nx).2.2 nx) (jmFO rm (jmF0 a qu) nx) k1).1 = (jmFI rm ((jmFO rm (jmF0 a qu) nx).2.2 nx) (jmFO rm (jmF0 a qu) nx) (k1 + 1)).1 := by first | with_reducible rfl | (simp [jmFI, c69, c82, c93, c99]; done) | (simp [jmFI, Nat.not_lt.mpr c99, c69, c82, c93, c99]; done) | omega
                            have ew_19 : (jmFI rm ((jmFO rm (jmF0 a qu) nx).2.2 nx) (jmFO rm (jmF0 a qu) nx) k1).2.1 = (jmFI rm ((jmFO rm (jmF0 a qu) nx).2.2 nx) (jmFO rm (jmF0 a qu) nx) (k1 + 1)).2.1 := by first | with_reducible rfl | (simp [jmFI, c69, c82, c93, c99]; done) | (simp [jmFI, Nat.not_lt.mpr c99, c69, c82, c93, c99]; done) | omega
                            have ew_20 : (jmFI rm ((jmFO rm (jmF0 a qu) nx).2.2 nx) (jmFO rm (jmF0 a qu) nx) k1).2.2 = (jmFI rm ((jmFO rm (jmF0 a qu) nx).2.2 nx) (jmFO rm (jmF0 a qu) nx) (k1 + 1)).2.2 := by first | with_reducible rfl | (simp [jmFI, c69, c82, c93, c99]; done) | (simp [jmFI, Nat.not_lt.mpr c99, c69, c82, c93, c99]; done) | omega
                            exact ih65 (k1 + 1) (by omega) (by omega) H locs (by rw [← ew_19, ← ew_20]; exact hP) hS ls (by rw [← ev_18]; exact lv_sub hl [1, 2, 3, 4, 5, 6, 0] rfl)
                          · have c99 : (jmFI rm ((jmFO rm (jmF0 a qu) nx).2.2 nx) (jmFO rm (jmF0 a qu) nx) k1).1 < 16 := jx_nle (by decide) (by have := hI.1; omega) c99
                            refine lv_aload_n hx hb dX4_findsWay_102 rfl (lv_at hl 0 rfl) ?_
                            refine va_get (D := D) (ci := 4) (v := .ref (g 22)) (C := RX4) (T := TX4) (N := 4) hx hb hts in_X4_findsWay_4 hown hK hP 0 rfl rfl 2 (by decide) (hts (.fieldLink RX4 16 "Twincuts$Ways" "cameFrom" "[I") (List.mem_of_getElem? (i := 1) (by decide +kernel))) (fun _ h9 => h9) rfl dX4_findsWay_103 ?_
                            refine lv_iload hx hb dX4_findsWay_106 (lv_at hl 6 rfl) ?_
                            refine lv_iload hx hb dX4_findsWay_108 (lv_at hl 5 rfl) ?_
                            refine jx_iastI hx hb hK hP hD hS 2 0 rfl rfl (by omega) (by decide) dX4_findsWay_110 (fun H locs hP hD hS => ?_)
                            have hP : va_P D vwCl (jY cI cO g ro (jxUp ((jmFI rm ((jmFO rm (jmF0 a qu) nx).2.2 nx) (jmFO rm (jmF0 a qu) nx) k1).2.1) k1 (nI ((jmFO rm (jmF0 a qu) nx).2.2 nx))) ((jmFI rm ((jmFO rm (jmF0 a qu) nx).2.2 nx) (jmFO rm (jmF0 a qu) nx) k1).2.2) ++ jRI cI 16 16 ro rm) H := hP
                            have hD : va_D A (jY cI cO g ro (jxUp ((jmFI rm ((jmFO rm (jmF0 a qu) nx).2.2 nx) (jmFO rm (jmF0 a qu) nx) k1).2.1) k1 (nI ((jmFO rm (jmF0 a qu) nx).2.2 nx))) ((jmFI rm ((jmFO rm (jmF0 a qu) nx).2.2 nx) (jmFO rm (jmF0 a qu) nx) k1).2.2) ++ jRI cI 16 16 ro rm) := jxD hD0 rfl
                            refine lv_aload_n hx hb dX4_findsWay_111 rfl (lv_at hl 0 rfl) ?_
                            refine va_get (D := D) (ci := 4) (v := .ref (g 23)) (C := RX4) (T := TX4) (N := 4) hx hb hts in_X4_findsWay_4 hown hK hP 0 rfl rfl 3 (by decide) (hts (.fieldLink RX4 20 "Twincuts$Ways" "queue" "[I") (List.mem_of_getElem? (i := 2) (by decide +kernel))) (fun _ h9 => h9) rfl dX4_findsWay_112 ?_
                            refine lv_iload_n hx hb dX4_findsWay_115 rfl (lv_at hl 3 rfl) ?_
                            refine lv_iload hx hb dX4_findsWay_116 (lv_at hl 6 rfl) ?_
                            refine jx_iastN hx hb hK hP hD hS 3 0 rfl rfl (by omega) (by decide) dX4_findsWay_118 (fun H locs hP hD hS => ?_)
                            have hP : va_P D vwCl (jY cI cO g ro (jxUp ((jmFI rm ((jmFO rm (jmF0 a qu) nx).2.2 nx) (jmFO rm (jmF0 a qu) nx) k1).2.1) k1 (nI ((jmFO rm (jmF0 a qu) nx).2.2 nx))) (jxUp ((jmFI rm ((jmFO rm (jmF0 a qu) nx).2.2 nx) (jmFO rm (jmF0 a qu) nx) k1).2.2) ((jmFI rm ((jmFO rm (jmF0 a qu) nx).2.2 nx) (jmFO rm (jmF0 a qu) nx) k1).1) k1) ++ jRI cI 16 16 ro rm) H := hP
                            have hD : va_D A (jY cI cO g ro (jxUp ((jmFI rm ((jmFO rm (jmF0 a qu) nx).2.2 nx) (jmFO rm (jmF0 a qu) nx) k1).2.1) k1 (nI ((jmFO rm (jmF0 a qu) nx).2.2 nx))) (jxUp ((jmFI rm ((jmFO rm (jmF0 a qu) nx).2.2 nx) (jmFO rm (jmF0 a qu) nx) k1).2.2) ((jmFI rm ((jmFO rm (jmF0 a qu) nx).2.2 nx) (jmFO rm (jmF0 a qu) nx) k1).1) k1) ++ jRI cI 16 16 ro rm) := jxD hD0 rfl
                            refine lv_iinc (v := nI (((jmFI rm ((jmFO rm (jmF0 a qu) nx).2.2 nx) (jmFO rm (jmF0 a qu) nx) k1).1) + 1)) (lv' := [(3, .int (nI (((jmFI rm ((jmFO rm (jmF0 a qu) nx).2.2 nx) (jmFO rm (jmF0 a qu) nx) k1).1) + 1))), (0, .ref (g 20)), (1, .int (nI a)), (2, .int (nI o)), (4, .int (nI nx)), (5, .int (nI ((jmFO rm (jmF0 a qu) nx).2.2 nx))), (6, .int (nI k1))]) hx hb dX4_findsWay_119 hl (k := 3) rfl (jx_inc _) (by decide) rfl (fun ls hl => ?_)
                            refine lv_iinc (v := nI (k1 + 1)) (lv' := [(6, .int (nI (k1 + 1))), (3, .int (nI (((jmFI rm ((jmFO rm (jmF0 a qu) nx).2.2 nx) (jmFO rm (jmF0 a qu) nx) k1).1) + 1))), (0, .ref (g 20)), (1, .int (nI a)), (2, .int (nI o)), (4, .int (nI nx)), (5, .int (nI ((jmFO rm (jmF0 a qu) nx).2.2 nx)))]) hx hb dX4_findsWay_122 hl (k := 6) rfl (jx_inc _) (by decide) rfl (fun ls hl => ?_)
                            refine lv_goto (tgt := 65) hx hb dX4_findsWay_125 (by decide) ?_
                            have ev_21 : ((jmFI rm ((jmFO rm (jmF0 a qu) nx).2.2 nx) (jmFO rm (jmF0 a qu) nx) k1).1) + 1 = (jmFI rm ((jmFO rm (jmF0 a qu) nx).2.2 nx) (jmFO rm (jmF0 a qu) nx) (k1 + 1)).1 := by first | with_reducible rfl | (simp [jmFI, c69, c82, c93, c99]; done) | (simp [jmFI, Nat.not_lt.mpr c99, c69, c82, c93, c99]; done) | omega
                            have ew_22 : jxUp ((jmFI rm ((jmFO rm (jmF0 a qu) nx).2.2 nx) (jmFO rm (jmF0 a qu) nx) k1).2.1) k1 (nI ((jmFO rm (jmF0 a qu) nx).2.2 nx)) = (jmFI rm ((jmFO rm (jmF0 a qu) nx).2.2 nx) (jmFO rm (jmF0 a qu) nx) (k1 + 1)).2.1 := by first | with_reducible rfl | (simp [jmFI, c69, c82, c93, c99]; done) | (simp [jmFI, Nat.not_lt.mpr c99, c69, c82, c93, c99]; done) | omega
                            have ew_23 : jxUp ((jmFI rm ((jmFO rm (jmF0 a qu) nx).2.2 nx) (jmFO rm (jmF0 a qu) nx) k1).2.2) ((jmFI rm ((jmFO rm (jmF0 a qu) nx).2.2 nx) (jmFO rm (jmF0 a qu) nx) k1).1) k1 = (jmFI rm ((jmFO rm (jmF0 a qu) nx).2.2 nx) (jmFO rm (jmF0 a qu) nx) (k1 + 1)).2.2 := by first | with_reducible rfl | (simp [jmFI, c69, c82, c93, c99]; done) | (simp [jmFI, Nat.not_lt.mpr c99, c69, c82, c93, c99]; done) | omega
                            exact ih65 (k1 + 1) (by omega) (by omega) H locs (by rw [← ew_22, ← ew_23]; exact hP) hS ls (by rw [← ev_21]; exact lv_sub hl [2, 3, 4, 1, 5, 6, 0] rfl)
                have ev_24 : (jmFO rm (jmF0 a qu) nx).1 = (jmFI rm ((jmFO rm (jmF0 a qu) nx).2.2 nx) (jmFO rm (jmF0 a qu) nx) 0).1 := by rfl
                have ev_25 : ((jmFO rm (jmF0 a qu) nx).2.2) nx = (jmFO rm (jmF0 a qu) nx).2.2 nx := by first | with_reducible rfl | (simp [jmFI, c43, c50]; done) | (simp [jmFI, Nat.not_lt.mpr c99, c43, c50]; done) | omega
                have ew_26 : (jmFO rm (jmF0 a qu) nx).2.1 = (jmFI rm ((jmFO rm (jmF0 a qu) nx).2.2 nx) (jmFO rm (jmF0 a qu) nx) 0).2.1 := by rfl
                have ew_27 : (jmFO rm (jmF0 a qu) nx).2.2 = (jmFI rm ((jmFO rm (jmF0 a qu) nx).2.2 nx) (jmFO rm (jmF0 a qu) nx) 0).2.2 := by rfl
                exact L65 ((16 - 0) + 1) 0 (by omega) (Nat.lt_succ_self _) H locs (by rw [← ew_26, ← ew_27]; exact hP) hS ls (by rw [← ev_24, ← ev_25]; exact lv_sub hl [2, 3, 4, 5, 6, 1, 0] rfl)
        have ev_28 : 1 = (jmFO rm (jmF0 a qu) 0).1 := by rfl
        have ew_29 : jxUp (fun _ => -1) a (nI a) = (jmFO rm (jmF0 a qu) 0).2.1 := by rfl
        have ew_30 : jxUp qu 0 a = (jmFO rm (jmF0 a qu) 0).2.2 := by rfl
        exact L40 ((16 - 0) + 1) 0 (by omega) (Nat.lt_succ_self _) H locs (by rw [← ew_29, ← ew_30]; exact hP) hS ls (by rw [← ev_28]; exact lv_sub hl [2, 3, 4, 1, 0] rfl)
      · have c5 : k1 < 16 := jx_nle (by decide) (by omega) c5
        refine lv_aload_n hx hb dX4_findsWay_8 rfl (lv_at hl 0 rfl) ?_
        refine va_get (D := D) (ci := 4) (v := .ref (g 22)) (C := RX4) (T := TX4) (N := 4) hx hb hts in_X4_findsWay_4 hown hK hP 0 rfl rfl 2 (by decide) (hts (.fieldLink RX4 16 "Twincuts$Ways" "cameFrom" "[I") (List.mem_of_getElem? (i := 1) (by decide +kernel))) (fun _ h9 => h9) rfl dX4_findsWay_9 ?_
        refine lv_iload_n hx hb dX4_findsWay_12 rfl (lv_at hl 3 rfl) ?_
        refine lv_iconst (v := (-1)) hx hb dX4_findsWay_13 (by decide) ?_
        refine jx_iastI hx hb hK hP hD hS 2 0 rfl rfl (by omega) (by decide) dX4_findsWay_14 (fun H locs hP hD hS => ?_)
        have hP : va_P D vwCl (jY cI cO g ro (jxUp (jmFl1 (-1) ca k1) k1 (-1 : Int32)) qu ++ jRI cI 16 16 ro rm) H := hP
        have hD : va_D A (jY cI cO g ro (jxUp (jmFl1 (-1) ca k1) k1 (-1 : Int32)) qu ++ jRI cI 16 16 ro rm) := jxD hD0 rfl
        refine lv_iinc (v := nI (k1 + 1)) (lv' := [(3, .int (nI (k1 + 1))), (0, .ref (g 20)), (1, .int (nI a)), (2, .int (nI o))]) hx hb dX4_findsWay_15 hl (k := 3) rfl (jx_inc _) (by decide) rfl (fun ls hl => ?_)
        refine lv_goto (tgt := 2) hx hb dX4_findsWay_18 (by decide) ?_
        have ew_31 : jxUp (jmFl1 (-1) ca k1) k1 (-1 : Int32) = jmFl1 (-1) ca (k1 + 1) := by exact jmFl1_up _ _ _
        exact ih2 (k1 + 1) (by omega) (by omega) H locs (by rw [← ew_31]; exact hP) hS ls (lv_sub hl [1, 2, 3, 0] rfl)
  have ew_32 : ca = jmFl1 (-1) ca 0 := by exact jmFl1_0 _ _
  exact L2 ((16 - 0) + 1) 0 (by omega) (Nat.lt_succ_self _) H locs (by rw [← ew_32]; exact hP) hS ls (lv_sub hl [1, 2, 3, 0] rfl)
