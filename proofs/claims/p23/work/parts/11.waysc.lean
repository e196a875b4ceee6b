set_option maxRecDepth 20000 in
theorem in_X4_fillWay_4 : ∀ w ∈ wsX40, w ∈ wsX4_fillWay := by decide +kernel
set_option maxHeartbeats 4000000 in
set_option maxRecDepth 100000 in
/-- fillWay(source, target) -/
theorem c_X4_fillWay (l : Launch) (D : va_G) (cI : ClassId) (cO : ClassId) (g : Nat → Nat) (ro : Nat → Nat) (ca : Nat → Int32) (qu : Nat → Nat) (rm : Nat → Nat → Int32) (sz : Nat) (a o : Nat) (ha : a < 16) (ho : o < 16) (hca : ∀ j, j < 16 → ca j = -1 ∨ ∃ b, b < 16 ∧ ca j = nI b) : jxWv l yX4_fillWay wsX4_fillWay ({ frames := 0, cells := 0, slots := 0, locals := 0 } : Room) D [(cI, .int), (cO, .array .int)] (jY cI cO g ro ca qu ++ jRI cI 16 16 ro rm) [.ref (g 20), .int (nI a), .int (nI o)] sz (jY cI cO g ro ca qu ++ jRI cI 16 16 ro (jmFlS ca a o rm)) := by
  refine jxw_enterV (by decide) rfl (Nat.le_of_ble_eq_true rfl) ?_
  intro p e s m args below meth c Q A ls hx hb hml hts hown hN hP hK hD hA hl hQ
  have hD0 := hD
  obtain ⟨H, hH⟩ : ∃ h, h = s.heap := ⟨_, rfl⟩
  have hS : va_S A s.heap H [] := by rw [hH]; exact va_S.rf
  rw [← hH] at hP ⊢
  obtain ⟨locs, hlocs⟩ : ∃ z : List Loc, z = [] := ⟨_, rfl⟩
  rw [← hlocs] at hS ⊢
  have hown : s.vm.findClass RX4 = some m.cls := hown
  have hl : lv_has ls 6 [(0, .ref (g 20)), (1, .int (nI a)), (2, .int (nI o))] := hl
  refine lv_iload_n hx hb dX4_fillWay_0 rfl (lv_at hl 2 rfl) ?_
  refine lv_istore_n (lv' := [(3, .int (nI o)), (0, .ref (g 20)), (1, .int (nI a)), (2, .int (nI o))]) hx hb dX4_fillWay_1 rfl hl (by decide) rfl (fun ls hl => ?_)
  refine lv_iconst (v := nI 0) hx hb dX4_fillWay_2 (by decide) ?_
  refine lv_istore (lv' := [(4, .int (nI 0)), (3, .int (nI o)), (0, .ref (g 20)), (1, .int (nI a)), (2, .int (nI o))]) hx hb dX4_fillWay_3 hl (by decide) rfl (fun ls hl => ?_)
  have L5 : ∀ (k : Nat) (w9 : Nat) (k1 : Nat) (r9 : jmM) (hk1 : k1 ≤ 16) (hw9 : w9 < 16) (hd : jmFl ca a 16 o rm = jmFl ca a (16 - k1) w9 r9), 16 - k1 < k → ∀ (H : Heap) (locs : List Loc), va_P D vwCl (jY cI cO g ro ca qu ++ jRI cI 16 16 ro r9) H → va_S A s.heap H locs → ∀ ls : Array Slot, lv_has ls 6 [(0, .ref (g 20)), (1, .int (nI a)), (2, .int (nI o)), (3, .int (nI w9)), (4, .int (nI k1))] → W p l e ({ frames := 0, cells := 0, slots := 0, locals := 0 } : Room) s m args below meth c H locs 0 0 Q (F0 m 5 ls []) := by
    intro k
    induction k with
    | zero => intro w9 k1 r9 hk1 hw9 hd hk; exact absurd hk (Nat.not_lt_zero _)
    | succ k ih5 =>
      intro w9 k1 r9 hk1 hw9 hd hk H locs hP hS ls hl
      have hD : va_D A (jY cI cO g ro ca qu ++ jRI cI 16 16 ro r9) := jxD hD0 rfl
      refine lv_iload hx hb dX4_fillWay_5 (lv_at hl 4 rfl) ?_
      refine lv_bipush (v := nI 16) hx hb dX4_fillWay_7 (by decide) ?_
      refine lv_icmp_ge (tgt := 70) hx hb dX4_fillWay_9 (by decide) (fun c9 => ?_) (fun c9 => ?_)
      · have c9 : 16 ≤ k1 := jx_le (by decide) (by omega) c9
        have ev_1 : r9 = jmFlS ca a o rm := by first | (rw [jmFlS_eq, hd, show 16 - k1 = 0 by omega]; rfl) | (rw [jmFlS_eq, hd]; exact (jmFl_st (Or.inl c14)).symm) | (rw [jmFlS_eq, hd]; exact (jmFl_st (Or.inr c24)).symm)
        exact hQ H locs _ _ dX4_fillWay_70 (by rw [← ev_1]; exact hP) hS
      · have c9 : k1 < 16 := jx_nle (by decide) (by omega) c9
        refine lv_iload_n hx hb dX4_fillWay_12 rfl (lv_at hl 3 rfl) ?_
        refine lv_iload_n hx hb dX4_fillWay_13 rfl (lv_at hl 1 rfl) ?_
        refine lv_icmp_eq (tgt := 70) hx hb dX4_fillWay_14 (by decide) (fun c14 => ?_) (fun c14 => ?_)
        · have c14 : w9 = a := jx_e (by omega) (by omega) c14
          have ev_2 : r9 = jmFlS ca a o rm := by first | (rw [jmFlS_eq, hd, show 16 - k1 = 0 by omega]; rfl) | (rw [jmFlS_eq, hd]; exact (jmFl_st (Or.inl c14)).symm) | (rw [jmFlS_eq, hd]; exact (jmFl_st (Or.inr c24)).symm)
          exact hQ H locs _ _ dX4_fillWay_70 (by rw [← ev_2]; exact hP) hS
        · have c14 : w9 ≠ a := jx_ne c14
          refine lv_aload_n hx hb dX4_fillWay_17 rfl (lv_at hl 0 rfl) ?_
          refine va_get (D := D) (ci := 4) (v := .ref (g 22)) (C := RX4) (T := TX4) (N := 4) hx hb hts in_X4_fillWay_4 hown hK hP 0 rfl rfl 2 (by decide) (hts (.fieldLink RX4 16 "Twincuts$Ways" "cameFrom" "[I") (List.mem_of_getElem? (i := 1) (by decide +kernel))) (fun _ h9 => h9) rfl dX4_fillWay_18 ?_
          refine lv_iload_n hx hb dX4_fillWay_21 rfl (lv_at hl 3 rfl) ?_
          refine jx_iald hx hb hK hP 2 0 rfl rfl (by omega) (by decide) dX4_fillWay_22 ?_
          refine lv_iconst (v := (-1)) hx hb dX4_fillWay_23 (by decide) ?_
          refine lv_icmp_eq (tgt := 70) hx hb dX4_fillWay_24 (by decide) (fun c24 => ?_) (fun c24 => ?_)
          · skip
            have ev_3 : r9 = jmFlS ca a o rm := by first | (rw [jmFlS_eq, hd, show 16 - k1 = 0 by omega]; rfl) | (rw [jmFlS_eq, hd]; exact (jmFl_st (Or.inl c14)).symm) | (rw [jmFlS_eq, hd]; exact (jmFl_st (Or.inr c24)).symm)
            exact hQ H locs _ _ dX4_fillWay_70 (by rw [← ev_3]; exact hP) hS
          · skip
            refine lv_aload_n hx hb dX4_fillWay_27 rfl (lv_at hl 0 rfl) ?_
            refine va_get (D := D) (ci := 4) (v := .ref (g 22)) (C := RX4) (T := TX4) (N := 4) hx hb hts in_X4_fillWay_4 hown hK hP 0 rfl rfl 2 (by decide) (hts (.fieldLink RX4 16 "Twincuts$Ways" "cameFrom" "[I") (List.mem_of_getElem? (i := 1) (by decide +kernel))) (fun _ h9 => h9) rfl dX4_fillWay_28 ?_
            refine lv_iload_n hx hb dX4_fillWay_31 rfl (lv_at hl 3 rfl) ?_
            refine jx_iald hx hb hK hP 2 0 rfl rfl (by omega) (by decide) dX4_fillWay_32 ?_
            refine jx_val (z := (nI ((ca w9).toNatClampNeg))) (jx_clampI ((hca w9 (by omega)).resolve_left c24) (by decide)).2 ?_
            have hcb := (jx_clampI ((hca w9 (by omega)).resolve_left c24) (by decide)).1
            refine lv_istore (lv' := [(5, .int (nI ((ca w9).toNatClampNeg))), (0, .ref (g 20)), (1, .int (nI a)), (2, .int (nI o)), (3, .int (nI w9)), (4, .int (nI k1))]) hx hb dX4_fillWay_33 hl (by decide) rfl (fun ls hl => ?_)
            refine lv_aload_n hx hb dX4_fillWay_35 rfl (lv_at hl 1 rfl) ?_
            refine va_get (D := D) (ci := 4) (v := .ref (g 21)) (C := RX4) (T := TX4) (N := 4) hx hb hts in_X4_fillWay_4 hown hK hP 0 rfl rfl 1 (by decide) (hts (.fieldLink RX4 13 "Twincuts$Ways" "room" "[[I") (List.mem_of_getElem? (i := 2) (by decide +kernel))) (fun _ h9 => h9) rfl dX4_fillWay_36 ?_
            refine lv_iload hx hb dX4_fillWay_39 (lv_at hl 0 rfl) ?_
            refine jx_aald (N := 16) hx hb hK hP 1 1 rfl rfl (by omega) (by decide) dX4_fillWay_41 ?_
            refine lv_iload_n hx hb dX4_fillWay_42 rfl (lv_at hl 4 rfl) ?_
            refine lv_dup2_11 hx hb dX4_fillWay_43 rfl rfl ?_
            refine jx_iald2I (N := 16) hx hb hK (X := jY cI cO g ro ca qu) hP 0 rfl (by omega) (by omega) (by decide) dX4_fillWay_44 ?_
            refine lv_iconst (v := nI 1) hx hb dX4_fillWay_45 (by decide) ?_
            refine lv_isub hx hb dX4_fillWay_46 ?_
            refine jx_iast2I (N := 16) hx hb hK (X := jY cI cO g ro ca qu) hP hD hS 0 rfl (by omega) (by omega) (by decide) dX4_fillWay_47 (fun H locs hP hD hS => ?_)
            have hP : va_P D vwCl (jY cI cO g ro ca qu ++ jRI cI 16 16 ro (jxUp2 r9 ((ca w9).toNatClampNeg) w9 ((r9 ((ca w9).toNatClampNeg) w9) - (nI 1)))) H := hP
            have hD : va_D A (jY cI cO g ro ca qu ++ jRI cI 16 16 ro (jxUp2 r9 ((ca w9).toNatClampNeg) w9 ((r9 ((ca w9).toNatClampNeg) w9) - (nI 1)))) := jxD hD0 rfl
            refine lv_aload_n hx hb dX4_fillWay_48 rfl (lv_at hl 1 rfl) ?_
            refine va_get (D := D) (ci := 4) (v := .ref (g 21)) (C := RX4) (T := TX4) (N := 4) hx hb hts in_X4_fillWay_4 hown hK hP 0 rfl rfl 1 (by decide) (hts (.fieldLink RX4 13 "Twincuts$Ways" "room" "[[I") (List.mem_of_getElem? (i := 2) (by decide +kernel))) (fun _ h9 => h9) rfl dX4_fillWay_49 ?_
            refine lv_iload_n hx hb dX4_fillWay_52 rfl (lv_at hl 4 rfl) ?_
            refine jx_aald (N := 16) hx hb hK hP 1 1 rfl rfl (by omega) (by decide) dX4_fillWay_53 ?_
            refine lv_iload hx hb dX4_fillWay_54 (lv_at hl 0 rfl) ?_
            refine lv_dup2_11 hx hb dX4_fillWay_56 rfl rfl ?_
            refine jx_iald2I (N := 16) hx hb hK (X := jY cI cO g ro ca qu) hP 0 rfl (by omega) (by omega) (by decide) dX4_fillWay_57 ?_
            refine lv_iconst (v := nI 1) hx hb dX4_fillWay_58 (by decide) ?_
            refine lv_iadd hx hb dX4_fillWay_59 ?_
            refine jx_iast2I (N := 16) hx hb hK (X := jY cI cO g ro ca qu) hP hD hS 0 rfl (by omega) (by omega) (by decide) dX4_fillWay_60 (fun H locs hP hD hS => ?_)
            have hP : va_P D vwCl (jY cI cO g ro ca qu ++ jRI cI 16 16 ro (jxUp2 (jxUp2 r9 ((ca w9).toNatClampNeg) w9 ((r9 ((ca w9).toNatClampNeg) w9) - (nI 1))) w9 ((ca w9).toNatClampNeg) (((jxUp2 r9 ((ca w9).toNatClampNeg) w9 ((r9 ((ca w9).toNatClampNeg) w9) - (nI 1))) w9 ((ca w9).toNatClampNeg)) + (nI 1)))) H := hP
            have hD : va_D A (jY cI cO g ro ca qu ++ jRI cI 16 16 ro (jxUp2 (jxUp2 r9 ((ca w9).toNatClampNeg) w9 ((r9 ((ca w9).toNatClampNeg) w9) - (nI 1))) w9 ((ca w9).toNatClampNeg) (((jxUp2 r9 ((ca w9).toNatClampNeg) w9 ((r9 ((ca w9).toNatClampNeg) w9) - (nI 1))) w9 ((ca w9).toNatClampNeg)) + (nI 1)))) := jxD hD0 rfl
            refine lv_iload hx hb dX4_fillWay_61 (lv_at hl 0 rfl) ?_
            refine lv_istore_n (lv' := [(3, .int (nI ((ca w9).toNatClampNeg))), (5, .int (nI ((ca w9).toNatClampNeg))), (0, .ref (g 20)), (1, .int (nI a)), (2, .int (nI o)), (4, .int (nI k1))]) hx hb dX4_fillWay_63 rfl hl (by decide) rfl (fun ls hl => ?_)
            refine lv_iinc (v := nI (k1 + 1)) (lv' := [(4, .int (nI (k1 + 1))), (3, .int (nI ((ca w9).toNatClampNeg))), (5, .int (nI ((ca w9).toNatClampNeg))), (0, .ref (g 20)), (1, .int (nI a)), (2, .int (nI o))]) hx hb dX4_fillWay_64 hl (k := 5) rfl (jx_inc _) (by decide) rfl (fun ls hl => ?_)
            refine lv_goto (tgt := 5) hx hb dX4_fillWay_67 (by decide) ?_
            exact ih5 ((ca w9).toNatClampNeg) (k1 + 1) (jxUp2 (jxUp2 r9 ((ca w9).toNatClampNeg) w9 ((r9 ((ca w9).toNatClampNeg) w9) - (nI 1))) w9 ((ca w9).toNatClampNeg) (((jxUp2 r9 ((ca w9).toNatClampNeg) w9 ((r9 ((ca w9).toNatClampNeg) w9) - (nI 1))) w9 ((ca w9).toNatClampNeg)) + (nI 1))) (by omega) (by omega) (by rw [hd, show 16 - k1 = (16 - (k1 + 1)) + 1 by omega, jmFl_go c14 c24]) (by omega) H locs hP hS ls (lv_sub hl [3, 4, 5, 1, 0] rfl)
  exact L5 ((16 - 0) + 1) o 0 rm (by omega) (by omega) rfl (Nat.lt_succ_self _) H locs hP hS ls (lv_sub hl [2, 3, 4, 1, 0] rfl)
