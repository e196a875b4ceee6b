set_option maxRecDepth 20000 in
theorem in_X4_countFlow_4 : ∀ w ∈ wsX40, w ∈ wsX4_countFlow := by decide +kernel
set_option maxHeartbeats 4000000 in
set_option maxRecDepth 100000 in
/-- countFlow(source, target) -/
theorem c_X4_countFlow (l : Launch) (D : va_G) (cI : ClassId) (cO : ClassId) (g : Nat → Nat) (ro : Nat → Nat) (ca : Nat → Int32) (qu : Nat → Nat) (rm : Nat → Nat → Int32) (sz : Nat) (a o : Nat) (ha : a < 16) (ho : o < 16) (hqu : ∀ j, j < 16 → qu j < 16) : jxWi l yX4_countFlow wsX4_countFlow ({ frames := 1, cells := 0, slots := 0, locals := 26 } : Room) D [(cI, .int), (cO, .array .int)] (jY cI cO g ro ca qu ++ jRI cI 16 16 ro rm) [.ref (g 20), .int (nI a), .int (nI o)] sz (fun r => r = nI (jmCFS a o rm ca qu).1) (jY cI cO g ro ((jmCFS a o rm ca qu).2.2.1) ((jmCFS a o rm ca qu).2.2.2) ++ jRI cI 16 16 ro ((jmCFS a o rm ca qu).2.1)) := by
  refine jxw_enter (by decide) rfl (Nat.le_of_ble_eq_true rfl) ?_
  intro p e s m args below meth c Q A ls hx hb hml hts hown hN hP hK hD hA hl hQ
  have hD0 := hD
  obtain ⟨H, hH⟩ : ∃ h, h = s.heap := ⟨_, rfl⟩
  have hS : va_S A s.heap H [] := by rw [hH]; exact va_S.rf
  rw [← hH] at hP ⊢
  obtain ⟨locs, hlocs⟩ : ∃ z : List Loc, z = [] := ⟨_, rfl⟩
  rw [← hlocs] at hS ⊢
  have hown : s.vm.findClass RX4 = some m.cls := hown
  have hl : lv_has ls 5 [(0, .ref (g 20)), (1, .int (nI a)), (2, .int (nI o))] := hl
  refine lv_iconst (v := nI 0) hx hb dX4_countFlow_0 (by decide) ?_
  refine lv_istore_n (lv' := [(3, .int (nI 0)), (0, .ref (g 20)), (1, .int (nI a)), (2, .int (nI o))]) hx hb dX4_countFlow_1 rfl hl (by decide) rfl (fun ls hl => ?_)
  refine lv_iconst (v := nI 0) hx hb dX4_countFlow_2 (by decide) ?_
  refine lv_istore (lv' := [(4, .int (nI 0)), (3, .int (nI 0)), (0, .ref (g 20)), (1, .int (nI a)), (2, .int (nI o))]) hx hb dX4_countFlow_3 hl (by decide) rfl (fun ls hl => ?_)
  have L5 : ∀ (k : Nat) (fl : Nat) (k1 : Nat) (r9 : jmM) (ca9 : Nat → Int32) (q9 : Nat → Nat) (hk1 : k1 ≤ 16) (hfl : fl ≤ k1) (hq9 : ∀ j, j < 16 → q9 j < 16) (hd : jmCF a o 16 0 rm ca qu = jmCF a o (16 - k1) fl r9 ca9 q9), 16 - k1 < k → ∀ (H : Heap) (locs : List Loc), va_P D vwCl (jY cI cO g ro ca9 q9 ++ jRI cI 16 16 ro r9) H → va_S A s.heap H locs → ∀ ls : Array Slot, lv_has ls 5 [(0, .ref (g 20)), (1, .int (nI a)), (2, .int (nI o)), (3, .int (nI fl)), (4, .int (nI k1))] → W p l e ({ frames := 1, cells := 0, slots := 0, locals := 26 } : Room) s m args below meth c H locs 0 0 Q (F0 m 5 ls []) := by
    intro k
    induction k with
    | zero => intro fl k1 r9 ca9 q9 hk1 hfl hq9 hd hk; exact absurd hk (Nat.not_lt_zero _)
    | succ k ih5 =>
      intro fl k1 r9 ca9 q9 hk1 hfl hq9 hd hk H locs hP hS ls hl
      have hD : va_D A (jY cI cO g ro ca9 q9 ++ jRI cI 16 16 ro r9) := jxD hD0 rfl
      refine lv_iload hx hb dX4_countFlow_5 (lv_at hl 4 rfl) ?_
      refine lv_bipush (v := nI 16) hx hb dX4_countFlow_7 (by decide) ?_
      refine lv_icmp_ge (tgt := 38) hx hb dX4_countFlow_9 (by decide) (fun c9 => ?_) (fun c9 => ?_)
      · have c9 : 16 ≤ k1 := jx_le (by decide) (by omega) c9
        refine lv_iload_n hx hb dX4_countFlow_38 rfl (lv_at hl 3 rfl) ?_
        have ev_1 : ca9 = (jmCFS a o rm ca qu).2.2.1 := by first | (rw [jmCFS_eq, hd, show 16 - k1 = (16 - (k1 + 1)) + 1 by omega, jmCF_st c18]; done) | (rw [jmCFS_eq, hd, show 16 - k1 = 0 by omega]; done) | (rw [jmCFS_eq, hd, show 16 - k1 = (16 - (k1 + 1)) + 1 by omega, jmCF_st c18]; rfl) | (rw [jmCFS_eq, hd, show 16 - k1 = 0 by omega]; rfl)
        have ev_2 : q9 = (jmCFS a o rm ca qu).2.2.2 := by first | (rw [jmCFS_eq, hd, show 16 - k1 = (16 - (k1 + 1)) + 1 by omega, jmCF_st c18]; done) | (rw [jmCFS_eq, hd, show 16 - k1 = 0 by omega]; done) | (rw [jmCFS_eq, hd, show 16 - k1 = (16 - (k1 + 1)) + 1 by omega, jmCF_st c18]; rfl) | (rw [jmCFS_eq, hd, show 16 - k1 = 0 by omega]; rfl)
        have ev_3 : r9 = (jmCFS a o rm ca qu).2.1 := by first | (rw [jmCFS_eq, hd, show 16 - k1 = (16 - (k1 + 1)) + 1 by omega, jmCF_st c18]; done) | (rw [jmCFS_eq, hd, show 16 - k1 = 0 by omega]; done) | (rw [jmCFS_eq, hd, show 16 - k1 = (16 - (k1 + 1)) + 1 by omega, jmCF_st c18]; rfl) | (rw [jmCFS_eq, hd, show 16 - k1 = 0 by omega]; rfl)
        exact hQ (nI fl) H locs _ _ dX4_countFlow_39 (by rw [jmCFS_eq, hd, show 16 - k1 = 0 by omega]; rfl) (by rw [← ev_1, ← ev_2, ← ev_3]; exact hP) hS
      · have c9 : k1 < 16 := jx_nle (by decide) (by omega) c9
        refine lv_aload_n hx hb dX4_countFlow_12 rfl (lv_at hl 0 rfl) ?_
        refine lv_iload_n hx hb dX4_countFlow_13 rfl (lv_at hl 1 rfl) ?_
        refine lv_iload_n hx hb dX4_countFlow_14 rfl (lv_at hl 2 rfl) ?_
        refine jxw_callVi (X := jY cI cO g ro ca9 q9 ++ jRI cI 16 16 ro r9) (X' := jY cI cO g ro ((jmFW r9 a q9).2.1) ((jmFW r9 a q9).2.2) ++ jRI cI 16 16 ro r9) (wc := jY cI cO g ro ca9 q9 ++ jRI cI 16 16 ro r9) (wc' := jY cI cO g ro ((jmFW r9 a q9).2.1) ((jmFW r9 a q9).2.2) ++ jRI cI 16 16 ro r9) (wr := []) (N := 20) (As := [.int (nI a), .int (nI o)]) (rest := []) ⟨hx, hb, hml, hown, hts⟩ (c_X4_findsWay l D cI cO g ro ca9 q9 r9 H.size a o (by omega) (by omega) hq9) (cwV 2 hts gX4_countFlow_X4_findsWay rfl rfl rfl (by decide +kernel) ⟨Nat.le_of_ble_eq_true rfl, Nat.le_of_ble_eq_true rfl⟩) hN hP hD (hK.sub (tys' := [(cI, .int), (cO, .array .int)]) [0, 1] rfl) hS hA [0, 1, 2, 3, 4, 5, 6, 7, 8, 9, 10, 11, 12, 13, 14, 15, 16, 17, 18, 19] [] rfl rfl rfl rfl rfl rfl (by decide) (by decide) 0 4 rfl rfl rfl (hK.sub (tys' := [(cI, .int), (cO, .array .int)]) [0, 1] rfl) rfl hl.1 rfl (Nat.le_of_ble_eq_true rfl) dX4_countFlow_15 ⟨Nat.zero_le _, Nat.zero_le _⟩ (fun r H locs hr hP hS => ?_)
        have hD : va_D A (jY cI cO g ro ((jmFW r9 a q9).2.1) ((jmFW r9 a q9).2.2) ++ jRI cI 16 16 ro r9) := jxD hD0 rfl
        subst hr
        refine lv_if_ne (tgt := 23) hx hb dX4_countFlow_18 (by decide) (fun c18 => ?_) (fun c18 => ?_)
        · have c18 := jB_1 c18
          refine lv_aload_n hx hb dX4_countFlow_23 rfl (lv_at hl 0 rfl) ?_
          refine lv_iload_n hx hb dX4_countFlow_24 rfl (lv_at hl 1 rfl) ?_
          refine lv_iload_n hx hb dX4_countFlow_25 rfl (lv_at hl 2 rfl) ?_
          refine jxw_callV (X := jY cI cO g ro ((jmFW r9 a q9).2.1) ((jmFW r9 a q9).2.2) ++ jRI cI 16 16 ro r9) (X' := jY cI cO g ro ((jmFW r9 a q9).2.1) ((jmFW r9 a q9).2.2) ++ jRI cI 16 16 ro (jmFlS ((jmFW r9 a q9).2.1) a o r9)) (wc := jY cI cO g ro ((jmFW r9 a q9).2.1) ((jmFW r9 a q9).2.2) ++ jRI cI 16 16 ro r9) (wc' := jY cI cO g ro ((jmFW r9 a q9).2.1) ((jmFW r9 a q9).2.2) ++ jRI cI 16 16 ro (jmFlS ((jmFW r9 a q9).2.1) a o r9)) (wr := []) (N := 20) (As := [.int (nI a), .int (nI o)]) (rest := []) ⟨hx, hb, hml, hown, hts⟩ (c_X4_fillWay l D cI cO g ro ((jmFW r9 a q9).2.1) ((jmFW r9 a q9).2.2) r9 H.size a o (by omega) (by omega) (jmFW_ok ha hq9).2.2) (cwV 2 hts gX4_countFlow_X4_fillWay rfl rfl rfl (by decide +kernel) ⟨Nat.le_of_ble_eq_true rfl, Nat.le_of_ble_eq_true rfl⟩) hN hP hD (hK.sub (tys' := [(cI, .int), (cO, .array .int)]) [0, 1] rfl) hS hA [0, 1, 2, 3, 4, 5, 6, 7, 8, 9, 10, 11, 12, 13, 14, 15, 16, 17, 18, 19] [] rfl rfl rfl rfl rfl rfl (by decide) (by decide) 0 4 rfl rfl rfl (hK.sub (tys' := [(cI, .int), (cO, .array .int)]) [0, 1] rfl) rfl hl.1 rfl (Nat.le_of_ble_eq_true rfl) dX4_countFlow_26 ⟨Nat.zero_le _, Nat.zero_le _⟩ (fun H locs hP hS => ?_)
          have hD : va_D A (jY cI cO g ro ((jmFW r9 a q9).2.1) ((jmFW r9 a q9).2.2) ++ jRI cI 16 16 ro (jmFlS ((jmFW r9 a q9).2.1) a o r9)) := jxD hD0 rfl
          refine lv_iinc (v := nI (fl + 1)) (lv' := [(3, .int (nI (fl + 1))), (0, .ref (g 20)), (1, .int (nI a)), (2, .int (nI o)), (4, .int (nI k1))]) hx hb dX4_countFlow_29 hl (k := 3) rfl (jx_inc _) (by decide) rfl (fun ls hl => ?_)
          refine lv_iinc (v := nI (k1 + 1)) (lv' := [(4, .int (nI (k1 + 1))), (3, .int (nI (fl + 1))), (0, .ref (g 20)), (1, .int (nI a)), (2, .int (nI o))]) hx hb dX4_countFlow_32 hl (k := 4) rfl (jx_inc _) (by decide) rfl (fun ls hl => ?_)
          refine lv_goto (tgt := 5) hx hb dX4_countFlow_35 (by decide) ?_
          exact ih5 (fl + 1) (k1 + 1) (jmFlS ((jmFW r9 a q9).2.1) a o r9) ((jmFW r9 a q9).2.1) ((jmFW r9 a q9).2.2) (by omega) (by omega) (jmFW_ok ha hq9).2.1 (by rw [hd, show 16 - k1 = (16 - (k1 + 1)) + 1 by omega, jmCF_go c18]) (by omega) H locs hP hS ls (lv_sub hl [2, 3, 4, 1, 0] rfl)
        · have c18 := jB_0 c18
          refine lv_iload_n hx hb dX4_countFlow_21 rfl (lv_at hl 3 rfl) ?_
          have ev_4 : (jmFW r9 a q9).2.1 = (jmCFS a o rm ca qu).2.2.1 := by first | (rw [jmCFS_eq, hd, show 16 - k1 = (16 - (k1 + 1)) + 1 by omega, jmCF_st c18]; done) | (rw [jmCFS_eq, hd, show 16 - k1 = 0 by omega]; done) | (rw [jmCFS_eq, hd, show 16 - k1 = (16 - (k1 + 1)) + 1 by omega, jmCF_st c18]; rfl) | (rw [jmCFS_eq, hd, show 16 - k1 = 0 by omega]; rfl)
          have ev_5 : (jmFW r9 a q9).2.2 = (jmCFS a o rm ca qu).2.2.2 := by first | (rw [jmCFS_eq, hd, show 16 - k1 = (16 - (k1 + 1)) + 1 by omega, jmCF_st c18]; done) | (rw [jmCFS_eq, hd, show 16 - k1 = 0 by omega]; done) | (rw [jmCFS_eq, hd, show 16 - k1 = (16 - (k1 + 1)) + 1 by omega, jmCF_st c18]; rfl) | (rw [jmCFS_eq, hd, show 16 - k1 = 0 by omega]; rfl)
          have ev_6 : r9 = (jmCFS a o rm ca qu).2.1 := by first | (rw [jmCFS_eq, hd, show 16 - k1 = (16 - (k1 + 1)) + 1 by omega, jmCF_st c18]; done) | (rw [jmCFS_eq, hd, show 16 - k1 = 0 by omega]; done) | (rw [jmCFS_eq, hd, show 16 - k1 = (16 - (k1 + 1)) + 1 by omega, jmCF_st c18]; rfl) | (rw [jmCFS_eq, hd, show 16 - k1 = 0 by omega]; rfl)
          exact hQ (nI fl) H locs _ _ dX4_countFlow_22 (by rw [jmCFS_eq, hd, show 16 - k1 = (16 - (k1 + 1)) + 1 by omega, jmCF_st c18]) (by rw [← ev_4, ← ev_5, ← ev_6]; exact hP) hS
  exact L5 ((16 - 0) + 1) 0 0 rm ca qu (by omega) (by omega) hqu rfl (Nat.lt_succ_self _) H locs hP hS ls (lv_sub hl [2, 3, 4, 1, 0] rfl)
