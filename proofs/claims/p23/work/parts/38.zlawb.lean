/-! own rows: the law's areOff and isParted, over the whole world -/
set_option maxHeartbeats 400000 in
set_option maxRecDepth 20000 in
theorem z_L_areOff (l : Launch) (D : va_G) (cI cO cM cL : ClassId) (g ro rt rd : Nat → Nat) (v : jZ) (t : jS) (sz : Nat) (hI : jzI v) (ht : jSok t) (a o gp : Nat) (ha : a < zP v) (ho : o < zP v) (hg : gp < 256) (hg1 : gp.testBit a = false) (hC : ¬ mc_C (zsm v) (zgr v) (jxAN (2 ^ zP v - 1) gp) (zst v) (zn v) a o) : jzCi (U := jZ × jS) l yL_areOff wsL_areOff ({ frames := 6, cells := 0, slots := 0, locals := 140 } : Room) D (jzT cI cO cM cL) (jzX cI cO cM cL g ro rt rd v t) [.ref (g 60), .int (nI a), .int (nI o), .int (nI gp)] sz (fun u => jzX cI cO cM cL g ro rt rd u.1 u.2) (fun r u => jSok u.2 ∧ v = u.1 ∧ r = nI 1) 0 0 := by
  refine jz_enterZ (by decide) rfl (Nat.le_of_ble_eq_true rfl) ?_
  intro p e s m args below meth c Q A ls hx hb hml hts hown hN hP hK hD hA hl hQ
  have hD0 := hD
  obtain ⟨H, hH⟩ : ∃ h, h = s.heap := ⟨_, rfl⟩
  have hS : va_S A s.heap H [] := by rw [hH]; exact va_S.rf
  rw [← hH] at hP ⊢
  obtain ⟨locs, hlocs⟩ : ∃ z : List Loc, z = [] := ⟨_, rfl⟩
  rw [← hlocs] at hS ⊢
  have hown : s.vm.findClass RL = some m.cls := hown
  have hl : lv_has ls 7 [(0, .ref (g 60)), (1, .int (nI a)), (2, .int (nI o)), (3, .int (nI gp))] := hl
  obtain ⟨hb1_v, hb2_v⟩ := jzI_b hI
  refine lv_iconst (v := nI 1) hx hb dL_areOff_0 (by decide) ?_
  refine lv_iload_n hx hb dL_areOff_1 rfl (lv_at hl 1 rfl) ?_
  refine lv_ishl hx hb dL_areOff_2 ?_
  refine jx_val (z := (nI (2 ^ a))) (jx_1shl (by omega)) ?_
  refine lv_istore (lv' := [(4, .int (nI (2 ^ a))), (0, .ref (g 60)), (1, .int (nI a)), (2, .int (nI o)), (3, .int (nI gp))]) hx hb dL_areOff_3 hl (by decide) rfl (fun ls hl => ?_)
  refine lv_iconst (v := nI 0) hx hb dL_areOff_5 (by decide) ?_
  refine lv_istore (lv' := [(5, .int (nI 0)), (4, .int (nI (2 ^ a))), (0, .ref (g 60)), (1, .int (nI a)), (2, .int (nI o)), (3, .int (nI gp))]) hx hb dL_areOff_6 hl (by decide) rfl (fun ls hl => ?_)
  have L8 : ∀ (k : Nat) (seen : Nat) (tA : jS) (tm : Nat) (hsn : jzSeen v a gp seen) (ht_tA : jSok tA) (htm : tm ≤ zP v), zP v - tm < k → ∀ (H : Heap) (locs : List Loc), va_P D vwCl (jzX cI cO cM cL g ro rt rd v tA) H → va_S A s.heap H locs → ∀ ls : Array Slot, lv_has ls 7 [(0, .ref (g 60)), (1, .int (nI a)), (2, .int (nI o)), (3, .int (nI gp)), (4, .int (nI seen)), (5, .int (nI tm))] → W p l e ({ frames := 6, cells := 0, slots := 0, locals := 140 } : Room) s m args below meth c H locs 0 0 Q (F0 m 8 ls []) := by
    intro k
    induction k with
    | zero => intro seen tA tm hsn ht_tA htm hk; exact absurd hk (Nat.not_lt_zero _)
    | succ k ih8 =>
      intro seen tA tm hsn ht_tA htm hk H locs hP hS ls hl
      have hD : va_D A (jzX cI cO cM cL g ro rt rd v tA) := jzD_any hD0
      have hs256 := hsn.1
      refine lv_iload hx hb dL_areOff_8 (lv_at hl 5 rfl) ?_
      refine lv_aload_n hx hb dL_areOff_10 rfl (lv_at hl 0 rfl) ?_
      refine lv_iconst (v := nI 0) hx hb dL_areOff_11 (by decide) ?_
      refine jz_askVi (v := v) (t := tA) (As := [.int (nI 0)]) (rest := [.int (nI tm)]) ⟨hx, hb, hml, hown, hts⟩ (z_X6_net l D cI cO cM cL g ro rt rd v tA _ (by assumption) (by assumption) 0 (by decide)) (cwV 1 hts gL_areOff_X6_net rfl rfl rfl (by decide +kernel) ⟨Nat.le_of_ble_eq_true rfl, Nat.le_of_ble_eq_true rfl⟩) hN hP hD hK hS hA rfl hl.1 rfl (Nat.le_of_ble_eq_true rfl) dL_areOff_12 ⟨Nat.zero_le _, Nat.zero_le _⟩ (fun t_1 H locs ht_t_1 hP hD hS => ?_)
      refine jx_val (z := (nI (zP v))) rfl ?_
      refine lv_icmp_ge (tgt := 70) hx hb dL_areOff_15 (by decide) (fun c15 => ?_) (fun c15 => ?_)
      · have c15 : zP v ≤ tm := jx_le (by omega) (by omega) c15
        refine lv_iload hx hb dL_areOff_70 (lv_at hl 4 rfl) ?_
        refine lv_iload_n hx hb dL_areOff_72 rfl (lv_at hl 2 rfl) ?_
        refine lv_ishr hx hb dL_areOff_73 ?_
        refine jx_val (z := (nI (seen / 2 ^ o))) (jx_shr (by omega) (by omega)) ?_
        refine lv_iconst (v := nI 1) hx hb dL_areOff_74 (by decide) ?_
        refine lv_iand hx hb dL_areOff_75 ?_
        refine jx_val (z := (nI (jB (Nat.testBit seen o)))) (jx_b1 _ _) ?_
        refine jx_val (z := (nI 0)) (by rw [jzSeen_o hsn hC]; rfl) ?_
        refine lv_if_ne (tgt := 83) hx hb dL_areOff_76 (by decide) (fun c => absurd c (by decide)) (fun _ => ?_)
        refine lv_iconst (v := nI 1) hx hb dL_areOff_79 (by decide) ?_
        refine lv_goto (tgt := 84) hx hb dL_areOff_80 (by decide) ?_
        exact hQ true (v, t_1) H locs _ _ dL_areOff_84 (show jSok t_1 ∧ v = v ∧ nI (jB true) = nI 1 from ⟨by assumption, rfl, rfl⟩) hP hS
      · have c15 : tm < zP v := jx_nle (by omega) (by omega) c15
        refine lv_iconst (v := nI 0) hx hb dL_areOff_18 (by decide) ?_
        refine lv_istore (lv' := [(6, .int (nI 0)), (0, .ref (g 60)), (1, .int (nI a)), (2, .int (nI o)), (3, .int (nI gp)), (4, .int (nI seen)), (5, .int (nI tm))]) hx hb dL_areOff_19 hl (by decide) rfl (fun ls hl => ?_)
        have L21 : ∀ (k : Nat) (seen : Nat) (tB : jS) (kk : Nat) (hsn : jzSeen v a gp seen) (ht_tB : jSok tB) (hkk : kk ≤ zP v), zP v - kk < k → ∀ (H : Heap) (locs : List Loc), va_P D vwCl (jzX cI cO cM cL g ro rt rd v tB) H → va_S A s.heap H locs → ∀ ls : Array Slot, lv_has ls 7 [(0, .ref (g 60)), (1, .int (nI a)), (2, .int (nI o)), (3, .int (nI gp)), (4, .int (nI seen)), (5, .int (nI tm)), (6, .int (nI kk))] → W p l e ({ frames := 6, cells := 0, slots := 0, locals := 140 } : Room) s m args below meth c H locs 0 0 Q (F0 m 21 ls []) := by
          intro k
          induction k with
          | zero => intro seen tB kk hsn ht_tB hkk hk; exact absurd hk (Nat.not_lt_zero _)
          | succ k ih21 =>
            intro seen tB kk hsn ht_tB hkk hk H locs hP hS ls hl
            have hD : va_D A (jzX cI cO cM cL g ro rt rd v tB) := jzD_any hD0
            have hs256 := hsn.1
            refine lv_iload hx hb dL_areOff_21 (lv_at hl 6 rfl) ?_
            refine lv_aload_n hx hb dL_areOff_23 rfl (lv_at hl 0 rfl) ?_
            refine lv_iconst (v := nI 0) hx hb dL_areOff_24 (by decide) ?_
            refine jz_askVi (v := v) (t := tB) (As := [.int (nI 0)]) (rest := [.int (nI kk)]) ⟨hx, hb, hml, hown, hts⟩ (z_X6_net l D cI cO cM cL g ro rt rd v tB _ (by assumption) (by assumption) 0 (by decide)) (cwV 1 hts gL_areOff_X6_net rfl rfl rfl (by decide +kernel) ⟨Nat.le_of_ble_eq_true rfl, Nat.le_of_ble_eq_true rfl⟩) hN hP hD hK hS hA rfl hl.1 rfl (Nat.le_of_ble_eq_true rfl) dL_areOff_25 ⟨Nat.zero_le _, Nat.zero_le _⟩ (fun t_2 H locs ht_t_2 hP hD hS => ?_)
            refine jx_val (z := (nI (zP v))) rfl ?_
            refine lv_icmp_ge (tgt := 64) hx hb dL_areOff_28 (by decide) (fun c28 => ?_) (fun c28 => ?_)
            · have c28 : zP v ≤ kk := jx_le (by omega) (by omega) c28
              refine lv_iinc (v := nI (tm + 1)) (lv' := [(5, .int (nI (tm + 1))), (0, .ref (g 60)), (1, .int (nI a)), (2, .int (nI o)), (3, .int (nI gp)), (4, .int (nI seen)), (6, .int (nI kk))]) hx hb dL_areOff_64 hl (k := 5) rfl (jx_inc _) (by decide) rfl (fun ls hl => ?_)
              refine lv_goto (tgt := 8) hx hb dL_areOff_67 (by decide) ?_
              exact ih8 seen t_2 (tm + 1) (by first | assumption | exact jzSeen_up hI hsn (by assumption)) (by assumption) (by omega) (by omega) H locs hP hS ls (lv_sub hl [1, 2, 3, 4, 5, 0] rfl)
            · have c28 : kk < zP v := jx_nle (by omega) (by omega) c28
              refine lv_iload hx hb dL_areOff_31 (lv_at hl 4 rfl) ?_
              refine lv_iload hx hb dL_areOff_33 (lv_at hl 6 rfl) ?_
              refine lv_ishr hx hb dL_areOff_35 ?_
              refine jx_val (z := (nI (seen / 2 ^ kk))) (jx_shr (by omega) (by omega)) ?_
              refine lv_iconst (v := nI 1) hx hb dL_areOff_36 (by decide) ?_
              refine lv_iand hx hb dL_areOff_37 ?_
              refine jx_val (z := (nI (jB (Nat.testBit seen kk)))) (jx_b1 _ _) ?_
              refine lv_iconst (v := nI 1) hx hb dL_areOff_38 (by decide) ?_
              refine lv_icmp_ne (tgt := 58) hx hb dL_areOff_39 (by decide) (fun c39 => ?_) (fun c39 => ?_)
              · have c39 := jB_n1 c39
                refine lv_iinc (v := nI (kk + 1)) (lv' := [(6, .int (nI (kk + 1))), (0, .ref (g 60)), (1, .int (nI a)), (2, .int (nI o)), (3, .int (nI gp)), (4, .int (nI seen)), (5, .int (nI tm))]) hx hb dL_areOff_58 hl (k := 6) rfl (jx_inc _) (by decide) rfl (fun ls hl => ?_)
                refine lv_goto (tgt := 21) hx hb dL_areOff_61 (by decide) ?_
                exact ih21 seen t_2 (kk + 1) (by first | assumption | exact jzSeen_up hI hsn (by assumption)) (by assumption) (by omega) (by omega) H locs hP hS ls (lv_sub hl [1, 2, 3, 4, 5, 6, 0] rfl)
              · have c39 := jB_e1 c39
                refine lv_iload hx hb dL_areOff_42 (lv_at hl 4 rfl) ?_
                refine lv_aload_n hx hb dL_areOff_44 rfl (lv_at hl 0 rfl) ?_
                refine lv_iload hx hb dL_areOff_45 (lv_at hl 6 rfl) ?_
                refine lv_iconst (v := nI 5) hx hb dL_areOff_47 (by decide) ?_
                refine jz_askVi (v := v) (t := t_2) (As := [.int (nI kk), .int (nI 5)]) (rest := [.int (nI seen)]) ⟨hx, hb, hml, hown, hts⟩ (z_X6_ofPoint l D cI cO cM cL g ro rt rd v t_2 _ (by assumption) (by assumption) kk (by omega) 5 (by decide)) (cwV 2 hts gL_areOff_X6_ofPoint rfl rfl rfl (by decide +kernel) ⟨Nat.le_of_ble_eq_true rfl, Nat.le_of_ble_eq_true rfl⟩) hN hP hD hK hS hA rfl hl.1 rfl (Nat.le_of_ble_eq_true rfl) dL_areOff_48 ⟨Nat.zero_le _, Nat.zero_le _⟩ (fun t_3 H locs ht_t_3 hP hD hS => ?_)
                refine jx_val (z := (nI (jmLinked (zen v) (zla v) (zst v) (zn v) kk))) rfl ?_
                refine lv_iload_n hx hb dL_areOff_51 rfl (lv_at hl 3 rfl) ?_
                refine lv_iconst (v := (-1)) hx hb dL_areOff_52 (by decide) ?_
                refine lv_ixor hx hb dL_areOff_53 ?_
                refine lv_iand hx hb dL_areOff_54 ?_
                refine jx_val (z := (nI (jxAN (jmLinked (zen v) (zla v) (zst v) (zn v) kk) gp))) (jx_not _ _) ?_
                refine lv_ior hx hb dL_areOff_55 ?_
                refine jx_val (z := (nI (seen ||| (jxAN (jmLinked (zen v) (zla v) (zst v) (zn v) kk) gp)))) (fa_or _ _) ?_
                refine lv_istore (lv' := [(4, .int (nI (seen ||| (jxAN (jmLinked (zen v) (zla v) (zst v) (zn v) kk) gp)))), (0, .ref (g 60)), (1, .int (nI a)), (2, .int (nI o)), (3, .int (nI gp)), (5, .int (nI tm)), (6, .int (nI kk))]) hx hb dL_areOff_56 hl (by decide) rfl (fun ls hl => ?_)
                refine lv_iinc (v := nI (kk + 1)) (lv' := [(6, .int (nI (kk + 1))), (4, .int (nI (seen ||| (jxAN (jmLinked (zen v) (zla v) (zst v) (zn v) kk) gp)))), (0, .ref (g 60)), (1, .int (nI a)), (2, .int (nI o)), (3, .int (nI gp)), (5, .int (nI tm))]) hx hb dL_areOff_58 hl (k := 6) rfl (jx_inc _) (by decide) rfl (fun ls hl => ?_)
                refine lv_goto (tgt := 21) hx hb dL_areOff_61 (by decide) ?_
                exact ih21 (seen ||| (jxAN (jmLinked (zen v) (zla v) (zst v) (zn v) kk) gp)) t_3 (kk + 1) (by first | assumption | exact jzSeen_up hI hsn (by assumption)) (by assumption) (by omega) (by omega) H locs hP hS ls (lv_sub hl [2, 3, 4, 5, 1, 6, 0] rfl)
        exact L21 ((zP v - 0) + 1) seen t_1 0 (by first | assumption | exact jzSeen_0 hI ha hg1 | exact jzSeen_up hI hsn (by assumption)) (by assumption) (by omega) (Nat.lt_succ_self _) H locs hP hS ls (lv_sub hl [1, 2, 3, 4, 5, 6, 0] rfl)
  exact L8 ((zP v - 0) + 1) (2 ^ a) t 0 (by first | assumption | exact jzSeen_0 hI ha hg1 | exact jzSeen_up hI hsn (by assumption)) (by assumption) (by omega) (Nat.lt_succ_self _) H locs hP hS ls (lv_sub hl [2, 3, 4, 5, 1, 0] rfl)

theorem jz_nm1 {n : Nat} (h : n < 2 ^ 31) : ¬ nI n = (-1 : Int32) := fun e => nI_pos h (by rw [e]; decide)

set_option maxHeartbeats 400000 in
set_option maxRecDepth 20000 in
theorem z_L_isPartedL (l : Launch) (D : va_G) (cI cO cM cL : ClassId) (g ro rt rd : Nat → Nat) (v : jZ) (t : jS) (sz : Nat) (hI : jzI v) (ht : jSok t) (a o : Nat) (ha : a < zP v) (ho : o < zP v) (hao : a ≠ o) (hlk : (jmLinked (zen v) (zla v) (zst v) (zn v) a).testBit o = true) : jzCi (U := jZ × jS) l yL_isParted wsL_isParted ({ frames := 8, cells := 0, slots := 0, locals := 180 } : Room) D (jzT cI cO cM cL) (jzX cI cO cM cL g ro rt rd v t) [.ref (g 60), .int (nI a), .int (nI o)] sz (fun u => jzX cI cO cM cL g ro rt rd u.1 u.2) (fun r u => jSok u.2 ∧ v = u.1 ∧ r = nI 1) 0 0 := by
  refine jz_enterZ (by decide) rfl (Nat.le_of_ble_eq_true rfl) ?_
  intro p e s m args below meth c Q A ls hx hb hml hts hown hN hP hK hD hA hl hQ
  have hD0 := hD
  obtain ⟨H, hH⟩ : ∃ h, h = s.heap := ⟨_, rfl⟩
  have hS : va_S A s.heap H [] := by rw [hH]; exact va_S.rf
  rw [← hH] at hP ⊢
  obtain ⟨locs, hlocs⟩ : ∃ z : List Loc, z = [] := ⟨_, rfl⟩
  rw [← hlocs] at hS ⊢
  have hown : s.vm.findClass RL = some m.cls := hown
  have hl : lv_has ls 11 [(0, .ref (g 60)), (1, .int (nI a)), (2, .int (nI o))] := hl
  obtain ⟨hb1_v, hb2_v⟩ := jzI_b hI
  obtain ⟨p1, p2, p3, p4, p5, p6, p7, p8, p9, p10⟩ := jz_pair hI ha ho hao
  obtain ⟨W9, eW⟩ : ∃ y, y = jmWy (zsm v) (zgr v) (zst v) (zP v) (zn v) a o := ⟨_, rfl⟩
  obtain ⟨L9, eL⟩ : ∃ y, y = jmLy (zsm v) (zgr v) (zst v) (zn v) a o := ⟨_, rfl⟩
  obtain ⟨S9, eS⟩ : ∃ y, y = jmSide (zla v) (zP v) (zst v) a o := ⟨_, rfl⟩
  rw [← eS] at p3 p4 p5 p6 p7 p8
  obtain ⟨T9, eT⟩ : ∃ y, y = jmOut (zla v) (zst v) S9 (zP v) := ⟨_, rfl⟩
  rw [← eT] at p3 p7 p8
  rw [← eL] at p1 p2 p3 p8 p9 p10
  rw [← eW] at p1
  have hT16 : T9 < 65536 := Nat.lt_of_lt_of_le p7 (Nat.pow_le_pow_right (n := 2) (j := 16) (by decide) hb2_v)
  have hd1 := jmPop_le (zla v a &&& zst v)
  have hd2 := jmPop_le (zla v o &&& zst v)
  have hcp := jmCPc_le (en := zen v) (wi := jxAN (2 ^ zP v - 1) 0) (b := jxAN (zst v) T9) (n := zn v) (zP v)
  have hfp9 := (jzI_more hI).1
  have p8a := Nat.le_trans (Nat.le_add_right _ _) p8
  have p8b : 0 < L9 → zfp v + 1 ≤ jmCPc (zen v) (jxAN (2 ^ zP v - 1) 0) (jxAN (zst v) T9) (zn v) (zP v) := fun h => by rw [if_pos h] at p8; exact p8
  have hlk9 := jmLinked_lt (en := zen v) (la := zla v) (st := zst v) (n := zn v) (q := a) (jmWF_en hI.1.1)
  obtain ⟨q1, q2, q3⟩ := jz_pairL hI ha ho hao hlk
  rw [← eW] at q3
  refine lv_aload_n hx hb dL_isParted_0 rfl (lv_at hl 0 rfl) ?_
  refine lv_iload_n hx hb dL_isParted_1 rfl (lv_at hl 1 rfl) ?_
  refine lv_iload_n hx hb dL_isParted_2 rfl (lv_at hl 2 rfl) ?_
  refine lv_iconst (v := nI 0) hx hb dL_isParted_3 (by decide) ?_
  refine jz_askVi (v := v) (t := t) (As := [.int (nI a), .int (nI o), .int (nI 0)]) (rest := []) ⟨hx, hb, hml, hown, hts⟩ (z_X6_between l D cI cO cM cL g ro rt rd v t _ (by assumption) (by assumption) a o (by omega) (by omega) (by omega) 0 (by decide)) (cwV 3 hts gL_isParted_X6_between rfl rfl rfl (by decide +kernel) ⟨Nat.le_of_ble_eq_true rfl, Nat.le_of_ble_eq_true rfl⟩) hN hP hD hK hS hA rfl hl.1 rfl (Nat.le_of_ble_eq_true rfl) dL_isParted_4 ⟨Nat.zero_le _, Nat.zero_le _⟩ (fun t_1 H locs ht_t_1 hP hD hS => ?_)
  refine jx_val (z := (nI W9)) (show nI (jmWy (zsm v) (zgr v) (zst v) (zP v) (zn v) a o) = nI W9 by rw [eW]) ?_
  refine lv_istore_n (lv' := [(3, .int (nI W9)), (0, .ref (g 60)), (1, .int (nI a)), (2, .int (nI o))]) hx hb dL_isParted_7 rfl hl (by decide) rfl (fun ls hl => ?_)
  refine lv_aload_n hx hb dL_isParted_8 rfl (lv_at hl 1 rfl) ?_
  refine lv_iload_n hx hb dL_isParted_9 rfl (lv_at hl 2 rfl) ?_
  refine lv_iload_n hx hb dL_isParted_10 rfl (lv_at hl 3 rfl) ?_
  refine lv_iconst (v := nI 1) hx hb dL_isParted_11 (by decide) ?_
  refine jz_askVi (v := v) (t := t_1) (As := [.int (nI a), .int (nI o), .int (nI 1)]) (rest := []) ⟨hx, hb, hml, hown, hts⟩ (z_X6_between l D cI cO cM cL g ro rt rd v t_1 _ (by assumption) (by assumption) a o (by omega) (by omega) (by omega) 1 (by decide)) (cwV 3 hts gL_isParted_X6_between rfl rfl rfl (by decide +kernel) ⟨Nat.le_of_ble_eq_true rfl, Nat.le_of_ble_eq_true rfl⟩) hN hP hD hK hS hA rfl hl.1 rfl (Nat.le_of_ble_eq_true rfl) dL_isParted_12 ⟨Nat.zero_le _, Nat.zero_le _⟩ (fun t_2 H locs ht_t_2 hP hD hS => ?_)
  refine jx_val (z := (nI L9)) (show nI (jmLy (zsm v) (zgr v) (zst v) (zn v) a o) = nI L9 by rw [eL]) ?_
  refine lv_istore (lv' := [(4, .int (nI L9)), (3, .int (nI W9)), (0, .ref (g 60)), (1, .int (nI a)), (2, .int (nI o))]) hx hb dL_isParted_15 hl (by decide) rfl (fun ls hl => ?_)
  refine lv_aload_n hx hb dL_isParted_17 rfl (lv_at hl 2 rfl) ?_
  refine lv_iload_n hx hb dL_isParted_18 rfl (lv_at hl 3 rfl) ?_
  refine lv_iload_n hx hb dL_isParted_19 rfl (lv_at hl 4 rfl) ?_
  refine lv_iconst (v := nI 3) hx hb dL_isParted_20 (by decide) ?_
  refine jz_askVi (v := v) (t := t_2) (As := [.int (nI a), .int (nI o), .int (nI 3)]) (rest := []) ⟨hx, hb, hml, hown, hts⟩ (z_X6_between l D cI cO cM cL g ro rt rd v t_2 _ (by assumption) (by assumption) a o (by omega) (by omega) (by omega) 3 (by decide)) (cwV 3 hts gL_isParted_X6_between rfl rfl rfl (by decide +kernel) ⟨Nat.le_of_ble_eq_true rfl, Nat.le_of_ble_eq_true rfl⟩) hN hP hD hK hS hA rfl hl.1 rfl (Nat.le_of_ble_eq_true rfl) dL_isParted_21 ⟨Nat.zero_le _, Nat.zero_le _⟩ (fun t_3 H locs ht_t_3 hP hD hS => ?_)
  refine jx_val (z := (-1 : Int32)) q1 ?_
  refine lv_istore (lv' := [(5, .int (-1 : Int32)), (4, .int (nI L9)), (3, .int (nI W9)), (0, .ref (g 60)), (1, .int (nI a)), (2, .int (nI o))]) hx hb dL_isParted_24 hl (by decide) rfl (fun ls hl => ?_)
  refine lv_aload_n hx hb dL_isParted_26 rfl (lv_at hl 3 rfl) ?_
  refine lv_iload_n hx hb dL_isParted_27 rfl (lv_at hl 4 rfl) ?_
  refine lv_iload_n hx hb dL_isParted_28 rfl (lv_at hl 5 rfl) ?_
  refine lv_iconst (v := nI 4) hx hb dL_isParted_29 (by decide) ?_
  refine jz_askVi (v := v) (t := t_3) (As := [.int (nI a), .int (nI o), .int (nI 4)]) (rest := []) ⟨hx, hb, hml, hown, hts⟩ (z_X6_between l D cI cO cM cL g ro rt rd v t_3 _ (by assumption) (by assumption) a o (by omega) (by omega) (by omega) 4 (by decide)) (cwV 3 hts gL_isParted_X6_between rfl rfl rfl (by decide +kernel) ⟨Nat.le_of_ble_eq_true rfl, Nat.le_of_ble_eq_true rfl⟩) hN hP hD hK hS hA rfl hl.1 rfl (Nat.le_of_ble_eq_true rfl) dL_isParted_30 ⟨Nat.zero_le _, Nat.zero_le _⟩ (fun t_4 H locs ht_t_4 hP hD hS => ?_)
  refine jx_val (z := (nI S9)) (show nI (jmSide (zla v) (zP v) (zst v) a o) = nI S9 by rw [eS]) ?_
  refine lv_istore (lv' := [(6, .int (nI S9)), (5, .int (-1 : Int32)), (4, .int (nI L9)), (3, .int (nI W9)), (0, .ref (g 60)), (1, .int (nI a)), (2, .int (nI o))]) hx hb dL_isParted_33 hl (by decide) rfl (fun ls hl => ?_)
  refine lv_aload_n hx hb dL_isParted_35 rfl (lv_at hl 4 rfl) ?_
  refine lv_iload_n hx hb dL_isParted_36 rfl (lv_at hl 5 rfl) ?_
  refine lv_iload_n hx hb dL_isParted_37 rfl (lv_at hl 6 rfl) ?_
  refine lv_iconst (v := nI 5) hx hb dL_isParted_38 (by decide) ?_
  refine jz_askVi (v := v) (t := t_4) (As := [.int (nI a), .int (nI o), .int (nI 5)]) (rest := []) ⟨hx, hb, hml, hown, hts⟩ (z_X6_between l D cI cO cM cL g ro rt rd v t_4 _ (by assumption) (by assumption) a o (by omega) (by omega) (by omega) 5 (by decide)) (cwV 3 hts gL_isParted_X6_between rfl rfl rfl (by decide +kernel) ⟨Nat.le_of_ble_eq_true rfl, Nat.le_of_ble_eq_true rfl⟩) hN hP hD hK hS hA rfl hl.1 rfl (Nat.le_of_ble_eq_true rfl) dL_isParted_39 ⟨Nat.zero_le _, Nat.zero_le _⟩ (fun t_5 H locs ht_t_5 hP hD hS => ?_)
  refine jx_val (z := (nI T9)) (show nI (jmOut (zla v) (zst v) (jmSide (zla v) (zP v) (zst v) a o) (zP v)) = nI T9 by rw [← eS, ← eT]) ?_
  refine lv_istore (lv' := [(7, .int (nI T9)), (6, .int (nI S9)), (5, .int (-1 : Int32)), (4, .int (nI L9)), (3, .int (nI W9)), (0, .ref (g 60)), (1, .int (nI a)), (2, .int (nI o))]) hx hb dL_isParted_42 hl (by decide) rfl (fun ls hl => ?_)
  refine lv_aload_n hx hb dL_isParted_44 rfl (lv_at hl 5 rfl) ?_
  refine lv_iload_n hx hb dL_isParted_45 rfl (lv_at hl 6 rfl) ?_
  refine lv_iconst (v := nI 5) hx hb dL_isParted_46 (by decide) ?_
  refine jz_askVi (v := v) (t := t_5) (As := [.int (nI a), .int (nI 5)]) (rest := []) ⟨hx, hb, hml, hown, hts⟩ (z_X6_ofPoint l D cI cO cM cL g ro rt rd v t_5 _ (by assumption) (by assumption) a (by omega) 5 (by decide)) (cwV 2 hts gL_isParted_X6_ofPoint rfl rfl rfl (by decide +kernel) ⟨Nat.le_of_ble_eq_true rfl, Nat.le_of_ble_eq_true rfl⟩) hN hP hD hK hS hA rfl hl.1 rfl (Nat.le_of_ble_eq_true rfl) dL_isParted_47 ⟨Nat.zero_le _, Nat.zero_le _⟩ (fun t_6 H locs ht_t_6 hP hD hS => ?_)
  refine jx_val (z := (nI (jmLinked (zen v) (zla v) (zst v) (zn v) a))) rfl ?_
  refine lv_iload_n hx hb dL_isParted_50 rfl (lv_at hl 7 rfl) ?_
  refine lv_ishr hx hb dL_isParted_51 ?_
  refine jx_val (z := (nI ((jmLinked (zen v) (zla v) (zst v) (zn v) a) / 2 ^ o))) (jx_shr (by omega) (by omega)) ?_
  refine lv_iconst (v := nI 1) hx hb dL_isParted_52 (by decide) ?_
  refine lv_iand hx hb dL_isParted_53 ?_
  refine jx_val (z := (nI (jB (Nat.testBit (jmLinked (zen v) (zla v) (zst v) (zn v) a) o)))) (jx_b1 _ _) ?_
  refine jx_val (z := (nI 1)) (by rw [hlk]; rfl) ?_
  refine lv_iconst (v := nI 1) hx hb dL_isParted_54 (by decide) ?_
  refine lv_icmp_ne (tgt := 62) hx hb dL_isParted_55 (by decide) (fun c => absurd c (by decide)) (fun _ => ?_)
  refine lv_iconst (v := nI 1) hx hb dL_isParted_58 (by decide) ?_
  refine lv_goto (tgt := 63) hx hb dL_isParted_59 (by decide) ?_
  refine lv_istore (lv' := [(8, .int (nI 1)), (7, .int (nI T9)), (6, .int (nI S9)), (5, .int (-1 : Int32)), (4, .int (nI L9)), (3, .int (nI W9)), (0, .ref (g 60)), (1, .int (nI a)), (2, .int (nI o))]) hx hb dL_isParted_63 hl (by decide) rfl (fun ls hl => ?_)
  refine lv_iload hx hb dL_isParted_65 (lv_at hl 0 rfl) ?_
  refine lv_iload hx hb dL_isParted_67 (lv_at hl 3 rfl) ?_
  refine lv_iconst (v := (-1)) hx hb dL_isParted_69 (by decide) ?_
  refine lv_icmp_ne (tgt := 77) hx hb dL_isParted_70 (by decide) (fun c => absurd c (fun h => h rfl)) (fun c => ?_)
  refine lv_iconst (v := nI 1) hx hb dL_isParted_73 (by decide) ?_
  refine lv_goto (tgt := 78) hx hb dL_isParted_74 (by decide) ?_
  refine lv_icmp_ne (tgt := 116) hx hb dL_isParted_78 (by decide) (fun c => absurd c (by decide)) (fun _ => ?_)
  refine lv_iload_n hx hb dL_isParted_81 rfl (lv_at hl 5 rfl) ?_
  refine lv_iload hx hb dL_isParted_82 (lv_at hl 4 rfl) ?_
  refine lv_icmp_gt (tgt := 116) hx hb dL_isParted_84 (by decide) (fun c => absurd c (nI_nlt p1 (by omega))) (fun c => ?_)
  refine lv_iload hx hb dL_isParted_87 (lv_at hl 4 rfl) ?_
  refine lv_iload hx hb dL_isParted_89 (lv_at hl 1 rfl) ?_
  refine jz_pureSi (X := jzX cI cO cM cL g ro rt rd v t_6) (As := [.int (nI T9)]) (rest := [.int (nI L9)]) ⟨hx, hb, hml, hown, hts⟩ (z_bitCount l D (jzT cI cO cM cL) (jzX cI cO cM cL g ro rt rd v t_6) _ T9 (by omega)) (va_cwS 1 hts gL_isParted_J6_bitCount_0f7a4 rfl rfl rfl (by decide +kernel) ⟨Nat.le_of_ble_eq_true rfl, Nat.le_of_ble_eq_true rfl⟩) hN hP hD hK hS hA rfl hl.1 rfl (Nat.le_of_ble_eq_true rfl) dL_isParted_91 ⟨Nat.zero_le _, Nat.zero_le _⟩ (fun r H locs hr hP hS => ?_)
  subst hr
  refine lv_icmp_ne (tgt := 116) hx hb dL_isParted_94 (by decide) (fun c => absurd c (fun h => h (congrArg nI p3))) (fun c => ?_)
  refine lv_iload hx hb dL_isParted_97 (lv_at hl 2 rfl) ?_
  refine lv_iload_n hx hb dL_isParted_99 rfl (lv_at hl 7 rfl) ?_
  refine lv_ishr hx hb dL_isParted_100 ?_
  refine jx_val (z := (nI (S9 / 2 ^ a))) (jx_shr (by omega) (by omega)) ?_
  refine lv_iconst (v := nI 1) hx hb dL_isParted_101 (by decide) ?_
  refine lv_iand hx hb dL_isParted_102 ?_
  refine jx_val (z := (nI (jB (Nat.testBit S9 a)))) (jx_b1 _ _) ?_
  refine jx_val (z := (nI 1)) (by rw [p4]; rfl) ?_
  refine lv_if_eq (tgt := 116) hx hb dL_isParted_103 (by decide) (fun c => absurd c (by decide)) (fun _ => ?_)
  refine lv_iload hx hb dL_isParted_106 (lv_at hl 2 rfl) ?_
  refine lv_iload_n hx hb dL_isParted_108 rfl (lv_at hl 8 rfl) ?_
  refine lv_ishr hx hb dL_isParted_109 ?_
  refine jx_val (z := (nI (S9 / 2 ^ o))) (jx_shr (by omega) (by omega)) ?_
  refine lv_iconst (v := nI 1) hx hb dL_isParted_110 (by decide) ?_
  refine lv_iand hx hb dL_isParted_111 ?_
  refine jx_val (z := (nI (jB (Nat.testBit S9 o)))) (jx_b1 _ _) ?_
  refine jx_val (z := (nI 0)) (by rw [p5]; rfl) ?_
  refine lv_iconst (v := nI 1) hx hb dL_isParted_112 (by decide) ?_
  refine lv_icmp_ne (tgt := 118) hx hb dL_isParted_113 (by decide) (fun _ => ?_) (fun c => absurd c (by decide))
  refine lv_aload_n hx hb dL_isParted_118 rfl (lv_at hl 6 rfl) ?_
  refine lv_iconst (v := nI 0) hx hb dL_isParted_119 (by decide) ?_
  refine lv_iload hx hb dL_isParted_120 (lv_at hl 1 rfl) ?_
  refine jz_askVi (v := v) (t := t_6) (As := [.int (nI 0), .int (nI T9)]) (rest := []) ⟨hx, hb, hml, hown, hts⟩ (z_X6_without l D cI cO cM cL g ro rt rd v t_6 _ (by assumption) (by assumption) 0 T9 (by first | assumption | exact Nat.two_pow_pos _) (by first | assumption | exact Nat.two_pow_pos _)) (cwV 2 hts gL_isParted_X6_without rfl rfl rfl (by decide +kernel) ⟨Nat.le_of_ble_eq_true rfl, Nat.le_of_ble_eq_true rfl⟩) hN hP hD hK hS hA rfl hl.1 rfl (Nat.le_of_ble_eq_true rfl) dL_isParted_122 ⟨Nat.zero_le _, Nat.zero_le _⟩ (fun t_8 H locs ht_t_8 hP hD hS => ?_)
  refine lv_istore (lv' := [(9, .int (nI (jmCPc (zen v) (jxAN (2 ^ zP v - 1) 0) (jxAN (zst v) T9) (zn v) (zP v)))), (8, .int (nI 1)), (7, .int (nI T9)), (6, .int (nI S9)), (5, .int (-1 : Int32)), (4, .int (nI L9)), (3, .int (nI W9)), (0, .ref (g 60)), (1, .int (nI a)), (2, .int (nI o))]) hx hb dL_isParted_125 hl (by decide) rfl (fun ls hl => ?_)
  refine lv_iload hx hb dL_isParted_127 (lv_at hl 0 rfl) ?_
  refine lv_aload_n hx hb dL_isParted_129 rfl (lv_at hl 7 rfl) ?_
  refine lv_iconst (v := nI 3) hx hb dL_isParted_130 (by decide) ?_
  refine jz_askVi (v := v) (t := t_8) (As := [.int (nI 3)]) (rest := [.int (nI (jmCPc (zen v) (jxAN (2 ^ zP v - 1) 0) (jxAN (zst v) T9) (zn v) (zP v)))]) ⟨hx, hb, hml, hown, hts⟩ (z_X6_net l D cI cO cM cL g ro rt rd v t_8 _ (by assumption) (by assumption) 3 (by decide)) (cwV 1 hts gL_isParted_X6_net rfl rfl rfl (by decide +kernel) ⟨Nat.le_of_ble_eq_true rfl, Nat.le_of_ble_eq_true rfl⟩) hN hP hD hK hS hA rfl hl.1 rfl (Nat.le_of_ble_eq_true rfl) dL_isParted_131 ⟨Nat.zero_le _, Nat.zero_le _⟩ (fun t_9 H locs ht_t_9 hP hD hS => ?_)
  refine jx_val (z := (nI (zfp v))) rfl ?_
  refine lv_iload hx hb dL_isParted_134 (lv_at hl 5 rfl) ?_
  refine lv_if_le (tgt := 143) hx hb dL_isParted_136 (by decide) (fun c136 => ?_) (fun c136 => ?_)
  · have c136 : L9 = 0 := by have := jx_le (a := L9) (b := 0) (by omega) (by decide) (by rw [nI_0]; exact c136); omega
    refine lv_iconst (v := nI 0) hx hb dL_isParted_143 (by decide) ?_
    refine lv_iadd hx hb dL_isParted_144 ?_
    refine jx_val (z := (nI (zfp v + 0))) (nI_add _ _) ?_
    refine lv_icmp_lt (tgt := 170) hx hb dL_isParted_145 (by decide) (fun c => absurd c (nI_nlt (by omega) (by omega))) (fun c => ?_)
    refine lv_iload hx hb dL_isParted_148 (lv_at hl 5 rfl) ?_
    refine lv_aload_n hx hb dL_isParted_150 rfl (lv_at hl 7 rfl) ?_
    refine lv_iload_n hx hb dL_isParted_151 rfl (lv_at hl 8 rfl) ?_
    refine lv_iconst (v := nI 1) hx hb dL_isParted_152 (by decide) ?_
    refine jz_askVi (v := v) (t := t_9) (As := [.int (nI a), .int (nI 1)]) (rest := [.int (nI L9)]) ⟨hx, hb, hml, hown, hts⟩ (z_X6_ofPoint l D cI cO cM cL g ro rt rd v t_9 _ (by assumption) (by assumption) a (by omega) 1 (by decide)) (cwV 2 hts gL_isParted_X6_ofPoint rfl rfl rfl (by decide +kernel) ⟨Nat.le_of_ble_eq_true rfl, Nat.le_of_ble_eq_true rfl⟩) hN hP hD hK hS hA rfl hl.1 rfl (Nat.le_of_ble_eq_true rfl) dL_isParted_153 ⟨Nat.zero_le _, Nat.zero_le _⟩ (fun t_10 H locs ht_t_10 hP hD hS => ?_)
    refine jx_val (z := (nI (jmPop (zla v a &&& zst v)))) rfl ?_
    refine lv_icmp_gt (tgt := 170) hx hb dL_isParted_156 (by decide) (fun c => absurd c (nI_nlt p9 (by omega))) (fun c => ?_)
    refine lv_iload hx hb dL_isParted_159 (lv_at hl 5 rfl) ?_
    refine lv_aload_n hx hb dL_isParted_161 rfl (lv_at hl 7 rfl) ?_
    refine lv_iload_n hx hb dL_isParted_162 rfl (lv_at hl 9 rfl) ?_
    refine lv_iconst (v := nI 1) hx hb dL_isParted_163 (by decide) ?_
    refine jz_askVi (v := v) (t := t_10) (As := [.int (nI o), .int (nI 1)]) (rest := [.int (nI L9)]) ⟨hx, hb, hml, hown, hts⟩ (z_X6_ofPoint l D cI cO cM cL g ro rt rd v t_10 _ (by assumption) (by assumption) o (by omega) 1 (by decide)) (cwV 2 hts gL_isParted_X6_ofPoint rfl rfl rfl (by decide +kernel) ⟨Nat.le_of_ble_eq_true rfl, Nat.le_of_ble_eq_true rfl⟩) hN hP hD hK hS hA rfl hl.1 rfl (Nat.le_of_ble_eq_true rfl) dL_isParted_164 ⟨Nat.zero_le _, Nat.zero_le _⟩ (fun t_11 H locs ht_t_11 hP hD hS => ?_)
    refine jx_val (z := (nI (jmPop (zla v o &&& zst v)))) rfl ?_
    refine lv_icmp_le (tgt := 172) hx hb dL_isParted_167 (by decide) (fun c => ?_) (fun c => absurd c (fun h => h (nI_le p10 (by omega))))
    refine lv_iload hx hb dL_isParted_172 (lv_at hl 1 rfl) ?_
    refine lv_if_eq (tgt := 198) hx hb dL_isParted_174 (by decide) (fun c => absurd c (by decide)) (fun _ => ?_)
    refine lv_aload_n hx hb dL_isParted_177 rfl (lv_at hl 7 rfl) ?_
    refine lv_iload_n hx hb dL_isParted_178 rfl (lv_at hl 8 rfl) ?_
    refine lv_iload_n hx hb dL_isParted_179 rfl (lv_at hl 9 rfl) ?_
    refine lv_iconst (v := nI 2) hx hb dL_isParted_180 (by decide) ?_
    refine jz_askVi (v := v) (t := t_11) (As := [.int (nI a), .int (nI o), .int (nI 2)]) (rest := []) ⟨hx, hb, hml, hown, hts⟩ (z_X6_between l D cI cO cM cL g ro rt rd v t_11 _ (by assumption) (by assumption) a o (by omega) (by omega) (by omega) 2 (by decide)) (cwV 3 hts gL_isParted_X6_between rfl rfl rfl (by decide +kernel) ⟨Nat.le_of_ble_eq_true rfl, Nat.le_of_ble_eq_true rfl⟩) hN hP hD hK hS hA rfl hl.1 rfl (Nat.le_of_ble_eq_true rfl) dL_isParted_181 ⟨Nat.zero_le _, Nat.zero_le _⟩ (fun t_12 H locs ht_t_12 hP hD hS => ?_)
    refine jx_val (z := (nI 1)) q2 ?_
    refine lv_iconst (v := nI 1) hx hb dL_isParted_184 (by decide) ?_
    refine lv_icmp_ne (tgt := 196) hx hb dL_isParted_185 (by decide) (fun c => absurd c (by decide)) (fun _ => ?_)
    refine lv_iload_n hx hb dL_isParted_188 rfl (lv_at hl 6 rfl) ?_
    refine lv_if_le (tgt := 196) hx hb dL_isParted_189 (by decide) (fun c => absurd c (nI_nle q3 (by omega))) (fun c => ?_)
    refine lv_iconst (v := nI 1) hx hb dL_isParted_192 (by decide) ?_
    refine lv_goto (tgt := 197) hx hb dL_isParted_193 (by decide) ?_
    exact hQ true (v, t_12) H locs _ _ dL_isParted_197 (show jSok t_12 ∧ v = v ∧ nI (jB true) = nI 1 from ⟨by assumption, rfl, rfl⟩) hP hS
  · have c136 : 0 < L9 := by have := jx_nle (a := L9) (b := 0) (by omega) (by decide) (by rw [nI_0]; exact c136); omega
    refine lv_iconst (v := nI 1) hx hb dL_isParted_139 (by decide) ?_
    refine lv_goto (tgt := 144) hx hb dL_isParted_140 (by decide) ?_
    refine lv_iadd hx hb dL_isParted_144 ?_
    refine jx_val (z := (nI (zfp v + 1))) (nI_add _ _) ?_
    refine lv_icmp_lt (tgt := 170) hx hb dL_isParted_145 (by decide) (fun c => absurd c (nI_nlt (by omega) (by omega))) (fun c => ?_)
    refine lv_iload hx hb dL_isParted_148 (lv_at hl 5 rfl) ?_
    refine lv_aload_n hx hb dL_isParted_150 rfl (lv_at hl 7 rfl) ?_
    refine lv_iload_n hx hb dL_isParted_151 rfl (lv_at hl 8 rfl) ?_
    refine lv_iconst (v := nI 1) hx hb dL_isParted_152 (by decide) ?_
    refine jz_askVi (v := v) (t := t_9) (As := [.int (nI a), .int (nI 1)]) (rest := [.int (nI L9)]) ⟨hx, hb, hml, hown, hts⟩ (z_X6_ofPoint l D cI cO cM cL g ro rt rd v t_9 _ (by assumption) (by assumption) a (by omega) 1 (by decide)) (cwV 2 hts gL_isParted_X6_ofPoint rfl rfl rfl (by decide +kernel) ⟨Nat.le_of_ble_eq_true rfl, Nat.le_of_ble_eq_true rfl⟩) hN hP hD hK hS hA rfl hl.1 rfl (Nat.le_of_ble_eq_true rfl) dL_isParted_153 ⟨Nat.zero_le _, Nat.zero_le _⟩ (fun t_13 H locs ht_t_13 hP hD hS => ?_)
    refine jx_val (z := (nI (jmPop (zla v a &&& zst v)))) rfl ?_
    refine lv_icmp_gt (tgt := 170) hx hb dL_isParted_156 (by decide) (fun c => absurd c (nI_nlt p9 (by omega))) (fun c => ?_)
    refine lv_iload hx hb dL_isParted_159 (lv_at hl 5 rfl) ?_
    refine lv_aload_n hx hb dL_isParted_161 rfl (lv_at hl 7 rfl) ?_
    refine lv_iload_n hx hb dL_isParted_162 rfl (lv_at hl 9 rfl) ?_
    refine lv_iconst (v := nI 1) hx hb dL_isParted_163 (by decide) ?_
    refine jz_askVi (v := v) (t := t_13) (As := [.int (nI o), .int (nI 1)]) (rest := [.int (nI L9)]) ⟨hx, hb, hml, hown, hts⟩ (z_X6_ofPoint l D cI cO cM cL g ro rt rd v t_13 _ (by assumption) (by assumption) o (by omega) 1 (by decide)) (cwV 2 hts gL_isParted_X6_ofPoint rfl rfl rfl (by decide +kernel) ⟨Nat.le_of_ble_eq_true rfl, Nat.le_of_ble_eq_true rfl⟩) hN hP hD hK hS hA rfl hl.1 rfl (Nat.le_of_ble_eq_true rfl) dL_isParted_164 ⟨Nat.zero_le _, Nat.zero_le _⟩ (fun t_14 H locs ht_t_14 hP hD hS => ?_)
    refine jx_val (z := (nI (jmPop (zla v o &&& zst v)))) rfl ?_
    refine lv_icmp_le (tgt := 172) hx hb dL_isParted_167 (by decide) (fun c => ?_) (fun c => absurd c (fun h => h (nI_le p10 (by omega))))
    refine lv_iload hx hb dL_isParted_172 (lv_at hl 1 rfl) ?_
    refine lv_if_eq (tgt := 198) hx hb dL_isParted_174 (by decide) (fun c => absurd c (by decide)) (fun _ => ?_)
    refine lv_aload_n hx hb dL_isParted_177 rfl (lv_at hl 7 rfl) ?_
    refine lv_iload_n hx hb dL_isParted_178 rfl (lv_at hl 8 rfl) ?_
    refine lv_iload_n hx hb dL_isParted_179 rfl (lv_at hl 9 rfl) ?_
    refine lv_iconst (v := nI 2) hx hb dL_isParted_180 (by decide) ?_
    refine jz_askVi (v := v) (t := t_14) (As := [.int (nI a), .int (nI o), .int (nI 2)]) (rest := []) ⟨hx, hb, hml, hown, hts⟩ (z_X6_between l D cI cO cM cL g ro rt rd v t_14 _ (by assumption) (by assumption) a o (by omega) (by omega) (by omega) 2 (by decide)) (cwV 3 hts gL_isParted_X6_between rfl rfl rfl (by decide +kernel) ⟨Nat.le_of_ble_eq_true rfl, Nat.le_of_ble_eq_true rfl⟩) hN hP hD hK hS hA rfl hl.1 rfl (Nat.le_of_ble_eq_true rfl) dL_isParted_181 ⟨Nat.zero_le _, Nat.zero_le _⟩ (fun t_15 H locs ht_t_15 hP hD hS => ?_)
    refine jx_val (z := (nI 1)) q2 ?_
    refine lv_iconst (v := nI 1) hx hb dL_isParted_184 (by decide) ?_
    refine lv_icmp_ne (tgt := 196) hx hb dL_isParted_185 (by decide) (fun c => absurd c (by decide)) (fun _ => ?_)
    refine lv_iload_n hx hb dL_isParted_188 rfl (lv_at hl 6 rfl) ?_
    refine lv_if_le (tgt := 196) hx hb dL_isParted_189 (by decide) (fun c => absurd c (nI_nle q3 (by omega))) (fun c => ?_)
    refine lv_iconst (v := nI 1) hx hb dL_isParted_192 (by decide) ?_
    refine lv_goto (tgt := 197) hx hb dL_isParted_193 (by decide) ?_
    exact hQ true (v, t_15) H locs _ _ dL_isParted_197 (show jSok t_15 ∧ v = v ∧ nI (jB true) = nI 1 from ⟨by assumption, rfl, rfl⟩) hP hS

set_option maxHeartbeats 400000 in
set_option maxRecDepth 20000 in
theorem z_L_isPartedO (l : Launch) (D : va_G) (cI cO cM cL : ClassId) (g ro rt rd : Nat → Nat) (v : jZ) (t : jS) (sz : Nat) (hI : jzI v) (ht : jSok t) (a o : Nat) (ha : a < zP v) (ho : o < zP v) (hao : a ≠ o) (hlk : (jmLinked (zen v) (zla v) (zst v) (zn v) a).testBit o = false) (hw0 : jmWy (zsm v) (zgr v) (zst v) (zP v) (zn v) a o = 0) : jzCi (U := jZ × jS) l yL_isParted wsL_isParted ({ frames := 8, cells := 0, slots := 0, locals := 180 } : Room) D (jzT cI cO cM cL) (jzX cI cO cM cL g ro rt rd v t) [.ref (g 60), .int (nI a), .int (nI o)] sz (fun u => jzX cI cO cM cL g ro rt rd u.1 u.2) (fun r u => jSok u.2 ∧ v = u.1 ∧ r = nI 1) 0 0 := by
  refine jz_enterZ (by decide) rfl (Nat.le_of_ble_eq_true rfl) ?_
  intro p e s m args below meth c Q A ls hx hb hml hts hown hN hP hK hD hA hl hQ
  have hD0 := hD
  obtain ⟨H, hH⟩ : ∃ h, h = s.heap := ⟨_, rfl⟩
  have hS : va_S A s.heap H [] := by rw [hH]; exact va_S.rf
  rw [← hH] at hP ⊢
  obtain ⟨locs, hlocs⟩ : ∃ z : List Loc, z = [] := ⟨_, rfl⟩
  rw [← hlocs] at hS ⊢
  have hown : s.vm.findClass RL = some m.cls := hown
  have hl : lv_has ls 11 [(0, .ref (g 60)), (1, .int (nI a)), (2, .int (nI o))] := hl
  obtain ⟨hb1_v, hb2_v⟩ := jzI_b hI
  skip
  obtain ⟨p1, p2, p3, p4, p5, p6, p7, p8, p9, p10⟩ := jz_pair hI ha ho hao
  obtain ⟨W9, eW⟩ : ∃ y, y = jmWy (zsm v) (zgr v) (zst v) (zP v) (zn v) a o := ⟨_, rfl⟩
  obtain ⟨L9, eL⟩ : ∃ y, y = jmLy (zsm v) (zgr v) (zst v) (zn v) a o := ⟨_, rfl⟩
  obtain ⟨S9, eS⟩ : ∃ y, y = jmSide (zla v) (zP v) (zst v) a o := ⟨_, rfl⟩
  rw [← eS] at p3 p4 p5 p6 p7 p8
  obtain ⟨T9, eT⟩ : ∃ y, y = jmOut (zla v) (zst v) S9 (zP v) := ⟨_, rfl⟩
  rw [← eT] at p3 p7 p8
  rw [← eL] at p1 p2 p3 p8 p9 p10
  rw [← eW] at p1
  have hT16 : T9 < 65536 := Nat.lt_of_lt_of_le p7 (Nat.pow_le_pow_right (n := 2) (j := 16) (by decide) hb2_v)
  have hd1 := jmPop_le (zla v a &&& zst v)
  have hd2 := jmPop_le (zla v o &&& zst v)
  have hcp := jmCPc_le (en := zen v) (wi := jxAN (2 ^ zP v - 1) 0) (b := jxAN (zst v) T9) (n := zn v) (zP v)
  have hfp9 := (jzI_more hI).1
  have p8a := Nat.le_trans (Nat.le_add_right _ _) p8
  have p8b : 0 < L9 → zfp v + 1 ≤ jmCPc (zen v) (jxAN (2 ^ zP v - 1) 0) (jxAN (zst v) T9) (zn v) (zP v) := fun h => by rw [if_pos h] at p8; exact p8
  have hlk9 := jmLinked_lt (en := zen v) (la := zla v) (st := zst v) (n := zn v) (q := a) (jmWF_en hI.1.1)
  rw [← eW] at hw0
  obtain ⟨gp, q1, q2, q3, q4, q5, q6, q7, q8, q9⟩ := jz_pairO hI ha ho hao hlk
  rw [← eW] at q4 q9
  have hcp2 := jmCPc_le (en := zen v) (wi := jxAN (2 ^ zP v - 1) gp) (b := jxAN (zst v) 0) (n := zn v) (zP v)
  obtain ⟨q10, q11⟩ : W9 = 0 ∧ jmDist (zen v) (zla v) (zP v) (zst v) (zn v) a o = -1 := by rcases q9 with h | h <;> first | exact h | (have := h.1; omega)
  refine lv_aload_n hx hb dL_isParted_0 rfl (lv_at hl 0 rfl) ?_
  refine lv_iload_n hx hb dL_isParted_1 rfl (lv_at hl 1 rfl) ?_
  refine lv_iload_n hx hb dL_isParted_2 rfl (lv_at hl 2 rfl) ?_
  refine lv_iconst (v := nI 0) hx hb dL_isParted_3 (by decide) ?_
  refine jz_askVi (v := v) (t := t) (As := [.int (nI a), .int (nI o), .int (nI 0)]) (rest := []) ⟨hx, hb, hml, hown, hts⟩ (z_X6_between l D cI cO cM cL g ro rt rd v t _ (by assumption) (by assumption) a o (by omega) (by omega) (by omega) 0 (by decide)) (cwV 3 hts gL_isParted_X6_between rfl rfl rfl (by decide +kernel) ⟨Nat.le_of_ble_eq_true rfl, Nat.le_of_ble_eq_true rfl⟩) hN hP hD hK hS hA rfl hl.1 rfl (Nat.le_of_ble_eq_true rfl) dL_isParted_4 ⟨Nat.zero_le _, Nat.zero_le _⟩ (fun t_1 H locs ht_t_1 hP hD hS => ?_)
  refine jx_val (z := (nI W9)) (show nI (jmWy (zsm v) (zgr v) (zst v) (zP v) (zn v) a o) = nI W9 by rw [eW]) ?_
  refine lv_istore_n (lv' := [(3, .int (nI W9)), (0, .ref (g 60)), (1, .int (nI a)), (2, .int (nI o))]) hx hb dL_isParted_7 rfl hl (by decide) rfl (fun ls hl => ?_)
  refine lv_aload_n hx hb dL_isParted_8 rfl (lv_at hl 1 rfl) ?_
  refine lv_iload_n hx hb dL_isParted_9 rfl (lv_at hl 2 rfl) ?_
  refine lv_iload_n hx hb dL_isParted_10 rfl (lv_at hl 3 rfl) ?_
  refine lv_iconst (v := nI 1) hx hb dL_isParted_11 (by decide) ?_
  refine jz_askVi (v := v) (t := t_1) (As := [.int (nI a), .int (nI o), .int (nI 1)]) (rest := []) ⟨hx, hb, hml, hown, hts⟩ (z_X6_between l D cI cO cM cL g ro rt rd v t_1 _ (by assumption) (by assumption) a o (by omega) (by omega) (by omega) 1 (by decide)) (cwV 3 hts gL_isParted_X6_between rfl rfl rfl (by decide +kernel) ⟨Nat.le_of_ble_eq_true rfl, Nat.le_of_ble_eq_true rfl⟩) hN hP hD hK hS hA rfl hl.1 rfl (Nat.le_of_ble_eq_true rfl) dL_isParted_12 ⟨Nat.zero_le _, Nat.zero_le _⟩ (fun t_2 H locs ht_t_2 hP hD hS => ?_)
  refine jx_val (z := (nI L9)) (show nI (jmLy (zsm v) (zgr v) (zst v) (zn v) a o) = nI L9 by rw [eL]) ?_
  refine lv_istore (lv' := [(4, .int (nI L9)), (3, .int (nI W9)), (0, .ref (g 60)), (1, .int (nI a)), (2, .int (nI o))]) hx hb dL_isParted_15 hl (by decide) rfl (fun ls hl => ?_)
  refine lv_aload_n hx hb dL_isParted_17 rfl (lv_at hl 2 rfl) ?_
  refine lv_iload_n hx hb dL_isParted_18 rfl (lv_at hl 3 rfl) ?_
  refine lv_iload_n hx hb dL_isParted_19 rfl (lv_at hl 4 rfl) ?_
  refine lv_iconst (v := nI 3) hx hb dL_isParted_20 (by decide) ?_
  refine jz_askVi (v := v) (t := t_2) (As := [.int (nI a), .int (nI o), .int (nI 3)]) (rest := []) ⟨hx, hb, hml, hown, hts⟩ (z_X6_between l D cI cO cM cL g ro rt rd v t_2 _ (by assumption) (by assumption) a o (by omega) (by omega) (by omega) 3 (by decide)) (cwV 3 hts gL_isParted_X6_between rfl rfl rfl (by decide +kernel) ⟨Nat.le_of_ble_eq_true rfl, Nat.le_of_ble_eq_true rfl⟩) hN hP hD hK hS hA rfl hl.1 rfl (Nat.le_of_ble_eq_true rfl) dL_isParted_21 ⟨Nat.zero_le _, Nat.zero_le _⟩ (fun t_3 H locs ht_t_3 hP hD hS => ?_)
  refine jx_val (z := (nI gp)) q3 ?_
  refine lv_istore (lv' := [(5, .int (nI gp)), (4, .int (nI L9)), (3, .int (nI W9)), (0, .ref (g 60)), (1, .int (nI a)), (2, .int (nI o))]) hx hb dL_isParted_24 hl (by decide) rfl (fun ls hl => ?_)
  refine lv_aload_n hx hb dL_isParted_26 rfl (lv_at hl 3 rfl) ?_
  refine lv_iload_n hx hb dL_isParted_27 rfl (lv_at hl 4 rfl) ?_
  refine lv_iload_n hx hb dL_isParted_28 rfl (lv_at hl 5 rfl) ?_
  refine lv_iconst (v := nI 4) hx hb dL_isParted_29 (by decide) ?_
  refine jz_askVi (v := v) (t := t_3) (As := [.int (nI a), .int (nI o), .int (nI 4)]) (rest := []) ⟨hx, hb, hml, hown, hts⟩ (z_X6_between l D cI cO cM cL g ro rt rd v t_3 _ (by assumption) (by assumption) a o (by omega) (by omega) (by omega) 4 (by decide)) (cwV 3 hts gL_isParted_X6_between rfl rfl rfl (by decide +kernel) ⟨Nat.le_of_ble_eq_true rfl, Nat.le_of_ble_eq_true rfl⟩) hN hP hD hK hS hA rfl hl.1 rfl (Nat.le_of_ble_eq_true rfl) dL_isParted_30 ⟨Nat.zero_le _, Nat.zero_le _⟩ (fun t_4 H locs ht_t_4 hP hD hS => ?_)
  refine jx_val (z := (nI S9)) (show nI (jmSide (zla v) (zP v) (zst v) a o) = nI S9 by rw [eS]) ?_
  refine lv_istore (lv' := [(6, .int (nI S9)), (5, .int (nI gp)), (4, .int (nI L9)), (3, .int (nI W9)), (0, .ref (g 60)), (1, .int (nI a)), (2, .int (nI o))]) hx hb dL_isParted_33 hl (by decide) rfl (fun ls hl => ?_)
  refine lv_aload_n hx hb dL_isParted_35 rfl (lv_at hl 4 rfl) ?_
  refine lv_iload_n hx hb dL_isParted_36 rfl (lv_at hl 5 rfl) ?_
  refine lv_iload_n hx hb dL_isParted_37 rfl (lv_at hl 6 rfl) ?_
  refine lv_iconst (v := nI 5) hx hb dL_isParted_38 (by decide) ?_
  refine jz_askVi (v := v) (t := t_4) (As := [.int (nI a), .int (nI o), .int (nI 5)]) (rest := []) ⟨hx, hb, hml, hown, hts⟩ (z_X6_between l D cI cO cM cL g ro rt rd v t_4 _ (by assumption) (by assumption) a o (by omega) (by omega) (by omega) 5 (by decide)) (cwV 3 hts gL_isParted_X6_between rfl rfl rfl (by decide +kernel) ⟨Nat.le_of_ble_eq_true rfl, Nat.le_of_ble_eq_true rfl⟩) hN hP hD hK hS hA rfl hl.1 rfl (Nat.le_of_ble_eq_true rfl) dL_isParted_39 ⟨Nat.zero_le _, Nat.zero_le _⟩ (fun t_5 H locs ht_t_5 hP hD hS => ?_)
  refine jx_val (z := (nI T9)) (show nI (jmOut (zla v) (zst v) (jmSide (zla v) (zP v) (zst v) a o) (zP v)) = nI T9 by rw [← eS, ← eT]) ?_
  refine lv_istore (lv' := [(7, .int (nI T9)), (6, .int (nI S9)), (5, .int (nI gp)), (4, .int (nI L9)), (3, .int (nI W9)), (0, .ref (g 60)), (1, .int (nI a)), (2, .int (nI o))]) hx hb dL_isParted_42 hl (by decide) rfl (fun ls hl => ?_)
  refine lv_aload_n hx hb dL_isParted_44 rfl (lv_at hl 5 rfl) ?_
  refine lv_iload_n hx hb dL_isParted_45 rfl (lv_at hl 6 rfl) ?_
  refine lv_iconst (v := nI 5) hx hb dL_isParted_46 (by decide) ?_
  refine jz_askVi (v := v) (t := t_5) (As := [.int (nI a), .int (nI 5)]) (rest := []) ⟨hx, hb, hml, hown, hts⟩ (z_X6_ofPoint l D cI cO cM cL g ro rt rd v t_5 _ (by assumption) (by assumption) a (by omega) 5 (by decide)) (cwV 2 hts gL_isParted_X6_ofPoint rfl rfl rfl (by decide +kernel) ⟨Nat.le_of_ble_eq_true rfl, Nat.le_of_ble_eq_true rfl⟩) hN hP hD hK hS hA rfl hl.1 rfl (Nat.le_of_ble_eq_true rfl) dL_isParted_47 ⟨Nat.zero_le _, Nat.zero_le _⟩ (fun t_6 H locs ht_t_6 hP hD hS => ?_)
  refine jx_val (z := (nI (jmLinked (zen v) (zla v) (zst v) (zn v) a))) rfl ?_
  refine lv_iload_n hx hb dL_isParted_50 rfl (lv_at hl 7 rfl) ?_
  refine lv_ishr hx hb dL_isParted_51 ?_
  refine jx_val (z := (nI ((jmLinked (zen v) (zla v) (zst v) (zn v) a) / 2 ^ o))) (jx_shr (by omega) (by omega)) ?_
  refine lv_iconst (v := nI 1) hx hb dL_isParted_52 (by decide) ?_
  refine lv_iand hx hb dL_isParted_53 ?_
  refine jx_val (z := (nI (jB (Nat.testBit (jmLinked (zen v) (zla v) (zst v) (zn v) a) o)))) (jx_b1 _ _) ?_
  refine jx_val (z := (nI 0)) (by rw [hlk]; rfl) ?_
  refine lv_iconst (v := nI 1) hx hb dL_isParted_54 (by decide) ?_
  refine lv_icmp_ne (tgt := 62) hx hb dL_isParted_55 (by decide) (fun _ => ?_) (fun c => absurd c (by decide))
  refine lv_iconst (v := nI 0) hx hb dL_isParted_62 (by decide) ?_
  refine lv_istore (lv' := [(8, .int (nI 0)), (7, .int (nI T9)), (6, .int (nI S9)), (5, .int (nI gp)), (4, .int (nI L9)), (3, .int (nI W9)), (0, .ref (g 60)), (1, .int (nI a)), (2, .int (nI o))]) hx hb dL_isParted_63 hl (by decide) rfl (fun ls hl => ?_)
  refine lv_iload hx hb dL_isParted_65 (lv_at hl 0 rfl) ?_
  refine lv_iload hx hb dL_isParted_67 (lv_at hl 3 rfl) ?_
  refine lv_iconst (v := (-1)) hx hb dL_isParted_69 (by decide) ?_
  refine lv_icmp_ne (tgt := 77) hx hb dL_isParted_70 (by decide) (fun c => ?_) (fun c => absurd c (jz_nm1 (by omega)))
  refine lv_iconst (v := nI 0) hx hb dL_isParted_77 (by decide) ?_
  refine lv_icmp_ne (tgt := 116) hx hb dL_isParted_78 (by decide) (fun c => absurd c (by decide)) (fun _ => ?_)
  refine lv_iload_n hx hb dL_isParted_81 rfl (lv_at hl 5 rfl) ?_
  refine lv_iload hx hb dL_isParted_82 (lv_at hl 4 rfl) ?_
  refine lv_icmp_gt (tgt := 116) hx hb dL_isParted_84 (by decide) (fun c => absurd c (nI_nlt p1 (by omega))) (fun c => ?_)
  refine lv_iload hx hb dL_isParted_87 (lv_at hl 4 rfl) ?_
  refine lv_iload hx hb dL_isParted_89 (lv_at hl 1 rfl) ?_
  refine jz_pureSi (X := jzX cI cO cM cL g ro rt rd v t_6) (As := [.int (nI T9)]) (rest := [.int (nI L9)]) ⟨hx, hb, hml, hown, hts⟩ (z_bitCount l D (jzT cI cO cM cL) (jzX cI cO cM cL g ro rt rd v t_6) _ T9 (by omega)) (va_cwS 1 hts gL_isParted_J6_bitCount_0f7a4 rfl rfl rfl (by decide +kernel) ⟨Nat.le_of_ble_eq_true rfl, Nat.le_of_ble_eq_true rfl⟩) hN hP hD hK hS hA rfl hl.1 rfl (Nat.le_of_ble_eq_true rfl) dL_isParted_91 ⟨Nat.zero_le _, Nat.zero_le _⟩ (fun r H locs hr hP hS => ?_)
  subst hr
  refine lv_icmp_ne (tgt := 116) hx hb dL_isParted_94 (by decide) (fun c => absurd c (fun h => h (congrArg nI p3))) (fun c => ?_)
  refine lv_iload hx hb dL_isParted_97 (lv_at hl 2 rfl) ?_
  refine lv_iload_n hx hb dL_isParted_99 rfl (lv_at hl 7 rfl) ?_
  refine lv_ishr hx hb dL_isParted_100 ?_
  refine jx_val (z := (nI (S9 / 2 ^ a))) (jx_shr (by omega) (by omega)) ?_
  refine lv_iconst (v := nI 1) hx hb dL_isParted_101 (by decide) ?_
  refine lv_iand hx hb dL_isParted_102 ?_
  refine jx_val (z := (nI (jB (Nat.testBit S9 a)))) (jx_b1 _ _) ?_
  refine jx_val (z := (nI 1)) (by rw [p4]; rfl) ?_
  refine lv_if_eq (tgt := 116) hx hb dL_isParted_103 (by decide) (fun c => absurd c (by decide)) (fun _ => ?_)
  refine lv_iload hx hb dL_isParted_106 (lv_at hl 2 rfl) ?_
  refine lv_iload_n hx hb dL_isParted_108 rfl (lv_at hl 8 rfl) ?_
  refine lv_ishr hx hb dL_isParted_109 ?_
  refine jx_val (z := (nI (S9 / 2 ^ o))) (jx_shr (by omega) (by omega)) ?_
  refine lv_iconst (v := nI 1) hx hb dL_isParted_110 (by decide) ?_
  refine lv_iand hx hb dL_isParted_111 ?_
  refine jx_val (z := (nI (jB (Nat.testBit S9 o)))) (jx_b1 _ _) ?_
  refine jx_val (z := (nI 0)) (by rw [p5]; rfl) ?_
  refine lv_iconst (v := nI 1) hx hb dL_isParted_112 (by decide) ?_
  refine lv_icmp_ne (tgt := 118) hx hb dL_isParted_113 (by decide) (fun _ => ?_) (fun c => absurd c (by decide))
  refine lv_aload_n hx hb dL_isParted_118 rfl (lv_at hl 6 rfl) ?_
  refine lv_iconst (v := nI 0) hx hb dL_isParted_119 (by decide) ?_
  refine lv_iload hx hb dL_isParted_120 (lv_at hl 1 rfl) ?_
  refine jz_askVi (v := v) (t := t_6) (As := [.int (nI 0), .int (nI T9)]) (rest := []) ⟨hx, hb, hml, hown, hts⟩ (z_X6_without l D cI cO cM cL g ro rt rd v t_6 _ (by assumption) (by assumption) 0 T9 (by first | assumption | exact Nat.two_pow_pos _) (by first | assumption | exact Nat.two_pow_pos _)) (cwV 2 hts gL_isParted_X6_without rfl rfl rfl (by decide +kernel) ⟨Nat.le_of_ble_eq_true rfl, Nat.le_of_ble_eq_true rfl⟩) hN hP hD hK hS hA rfl hl.1 rfl (Nat.le_of_ble_eq_true rfl) dL_isParted_122 ⟨Nat.zero_le _, Nat.zero_le _⟩ (fun t_8 H locs ht_t_8 hP hD hS => ?_)
  refine lv_istore (lv' := [(9, .int (nI (jmCPc (zen v) (jxAN (2 ^ zP v - 1) 0) (jxAN (zst v) T9) (zn v) (zP v)))), (8, .int (nI 0)), (7, .int (nI T9)), (6, .int (nI S9)), (5, .int (nI gp)), (4, .int (nI L9)), (3, .int (nI W9)), (0, .ref (g 60)), (1, .int (nI a)), (2, .int (nI o))]) hx hb dL_isParted_125 hl (by decide) rfl (fun ls hl => ?_)
  refine lv_iload hx hb dL_isParted_127 (lv_at hl 0 rfl) ?_
  refine lv_aload_n hx hb dL_isParted_129 rfl (lv_at hl 7 rfl) ?_
  refine lv_iconst (v := nI 3) hx hb dL_isParted_130 (by decide) ?_
  refine jz_askVi (v := v) (t := t_8) (As := [.int (nI 3)]) (rest := [.int (nI (jmCPc (zen v) (jxAN (2 ^ zP v - 1) 0) (jxAN (zst v) T9) (zn v) (zP v)))]) ⟨hx, hb, hml, hown, hts⟩ (z_X6_net l D cI cO cM cL g ro rt rd v t_8 _ (by assumption) (by assumption) 3 (by decide)) (cwV 1 hts gL_isParted_X6_net rfl rfl rfl (by decide +kernel) ⟨Nat.le_of_ble_eq_true rfl, Nat.le_of_ble_eq_true rfl⟩) hN hP hD hK hS hA rfl hl.1 rfl (Nat.le_of_ble_eq_true rfl) dL_isParted_131 ⟨Nat.zero_le _, Nat.zero_le _⟩ (fun t_9 H locs ht_t_9 hP hD hS => ?_)
  refine jx_val (z := (nI (zfp v))) rfl ?_
  refine lv_iload hx hb dL_isParted_134 (lv_at hl 5 rfl) ?_
  refine lv_if_le (tgt := 143) hx hb dL_isParted_136 (by decide) (fun c136 => ?_) (fun c136 => ?_)
  · have c136 : L9 = 0 := by have := jx_le (a := L9) (b := 0) (by omega) (by decide) (by rw [nI_0]; exact c136); omega
    refine lv_iconst (v := nI 0) hx hb dL_isParted_143 (by decide) ?_
    refine lv_iadd hx hb dL_isParted_144 ?_
    refine jx_val (z := (nI (zfp v + 0))) (nI_add _ _) ?_
    refine lv_icmp_lt (tgt := 170) hx hb dL_isParted_145 (by decide) (fun c => absurd c (nI_nlt (by omega) (by omega))) (fun c => ?_)
    refine lv_iload hx hb dL_isParted_148 (lv_at hl 5 rfl) ?_
    refine lv_aload_n hx hb dL_isParted_150 rfl (lv_at hl 7 rfl) ?_
    refine lv_iload_n hx hb dL_isParted_151 rfl (lv_at hl 8 rfl) ?_
    refine lv_iconst (v := nI 1) hx hb dL_isParted_152 (by decide) ?_
    refine jz_askVi (v := v) (t := t_9) (As := [.int (nI a), .int (nI 1)]) (rest := [.int (nI L9)]) ⟨hx, hb, hml, hown, hts⟩ (z_X6_ofPoint l D cI cO cM cL g ro rt rd v t_9 _ (by assumption) (by assumption) a (by omega) 1 (by decide)) (cwV 2 hts gL_isParted_X6_ofPoint rfl rfl rfl (by decide +kernel) ⟨Nat.le_of_ble_eq_true rfl, Nat.le_of_ble_eq_true rfl⟩) hN hP hD hK hS hA rfl hl.1 rfl (Nat.le_of_ble_eq_true rfl) dL_isParted_153 ⟨Nat.zero_le _, Nat.zero_le _⟩ (fun t_10 H locs ht_t_10 hP hD hS => ?_)
    refine jx_val (z := (nI (jmPop (zla v a &&& zst v)))) rfl ?_
    refine lv_icmp_gt (tgt := 170) hx hb dL_isParted_156 (by decide) (fun c => absurd c (nI_nlt p9 (by omega))) (fun c => ?_)
    refine lv_iload hx hb dL_isParted_159 (lv_at hl 5 rfl) ?_
    refine lv_aload_n hx hb dL_isParted_161 rfl (lv_at hl 7 rfl) ?_
    refine lv_iload_n hx hb dL_isParted_162 rfl (lv_at hl 9 rfl) ?_
    refine lv_iconst (v := nI 1) hx hb dL_isParted_163 (by decide) ?_
    refine jz_askVi (v := v) (t := t_10) (As := [.int (nI o), .int (nI 1)]) (rest := [.int (nI L9)]) ⟨hx, hb, hml, hown, hts⟩ (z_X6_ofPoint l D cI cO cM cL g ro rt rd v t_10 _ (by assumption) (by assumption) o (by omega) 1 (by decide)) (cwV 2 hts gL_isParted_X6_ofPoint rfl rfl rfl (by decide +kernel) ⟨Nat.le_of_ble_eq_true rfl, Nat.le_of_ble_eq_true rfl⟩) hN hP hD hK hS hA rfl hl.1 rfl (Nat.le_of_ble_eq_true rfl) dL_isParted_164 ⟨Nat.zero_le _, Nat.zero_le _⟩ (fun t_11 H locs ht_t_11 hP hD hS => ?_)
    refine jx_val (z := (nI (jmPop (zla v o &&& zst v)))) rfl ?_
    refine lv_icmp_le (tgt := 172) hx hb dL_isParted_167 (by decide) (fun c => ?_) (fun c => absurd c (fun h => h (nI_le p10 (by omega))))
    refine lv_iload hx hb dL_isParted_172 (lv_at hl 1 rfl) ?_
    refine lv_if_eq (tgt := 198) hx hb dL_isParted_174 (by decide) (fun _ => ?_) (fun c => absurd c (by decide))
    refine lv_aload_n hx hb dL_isParted_198 rfl (lv_at hl 7 rfl) ?_
    refine lv_iload hx hb dL_isParted_199 (lv_at hl 4 rfl) ?_
    refine lv_iconst (v := nI 0) hx hb dL_isParted_201 (by decide) ?_
    refine jz_askVi (v := v) (t := t_11) (As := [.int (nI gp), .int (nI 0)]) (rest := []) ⟨hx, hb, hml, hown, hts⟩ (z_X6_without l D cI cO cM cL g ro rt rd v t_11 _ (by assumption) (by assumption) gp 0 (by first | assumption | exact Nat.two_pow_pos _) (by first | assumption | exact Nat.two_pow_pos _)) (cwV 2 hts gL_isParted_X6_without rfl rfl rfl (by decide +kernel) ⟨Nat.le_of_ble_eq_true rfl, Nat.le_of_ble_eq_true rfl⟩) hN hP hD hK hS hA rfl hl.1 rfl (Nat.le_of_ble_eq_true rfl) dL_isParted_202 ⟨Nat.zero_le _, Nat.zero_le _⟩ (fun t_12 H locs ht_t_12 hP hD hS => ?_)
    refine lv_istore (lv' := [(10, .int (nI (jmCPc (zen v) (jxAN (2 ^ zP v - 1) gp) (jxAN (zst v) 0) (zn v) (zP v)))), (9, .int (nI (jmCPc (zen v) (jxAN (2 ^ zP v - 1) 0) (jxAN (zst v) T9) (zn v) (zP v)))), (8, .int (nI 0)), (7, .int (nI T9)), (6, .int (nI S9)), (5, .int (nI gp)), (4, .int (nI L9)), (3, .int (nI W9)), (0, .ref (g 60)), (1, .int (nI a)), (2, .int (nI o))]) hx hb dL_isParted_205 hl (by decide) rfl (fun ls hl => ?_)
    refine lv_iload_n hx hb dL_isParted_207 rfl (lv_at hl 7 rfl) ?_
    refine lv_iload hx hb dL_isParted_208 (lv_at hl 5 rfl) ?_
    refine jz_pureSi (X := jzX cI cO cM cL g ro rt rd v t_12) (As := [.int (nI gp)]) (rest := [.int (nI W9)]) ⟨hx, hb, hml, hown, hts⟩ (z_bitCount l D (jzT cI cO cM cL) (jzX cI cO cM cL g ro rt rd v t_12) _ gp (by omega)) (va_cwS 1 hts gL_isParted_J6_bitCount_0f7a4 rfl rfl rfl (by decide +kernel) ⟨Nat.le_of_ble_eq_true rfl, Nat.le_of_ble_eq_true rfl⟩) hN hP hD hK hS hA rfl hl.1 rfl (Nat.le_of_ble_eq_true rfl) dL_isParted_210 ⟨Nat.zero_le _, Nat.zero_le _⟩ (fun r H locs hr hP hS => ?_)
    subst hr
    refine lv_icmp_ne (tgt := 283) hx hb dL_isParted_213 (by decide) (fun c => absurd c (fun h => h (congrArg nI q4.symm))) (fun c => ?_)
    refine lv_iload hx hb dL_isParted_216 (lv_at hl 5 rfl) ?_
    refine lv_iload_n hx hb dL_isParted_218 rfl (lv_at hl 9 rfl) ?_
    refine lv_ishr hx hb dL_isParted_219 ?_
    refine jx_val (z := (nI (gp / 2 ^ a))) (jx_shr (by omega) (by omega)) ?_
    refine lv_iconst (v := nI 1) hx hb dL_isParted_220 (by decide) ?_
    refine lv_iand hx hb dL_isParted_221 ?_
    refine jx_val (z := (nI (jB (Nat.testBit gp a)))) (jx_b1 _ _) ?_
    refine jx_val (z := (nI 0)) (by rw [q5]; rfl) ?_
    refine lv_if_ne (tgt := 283) hx hb dL_isParted_222 (by decide) (fun c => absurd c (by decide)) (fun _ => ?_)
    refine lv_iload hx hb dL_isParted_225 (lv_at hl 5 rfl) ?_
    refine lv_iload_n hx hb dL_isParted_227 rfl (lv_at hl 10 rfl) ?_
    refine lv_ishr hx hb dL_isParted_228 ?_
    refine jx_val (z := (nI (gp / 2 ^ o))) (jx_shr (by omega) (by omega)) ?_
    refine lv_iconst (v := nI 1) hx hb dL_isParted_229 (by decide) ?_
    refine lv_iand hx hb dL_isParted_230 ?_
    refine jx_val (z := (nI (jB (Nat.testBit gp o)))) (jx_b1 _ _) ?_
    refine jx_val (z := (nI 0)) (by rw [q6]; rfl) ?_
    refine lv_if_ne (tgt := 283) hx hb dL_isParted_231 (by decide) (fun c => absurd c (by decide)) (fun _ => ?_)
    refine lv_iload_n hx hb dL_isParted_234 rfl (lv_at hl 7 rfl) ?_
    refine lv_if_le (tgt := 242) hx hb dL_isParted_235 (by decide) (fun c => ?_) (fun c => absurd c (fun h => h (by rw [q10]; decide)))
    refine lv_iconst (v := nI 0) hx hb dL_isParted_242 (by decide) ?_
    refine lv_aload_n hx hb dL_isParted_243 rfl (lv_at hl 8 rfl) ?_
    refine lv_iload_n hx hb dL_isParted_244 rfl (lv_at hl 9 rfl) ?_
    refine lv_iload_n hx hb dL_isParted_245 rfl (lv_at hl 10 rfl) ?_
    refine lv_iconst (v := nI 2) hx hb dL_isParted_246 (by decide) ?_
    refine jz_askVi (v := v) (t := t_12) (As := [.int (nI a), .int (nI o), .int (nI 2)]) (rest := [.int (nI 0)]) ⟨hx, hb, hml, hown, hts⟩ (z_X6_between l D cI cO cM cL g ro rt rd v t_12 _ (by assumption) (by assumption) a o (by omega) (by omega) (by omega) 2 (by decide)) (cwV 3 hts gL_isParted_X6_between rfl rfl rfl (by decide +kernel) ⟨Nat.le_of_ble_eq_true rfl, Nat.le_of_ble_eq_true rfl⟩) hN hP hD hK hS hA rfl hl.1 rfl (Nat.le_of_ble_eq_true rfl) dL_isParted_247 ⟨Nat.zero_le _, Nat.zero_le _⟩ (fun t_14 H locs ht_t_14 hP hD hS => ?_)
    refine jx_val (z := (-1 : Int32)) q11 ?_
    refine lv_iconst (v := nI 1) hx hb dL_isParted_250 (by decide) ?_
    refine lv_icmp_le (tgt := 258) hx hb dL_isParted_251 (by decide) (fun c => ?_) (fun c => absurd c (fun h => h (by decide)))
    refine lv_iconst (v := nI 0) hx hb dL_isParted_258 (by decide) ?_
    refine lv_icmp_ne (tgt := 283) hx hb dL_isParted_259 (by decide) (fun c => absurd c (by decide)) (fun _ => ?_)
    refine lv_iload hx hb dL_isParted_262 (lv_at hl 0 rfl) ?_
    refine lv_iconst (v := nI 2) hx hb dL_isParted_264 (by decide) ?_
    refine lv_icmp_lt (tgt := 283) hx hb dL_isParted_265 (by decide) (fun c => absurd c (nI_nlt q8 (by omega))) (fun c => ?_)
    refine lv_aload_n hx hb dL_isParted_268 rfl (lv_at hl 8 rfl) ?_
    refine lv_iload_n hx hb dL_isParted_269 rfl (lv_at hl 9 rfl) ?_
    refine lv_iload_n hx hb dL_isParted_270 rfl (lv_at hl 10 rfl) ?_
    refine lv_iload hx hb dL_isParted_271 (lv_at hl 5 rfl) ?_
    refine jz_askSi (v := v) (t := t_14) (As := [.ref (g 60), .int (nI a), .int (nI o), .int (nI gp)]) (rest := []) ⟨hx, hb, hml, hown, hts⟩ (z_L_areOff l D cI cO cM cL g ro rt rd v t_14 _ (by assumption) (by assumption) a o gp ha ho (by omega) q5 q7) (va_cwS 4 hts gL_isParted_L_areOff rfl rfl rfl (by decide +kernel) ⟨Nat.le_of_ble_eq_true rfl, Nat.le_of_ble_eq_true rfl⟩) hN hP hD hK hS hA rfl hl.1 rfl (Nat.le_of_ble_eq_true rfl) dL_isParted_273 ⟨Nat.zero_le _, Nat.zero_le _⟩ (fun t_15 H locs ht_t_15 hP hD hS => ?_)
    refine lv_if_eq (tgt := 283) hx hb dL_isParted_276 (by decide) (fun c => absurd c (by decide)) (fun _ => ?_)
    refine lv_iconst (v := nI 1) hx hb dL_isParted_279 (by decide) ?_
    refine lv_goto (tgt := 284) hx hb dL_isParted_280 (by decide) ?_
    exact hQ true (v, t_15) H locs _ _ dL_isParted_284 (show jSok t_15 ∧ v = v ∧ nI (jB true) = nI 1 from ⟨by assumption, rfl, rfl⟩) hP hS
  · have c136 : 0 < L9 := by have := jx_nle (a := L9) (b := 0) (by omega) (by decide) (by rw [nI_0]; exact c136); omega
    refine lv_iconst (v := nI 1) hx hb dL_isParted_139 (by decide) ?_
    refine lv_goto (tgt := 144) hx hb dL_isParted_140 (by decide) ?_
    refine lv_iadd hx hb dL_isParted_144 ?_
    refine jx_val (z := (nI (zfp v + 1))) (nI_add _ _) ?_
    refine lv_icmp_lt (tgt := 170) hx hb dL_isParted_145 (by decide) (fun c => absurd c (nI_nlt (by omega) (by omega))) (fun c => ?_)
    refine lv_iload hx hb dL_isParted_148 (lv_at hl 5 rfl) ?_
    refine lv_aload_n hx hb dL_isParted_150 rfl (lv_at hl 7 rfl) ?_
    refine lv_iload_n hx hb dL_isParted_151 rfl (lv_at hl 8 rfl) ?_
    refine lv_iconst (v := nI 1) hx hb dL_isParted_152 (by decide) ?_
    refine jz_askVi (v := v) (t := t_9) (As := [.int (nI a), .int (nI 1)]) (rest := [.int (nI L9)]) ⟨hx, hb, hml, hown, hts⟩ (z_X6_ofPoint l D cI cO cM cL g ro rt rd v t_9 _ (by assumption) (by assumption) a (by omega) 1 (by decide)) (cwV 2 hts gL_isParted_X6_ofPoint rfl rfl rfl (by decide +kernel) ⟨Nat.le_of_ble_eq_true rfl, Nat.le_of_ble_eq_true rfl⟩) hN hP hD hK hS hA rfl hl.1 rfl (Nat.le_of_ble_eq_true rfl) dL_isParted_153 ⟨Nat.zero_le _, Nat.zero_le _⟩ (fun t_16 H locs ht_t_16 hP hD hS => ?_)
    refine jx_val (z := (nI (jmPop (zla v a &&& zst v)))) rfl ?_
    refine lv_icmp_gt (tgt := 170) hx hb dL_isParted_156 (by decide) (fun c => absurd c (nI_nlt p9 (by omega))) (fun c => ?_)
    refine lv_iload hx hb dL_isParted_159 (lv_at hl 5 rfl) ?_
    refine lv_aload_n hx hb dL_isParted_161 rfl (lv_at hl 7 rfl) ?_
    refine lv_iload_n hx hb dL_isParted_162 rfl (lv_at hl 9 rfl) ?_
    refine lv_iconst (v := nI 1) hx hb dL_isParted_163 (by decide) ?_
    refine jz_askVi (v := v) (t := t_16) (As := [.int (nI o), .int (nI 1)]) (rest := [.int (nI L9)]) ⟨hx, hb, hml, hown, hts⟩ (z_X6_ofPoint l D cI cO cM cL g ro rt rd v t_16 _ (by assumption) (by assumption) o (by omega) 1 (by decide)) (cwV 2 hts gL_isParted_X6_ofPoint rfl rfl rfl (by decide +kernel) ⟨Nat.le_of_ble_eq_true rfl, Nat.le_of_ble_eq_true rfl⟩) hN hP hD hK hS hA rfl hl.1 rfl (Nat.le_of_ble_eq_true rfl) dL_isParted_164 ⟨Nat.zero_le _, Nat.zero_le _⟩ (fun t_17 H locs ht_t_17 hP hD hS => ?_)
    refine jx_val (z := (nI (jmPop (zla v o &&& zst v)))) rfl ?_
    refine lv_icmp_le (tgt := 172) hx hb dL_isParted_167 (by decide) (fun c => ?_) (fun c => absurd c (fun h => h (nI_le p10 (by omega))))
    refine lv_iload hx hb dL_isParted_172 (lv_at hl 1 rfl) ?_
    refine lv_if_eq (tgt := 198) hx hb dL_isParted_174 (by decide) (fun _ => ?_) (fun c => absurd c (by decide))
    refine lv_aload_n hx hb dL_isParted_198 rfl (lv_at hl 7 rfl) ?_
    refine lv_iload hx hb dL_isParted_199 (lv_at hl 4 rfl) ?_
    refine lv_iconst (v := nI 0) hx hb dL_isParted_201 (by decide) ?_
    refine jz_askVi (v := v) (t := t_17) (As := [.int (nI gp), .int (nI 0)]) (rest := []) ⟨hx, hb, hml, hown, hts⟩ (z_X6_without l D cI cO cM cL g ro rt rd v t_17 _ (by assumption) (by assumption) gp 0 (by first | assumption | exact Nat.two_pow_pos _) (by first | assumption | exact Nat.two_pow_pos _)) (cwV 2 hts gL_isParted_X6_without rfl rfl rfl (by decide +kernel) ⟨Nat.le_of_ble_eq_true rfl, Nat.le_of_ble_eq_true rfl⟩) hN hP hD hK hS hA rfl hl.1 rfl (Nat.le_of_ble_eq_true rfl) dL_isParted_202 ⟨Nat.zero_le _, Nat.zero_le _⟩ (fun t_18 H locs ht_t_18 hP hD hS => ?_)
    refine lv_istore (lv' := [(10, .int (nI (jmCPc (zen v) (jxAN (2 ^ zP v - 1) gp) (jxAN (zst v) 0) (zn v) (zP v)))), (9, .int (nI (jmCPc (zen v) (jxAN (2 ^ zP v - 1) 0) (jxAN (zst v) T9) (zn v) (zP v)))), (8, .int (nI 0)), (7, .int (nI T9)), (6, .int (nI S9)), (5, .int (nI gp)), (4, .int (nI L9)), (3, .int (nI W9)), (0, .ref (g 60)), (1, .int (nI a)), (2, .int (nI o))]) hx hb dL_isParted_205 hl (by decide) rfl (fun ls hl => ?_)
    refine lv_iload_n hx hb dL_isParted_207 rfl (lv_at hl 7 rfl) ?_
    refine lv_iload hx hb dL_isParted_208 (lv_at hl 5 rfl) ?_
    refine jz_pureSi (X := jzX cI cO cM cL g ro rt rd v t_18) (As := [.int (nI gp)]) (rest := [.int (nI W9)]) ⟨hx, hb, hml, hown, hts⟩ (z_bitCount l D (jzT cI cO cM cL) (jzX cI cO cM cL g ro rt rd v t_18) _ gp (by omega)) (va_cwS 1 hts gL_isParted_J6_bitCount_0f7a4 rfl rfl rfl (by decide +kernel) ⟨Nat.le_of_ble_eq_true rfl, Nat.le_of_ble_eq_true rfl⟩) hN hP hD hK hS hA rfl hl.1 rfl (Nat.le_of_ble_eq_true rfl) dL_isParted_210 ⟨Nat.zero_le _, Nat.zero_le _⟩ (fun r H locs hr hP hS => ?_)
    subst hr
    refine lv_icmp_ne (tgt := 283) hx hb dL_isParted_213 (by decide) (fun c => absurd c (fun h => h (congrArg nI q4.symm))) (fun c => ?_)
    refine lv_iload hx hb dL_isParted_216 (lv_at hl 5 rfl) ?_
    refine lv_iload_n hx hb dL_isParted_218 rfl (lv_at hl 9 rfl) ?_
    refine lv_ishr hx hb dL_isParted_219 ?_
    refine jx_val (z := (nI (gp / 2 ^ a))) (jx_shr (by omega) (by omega)) ?_
    refine lv_iconst (v := nI 1) hx hb dL_isParted_220 (by decide) ?_
    refine lv_iand hx hb dL_isParted_221 ?_
    refine jx_val (z := (nI (jB (Nat.testBit gp a)))) (jx_b1 _ _) ?_
    refine jx_val (z := (nI 0)) (by rw [q5]; rfl) ?_
    refine lv_if_ne (tgt := 283) hx hb dL_isParted_222 (by decide) (fun c => absurd c (by decide)) (fun _ => ?_)
    refine lv_iload hx hb dL_isParted_225 (lv_at hl 5 rfl) ?_
    refine lv_iload_n hx hb dL_isParted_227 rfl (lv_at hl 10 rfl) ?_
    refine lv_ishr hx hb dL_isParted_228 ?_
    refine jx_val (z := (nI (gp / 2 ^ o))) (jx_shr (by omega) (by omega)) ?_
    refine lv_iconst (v := nI 1) hx hb dL_isParted_229 (by decide) ?_
    refine lv_iand hx hb dL_isParted_230 ?_
    refine jx_val (z := (nI (jB (Nat.testBit gp o)))) (jx_b1 _ _) ?_
    refine jx_val (z := (nI 0)) (by rw [q6]; rfl) ?_
    refine lv_if_ne (tgt := 283) hx hb dL_isParted_231 (by decide) (fun c => absurd c (by decide)) (fun _ => ?_)
    refine lv_iload_n hx hb dL_isParted_234 rfl (lv_at hl 7 rfl) ?_
    refine lv_if_le (tgt := 242) hx hb dL_isParted_235 (by decide) (fun c => ?_) (fun c => absurd c (fun h => h (by rw [q10]; decide)))
    refine lv_iconst (v := nI 0) hx hb dL_isParted_242 (by decide) ?_
    refine lv_aload_n hx hb dL_isParted_243 rfl (lv_at hl 8 rfl) ?_
    refine lv_iload_n hx hb dL_isParted_244 rfl (lv_at hl 9 rfl) ?_
    refine lv_iload_n hx hb dL_isParted_245 rfl (lv_at hl 10 rfl) ?_
    refine lv_iconst (v := nI 2) hx hb dL_isParted_246 (by decide) ?_
    refine jz_askVi (v := v) (t := t_18) (As := [.int (nI a), .int (nI o), .int (nI 2)]) (rest := [.int (nI 0)]) ⟨hx, hb, hml, hown, hts⟩ (z_X6_between l D cI cO cM cL g ro rt rd v t_18 _ (by assumption) (by assumption) a o (by omega) (by omega) (by omega) 2 (by decide)) (cwV 3 hts gL_isParted_X6_between rfl rfl rfl (by decide +kernel) ⟨Nat.le_of_ble_eq_true rfl, Nat.le_of_ble_eq_true rfl⟩) hN hP hD hK hS hA rfl hl.1 rfl (Nat.le_of_ble_eq_true rfl) dL_isParted_247 ⟨Nat.zero_le _, Nat.zero_le _⟩ (fun t_20 H locs ht_t_20 hP hD hS => ?_)
    refine jx_val (z := (-1 : Int32)) q11 ?_
    refine lv_iconst (v := nI 1) hx hb dL_isParted_250 (by decide) ?_
    refine lv_icmp_le (tgt := 258) hx hb dL_isParted_251 (by decide) (fun c => ?_) (fun c => absurd c (fun h => h (by decide)))
    refine lv_iconst (v := nI 0) hx hb dL_isParted_258 (by decide) ?_
    refine lv_icmp_ne (tgt := 283) hx hb dL_isParted_259 (by decide) (fun c => absurd c (by decide)) (fun _ => ?_)
    refine lv_iload hx hb dL_isParted_262 (lv_at hl 0 rfl) ?_
    refine lv_iconst (v := nI 2) hx hb dL_isParted_264 (by decide) ?_
    refine lv_icmp_lt (tgt := 283) hx hb dL_isParted_265 (by decide) (fun c => absurd c (nI_nlt q8 (by omega))) (fun c => ?_)
    refine lv_aload_n hx hb dL_isParted_268 rfl (lv_at hl 8 rfl) ?_
    refine lv_iload_n hx hb dL_isParted_269 rfl (lv_at hl 9 rfl) ?_
    refine lv_iload_n hx hb dL_isParted_270 rfl (lv_at hl 10 rfl) ?_
    refine lv_iload hx hb dL_isParted_271 (lv_at hl 5 rfl) ?_
    refine jz_askSi (v := v) (t := t_20) (As := [.ref (g 60), .int (nI a), .int (nI o), .int (nI gp)]) (rest := []) ⟨hx, hb, hml, hown, hts⟩ (z_L_areOff l D cI cO cM cL g ro rt rd v t_20 _ (by assumption) (by assumption) a o gp ha ho (by omega) q5 q7) (va_cwS 4 hts gL_isParted_L_areOff rfl rfl rfl (by decide +kernel) ⟨Nat.le_of_ble_eq_true rfl, Nat.le_of_ble_eq_true rfl⟩) hN hP hD hK hS hA rfl hl.1 rfl (Nat.le_of_ble_eq_true rfl) dL_isParted_273 ⟨Nat.zero_le _, Nat.zero_le _⟩ (fun t_21 H locs ht_t_21 hP hD hS => ?_)
    refine lv_if_eq (tgt := 283) hx hb dL_isParted_276 (by decide) (fun c => absurd c (by decide)) (fun _ => ?_)
    refine lv_iconst (v := nI 1) hx hb dL_isParted_279 (by decide) ?_
    refine lv_goto (tgt := 284) hx hb dL_isParted_280 (by decide) ?_
    exact hQ true (v, t_21) H locs _ _ dL_isParted_284 (show jSok t_21 ∧ v = v ∧ nI (jB true) = nI 1 from ⟨by assumption, rfl, rfl⟩) hP hS

set_option maxHeartbeats 400000 in
set_option maxRecDepth 20000 in
theorem z_L_isPartedP (l : Launch) (D : va_G) (cI cO cM cL : ClassId) (g ro rt rd : Nat → Nat) (v : jZ) (t : jS) (sz : Nat) (hI : jzI v) (ht : jSok t) (a o : Nat) (ha : a < zP v) (ho : o < zP v) (hao : a ≠ o) (hlk : (jmLinked (zen v) (zla v) (zst v) (zn v) a).testBit o = false) (hw0 : ¬ jmWy (zsm v) (zgr v) (zst v) (zP v) (zn v) a o = 0) : jzCi (U := jZ × jS) l yL_isParted wsL_isParted ({ frames := 8, cells := 0, slots := 0, locals := 180 } : Room) D (jzT cI cO cM cL) (jzX cI cO cM cL g ro rt rd v t) [.ref (g 60), .int (nI a), .int (nI o)] sz (fun u => jzX cI cO cM cL g ro rt rd u.1 u.2) (fun r u => jSok u.2 ∧ v = u.1 ∧ r = nI 1) 0 0 := by
  refine jz_enterZ (by decide) rfl (Nat.le_of_ble_eq_true rfl) ?_
  intro p e s m args below meth c Q A ls hx hb hml hts hown hN hP hK hD hA hl hQ
  have hD0 := hD
  obtain ⟨H, hH⟩ : ∃ h, h = s.heap := ⟨_, rfl⟩
  have hS : va_S A s.heap H [] := by rw [hH]; exact va_S.rf
  rw [← hH] at hP ⊢
  obtain ⟨locs, hlocs⟩ : ∃ z : List Loc, z = [] := ⟨_, rfl⟩
  rw [← hlocs] at hS ⊢
  have hown : s.vm.findClass RL = some m.cls := hown
  have hl : lv_has ls 11 [(0, .ref (g 60)), (1, .int (nI a)), (2, .int (nI o))] := hl
  obtain ⟨hb1_v, hb2_v⟩ := jzI_b hI
  skip
  obtain ⟨p1, p2, p3, p4, p5, p6, p7, p8, p9, p10⟩ := jz_pair hI ha ho hao
  obtain ⟨W9, eW⟩ : ∃ y, y = jmWy (zsm v) (zgr v) (zst v) (zP v) (zn v) a o := ⟨_, rfl⟩
  obtain ⟨L9, eL⟩ : ∃ y, y = jmLy (zsm v) (zgr v) (zst v) (zn v) a o := ⟨_, rfl⟩
  obtain ⟨S9, eS⟩ : ∃ y, y = jmSide (zla v) (zP v) (zst v) a o := ⟨_, rfl⟩
  rw [← eS] at p3 p4 p5 p6 p7 p8
  obtain ⟨T9, eT⟩ : ∃ y, y = jmOut (zla v) (zst v) S9 (zP v) := ⟨_, rfl⟩
  rw [← eT] at p3 p7 p8
  rw [← eL] at p1 p2 p3 p8 p9 p10
  rw [← eW] at p1
  have hT16 : T9 < 65536 := Nat.lt_of_lt_of_le p7 (Nat.pow_le_pow_right (n := 2) (j := 16) (by decide) hb2_v)
  have hd1 := jmPop_le (zla v a &&& zst v)
  have hd2 := jmPop_le (zla v o &&& zst v)
  have hcp := jmCPc_le (en := zen v) (wi := jxAN (2 ^ zP v - 1) 0) (b := jxAN (zst v) T9) (n := zn v) (zP v)
  have hfp9 := (jzI_more hI).1
  have p8a := Nat.le_trans (Nat.le_add_right _ _) p8
  have p8b : 0 < L9 → zfp v + 1 ≤ jmCPc (zen v) (jxAN (2 ^ zP v - 1) 0) (jxAN (zst v) T9) (zn v) (zP v) := fun h => by rw [if_pos h] at p8; exact p8
  have hlk9 := jmLinked_lt (en := zen v) (la := zla v) (st := zst v) (n := zn v) (q := a) (jmWF_en hI.1.1)
  rw [← eW] at hw0
  obtain ⟨gp, q1, q2, q3, q4, q5, q6, q7, q8, q9⟩ := jz_pairO hI ha ho hao hlk
  rw [← eW] at q4 q9
  have hcp2 := jmCPc_le (en := zen v) (wi := jxAN (2 ^ zP v - 1) gp) (b := jxAN (zst v) 0) (n := zn v) (zP v)
  obtain ⟨q10, s9, q11, q12, q13⟩ : 0 < W9 ∧ ∃ s, 2 ≤ s ∧ s < 8 ∧ jmDist (zen v) (zla v) (zP v) (zst v) (zn v) a o = nI s := by rcases q9 with h | h <;> first | exact h | (have := h.1; omega)
  refine lv_aload_n hx hb dL_isParted_0 rfl (lv_at hl 0 rfl) ?_
  refine lv_iload_n hx hb dL_isParted_1 rfl (lv_at hl 1 rfl) ?_
  refine lv_iload_n hx hb dL_isParted_2 rfl (lv_at hl 2 rfl) ?_
  refine lv_iconst (v := nI 0) hx hb dL_isParted_3 (by decide) ?_
  refine jz_askVi (v := v) (t := t) (As := [.int (nI a), .int (nI o), .int (nI 0)]) (rest := []) ⟨hx, hb, hml, hown, hts⟩ (z_X6_between l D cI cO cM cL g ro rt rd v t _ (by assumption) (by assumption) a o (by omega) (by omega) (by omega) 0 (by decide)) (cwV 3 hts gL_isParted_X6_between rfl rfl rfl (by decide +kernel) ⟨Nat.le_of_ble_eq_true rfl, Nat.le_of_ble_eq_true rfl⟩) hN hP hD hK hS hA rfl hl.1 rfl (Nat.le_of_ble_eq_true rfl) dL_isParted_4 ⟨Nat.zero_le _, Nat.zero_le _⟩ (fun t_1 H locs ht_t_1 hP hD hS => ?_)
  refine jx_val (z := (nI W9)) (show nI (jmWy (zsm v) (zgr v) (zst v) (zP v) (zn v) a o) = nI W9 by rw [eW]) ?_
  refine lv_istore_n (lv' := [(3, .int (nI W9)), (0, .ref (g 60)), (1, .int (nI a)), (2, .int (nI o))]) hx hb dL_isParted_7 rfl hl (by decide) rfl (fun ls hl => ?_)
  refine lv_aload_n hx hb dL_isParted_8 rfl (lv_at hl 1 rfl) ?_
  refine lv_iload_n hx hb dL_isParted_9 rfl (lv_at hl 2 rfl) ?_
  refine lv_iload_n hx hb dL_isParted_10 rfl (lv_at hl 3 rfl) ?_
  refine lv_iconst (v := nI 1) hx hb dL_isParted_11 (by decide) ?_
  refine jz_askVi (v := v) (t := t_1) (As := [.int (nI a), .int (nI o), .int (nI 1)]) (rest := []) ⟨hx, hb, hml, hown, hts⟩ (z_X6_between l D cI cO cM cL g ro rt rd v t_1 _ (by assumption) (by assumption) a o (by omega) (by omega) (by omega) 1 (by decide)) (cwV 3 hts gL_isParted_X6_between rfl rfl rfl (by decide +kernel) ⟨Nat.le_of_ble_eq_true rfl, Nat.le_of_ble_eq_true rfl⟩) hN hP hD hK hS hA rfl hl.1 rfl (Nat.le_of_ble_eq_true rfl) dL_isParted_12 ⟨Nat.zero_le _, Nat.zero_le _⟩ (fun t_2 H locs ht_t_2 hP hD hS => ?_)
  refine jx_val (z := (nI L9)) (show nI (jmLy (zsm v) (zgr v) (zst v) (zn v) a o) = nI L9 by rw [eL]) ?_
  refine lv_istore (lv' := [(4, .int (nI L9)), (3, .int (nI W9)), (0, .ref (g 60)), (1, .int (nI a)), (2, .int (nI o))]) hx hb dL_isParted_15 hl (by decide) rfl (fun ls hl => ?_)
  refine lv_aload_n hx hb dL_isParted_17 rfl (lv_at hl 2 rfl) ?_
  refine lv_iload_n hx hb dL_isParted_18 rfl (lv_at hl 3 rfl) ?_
  refine lv_iload_n hx hb dL_isParted_19 rfl (lv_at hl 4 rfl) ?_
  refine lv_iconst (v := nI 3) hx hb dL_isParted_20 (by decide) ?_
  refine jz_askVi (v := v) (t := t_2) (As := [.int (nI a), .int (nI o), .int (nI 3)]) (rest := []) ⟨hx, hb, hml, hown, hts⟩ (z_X6_between l D cI cO cM cL g ro rt rd v t_2 _ (by assumption) (by assumption) a o (by omega) (by omega) (by omega) 3 (by decide)) (cwV 3 hts gL_isParted_X6_between rfl rfl rfl (by decide +kernel) ⟨Nat.le_of_ble_eq_true rfl, Nat.le_of_ble_eq_true rfl⟩) hN hP hD hK hS hA rfl hl.1 rfl (Nat.le_of_ble_eq_true rfl) dL_isParted_21 ⟨Nat.zero_le _, Nat.zero_le _⟩ (fun t_3 H locs ht_t_3 hP hD hS => ?_)
  refine jx_val (z := (nI gp)) q3 ?_
  refine lv_istore (lv' := [(5, .int (nI gp)), (4, .int (nI L9)), (3, .int (nI W9)), (0, .ref (g 60)), (1, .int (nI a)), (2, .int (nI o))]) hx hb dL_isParted_24 hl (by decide) rfl (fun ls hl => ?_)
  refine lv_aload_n hx hb dL_isParted_26 rfl (lv_at hl 3 rfl) ?_
  refine lv_iload_n hx hb dL_isParted_27 rfl (lv_at hl 4 rfl) ?_
  refine lv_iload_n hx hb dL_isParted_28 rfl (lv_at hl 5 rfl) ?_
  refine lv_iconst (v := nI 4) hx hb dL_isParted_29 (by decide) ?_
  refine jz_askVi (v := v) (t := t_3) (As := [.int (nI a), .int (nI o), .int (nI 4)]) (rest := []) ⟨hx, hb, hml, hown, hts⟩ (z_X6_between l D cI cO cM cL g ro rt rd v t_3 _ (by assumption) (by assumption) a o (by omega) (by omega) (by omega) 4 (by decide)) (cwV 3 hts gL_isParted_X6_between rfl rfl rfl (by decide +kernel) ⟨Nat.le_of_ble_eq_true rfl, Nat.le_of_ble_eq_true rfl⟩) hN hP hD hK hS hA rfl hl.1 rfl (Nat.le_of_ble_eq_true rfl) dL_isParted_30 ⟨Nat.zero_le _, Nat.zero_le _⟩ (fun t_4 H locs ht_t_4 hP hD hS => ?_)
  refine jx_val (z := (nI S9)) (show nI (jmSide (zla v) (zP v) (zst v) a o) = nI S9 by rw [eS]) ?_
  refine lv_istore (lv' := [(6, .int (nI S9)), (5, .int (nI gp)), (4, .int (nI L9)), (3, .int (nI W9)), (0, .ref (g 60)), (1, .int (nI a)), (2, .int (nI o))]) hx hb dL_isParted_33 hl (by decide) rfl (fun ls hl => ?_)
  refine lv_aload_n hx hb dL_isParted_35 rfl (lv_at hl 4 rfl) ?_
  refine lv_iload_n hx hb dL_isParted_36 rfl (lv_at hl 5 rfl) ?_
  refine lv_iload_n hx hb dL_isParted_37 rfl (lv_at hl 6 rfl) ?_
  refine lv_iconst (v := nI 5) hx hb dL_isParted_38 (by decide) ?_
  refine jz_askVi (v := v) (t := t_4) (As := [.int (nI a), .int (nI o), .int (nI 5)]) (rest := []) ⟨hx, hb, hml, hown, hts⟩ (z_X6_between l D cI cO cM cL g ro rt rd v t_4 _ (by assumption) (by assumption) a o (by omega) (by omega) (by omega) 5 (by decide)) (cwV 3 hts gL_isParted_X6_between rfl rfl rfl (by decide +kernel) ⟨Nat.le_of_ble_eq_true rfl, Nat.le_of_ble_eq_true rfl⟩) hN hP hD hK hS hA rfl hl.1 rfl (Nat.le_of_ble_eq_true rfl) dL_isParted_39 ⟨Nat.zero_le _, Nat.zero_le _⟩ (fun t_5 H locs ht_t_5 hP hD hS => ?_)
  refine jx_val (z := (nI T9)) (show nI (jmOut (zla v) (zst v) (jmSide (zla v) (zP v) (zst v) a o) (zP v)) = nI T9 by rw [← eS, ← eT]) ?_
  refine lv_istore (lv' := [(7, .int (nI T9)), (6, .int (nI S9)), (5, .int (nI gp)), (4, .int (nI L9)), (3, .int (nI W9)), (0, .ref (g 60)), (1, .int (nI a)), (2, .int (nI o))]) hx hb dL_isParted_42 hl (by decide) rfl (fun ls hl => ?_)
  refine lv_aload_n hx hb dL_isParted_44 rfl (lv_at hl 5 rfl) ?_
  refine lv_iload_n hx hb dL_isParted_45 rfl (lv_at hl 6 rfl) ?_
  refine lv_iconst (v := nI 5) hx hb dL_isParted_46 (by decide) ?_
  refine jz_askVi (v := v) (t := t_5) (As := [.int (nI a), .int (nI 5)]) (rest := []) ⟨hx, hb, hml, hown, hts⟩ (z_X6_ofPoint l D cI cO cM cL g ro rt rd v t_5 _ (by assumption) (by assumption) a (by omega) 5 (by decide)) (cwV 2 hts gL_isParted_X6_ofPoint rfl rfl rfl (by decide +kernel) ⟨Nat.le_of_ble_eq_true rfl, Nat.le_of_ble_eq_true rfl⟩) hN hP hD hK hS hA rfl hl.1 rfl (Nat.le_of_ble_eq_true rfl) dL_isParted_47 ⟨Nat.zero_le _, Nat.zero_le _⟩ (fun t_6 H locs ht_t_6 hP hD hS => ?_)
  refine jx_val (z := (nI (jmLinked (zen v) (zla v) (zst v) (zn v) a))) rfl ?_
  refine lv_iload_n hx hb dL_isParted_50 rfl (lv_at hl 7 rfl) ?_
  refine lv_ishr hx hb dL_isParted_51 ?_
  refine jx_val (z := (nI ((jmLinked (zen v) (zla v) (zst v) (zn v) a) / 2 ^ o))) (jx_shr (by omega) (by omega)) ?_
  refine lv_iconst (v := nI 1) hx hb dL_isParted_52 (by decide) ?_
  refine lv_iand hx hb dL_isParted_53 ?_
  refine jx_val (z := (nI (jB (Nat.testBit (jmLinked (zen v) (zla v) (zst v) (zn v) a) o)))) (jx_b1 _ _) ?_
  refine jx_val (z := (nI 0)) (by rw [hlk]; rfl) ?_
  refine lv_iconst (v := nI 1) hx hb dL_isParted_54 (by decide) ?_
  refine lv_icmp_ne (tgt := 62) hx hb dL_isParted_55 (by decide) (fun _ => ?_) (fun c => absurd c (by decide))
  refine lv_iconst (v := nI 0) hx hb dL_isParted_62 (by decide) ?_
  refine lv_istore (lv' := [(8, .int (nI 0)), (7, .int (nI T9)), (6, .int (nI S9)), (5, .int (nI gp)), (4, .int (nI L9)), (3, .int (nI W9)), (0, .ref (g 60)), (1, .int (nI a)), (2, .int (nI o))]) hx hb dL_isParted_63 hl (by decide) rfl (fun ls hl => ?_)
  refine lv_iload hx hb dL_isParted_65 (lv_at hl 0 rfl) ?_
  refine lv_iload hx hb dL_isParted_67 (lv_at hl 3 rfl) ?_
  refine lv_iconst (v := (-1)) hx hb dL_isParted_69 (by decide) ?_
  refine lv_icmp_ne (tgt := 77) hx hb dL_isParted_70 (by decide) (fun c => ?_) (fun c => absurd c (jz_nm1 (by omega)))
  refine lv_iconst (v := nI 0) hx hb dL_isParted_77 (by decide) ?_
  refine lv_icmp_ne (tgt := 116) hx hb dL_isParted_78 (by decide) (fun c => absurd c (by decide)) (fun _ => ?_)
  refine lv_iload_n hx hb dL_isParted_81 rfl (lv_at hl 5 rfl) ?_
  refine lv_iload hx hb dL_isParted_82 (lv_at hl 4 rfl) ?_
  refine lv_icmp_gt (tgt := 116) hx hb dL_isParted_84 (by decide) (fun c => absurd c (nI_nlt p1 (by omega))) (fun c => ?_)
  refine lv_iload hx hb dL_isParted_87 (lv_at hl 4 rfl) ?_
  refine lv_iload hx hb dL_isParted_89 (lv_at hl 1 rfl) ?_
  refine jz_pureSi (X := jzX cI cO cM cL g ro rt rd v t_6) (As := [.int (nI T9)]) (rest := [.int (nI L9)]) ⟨hx, hb, hml, hown, hts⟩ (z_bitCount l D (jzT cI cO cM cL) (jzX cI cO cM cL g ro rt rd v t_6) _ T9 (by omega)) (va_cwS 1 hts gL_isParted_J6_bitCount_0f7a4 rfl rfl rfl (by decide +kernel) ⟨Nat.le_of_ble_eq_true rfl, Nat.le_of_ble_eq_true rfl⟩) hN hP hD hK hS hA rfl hl.1 rfl (Nat.le_of_ble_eq_true rfl) dL_isParted_91 ⟨Nat.zero_le _, Nat.zero_le _⟩ (fun r H locs hr hP hS => ?_)
  subst hr
  refine lv_icmp_ne (tgt := 116) hx hb dL_isParted_94 (by decide) (fun c => absurd c (fun h => h (congrArg nI p3))) (fun c => ?_)
  refine lv_iload hx hb dL_isParted_97 (lv_at hl 2 rfl) ?_
  refine lv_iload_n hx hb dL_isParted_99 rfl (lv_at hl 7 rfl) ?_
  refine lv_ishr hx hb dL_isParted_100 ?_
  refine jx_val (z := (nI (S9 / 2 ^ a))) (jx_shr (by omega) (by omega)) ?_
  refine lv_iconst (v := nI 1) hx hb dL_isParted_101 (by decide) ?_
  refine lv_iand hx hb dL_isParted_102 ?_
  refine jx_val (z := (nI (jB (Nat.testBit S9 a)))) (jx_b1 _ _) ?_
  refine jx_val (z := (nI 1)) (by rw [p4]; rfl) ?_
  refine lv_if_eq (tgt := 116) hx hb dL_isParted_103 (by decide) (fun c => absurd c (by decide)) (fun _ => ?_)
  refine lv_iload hx hb dL_isParted_106 (lv_at hl 2 rfl) ?_
  refine lv_iload_n hx hb dL_isParted_108 rfl (lv_at hl 8 rfl) ?_
  refine lv_ishr hx hb dL_isParted_109 ?_
  refine jx_val (z := (nI (S9 / 2 ^ o))) (jx_shr (by omega) (by omega)) ?_
  refine lv_iconst (v := nI 1) hx hb dL_isParted_110 (by decide) ?_
  refine lv_iand hx hb dL_isParted_111 ?_
  refine jx_val (z := (nI (jB (Nat.testBit S9 o)))) (jx_b1 _ _) ?_
  refine jx_val (z := (nI 0)) (by rw [p5]; rfl) ?_
  refine lv_iconst (v := nI 1) hx hb dL_isParted_112 (by decide) ?_
  refine lv_icmp_ne (tgt := 118) hx hb dL_isParted_113 (by decide) (fun _ => ?_) (fun c => absurd c (by decide))
  refine lv_aload_n hx hb dL_isParted_118 rfl (lv_at hl 6 rfl) ?_
  refine lv_iconst (v := nI 0) hx hb dL_isParted_119 (by decide) ?_
  refine lv_iload hx hb dL_isParted_120 (lv_at hl 1 rfl) ?_
  refine jz_askVi (v := v) (t := t_6) (As := [.int (nI 0), .int (nI T9)]) (rest := []) ⟨hx, hb, hml, hown, hts⟩ (z_X6_without l D cI cO cM cL g ro rt rd v t_6 _ (by assumption) (by assumption) 0 T9 (by first | assumption | exact Nat.two_pow_pos _) (by first | assumption | exact Nat.two_pow_pos _)) (cwV 2 hts gL_isParted_X6_without rfl rfl rfl (by decide +kernel) ⟨Nat.le_of_ble_eq_true rfl, Nat.le_of_ble_eq_true rfl⟩) hN hP hD hK hS hA rfl hl.1 rfl (Nat.le_of_ble_eq_true rfl) dL_isParted_122 ⟨Nat.zero_le _, Nat.zero_le _⟩ (fun t_8 H locs ht_t_8 hP hD hS => ?_)
  refine lv_istore (lv' := [(9, .int (nI (jmCPc (zen v) (jxAN (2 ^ zP v - 1) 0) (jxAN (zst v) T9) (zn v) (zP v)))), (8, .int (nI 0)), (7, .int (nI T9)), (6, .int (nI S9)), (5, .int (nI gp)), (4, .int (nI L9)), (3, .int (nI W9)), (0, .ref (g 60)), (1, .int (nI a)), (2, .int (nI o))]) hx hb dL_isParted_125 hl (by decide) rfl (fun ls hl => ?_)
  refine lv_iload hx hb dL_isParted_127 (lv_at hl 0 rfl) ?_
  refine lv_aload_n hx hb dL_isParted_129 rfl (lv_at hl 7 rfl) ?_
  refine lv_iconst (v := nI 3) hx hb dL_isParted_130 (by decide) ?_
  refine jz_askVi (v := v) (t := t_8) (As := [.int (nI 3)]) (rest := [.int (nI (jmCPc (zen v) (jxAN (2 ^ zP v - 1) 0) (jxAN (zst v) T9) (zn v) (zP v)))]) ⟨hx, hb, hml, hown, hts⟩ (z_X6_net l D cI cO cM cL g ro rt rd v t_8 _ (by assumption) (by assumption) 3 (by decide)) (cwV 1 hts gL_isParted_X6_net rfl rfl rfl (by decide +kernel) ⟨Nat.le_of_ble_eq_true rfl, Nat.le_of_ble_eq_true rfl⟩) hN hP hD hK hS hA rfl hl.1 rfl (Nat.le_of_ble_eq_true rfl) dL_isParted_131 ⟨Nat.zero_le _, Nat.zero_le _⟩ (fun t_9 H locs ht_t_9 hP hD hS => ?_)
  refine jx_val (z := (nI (zfp v))) rfl ?_
  refine lv_iload hx hb dL_isParted_134 (lv_at hl 5 rfl) ?_
  refine lv_if_le (tgt := 143) hx hb dL_isParted_136 (by decide) (fun c136 => ?_) (fun c136 => ?_)
  · have c136 : L9 = 0 := by have := jx_le (a := L9) (b := 0) (by omega) (by decide) (by rw [nI_0]; exact c136); omega
    refine lv_iconst (v := nI 0) hx hb dL_isParted_143 (by decide) ?_
    refine lv_iadd hx hb dL_isParted_144 ?_
    refine jx_val (z := (nI (zfp v + 0))) (nI_add _ _) ?_
    refine lv_icmp_lt (tgt := 170) hx hb dL_isParted_145 (by decide) (fun c => absurd c (nI_nlt (by omega) (by omega))) (fun c => ?_)
    refine lv_iload hx hb dL_isParted_148 (lv_at hl 5 rfl) ?_
    refine lv_aload_n hx hb dL_isParted_150 rfl (lv_at hl 7 rfl) ?_
    refine lv_iload_n hx hb dL_isParted_151 rfl (lv_at hl 8 rfl) ?_
    refine lv_iconst (v := nI 1) hx hb dL_isParted_152 (by decide) ?_
    refine jz_askVi (v := v) (t := t_9) (As := [.int (nI a), .int (nI 1)]) (rest := [.int (nI L9)]) ⟨hx, hb, hml, hown, hts⟩ (z_X6_ofPoint l D cI cO cM cL g ro rt rd v t_9 _ (by assumption) (by assumption) a (by omega) 1 (by decide)) (cwV 2 hts gL_isParted_X6_ofPoint rfl rfl rfl (by decide +kernel) ⟨Nat.le_of_ble_eq_true rfl, Nat.le_of_ble_eq_true rfl⟩) hN hP hD hK hS hA rfl hl.1 rfl (Nat.le_of_ble_eq_true rfl) dL_isParted_153 ⟨Nat.zero_le _, Nat.zero_le _⟩ (fun t_10 H locs ht_t_10 hP hD hS => ?_)
    refine jx_val (z := (nI (jmPop (zla v a &&& zst v)))) rfl ?_
    refine lv_icmp_gt (tgt := 170) hx hb dL_isParted_156 (by decide) (fun c => absurd c (nI_nlt p9 (by omega))) (fun c => ?_)
    refine lv_iload hx hb dL_isParted_159 (lv_at hl 5 rfl) ?_
    refine lv_aload_n hx hb dL_isParted_161 rfl (lv_at hl 7 rfl) ?_
    refine lv_iload_n hx hb dL_isParted_162 rfl (lv_at hl 9 rfl) ?_
    refine lv_iconst (v := nI 1) hx hb dL_isParted_163 (by decide) ?_
    refine jz_askVi (v := v) (t := t_10) (As := [.int (nI o), .int (nI 1)]) (rest := [.int (nI L9)]) ⟨hx, hb, hml, hown, hts⟩ (z_X6_ofPoint l D cI cO cM cL g ro rt rd v t_10 _ (by assumption) (by assumption) o (by omega) 1 (by decide)) (cwV 2 hts gL_isParted_X6_ofPoint rfl rfl rfl (by decide +kernel) ⟨Nat.le_of_ble_eq_true rfl, Nat.le_of_ble_eq_true rfl⟩) hN hP hD hK hS hA rfl hl.1 rfl (Nat.le_of_ble_eq_true rfl) dL_isParted_164 ⟨Nat.zero_le _, Nat.zero_le _⟩ (fun t_11 H locs ht_t_11 hP hD hS => ?_)
    refine jx_val (z := (nI (jmPop (zla v o &&& zst v)))) rfl ?_
    refine lv_icmp_le (tgt := 172) hx hb dL_isParted_167 (by decide) (fun c => ?_) (fun c => absurd c (fun h => h (nI_le p10 (by omega))))
    refine lv_iload hx hb dL_isParted_172 (lv_at hl 1 rfl) ?_
    refine lv_if_eq (tgt := 198) hx hb dL_isParted_174 (by decide) (fun _ => ?_) (fun c => absurd c (by decide))
    refine lv_aload_n hx hb dL_isParted_198 rfl (lv_at hl 7 rfl) ?_
    refine lv_iload hx hb dL_isParted_199 (lv_at hl 4 rfl) ?_
    refine lv_iconst (v := nI 0) hx hb dL_isParted_201 (by decide) ?_
    refine jz_askVi (v := v) (t := t_11) (As := [.int (nI gp), .int (nI 0)]) (rest := []) ⟨hx, hb, hml, hown, hts⟩ (z_X6_without l D cI cO cM cL g ro rt rd v t_11 _ (by assumption) (by assumption) gp 0 (by first | assumption | exact Nat.two_pow_pos _) (by first | assumption | exact Nat.two_pow_pos _)) (cwV 2 hts gL_isParted_X6_without rfl rfl rfl (by decide +kernel) ⟨Nat.le_of_ble_eq_true rfl, Nat.le_of_ble_eq_true rfl⟩) hN hP hD hK hS hA rfl hl.1 rfl (Nat.le_of_ble_eq_true rfl) dL_isParted_202 ⟨Nat.zero_le _, Nat.zero_le _⟩ (fun t_12 H locs ht_t_12 hP hD hS => ?_)
    refine lv_istore (lv' := [(10, .int (nI (jmCPc (zen v) (jxAN (2 ^ zP v - 1) gp) (jxAN (zst v) 0) (zn v) (zP v)))), (9, .int (nI (jmCPc (zen v) (jxAN (2 ^ zP v - 1) 0) (jxAN (zst v) T9) (zn v) (zP v)))), (8, .int (nI 0)), (7, .int (nI T9)), (6, .int (nI S9)), (5, .int (nI gp)), (4, .int (nI L9)), (3, .int (nI W9)), (0, .ref (g 60)), (1, .int (nI a)), (2, .int (nI o))]) hx hb dL_isParted_205 hl (by decide) rfl (fun ls hl => ?_)
    refine lv_iload_n hx hb dL_isParted_207 rfl (lv_at hl 7 rfl) ?_
    refine lv_iload hx hb dL_isParted_208 (lv_at hl 5 rfl) ?_
    refine jz_pureSi (X := jzX cI cO cM cL g ro rt rd v t_12) (As := [.int (nI gp)]) (rest := [.int (nI W9)]) ⟨hx, hb, hml, hown, hts⟩ (z_bitCount l D (jzT cI cO cM cL) (jzX cI cO cM cL g ro rt rd v t_12) _ gp (by omega)) (va_cwS 1 hts gL_isParted_J6_bitCount_0f7a4 rfl rfl rfl (by decide +kernel) ⟨Nat.le_of_ble_eq_true rfl, Nat.le_of_ble_eq_true rfl⟩) hN hP hD hK hS hA rfl hl.1 rfl (Nat.le_of_ble_eq_true rfl) dL_isParted_210 ⟨Nat.zero_le _, Nat.zero_le _⟩ (fun r H locs hr hP hS => ?_)
    subst hr
    refine lv_icmp_ne (tgt := 283) hx hb dL_isParted_213 (by decide) (fun c => absurd c (fun h => h (congrArg nI q4.symm))) (fun c => ?_)
    refine lv_iload hx hb dL_isParted_216 (lv_at hl 5 rfl) ?_
    refine lv_iload_n hx hb dL_isParted_218 rfl (lv_at hl 9 rfl) ?_
    refine lv_ishr hx hb dL_isParted_219 ?_
    refine jx_val (z := (nI (gp / 2 ^ a))) (jx_shr (by omega) (by omega)) ?_
    refine lv_iconst (v := nI 1) hx hb dL_isParted_220 (by decide) ?_
    refine lv_iand hx hb dL_isParted_221 ?_
    refine jx_val (z := (nI (jB (Nat.testBit gp a)))) (jx_b1 _ _) ?_
    refine jx_val (z := (nI 0)) (by rw [q5]; rfl) ?_
    refine lv_if_ne (tgt := 283) hx hb dL_isParted_222 (by decide) (fun c => absurd c (by decide)) (fun _ => ?_)
    refine lv_iload hx hb dL_isParted_225 (lv_at hl 5 rfl) ?_
    refine lv_iload_n hx hb dL_isParted_227 rfl (lv_at hl 10 rfl) ?_
    refine lv_ishr hx hb dL_isParted_228 ?_
    refine jx_val (z := (nI (gp / 2 ^ o))) (jx_shr (by omega) (by omega)) ?_
    refine lv_iconst (v := nI 1) hx hb dL_isParted_229 (by decide) ?_
    refine lv_iand hx hb dL_isParted_230 ?_
    refine jx_val (z := (nI (jB (Nat.testBit gp o)))) (jx_b1 _ _) ?_
    refine jx_val (z := (nI 0)) (by rw [q6]; rfl) ?_
    refine lv_if_ne (tgt := 283) hx hb dL_isParted_231 (by decide) (fun c => absurd c (by decide)) (fun _ => ?_)
    refine lv_iload_n hx hb dL_isParted_234 rfl (lv_at hl 7 rfl) ?_
    refine lv_if_le (tgt := 242) hx hb dL_isParted_235 (by decide) (fun c => absurd c (nI_nle q10 (by omega))) (fun c => ?_)
    refine lv_iconst (v := nI 1) hx hb dL_isParted_238 (by decide) ?_
    refine lv_goto (tgt := 243) hx hb dL_isParted_239 (by decide) ?_
    refine lv_aload_n hx hb dL_isParted_243 rfl (lv_at hl 8 rfl) ?_
    refine lv_iload_n hx hb dL_isParted_244 rfl (lv_at hl 9 rfl) ?_
    refine lv_iload_n hx hb dL_isParted_245 rfl (lv_at hl 10 rfl) ?_
    refine lv_iconst (v := nI 2) hx hb dL_isParted_246 (by decide) ?_
    refine jz_askVi (v := v) (t := t_12) (As := [.int (nI a), .int (nI o), .int (nI 2)]) (rest := [.int (nI 1)]) ⟨hx, hb, hml, hown, hts⟩ (z_X6_between l D cI cO cM cL g ro rt rd v t_12 _ (by assumption) (by assumption) a o (by omega) (by omega) (by omega) 2 (by decide)) (cwV 3 hts gL_isParted_X6_between rfl rfl rfl (by decide +kernel) ⟨Nat.le_of_ble_eq_true rfl, Nat.le_of_ble_eq_true rfl⟩) hN hP hD hK hS hA rfl hl.1 rfl (Nat.le_of_ble_eq_true rfl) dL_isParted_247 ⟨Nat.zero_le _, Nat.zero_le _⟩ (fun t_14 H locs ht_t_14 hP hD hS => ?_)
    refine jx_val (z := (nI s9)) q13 ?_
    refine lv_iconst (v := nI 1) hx hb dL_isParted_250 (by decide) ?_
    refine lv_icmp_le (tgt := 258) hx hb dL_isParted_251 (by decide) (fun c => absurd c (nI_ge q11 (by omega))) (fun c => ?_)
    refine lv_iconst (v := nI 1) hx hb dL_isParted_254 (by decide) ?_
    refine lv_goto (tgt := 259) hx hb dL_isParted_255 (by decide) ?_
    refine lv_icmp_ne (tgt := 283) hx hb dL_isParted_259 (by decide) (fun c => absurd c (by decide)) (fun _ => ?_)
    refine lv_iload hx hb dL_isParted_262 (lv_at hl 0 rfl) ?_
    refine lv_iconst (v := nI 2) hx hb dL_isParted_264 (by decide) ?_
    refine lv_icmp_lt (tgt := 283) hx hb dL_isParted_265 (by decide) (fun c => absurd c (nI_nlt q8 (by omega))) (fun c => ?_)
    refine lv_aload_n hx hb dL_isParted_268 rfl (lv_at hl 8 rfl) ?_
    refine lv_iload_n hx hb dL_isParted_269 rfl (lv_at hl 9 rfl) ?_
    refine lv_iload_n hx hb dL_isParted_270 rfl (lv_at hl 10 rfl) ?_
    refine lv_iload hx hb dL_isParted_271 (lv_at hl 5 rfl) ?_
    refine jz_askSi (v := v) (t := t_14) (As := [.ref (g 60), .int (nI a), .int (nI o), .int (nI gp)]) (rest := []) ⟨hx, hb, hml, hown, hts⟩ (z_L_areOff l D cI cO cM cL g ro rt rd v t_14 _ (by assumption) (by assumption) a o gp ha ho (by omega) q5 q7) (va_cwS 4 hts gL_isParted_L_areOff rfl rfl rfl (by decide +kernel) ⟨Nat.le_of_ble_eq_true rfl, Nat.le_of_ble_eq_true rfl⟩) hN hP hD hK hS hA rfl hl.1 rfl (Nat.le_of_ble_eq_true rfl) dL_isParted_273 ⟨Nat.zero_le _, Nat.zero_le _⟩ (fun t_15 H locs ht_t_15 hP hD hS => ?_)
    refine lv_if_eq (tgt := 283) hx hb dL_isParted_276 (by decide) (fun c => absurd c (by decide)) (fun _ => ?_)
    refine lv_iconst (v := nI 1) hx hb dL_isParted_279 (by decide) ?_
    refine lv_goto (tgt := 284) hx hb dL_isParted_280 (by decide) ?_
    exact hQ true (v, t_15) H locs _ _ dL_isParted_284 (show jSok t_15 ∧ v = v ∧ nI (jB true) = nI 1 from ⟨by assumption, rfl, rfl⟩) hP hS
  · have c136 : 0 < L9 := by have := jx_nle (a := L9) (b := 0) (by omega) (by decide) (by rw [nI_0]; exact c136); omega
    refine lv_iconst (v := nI 1) hx hb dL_isParted_139 (by decide) ?_
    refine lv_goto (tgt := 144) hx hb dL_isParted_140 (by decide) ?_
    refine lv_iadd hx hb dL_isParted_144 ?_
    refine jx_val (z := (nI (zfp v + 1))) (nI_add _ _) ?_
    refine lv_icmp_lt (tgt := 170) hx hb dL_isParted_145 (by decide) (fun c => absurd c (nI_nlt (by omega) (by omega))) (fun c => ?_)
    refine lv_iload hx hb dL_isParted_148 (lv_at hl 5 rfl) ?_
    refine lv_aload_n hx hb dL_isParted_150 rfl (lv_at hl 7 rfl) ?_
    refine lv_iload_n hx hb dL_isParted_151 rfl (lv_at hl 8 rfl) ?_
    refine lv_iconst (v := nI 1) hx hb dL_isParted_152 (by decide) ?_
    refine jz_askVi (v := v) (t := t_9) (As := [.int (nI a), .int (nI 1)]) (rest := [.int (nI L9)]) ⟨hx, hb, hml, hown, hts⟩ (z_X6_ofPoint l D cI cO cM cL g ro rt rd v t_9 _ (by assumption) (by assumption) a (by omega) 1 (by decide)) (cwV 2 hts gL_isParted_X6_ofPoint rfl rfl rfl (by decide +kernel) ⟨Nat.le_of_ble_eq_true rfl, Nat.le_of_ble_eq_true rfl⟩) hN hP hD hK hS hA rfl hl.1 rfl (Nat.le_of_ble_eq_true rfl) dL_isParted_153 ⟨Nat.zero_le _, Nat.zero_le _⟩ (fun t_16 H locs ht_t_16 hP hD hS => ?_)
    refine jx_val (z := (nI (jmPop (zla v a &&& zst v)))) rfl ?_
    refine lv_icmp_gt (tgt := 170) hx hb dL_isParted_156 (by decide) (fun c => absurd c (nI_nlt p9 (by omega))) (fun c => ?_)
    refine lv_iload hx hb dL_isParted_159 (lv_at hl 5 rfl) ?_
    refine lv_aload_n hx hb dL_isParted_161 rfl (lv_at hl 7 rfl) ?_
    refine lv_iload_n hx hb dL_isParted_162 rfl (lv_at hl 9 rfl) ?_
    refine lv_iconst (v := nI 1) hx hb dL_isParted_163 (by decide) ?_
    refine jz_askVi (v := v) (t := t_16) (As := [.int (nI o), .int (nI 1)]) (rest := [.int (nI L9)]) ⟨hx, hb, hml, hown, hts⟩ (z_X6_ofPoint l D cI cO cM cL g ro rt rd v t_16 _ (by assumption) (by assumption) o (by omega) 1 (by decide)) (cwV 2 hts gL_isParted_X6_ofPoint rfl rfl rfl (by decide +kernel) ⟨Nat.le_of_ble_eq_true rfl, Nat.le_of_ble_eq_true rfl⟩) hN hP hD hK hS hA rfl hl.1 rfl (Nat.le_of_ble_eq_true rfl) dL_isParted_164 ⟨Nat.zero_le _, Nat.zero_le _⟩ (fun t_17 H locs ht_t_17 hP hD hS => ?_)
    refine jx_val (z := (nI (jmPop (zla v o &&& zst v)))) rfl ?_
    refine lv_icmp_le (tgt := 172) hx hb dL_isParted_167 (by decide) (fun c => ?_) (fun c => absurd c (fun h => h (nI_le p10 (by omega))))
    refine lv_iload hx hb dL_isParted_172 (lv_at hl 1 rfl) ?_
    refine lv_if_eq (tgt := 198) hx hb dL_isParted_174 (by decide) (fun _ => ?_) (fun c => absurd c (by decide))
    refine lv_aload_n hx hb dL_isParted_198 rfl (lv_at hl 7 rfl) ?_
    refine lv_iload hx hb dL_isParted_199 (lv_at hl 4 rfl) ?_
    refine lv_iconst (v := nI 0) hx hb dL_isParted_201 (by decide) ?_
    refine jz_askVi (v := v) (t := t_17) (As := [.int (nI gp), .int (nI 0)]) (rest := []) ⟨hx, hb, hml, hown, hts⟩ (z_X6_without l D cI cO cM cL g ro rt rd v t_17 _ (by assumption) (by assumption) gp 0 (by first | assumption | exact Nat.two_pow_pos _) (by first | assumption | exact Nat.two_pow_pos _)) (cwV 2 hts gL_isParted_X6_without rfl rfl rfl (by decide +kernel) ⟨Nat.le_of_ble_eq_true rfl, Nat.le_of_ble_eq_true rfl⟩) hN hP hD hK hS hA rfl hl.1 rfl (Nat.le_of_ble_eq_true rfl) dL_isParted_202 ⟨Nat.zero_le _, Nat.zero_le _⟩ (fun t_18 H locs ht_t_18 hP hD hS => ?_)
    refine lv_istore (lv' := [(10, .int (nI (jmCPc (zen v) (jxAN (2 ^ zP v - 1) gp) (jxAN (zst v) 0) (zn v) (zP v)))), (9, .int (nI (jmCPc (zen v) (jxAN (2 ^ zP v - 1) 0) (jxAN (zst v) T9) (zn v) (zP v)))), (8, .int (nI 0)), (7, .int (nI T9)), (6, .int (nI S9)), (5, .int (nI gp)), (4, .int (nI L9)), (3, .int (nI W9)), (0, .ref (g 60)), (1, .int (nI a)), (2, .int (nI o))]) hx hb dL_isParted_205 hl (by decide) rfl (fun ls hl => ?_)
    refine lv_iload_n hx hb dL_isParted_207 rfl (lv_at hl 7 rfl) ?_
    refine lv_iload hx hb dL_isParted_208 (lv_at hl 5 rfl) ?_
    refine jz_pureSi (X := jzX cI cO cM cL g ro rt rd v t_18) (As := [.int (nI gp)]) (rest := [.int (nI W9)]) ⟨hx, hb, hml, hown, hts⟩ (z_bitCount l D (jzT cI cO cM cL) (jzX cI cO cM cL g ro rt rd v t_18) _ gp (by omega)) (va_cwS 1 hts gL_isParted_J6_bitCount_0f7a4 rfl rfl rfl (by decide +kernel) ⟨Nat.le_of_ble_eq_true rfl, Nat.le_of_ble_eq_true rfl⟩) hN hP hD hK hS hA rfl hl.1 rfl (Nat.le_of_ble_eq_true rfl) dL_isParted_210 ⟨Nat.zero_le _, Nat.zero_le _⟩ (fun r H locs hr hP hS => ?_)
    subst hr
    refine lv_icmp_ne (tgt := 283) hx hb dL_isParted_213 (by decide) (fun c => absurd c (fun h => h (congrArg nI q4.symm))) (fun c => ?_)
    refine lv_iload hx hb dL_isParted_216 (lv_at hl 5 rfl) ?_
    refine lv_iload_n hx hb dL_isParted_218 rfl (lv_at hl 9 rfl) ?_
    refine lv_ishr hx hb dL_isParted_219 ?_
    refine jx_val (z := (nI (gp / 2 ^ a))) (jx_shr (by omega) (by omega)) ?_
    refine lv_iconst (v := nI 1) hx hb dL_isParted_220 (by decide) ?_
    refine lv_iand hx hb dL_isParted_221 ?_
    refine jx_val (z := (nI (jB (Nat.testBit gp a)))) (jx_b1 _ _) ?_
    refine jx_val (z := (nI 0)) (by rw [q5]; rfl) ?_
    refine lv_if_ne (tgt := 283) hx hb dL_isParted_222 (by decide) (fun c => absurd c (by decide)) (fun _ => ?_)
    refine lv_iload hx hb dL_isParted_225 (lv_at hl 5 rfl) ?_
    refine lv_iload_n hx hb dL_isParted_227 rfl (lv_at hl 10 rfl) ?_
    refine lv_ishr hx hb dL_isParted_228 ?_
    refine jx_val (z := (nI (gp / 2 ^ o))) (jx_shr (by omega) (by omega)) ?_
    refine lv_iconst (v := nI 1) hx hb dL_isParted_229 (by decide) ?_
    refine lv_iand hx hb dL_isParted_230 ?_
    refine jx_val (z := (nI (jB (Nat.testBit gp o)))) (jx_b1 _ _) ?_
    refine jx_val (z := (nI 0)) (by rw [q6]; rfl) ?_
    refine lv_if_ne (tgt := 283) hx hb dL_isParted_231 (by decide) (fun c => absurd c (by decide)) (fun _ => ?_)
    refine lv_iload_n hx hb dL_isParted_234 rfl (lv_at hl 7 rfl) ?_
    refine lv_if_le (tgt := 242) hx hb dL_isParted_235 (by decide) (fun c => absurd c (nI_nle q10 (by omega))) (fun c => ?_)
    refine lv_iconst (v := nI 1) hx hb dL_isParted_238 (by decide) ?_
    refine lv_goto (tgt := 243) hx hb dL_isParted_239 (by decide) ?_
    refine lv_aload_n hx hb dL_isParted_243 rfl (lv_at hl 8 rfl) ?_
    refine lv_iload_n hx hb dL_isParted_244 rfl (lv_at hl 9 rfl) ?_
    refine lv_iload_n hx hb dL_isParted_245 rfl (lv_at hl 10 rfl) ?_
    refine lv_iconst (v := nI 2) hx hb dL_isParted_246 (by decide) ?_
    refine jz_askVi (v := v) (t := t_18) (As := [.int (nI a), .int (nI o), .int (nI 2)]) (rest := [.int (nI 1)]) ⟨hx, hb, hml, hown, hts⟩ (z_X6_between l D cI cO cM cL g ro rt rd v t_18 _ (by assumption) (by assumption) a o (by omega) (by omega) (by omega) 2 (by decide)) (cwV 3 hts gL_isParted_X6_between rfl rfl rfl (by decide +kernel) ⟨Nat.le_of_ble_eq_true rfl, Nat.le_of_ble_eq_true rfl⟩) hN hP hD hK hS hA rfl hl.1 rfl (Nat.le_of_ble_eq_true rfl) dL_isParted_247 ⟨Nat.zero_le _, Nat.zero_le _⟩ (fun t_20 H locs ht_t_20 hP hD hS => ?_)
    refine jx_val (z := (nI s9)) q13 ?_
    refine lv_iconst (v := nI 1) hx hb dL_isParted_250 (by decide) ?_
    refine lv_icmp_le (tgt := 258) hx hb dL_isParted_251 (by decide) (fun c => absurd c (nI_ge q11 (by omega))) (fun c => ?_)
    refine lv_iconst (v := nI 1) hx hb dL_isParted_254 (by decide) ?_
    refine lv_goto (tgt := 259) hx hb dL_isParted_255 (by decide) ?_
    refine lv_icmp_ne (tgt := 283) hx hb dL_isParted_259 (by decide) (fun c => absurd c (by decide)) (fun _ => ?_)
    refine lv_iload hx hb dL_isParted_262 (lv_at hl 0 rfl) ?_
    refine lv_iconst (v := nI 2) hx hb dL_isParted_264 (by decide) ?_
    refine lv_icmp_lt (tgt := 283) hx hb dL_isParted_265 (by decide) (fun c => absurd c (nI_nlt q8 (by omega))) (fun c => ?_)
    refine lv_aload_n hx hb dL_isParted_268 rfl (lv_at hl 8 rfl) ?_
    refine lv_iload_n hx hb dL_isParted_269 rfl (lv_at hl 9 rfl) ?_
    refine lv_iload_n hx hb dL_isParted_270 rfl (lv_at hl 10 rfl) ?_
    refine lv_iload hx hb dL_isParted_271 (lv_at hl 5 rfl) ?_
    refine jz_askSi (v := v) (t := t_20) (As := [.ref (g 60), .int (nI a), .int (nI o), .int (nI gp)]) (rest := []) ⟨hx, hb, hml, hown, hts⟩ (z_L_areOff l D cI cO cM cL g ro rt rd v t_20 _ (by assumption) (by assumption) a o gp ha ho (by omega) q5 q7) (va_cwS 4 hts gL_isParted_L_areOff rfl rfl rfl (by decide +kernel) ⟨Nat.le_of_ble_eq_true rfl, Nat.le_of_ble_eq_true rfl⟩) hN hP hD hK hS hA rfl hl.1 rfl (Nat.le_of_ble_eq_true rfl) dL_isParted_273 ⟨Nat.zero_le _, Nat.zero_le _⟩ (fun t_21 H locs ht_t_21 hP hD hS => ?_)
    refine lv_if_eq (tgt := 283) hx hb dL_isParted_276 (by decide) (fun c => absurd c (by decide)) (fun _ => ?_)
    refine lv_iconst (v := nI 1) hx hb dL_isParted_279 (by decide) ?_
    refine lv_goto (tgt := 284) hx hb dL_isParted_280 (by decide) ?_
    exact hQ true (v, t_21) H locs _ _ dL_isParted_284 (show jSok t_21 ∧ v = v ∧ nI (jB true) = nI 1 from ⟨by assumption, rfl, rfl⟩) hP hS

theorem z_L_isParted (l : Launch) (D : va_G) (cI cO cM cL : ClassId) (g ro rt rd : Nat → Nat) (v : jZ) (t : jS) (sz : Nat) (hI : jzI v) (ht : jSok t) (a o : Nat) (ha : a < zP v) (ho : o < zP v) (hao : a ≠ o) : jzCi (U := jZ × jS) l yL_isParted wsL_isParted ({ frames := 8, cells := 0, slots := 0, locals := 180 } : Room) D (jzT cI cO cM cL) (jzX cI cO cM cL g ro rt rd v t) [.ref (g 60), .int (nI a), .int (nI o)] sz (fun u => jzX cI cO cM cL g ro rt rd u.1 u.2) (fun r u => jSok u.2 ∧ v = u.1 ∧ r = nI 1) 0 0 := by
  cases hlk : (jmLinked (zen v) (zla v) (zst v) (zn v) a).testBit o with
  | true => exact z_L_isPartedL l D cI cO cM cL g ro rt rd v t sz hI ht a o ha ho hao hlk
  | false =>
    by_cases hw0 : jmWy (zsm v) (zgr v) (zst v) (zP v) (zn v) a o = 0
    · exact z_L_isPartedO l D cI cO cM cL g ro rt rd v t sz hI ht a o ha ho hao hlk hw0
    · exact z_L_isPartedP l D cI cO cM cL g ro rt rd v t sz hI ht a o ha ho hao hlk hw0
