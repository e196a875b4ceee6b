set_option maxRecDepth 20000 in
theorem in_X2_countByTable_2 : ∀ w ∈ wsX20, w ∈ wsX2_countByTable := by decide +kernel
set_option maxRecDepth 20000 in
theorem in_X2_countByTable_5 : ∀ w ∈ wsX50, w ∈ wsX2_countByTable := by decide +kernel
set_option maxHeartbeats 4000000 in
set_option maxRecDepth 100000 in
/-- countByTable() -/
theorem c_X2_countByTable (l : Launch) (D : va_G) (cI : ClassId) (cM : ClassId) (cL : ClassId) (g : Nat → Nat) (P n st : Nat) (sm gr co en la : Nat → Nat) (rt : Nat → Nat) (cs : Nat) (ct : Int32) (jo : Nat → Nat) (tb : Nat → Nat → Int64) (sz : Nat) (hw : jmWF P n st sm gr co en la)  : jxWl l yX2_countByTable wsX2_countByTable ({ frames := 0, cells := 0, slots := 0, locals := 0 } : Room) D [(cI, .int), (cM, .array .long), (cL, .long)] (jW cI g P n st sm gr co en la ++ jT cI cM g rt cs ct jo ++ jRL cL 8 8 rt tb) [.ref (g 30)] sz (fun r => r = (jmCnt P tb).1) (jW cI g P n st sm gr co en la ++ jT cI cM g rt cs ct jo ++ jRL cL 8 8 rt ((jmCnt P tb).2)) := by
  refine jxw_enterL (by decide) rfl (Nat.le_of_ble_eq_true rfl) ?_
  intro p e s m args below meth c Q A ls hx hb hml hts hown hN hP hK hD hA hl hQ
  have hD0 := hD
  obtain ⟨H, hH⟩ : ∃ h, h = s.heap := ⟨_, rfl⟩
  have hS : va_S A s.heap H [] := by rw [hH]; exact va_S.rf
  rw [← hH] at hP ⊢
  obtain ⟨locs, hlocs⟩ : ∃ z : List Loc, z = [] := ⟨_, rfl⟩
  rw [← hlocs] at hS ⊢
  have hown : s.vm.findClass RX2 = some m.cls := hown
  have hl : lv_has ls 10 [(0, .ref (g 30))] := hl
  have hP8 : P ≤ 8 := hw.1
  have hn16 : n ≤ 16 := hw.2.1
  have hst : st < 65536 := jmWF_st hw
  have hen : ∀ j, j < n → en j < 256 := jmWF_en hw
  have hla : ∀ q, q < P → la q < 65536 := jmWF_la hw
  have hgr : ∀ j, j < n → sm j < 8 ∧ gr j < 8 := jmWF_gr hw
  have hco : ∀ j, j < n → co j < 21 := jmWF_co hw
  refine lv_aload_n hx hb dX2_countByTable_0 rfl (lv_at hl 0 rfl) ?_
  refine va_get (D := D) (ci := 2) (v := .ref (g 0)) (C := RX2) (T := TX2) (N := 5) hx hb hts in_X2_countByTable_2 hown hK hP 6 rfl rfl 0 (by decide) (hts (.fieldLink RX2 27 "Twincuts$Forest" "web" "LTwincuts$Web;") (List.mem_of_getElem? (i := 1) (by decide +kernel))) (fun _ h9 => h9) rfl dX2_countByTable_1 ?_
  refine va_getN (D := D) (ci := 5) (v := .int (nI P)) (C := RX5) (T := TX5) (N := 8) hx hb hts in_X2_countByTable_5 hown hK hP 0 rfl rfl 0 (by decide) (hN.use 3 rfl) (fun _ h9 => h9) rfl dX2_countByTable_4 ?_
  refine lv_if_ne (tgt := 12) hx hb dX2_countByTable_7 (by decide) (fun c7 => ?_) (fun c7 => ?_)
  · have c7 : P ≠ 0 := jx_nz c7
    refine lv_lconst (v := (1 : Int64)) hx hb dX2_countByTable_12 (by decide) ?_
    refine lv_lstore_n (lv' := [(1, .long (1 : Int64)), (0, .ref (g 30))]) hx hb dX2_countByTable_13 rfl hl (by decide) rfl (fun ls hl => ?_)
    refine lv_iconst (v := nI 0) hx hb dX2_countByTable_14 (by decide) ?_
    refine lv_istore_n (lv' := [(3, .int (nI 0)), (1, .long (1 : Int64)), (0, .ref (g 30))]) hx hb dX2_countByTable_15 rfl hl (by decide) rfl (fun ls hl => ?_)
    have L16 : ∀ (k : Nat) (i : Nat) (b9 : Int64) (t9 : jmL) (hi : i ≤ P - 1) (hd : jmBa P (P - 1) 0 1 tb = jmBa P (P - 1 - i) i b9 t9), P - 1 - i < k → ∀ (H : Heap) (locs : List Loc), va_P D vwCl (jW cI g P n st sm gr co en la ++ jT cI cM g rt cs ct jo ++ jRL cL 8 8 rt t9) H → va_S A s.heap H locs → ∀ ls : Array Slot, lv_has ls 10 [(0, .ref (g 30)), (1, .long b9), (3, .int (nI i))] → W p l e ({ frames := 0, cells := 0, slots := 0, locals := 0 } : Room) s m args below meth c H locs 0 0 Q (F0 m 16 ls []) := by
      intro k
      induction k with
      | zero => intro i b9 t9 hi hd hk; exact absurd hk (Nat.not_lt_zero _)
      | succ k ih16 =>
        intro i b9 t9 hi hd hk H locs hP hS ls hl
        have hD : va_D A (jW cI g P n st sm gr co en la ++ jT cI cM g rt cs ct jo ++ jRL cL 8 8 rt t9) := jxD hD0 rfl
        refine lv_iload_n hx hb dX2_countByTable_16 rfl (lv_at hl 2 rfl) ?_
        refine lv_aload_n hx hb dX2_countByTable_17 rfl (lv_at hl 0 rfl) ?_
        refine va_get (D := D) (ci := 2) (v := .ref (g 0)) (C := RX2) (T := TX2) (N := 5) hx hb hts in_X2_countByTable_2 hown hK hP 6 rfl rfl 0 (by decide) (hts (.fieldLink RX2 27 "Twincuts$Forest" "web" "LTwincuts$Web;") (List.mem_of_getElem? (i := 1) (by decide +kernel))) (fun _ h9 => h9) rfl dX2_countByTable_18 ?_
        refine va_getN (D := D) (ci := 5) (v := .int (nI P)) (C := RX5) (T := TX5) (N := 8) hx hb hts in_X2_countByTable_5 hown hK hP 0 rfl rfl 0 (by decide) (hN.use 3 rfl) (fun _ h9 => h9) rfl dX2_countByTable_21 ?_
        refine lv_iconst (v := nI 1) hx hb dX2_countByTable_24 (by decide) ?_
        refine lv_isub hx hb dX2_countByTable_25 ?_
        refine jx_val (z := (nI (P - 1))) (pk_sub (by omega)) ?_
        refine lv_icmp_ge (tgt := 162) hx hb dX2_countByTable_26 (by decide) (fun c26 => ?_) (fun c26 => ?_)
        · have c26 : P - 1 ≤ i := jx_le (Nat.lt_of_le_of_lt (Nat.sub_le _ _) (by omega)) (by omega) c26
          refine lv_lload_n hx hb dX2_countByTable_162 rfl (lv_at hl 1 rfl) ?_
          have ev_1 : t9 = (jmCnt P tb).2 := by first | (unfold jmCnt; rw [if_pos c7]; done) | (unfold jmCnt; rw [if_neg c7, hd, show P - 1 - i = (P - 1 - (i + 1)) + 1 by omega, jmBa_st (Or.inl c43)]; done) | (unfold jmCnt; rw [if_neg c7, hd, show P - 1 - i = (P - 1 - (i + 1)) + 1 by omega, jmBa_st (Or.inr c49)]; done) | (unfold jmCnt; rw [if_neg c7, hd, show P - 1 - i = 0 by omega]; rfl)
          exact hQ b9 H locs _ _ dX2_countByTable_163 (by first | (unfold jmCnt; rw [if_pos c7]; done) | (unfold jmCnt; rw [if_neg c7, hd, show P - 1 - i = (P - 1 - (i + 1)) + 1 by omega, jmBa_st (Or.inl c43)]; done) | (unfold jmCnt; rw [if_neg c7, hd, show P - 1 - i = (P - 1 - (i + 1)) + 1 by omega, jmBa_st (Or.inr c49)]; done) | (unfold jmCnt; rw [if_neg c7, hd, show P - 1 - i = 0 by omega]; rfl)) (by rw [← ev_1]; exact hP) hS
        · have c26 : i < P - 1 := jx_nle (Nat.lt_of_le_of_lt (Nat.sub_le _ _) (by omega)) (by omega) c26
          refine lv_aload_n hx hb dX2_countByTable_29 rfl (lv_at hl 0 rfl) ?_
          refine va_get (D := D) (ci := 2) (v := .ref (g 31)) (C := RX2) (T := TX2) (N := 5) hx hb hts in_X2_countByTable_2 hown hK hP 6 rfl rfl 1 (by decide) (hts (.fieldLink RX2 11 "Twincuts$Forest" "table" "[[J") (List.mem_of_getElem? (i := 2) (by decide +kernel))) (fun _ h9 => h9) rfl dX2_countByTable_30 ?_
          refine lv_iload_n hx hb dX2_countByTable_33 rfl (lv_at hl 2 rfl) ?_
          refine jx_aald (N := 8) hx hb hK hP 7 1 rfl rfl (by omega) (by decide) dX2_countByTable_34 ?_
          refine lv_iload_n hx hb dX2_countByTable_35 rfl (lv_at hl 2 rfl) ?_
          refine jx_lald2 (N := 8) hx hb hK (X := jW cI g P n st sm gr co en la ++ jT cI cM g rt cs ct jo) hP 2 rfl (by omega) (by omega) (by decide) dX2_countByTable_36 ?_
          refine lv_lstore (lv' := [(4, .long (t9 i i)), (0, .ref (g 30)), (1, .long b9), (3, .int (nI i))]) hx hb dX2_countByTable_37 hl (by decide) rfl (fun ls hl => ?_)
          refine lv_lload hx hb dX2_countByTable_39 (lv_at hl 0 rfl) ?_
          refine lv_lconst (v := (0 : Int64)) hx hb dX2_countByTable_41 (by decide) ?_
          refine W.lcmp hx hb dX2_countByTable_42 ?_
          refine lv_if_eq (tgt := 52) hx hb dX2_countByTable_43 (by decide) (fun c43 => ?_) (fun c43 => ?_)
          · have c43 := (lg_cmp_eq _ _).mp c43
            refine lv_lconst (v := (0 : Int64)) hx hb dX2_countByTable_52 (by decide) ?_
            have ev_2 : t9 = (jmCnt P tb).2 := by first | (unfold jmCnt; rw [if_pos c7]; done) | (unfold jmCnt; rw [if_neg c7, hd, show P - 1 - i = (P - 1 - (i + 1)) + 1 by omega, jmBa_st (Or.inl c43)]; done) | (unfold jmCnt; rw [if_neg c7, hd, show P - 1 - i = (P - 1 - (i + 1)) + 1 by omega, jmBa_st (Or.inr c49)]; done) | (unfold jmCnt; rw [if_neg c7, hd, show P - 1 - i = 0 by omega]; rfl)
            exact hQ (0 : Int64) H locs _ _ dX2_countByTable_53 (by first | (unfold jmCnt; rw [if_pos c7]; done) | (unfold jmCnt; rw [if_neg c7, hd, show P - 1 - i = (P - 1 - (i + 1)) + 1 by omega, jmBa_st (Or.inl c43)]; done) | (unfold jmCnt; rw [if_neg c7, hd, show P - 1 - i = (P - 1 - (i + 1)) + 1 by omega, jmBa_st (Or.inr c49)]; done) | (unfold jmCnt; rw [if_neg c7, hd, show P - 1 - i = 0 by omega]; rfl)) (by rw [← ev_2]; exact hP) hS
          · have c43 : ¬ t9 i i = 0 := fun z => c43 ((lg_cmp_eq _ _).mpr z)
            refine lv_lload_n hx hb dX2_countByTable_46 rfl (lv_at hl 2 rfl) ?_
            refine lv_lconst (v := (0 : Int64)) hx hb dX2_countByTable_47 (by decide) ?_
            refine W.lcmp hx hb dX2_countByTable_48 ?_
            refine lv_if_ne (tgt := 54) hx hb dX2_countByTable_49 (by decide) (fun c49 => ?_) (fun c49 => ?_)
            · have c49 : ¬ b9 = 0 := fun z => c49 ((lg_cmp_eq _ _).mpr z)
              refine lv_iload_n hx hb dX2_countByTable_54 rfl (lv_at hl 3 rfl) ?_
              refine lv_iconst (v := nI 1) hx hb dX2_countByTable_55 (by decide) ?_
              refine lv_iadd hx hb dX2_countByTable_56 ?_
              refine jx_val (z := (nI (i + 1))) (nI_add _ _) ?_
              refine lv_istore (lv' := [(6, .int (nI (i + 1))), (4, .long (t9 i i)), (0, .ref (g 30)), (1, .long b9), (3, .int (nI i))]) hx hb dX2_countByTable_57 hl (by decide) rfl (fun ls hl => ?_)
              have L59 : ∀ (k : Nat) (k1 : Nat) (hk1 : i + 1 + k1 ≤ P - 1), P - 1 - (i + 1 + k1) < k → ∀ (H : Heap) (locs : List Loc), va_P D vwCl (jW cI g P n st sm gr co en la ++ jT cI cM g rt cs ct jo ++ jRL cL 8 8 rt (jmBR i P b9 (t9 i i) t9 k1)) H → va_S A s.heap H locs → ∀ ls : Array Slot, lv_has ls 10 [(0, .ref (g 30)), (1, .long b9), (3, .int (nI i)), (4, .long (t9 i i)), (6, .int (nI (i + 1 + k1)))] → W p l e ({ frames := 0, cells := 0, slots := 0, locals := 0 } : Room) s m args below meth c H locs 0 0 Q (F0 m 59 ls []) := by
                intro k
                induction k with
                | zero => intro k1 hk1 hk; exact absurd hk (Nat.not_lt_zero _)
                | succ k ih59 =>
                  intro k1 hk1 hk H locs hP hS ls hl
                  have hD : va_D A (jW cI g P n st sm gr co en la ++ jT cI cM g rt cs ct jo ++ jRL cL 8 8 rt (jmBR i P b9 (t9 i i) t9 k1)) := jxD hD0 rfl
                  refine lv_iload hx hb dX2_countByTable_59 (lv_at hl 4 rfl) ?_
                  refine lv_aload_n hx hb dX2_countByTable_61 rfl (lv_at hl 0 rfl) ?_
                  refine va_get (D := D) (ci := 2) (v := .ref (g 0)) (C := RX2) (T := TX2) (N := 5) hx hb hts in_X2_countByTable_2 hown hK hP 6 rfl rfl 0 (by decide) (hts (.fieldLink RX2 27 "Twincuts$Forest" "web" "LTwincuts$Web;") (List.mem_of_getElem? (i := 1) (by decide +kernel))) (fun _ h9 => h9) rfl dX2_countByTable_62 ?_
                  refine va_getN (D := D) (ci := 5) (v := .int (nI P)) (C := RX5) (T := TX5) (N := 8) hx hb hts in_X2_countByTable_5 hown hK hP 0 rfl rfl 0 (by decide) (hN.use 3 rfl) (fun _ h9 => h9) rfl dX2_countByTable_65 ?_
                  refine lv_iconst (v := nI 1) hx hb dX2_countByTable_68 (by decide) ?_
                  refine lv_isub hx hb dX2_countByTable_69 ?_
                  refine jx_val (z := (nI (P - 1))) (pk_sub (by omega)) ?_
                  refine lv_icmp_ge (tgt := 153) hx hb dX2_countByTable_70 (by decide) (fun c70 => ?_) (fun c70 => ?_)
                  · have c70 : P - 1 ≤ i + 1 + k1 := jx_le (Nat.lt_of_le_of_lt (Nat.sub_le _ _) (by omega)) (by omega) c70
                    have es_153 : k1 = (P - 1 - (i + 1)) := (by omega)
                    subst es_153
                    refine lv_lload hx hb dX2_countByTable_153 (lv_at hl 3 rfl) ?_
                    refine lv_lstore_n (lv' := [(1, .long (t9 i i)), (0, .ref (g 30)), (3, .int (nI i)), (4, .long (t9 i i)), (6, .int (nI (i + 1 + (P - 1 - (i + 1)))))]) hx hb dX2_countByTable_155 rfl hl (by decide) rfl (fun ls hl => ?_)
                    refine lv_iinc (v := nI (i + 1)) (lv' := [(3, .int (nI (i + 1))), (1, .long (t9 i i)), (0, .ref (g 30)), (4, .long (t9 i i)), (6, .int (nI (i + 1 + (P - 1 - (i + 1)))))]) hx hb dX2_countByTable_156 hl (k := 2) rfl (jx_inc _) (by decide) rfl (fun ls hl => ?_)
                    refine lv_goto (tgt := 16) hx hb dX2_countByTable_159 (by decide) ?_
                    exact ih16 (i + 1) (t9 i i) (jmBR i P b9 (t9 i i) t9 (P - 1 - (i + 1))) (by omega) (by rw [hd, show P - 1 - i = (P - 1 - (i + 1)) + 1 by omega, jmBa_go c43 c49]) (by omega) H locs hP hS ls (lv_sub hl [2, 1, 0] rfl)
                  · have c70 : i + 1 + k1 < P - 1 := jx_nle (Nat.lt_of_le_of_lt (Nat.sub_le _ _) (by omega)) (by omega) c70
                    refine lv_iload_n hx hb dX2_countByTable_73 rfl (lv_at hl 2 rfl) ?_
                    refine lv_iconst (v := nI 1) hx hb dX2_countByTable_74 (by decide) ?_
                    refine lv_iadd hx hb dX2_countByTable_75 ?_
                    refine jx_val (z := (nI (i + 1))) (nI_add _ _) ?_
                    refine lv_istore (lv' := [(7, .int (nI (i + 1))), (0, .ref (g 30)), (1, .long b9), (3, .int (nI i)), (4, .long (t9 i i)), (6, .int (nI (i + 1 + k1)))]) hx hb dX2_countByTable_76 hl (by decide) rfl (fun ls hl => ?_)
                    have L78 : ∀ (k : Nat) (k2 : Nat) (hk2 : i + 1 + k2 ≤ P - 1), P - 1 - (i + 1 + k2) < k → ∀ (H : Heap) (locs : List Loc), va_P D vwCl (jW cI g P n st sm gr co en la ++ jT cI cM g rt cs ct jo ++ jRL cL 8 8 rt (jmBC i (i + 1 + k1) b9 (t9 i i) (jmBR i P b9 (t9 i i) t9 k1) k2)) H → va_S A s.heap H locs → ∀ ls : Array Slot, lv_has ls 10 [(0, .ref (g 30)), (1, .long b9), (3, .int (nI i)), (4, .long (t9 i i)), (6, .int (nI (i + 1 + k1))), (7, .int (nI (i + 1 + k2)))] → W p l e ({ frames := 0, cells := 0, slots := 0, locals := 0 } : Room) s m args below meth c H locs 0 0 Q (F0 m 78 ls []) := by
                      intro k
                      induction k with
                      | zero => intro k2 hk2 hk; exact absurd hk (Nat.not_lt_zero _)
                      | succ k ih78 =>
                        intro k2 hk2 hk H locs hP hS ls hl
                        have hD : va_D A (jW cI g P n st sm gr co en la ++ jT cI cM g rt cs ct jo ++ jRL cL 8 8 rt (jmBC i (i + 1 + k1) b9 (t9 i i) (jmBR i P b9 (t9 i i) t9 k1) k2)) := jxD hD0 rfl
                        refine lv_iload hx hb dX2_countByTable_78 (lv_at hl 5 rfl) ?_
                        refine lv_aload_n hx hb dX2_countByTable_80 rfl (lv_at hl 0 rfl) ?_
                        refine va_get (D := D) (ci := 2) (v := .ref (g 0)) (C := RX2) (T := TX2) (N := 5) hx hb hts in_X2_countByTable_2 hown hK hP 6 rfl rfl 0 (by decide) (hts (.fieldLink RX2 27 "Twincuts$Forest" "web" "LTwincuts$Web;") (List.mem_of_getElem? (i := 1) (by decide +kernel))) (fun _ h9 => h9) rfl dX2_countByTable_81 ?_
                        refine va_getN (D := D) (ci := 5) (v := .int (nI P)) (C := RX5) (T := TX5) (N := 8) hx hb hts in_X2_countByTable_5 hown hK hP 0 rfl rfl 0 (by decide) (hN.use 3 rfl) (fun _ h9 => h9) rfl dX2_countByTable_84 ?_
                        refine lv_iconst (v := nI 1) hx hb dX2_countByTable_87 (by decide) ?_
                        refine lv_isub hx hb dX2_countByTable_88 ?_
                        refine jx_val (z := (nI (P - 1))) (pk_sub (by omega)) ?_
                        refine lv_icmp_ge (tgt := 147) hx hb dX2_countByTable_89 (by decide) (fun c89 => ?_) (fun c89 => ?_)
                        · have c89 : P - 1 ≤ i + 1 + k2 := jx_le (Nat.lt_of_le_of_lt (Nat.sub_le _ _) (by omega)) (by omega) c89
                          have es_147 : k2 = (P - 1 - (i + 1)) := (by omega)
                          subst es_147
                          refine lv_iinc (v := nI (i + 1 + k1 + 1)) (lv' := [(6, .int (nI (i + 1 + k1 + 1))), (0, .ref (g 30)), (1, .long b9), (3, .int (nI i)), (4, .long (t9 i i)), (7, .int (nI (i + 1 + (P - 1 - (i + 1)))))]) hx hb dX2_countByTable_147 hl (k := 4) rfl (jx_inc _) (by decide) rfl (fun ls hl => ?_)
                          refine lv_goto (tgt := 59) hx hb dX2_countByTable_150 (by decide) ?_
                          have ev_3 : i + 1 + k1 + 1 = i + 1 + (k1 + 1) := by first | with_reducible rfl | rfl
                          have ew_4 : jmBC i (i + 1 + k1) b9 (t9 i i) (jmBR i P b9 (t9 i i) t9 k1) (P - 1 - (i + 1)) = jmBR i P b9 (t9 i i) t9 (k1 + 1) := by first | with_reducible rfl | rfl
                          exact ih59 (k1 + 1) (by omega) (by omega) H locs (by rw [← ew_4]; exact hP) hS ls (by rw [← ev_3]; exact lv_sub hl [1, 2, 3, 4, 0] rfl)
                        · have c89 : i + 1 + k2 < P - 1 := jx_nle (Nat.lt_of_le_of_lt (Nat.sub_le _ _) (by omega)) (by omega) c89
                          refine lv_aload_n hx hb dX2_countByTable_92 rfl (lv_at hl 0 rfl) ?_
                          refine va_get (D := D) (ci := 2) (v := .ref (g 31)) (C := RX2) (T := TX2) (N := 5) hx hb hts in_X2_countByTable_2 hown hK hP 6 rfl rfl 1 (by decide) (hts (.fieldLink RX2 11 "Twincuts$Forest" "table" "[[J") (List.mem_of_getElem? (i := 2) (by decide +kernel))) (fun _ h9 => h9) rfl dX2_countByTable_93 ?_
                          refine lv_iload hx hb dX2_countByTable_96 (lv_at hl 4 rfl) ?_
                          refine jx_aald (N := 8) hx hb hK hP 7 1 rfl rfl (by omega) (by decide) dX2_countByTable_98 ?_
                          refine lv_iload hx hb dX2_countByTable_99 (lv_at hl 5 rfl) ?_
                          refine jx_lald2 (N := 8) hx hb hK (X := jW cI g P n st sm gr co en la ++ jT cI cM g rt cs ct jo) hP 2 rfl (by omega) (by omega) (by decide) dX2_countByTable_101 ?_
                          refine lv_lload hx hb dX2_countByTable_102 (lv_at hl 3 rfl) ?_
                          refine lv_lmul hx hb dX2_countByTable_104 ?_
                          refine lv_aload_n hx hb dX2_countByTable_105 rfl (lv_at hl 0 rfl) ?_
                          refine va_get (D := D) (ci := 2) (v := .ref (g 31)) (C := RX2) (T := TX2) (N := 5) hx hb hts in_X2_countByTable_2 hown hK hP 6 rfl rfl 1 (by decide) (hts (.fieldLink RX2 11 "Twincuts$Forest" "table" "[[J") (List.mem_of_getElem? (i := 2) (by decide +kernel))) (fun _ h9 => h9) rfl dX2_countByTable_106 ?_
                          refine lv_iload hx hb dX2_countByTable_109 (lv_at hl 4 rfl) ?_
                          refine jx_aald (N := 8) hx hb hK hP 7 1 rfl rfl (by omega) (by decide) dX2_countByTable_111 ?_
                          refine lv_iload_n hx hb dX2_countByTable_112 rfl (lv_at hl 2 rfl) ?_
                          refine jx_lald2 (N := 8) hx hb hK (X := jW cI g P n st sm gr co en la ++ jT cI cM g rt cs ct jo) hP 2 rfl (by omega) (by omega) (by decide) dX2_countByTable_113 ?_
                          refine lv_aload_n hx hb dX2_countByTable_114 rfl (lv_at hl 0 rfl) ?_
                          refine va_get (D := D) (ci := 2) (v := .ref (g 31)) (C := RX2) (T := TX2) (N := 5) hx hb hts in_X2_countByTable_2 hown hK hP 6 rfl rfl 1 (by decide) (hts (.fieldLink RX2 11 "Twincuts$Forest" "table" "[[J") (List.mem_of_getElem? (i := 2) (by decide +kernel))) (fun _ h9 => h9) rfl dX2_countByTable_115 ?_
                          refine lv_iload_n hx hb dX2_countByTable_118 rfl (lv_at hl 2 rfl) ?_
                          refine jx_aald (N := 8) hx hb hK hP 7 1 rfl rfl (by omega) (by decide) dX2_countByTable_119 ?_
                          refine lv_iload hx hb dX2_countByTable_120 (lv_at hl 5 rfl) ?_
                          refine jx_lald2 (N := 8) hx hb hK (X := jW cI g P n st sm gr co en la ++ jT cI cM g rt cs ct jo) hP 2 rfl (by omega) (by omega) (by decide) dX2_countByTable_122 ?_
                          refine lv_lmul hx hb dX2_countByTable_123 ?_
                          refine lv_lsub hx hb dX2_countByTable_124 ?_
                          refine lv_lstore (lv' := [(8, .long ((((jmBC i (i + 1 + k1) b9 (t9 i i) (jmBR i P b9 (t9 i i) t9 k1) k2) (i + 1 + k1) (i + 1 + k2)) * (t9 i i)) - (((jmBC i (i + 1 + k1) b9 (t9 i i) (jmBR i P b9 (t9 i i) t9 k1) k2) (i + 1 + k1) i) * ((jmBC i (i + 1 + k1) b9 (t9 i i) (jmBR i P b9 (t9 i i) t9 k1) k2) i (i + 1 + k2))))), (0, .ref (g 30)), (1, .long b9), (3, .int (nI i)), (4, .long (t9 i i)), (6, .int (nI (i + 1 + k1))), (7, .int (nI (i + 1 + k2)))]) hx hb dX2_countByTable_125 hl (by decide) rfl (fun ls hl => ?_)
                          refine lv_aload_n hx hb dX2_countByTable_127 rfl (lv_at hl 1 rfl) ?_
                          refine va_get (D := D) (ci := 2) (v := .ref (g 31)) (C := RX2) (T := TX2) (N := 5) hx hb hts in_X2_countByTable_2 hown hK hP 6 rfl rfl 1 (by decide) (hts (.fieldLink RX2 11 "Twincuts$Forest" "table" "[[J") (List.mem_of_getElem? (i := 2) (by decide +kernel))) (fun _ h9 => h9) rfl dX2_countByTable_128 ?_
                          refine lv_iload hx hb dX2_countByTable_131 (lv_at hl 5 rfl) ?_
                          refine jx_aald (N := 8) hx hb hK hP 7 1 rfl rfl (by omega) (by decide) dX2_countByTable_133 ?_
                          refine lv_iload hx hb dX2_countByTable_134 (lv_at hl 6 rfl) ?_
                          refine lv_lload hx hb dX2_countByTable_136 (lv_at hl 0 rfl) ?_
                          refine lv_lload_n hx hb dX2_countByTable_138 rfl (lv_at hl 2 rfl) ?_
                          refine lv_ldiv hx hb dX2_countByTable_139 c49 ?_
                          refine jx_last2 (N := 8) hx hb hK (X := jW cI g P n st sm gr co en la ++ jT cI cM g rt cs ct jo) hP hD hS 2 rfl (by omega) (by omega) (by decide) dX2_countByTable_140 (fun H locs hP hD hS => ?_)
                          have hP : va_P D vwCl (jW cI g P n st sm gr co en la ++ jT cI cM g rt cs ct jo ++ jRL cL 8 8 rt (jxUp2 (jmBC i (i + 1 + k1) b9 (t9 i i) (jmBR i P b9 (t9 i i) t9 k1) k2) (i + 1 + k1) (i + 1 + k2) (((((jmBC i (i + 1 + k1) b9 (t9 i i) (jmBR i P b9 (t9 i i) t9 k1) k2) (i + 1 + k1) (i + 1 + k2)) * (t9 i i)) - (((jmBC i (i + 1 + k1) b9 (t9 i i) (jmBR i P b9 (t9 i i) t9 k1) k2) (i + 1 + k1) i) * ((jmBC i (i + 1 + k1) b9 (t9 i i) (jmBR i P b9 (t9 i i) t9 k1) k2) i (i + 1 + k2)))) / b9))) H := hP
                          have hD : va_D A (jW cI g P n st sm gr co en la ++ jT cI cM g rt cs ct jo ++ jRL cL 8 8 rt (jxUp2 (jmBC i (i + 1 + k1) b9 (t9 i i) (jmBR i P b9 (t9 i i) t9 k1) k2) (i + 1 + k1) (i + 1 + k2) (((((jmBC i (i + 1 + k1) b9 (t9 i i) (jmBR i P b9 (t9 i i) t9 k1) k2) (i + 1 + k1) (i + 1 + k2)) * (t9 i i)) - (((jmBC i (i + 1 + k1) b9 (t9 i i) (jmBR i P b9 (t9 i i) t9 k1) k2) (i + 1 + k1) i) * ((jmBC i (i + 1 + k1) b9 (t9 i i) (jmBR i P b9 (t9 i i) t9 k1) k2) i (i + 1 + k2)))) / b9))) := jxD hD0 rfl
                          refine lv_iinc (v := nI (i + 1 + k2 + 1)) (lv' := [(7, .int (nI (i + 1 + k2 + 1))), (8, .long ((((jmBC i (i + 1 + k1) b9 (t9 i i) (jmBR i P b9 (t9 i i) t9 k1) k2) (i + 1 + k1) (i + 1 + k2)) * (t9 i i)) - (((jmBC i (i + 1 + k1) b9 (t9 i i) (jmBR i P b9 (t9 i i) t9 k1) k2) (i + 1 + k1) i) * ((jmBC i (i + 1 + k1) b9 (t9 i i) (jmBR i P b9 (t9 i i) t9 k1) k2) i (i + 1 + k2))))), (0, .ref (g 30)), (1, .long b9), (3, .int (nI i)), (4, .long (t9 i i)), (6, .int (nI (i + 1 + k1)))]) hx hb dX2_countByTable_141 hl (k := 6) rfl (jx_inc _) (by decide) rfl (fun ls hl => ?_)
                          refine lv_goto (tgt := 78) hx hb dX2_countByTable_144 (by decide) ?_
                          have ev_5 : i + 1 + k2 + 1 = i + 1 + (k2 + 1) := by first | with_reducible rfl | rfl
                          have ew_6 : jxUp2 (jmBC i (i + 1 + k1) b9 (t9 i i) (jmBR i P b9 (t9 i i) t9 k1) k2) (i + 1 + k1) (i + 1 + k2) (((((jmBC i (i + 1 + k1) b9 (t9 i i) (jmBR i P b9 (t9 i i) t9 k1) k2) (i + 1 + k1) (i + 1 + k2)) * (t9 i i)) - (((jmBC i (i + 1 + k1) b9 (t9 i i) (jmBR i P b9 (t9 i i) t9 k1) k2) (i + 1 + k1) i) * ((jmBC i (i + 1 + k1) b9 (t9 i i) (jmBR i P b9 (t9 i i) t9 k1) k2) i (i + 1 + k2)))) / b9) = jmBC i (i + 1 + k1) b9 (t9 i i) (jmBR i P b9 (t9 i i) t9 k1) (k2 + 1) := by first | with_reducible rfl | rfl
                          exact ih78 (k2 + 1) (by omega) (by omega) H locs (by rw [← ew_6]; exact hP) hS ls (by rw [← ev_5]; exact lv_sub hl [2, 3, 4, 5, 6, 0] rfl)
                    have ev_7 : i + 1 = i + 1 + 0 := by first | with_reducible rfl | rfl
                    have ew_8 : jmBR i P b9 (t9 i i) t9 k1 = jmBC i (i + 1 + k1) b9 (t9 i i) (jmBR i P b9 (t9 i i) t9 k1) 0 := by rfl
                    exact L78 ((P - 1 - (i + 1 + 0)) + 1) 0 (by omega) (Nat.lt_succ_self _) H locs (by rw [← ew_8]; exact hP) hS ls (by rw [← ev_7]; exact lv_sub hl [1, 2, 3, 4, 5, 0] rfl)
              have ev_9 : i + 1 = i + 1 + 0 := by first | with_reducible rfl | rfl
              have ew_10 : t9 = jmBR i P b9 (t9 i i) t9 0 := by rfl
              exact L59 ((P - 1 - (i + 1 + 0)) + 1) 0 (by omega) (Nat.lt_succ_self _) H locs (by rw [← ew_10]; exact hP) hS ls (by rw [← ev_9]; exact lv_sub hl [2, 3, 4, 1, 0] rfl)
            · have c49 := (lg_cmp_eq _ _).mp c49
              refine lv_lconst (v := (0 : Int64)) hx hb dX2_countByTable_52 (by decide) ?_
              have ev_11 : t9 = (jmCnt P tb).2 := by first | (unfold jmCnt; rw [if_pos c7]; done) | (unfold jmCnt; rw [if_neg c7, hd, show P - 1 - i = (P - 1 - (i + 1)) + 1 by omega, jmBa_st (Or.inl c43)]; done) | (unfold jmCnt; rw [if_neg c7, hd, show P - 1 - i = (P - 1 - (i + 1)) + 1 by omega, jmBa_st (Or.inr c49)]; done) | (unfold jmCnt; rw [if_neg c7, hd, show P - 1 - i = 0 by omega]; rfl)
              exact hQ (0 : Int64) H locs _ _ dX2_countByTable_53 (by first | (unfold jmCnt; rw [if_pos c7]; done) | (unfold jmCnt; rw [if_neg c7, hd, show P - 1 - i = (P - 1 - (i + 1)) + 1 by omega, jmBa_st (Or.inl c43)]; done) | (unfold jmCnt; rw [if_neg c7, hd, show P - 1 - i = (P - 1 - (i + 1)) + 1 by omega, jmBa_st (Or.inr c49)]; done) | (unfold jmCnt; rw [if_neg c7, hd, show P - 1 - i = 0 by omega]; rfl)) (by rw [← ev_11]; exact hP) hS
    exact L16 ((P - 1 - 0) + 1) 0 (1 : Int64) tb (by omega) rfl (Nat.lt_succ_self _) H locs hP hS ls (lv_sub hl [2, 1, 0] rfl)
  · have c7 : P = 0 := jx_z (by omega) c7
    refine lv_lconst (v := (0 : Int64)) hx hb dX2_countByTable_10 (by decide) ?_
    have ev_12 : tb = (jmCnt P tb).2 := by first | (unfold jmCnt; rw [if_pos c7]; done) | (unfold jmCnt; rw [if_neg c7, hd, show P - 1 - i = (P - 1 - (i + 1)) + 1 by omega, jmBa_st (Or.inl c43)]; done) | (unfold jmCnt; rw [if_neg c7, hd, show P - 1 - i = (P - 1 - (i + 1)) + 1 by omega, jmBa_st (Or.inr c49)]; done) | (unfold jmCnt; rw [if_neg c7, hd, show P - 1 - i = 0 by omega]; rfl)
    exact hQ (0 : Int64) H locs _ _ dX2_countByTable_11 (by first | (unfold jmCnt; rw [if_pos c7]; done) | (unfold jmCnt; rw [if_neg c7, hd, show P - 1 - i = (P - 1 - (i + 1)) + 1 by omega, jmBa_st (Or.inl c43)]; done) | (unfold jmCnt; rw [if_neg c7, hd, show P - 1 - i = (P - 1 - (i + 1)) + 1 by omega, jmBa_st (Or.inr c49)]; done) | (unfold jmCnt; rw [if_neg c7, hd, show P - 1 - i = 0 by omega]; rfl)) (by rw [← ev_12]; exact hP) hS
