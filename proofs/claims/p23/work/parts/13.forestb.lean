set_option maxRecDepth 20000 in
theorem in_X2_fillTable_2 : ∀ w ∈ wsX20, w ∈ wsX2_fillTable := by decide +kernel
set_option maxRecDepth 20000 in
theorem in_X2_fillTable_5 : ∀ w ∈ wsX50, w ∈ wsX2_fillTable := by decide +kernel
set_option maxHeartbeats 4000000 in
set_option maxRecDepth 100000 in
/-- fillTable() -/
theorem c_X2_fillTable (l : Launch) (D : va_G) (cI : ClassId) (cM : ClassId) (cL : ClassId) (g : Nat → Nat) (P n st : Nat) (sm gr co en la : Nat → Nat) (rt : Nat → Nat) (cs : Nat) (ct : Int32) (jo : Nat → Nat) (tb : Nat → Nat → Int64) (sz : Nat) (hw : jmWF P n st sm gr co en la)  : jxWv l yX2_fillTable wsX2_fillTable ({ frames := 1, cells := 0, slots := 0, locals := 22 } : Room) D [(cI, .int), (cM, .array .long), (cL, .long)] (jW cI g P n st sm gr co en la ++ jT cI cM g rt cs ct jo ++ jRL cL 8 8 rt tb) [.ref (g 30)] sz (jW cI g P n st sm gr co en la ++ jT cI cM g rt cs ct jo ++ jRL cL 8 8 rt (jmFT sm gr st n)) := by
  refine jxw_enterV (by decide) rfl (Nat.le_of_ble_eq_true rfl) ?_
  intro p e s m args below meth c Q A ls hx hb hml hts hown hN hP hK hD hA hl hQ
  have hD0 := hD
  obtain ⟨H, hH⟩ : ∃ h, h = s.heap := ⟨_, rfl⟩
  have hS : va_S A s.heap H [] := by rw [hH]; exact va_S.rf
  rw [← hH] at hP ⊢
  obtain ⟨locs, hlocs⟩ : ∃ z : List Loc, z = [] := ⟨_, rfl⟩
  rw [← hlocs] at hS ⊢
  have hown : s.vm.findClass RX2 = some m.cls := hown
  have hl : lv_has ls 3 [(0, .ref (g 30))] := hl
  have hP8 : P ≤ 8 := hw.1
  have hn16 : n ≤ 16 := hw.2.1
  have hst : st < 65536 := jmWF_st hw
  have hen : ∀ j, j < n → en j < 256 := jmWF_en hw
  have hla : ∀ q, q < P → la q < 65536 := jmWF_la hw
  have hgr : ∀ j, j < n → sm j < 8 ∧ gr j < 8 := jmWF_gr hw
  have hco : ∀ j, j < n → co j < 21 := jmWF_co hw
  refine lv_iconst (v := nI 0) hx hb dX2_fillTable_0 (by decide) ?_
  refine lv_istore_n (lv' := [(1, .int (nI 0)), (0, .ref (g 30))]) hx hb dX2_fillTable_1 rfl hl (by decide) rfl (fun ls hl => ?_)
  have L2 : ∀ (k : Nat) (i : Nat) (hi : i ≤ 8), 8 - i < k → ∀ (H : Heap) (locs : List Loc), va_P D vwCl (jW cI g P n st sm gr co en la ++ jT cI cM g rt cs ct jo ++ jRL cL 8 8 rt (jmCl 0 8 tb i 0)) H → va_S A s.heap H locs → ∀ ls : Array Slot, lv_has ls 3 [(0, .ref (g 30)), (1, .int (nI i))] → W p l e ({ frames := 1, cells := 0, slots := 0, locals := 22 } : Room) s m args below meth c H locs 0 0 Q (F0 m 2 ls []) := by
    intro k
    induction k with
    | zero => intro i hi hk; exact absurd hk (Nat.not_lt_zero _)
    | succ k ih2 =>
      intro i hi hk H locs hP hS ls hl
      have hD : va_D A (jW cI g P n st sm gr co en la ++ jT cI cM g rt cs ct jo ++ jRL cL 8 8 rt (jmCl 0 8 tb i 0)) := jxD hD0 rfl
      refine lv_iload_n hx hb dX2_fillTable_2 rfl (lv_at hl 1 rfl) ?_
      refine lv_bipush (v := nI 8) hx hb dX2_fillTable_3 (by decide) ?_
      refine lv_icmp_ge (tgt := 37) hx hb dX2_fillTable_5 (by decide) (fun c5 => ?_) (fun c5 => ?_)
      · have c5 : 8 ≤ i := jx_le (by decide) (by omega) c5
        have es_37 : 8 = i := (by omega)
        subst es_37
        have hP := jx_canonR (X := jW cI g P n st sm gr co en la ++ jT cI cM g rt cs ct jo) (N := 8) (r := rt) (c := cL) (f := fun i => (8, .inr (.inl ((jmCl 0 8 tb 8 0) i)))) (f' := fun i => (8, .inr (.inl ((fun _ _ => 0) i)))) hP (fun i hi => jx_cellL (fun j hj => jmCl_end _ _ hi hj))
        have hP : va_P D vwCl (jW cI g P n st sm gr co en la ++ jT cI cM g rt cs ct jo ++ jRL cL 8 8 rt (fun _ _ => 0)) H := hP
        have hD : va_D A (jW cI g P n st sm gr co en la ++ jT cI cM g rt cs ct jo ++ jRL cL 8 8 rt (fun _ _ => 0)) := jxD hD0 rfl
        refine lv_iconst (v := nI 0) hx hb dX2_fillTable_37 (by decide) ?_
        refine lv_istore_n (lv' := [(1, .int (nI 0)), (0, .ref (g 30))]) hx hb dX2_fillTable_38 rfl hl (by decide) rfl (fun ls hl => ?_)
        have L39 : ∀ (k : Nat) (ln : Nat) (hln : ln ≤ n), n - ln < k → ∀ (H : Heap) (locs : List Loc), va_P D vwCl (jW cI g P n st sm gr co en la ++ jT cI cM g rt cs ct jo ++ jRL cL 8 8 rt (jmFT sm gr st ln)) H → va_S A s.heap H locs → ∀ ls : Array Slot, lv_has ls 3 [(0, .ref (g 30)), (1, .int (nI ln))] → W p l e ({ frames := 1, cells := 0, slots := 0, locals := 22 } : Room) s m args below meth c H locs 0 0 Q (F0 m 39 ls []) := by
          intro k
          induction k with
          | zero => intro ln hln hk; exact absurd hk (Nat.not_lt_zero _)
          | succ k ih39 =>
            intro ln hln hk H locs hP hS ls hl
            have hD : va_D A (jW cI g P n st sm gr co en la ++ jT cI cM g rt cs ct jo ++ jRL cL 8 8 rt (jmFT sm gr st ln)) := jxD hD0 rfl
            refine lv_iload_n hx hb dX2_fillTable_39 rfl (lv_at hl 1 rfl) ?_
            refine lv_aload_n hx hb dX2_fillTable_40 rfl (lv_at hl 0 rfl) ?_
            refine va_get (D := D) (ci := 2) (v := .ref (g 0)) (C := RX2) (T := TX2) (N := 5) hx hb hts in_X2_fillTable_2 hown hK hP 6 rfl rfl 0 (by decide) (hts (.fieldLink RX2 27 "Twincuts$Forest" "web" "LTwincuts$Web;") (List.mem_of_getElem? (i := 2) (by decide +kernel))) (fun _ h9 => h9) rfl dX2_fillTable_41 ?_
            refine va_getN (D := D) (ci := 5) (v := .int (nI n)) (C := RX5) (T := TX5) (N := 8) hx hb hts in_X2_fillTable_5 hown hK hP 0 rfl rfl 1 (by decide) (hN.use 9 rfl) (fun _ h9 => h9) rfl dX2_fillTable_44 ?_
            refine lv_icmp_ge (tgt := 92) hx hb dX2_fillTable_47 (by decide) (fun c47 => ?_) (fun c47 => ?_)
            · have c47 : n ≤ ln := jx_le (by omega) (by omega) c47
              have es_92 : n = ln := (by omega)
              subst es_92
              exact hQ H locs _ _ dX2_fillTable_92 hP hS
            · have c47 : ln < n := jx_nle (by omega) (by omega) c47
              have hg9 := hgr ln (by omega)
              refine lv_aload_n hx hb dX2_fillTable_50 rfl (lv_at hl 0 rfl) ?_
              refine va_get (D := D) (ci := 2) (v := .ref (g 0)) (C := RX2) (T := TX2) (N := 5) hx hb hts in_X2_fillTable_2 hown hK hP 6 rfl rfl 0 (by decide) (hts (.fieldLink RX2 27 "Twincuts$Forest" "web" "LTwincuts$Web;") (List.mem_of_getElem? (i := 2) (by decide +kernel))) (fun _ h9 => h9) rfl dX2_fillTable_51 ?_
              refine va_getN (D := D) (ci := 5) (v := .int (nI st)) (C := RX5) (T := TX5) (N := 8) hx hb hts in_X2_fillTable_5 hown hK hP 0 rfl rfl 2 (by decide) (hN.use 12 rfl) (fun _ h9 => h9) rfl dX2_fillTable_54 ?_
              refine lv_iload_n hx hb dX2_fillTable_57 rfl (lv_at hl 1 rfl) ?_
              refine jx_callSN (As := [.int (nI st), .int (nI ln)]) (rest := []) ⟨hx, hb, hml, hown, hts⟩ (c_X6_has l D st ln (by omega) (by omega)) (va_cnB 2 hts gX2_fillTable_X6_has_n50 rfl rfl rfl (hN.get 42 rfl) (hts (.initialized RX6) (List.mem_of_getElem? (i := 4) (by decide +kernel))) (by decide +kernel) ⟨Nat.le_of_ble_eq_true rfl, Nat.le_of_ble_eq_true rfl⟩) (hts (.static yX6_has) (List.mem_of_getElem? (i := 3) (by decide +kernel))) hN (hP.sub (ws' := []) [] rfl) (hK.sub (tys' := []) [] rfl) rfl hl.1 rfl (Nat.le_of_ble_eq_true rfl) dX2_fillTable_58 ⟨Nat.zero_le _, Nat.zero_le _⟩ (fun r hr => ?_)
              subst hr
              refine lv_if_eq (tgt := 86) hx hb dX2_fillTable_61 (by decide) (fun c61 => ?_) (fun c61 => ?_)
              · have c61 := jB_0 c61
                refine lv_iinc (v := nI (ln + 1)) (lv' := [(1, .int (nI (ln + 1))), (0, .ref (g 30))]) hx hb dX2_fillTable_86 hl (k := 1) rfl (jx_inc _) (by decide) rfl (fun ls hl => ?_)
                refine lv_goto (tgt := 39) hx hb dX2_fillTable_89 (by decide) ?_
                have ew_1 : jmFT sm gr st ln = jmFT sm gr st (ln + 1) := by first | exact jmFT_y c61 | exact jmFT_n c61
                exact ih39 (ln + 1) (by omega) (by omega) H locs (by rw [← ew_1]; exact hP) hS ls (lv_sub hl [1, 0] rfl)
              · have c61 := jB_1 c61
                refine lv_aload_n hx hb dX2_fillTable_64 rfl (lv_at hl 0 rfl) ?_
                refine lv_aload_n hx hb dX2_fillTable_65 rfl (lv_at hl 0 rfl) ?_
                refine va_get (D := D) (ci := 2) (v := .ref (g 0)) (C := RX2) (T := TX2) (N := 5) hx hb hts in_X2_fillTable_2 hown hK hP 6 rfl rfl 0 (by decide) (hts (.fieldLink RX2 27 "Twincuts$Forest" "web" "LTwincuts$Web;") (List.mem_of_getElem? (i := 2) (by decide +kernel))) (fun _ h9 => h9) rfl dX2_fillTable_66 ?_
                refine va_getN (D := D) (ci := 5) (v := .ref (g 1)) (C := RX5) (T := TX5) (N := 8) hx hb hts in_X2_fillTable_5 hown hK hP 0 rfl rfl 3 (by decide) (hN.use 17 rfl) (fun _ h9 => h9) rfl dX2_fillTable_69 ?_
                refine lv_iload_n hx hb dX2_fillTable_72 rfl (lv_at hl 1 rfl) ?_
                refine jx_iald hx hb hK hP 1 0 rfl rfl (by omega) (by decide) dX2_fillTable_73 ?_
                refine lv_aload_n hx hb dX2_fillTable_74 rfl (lv_at hl 0 rfl) ?_
                refine va_get (D := D) (ci := 2) (v := .ref (g 0)) (C := RX2) (T := TX2) (N := 5) hx hb hts in_X2_fillTable_2 hown hK hP 6 rfl rfl 0 (by decide) (hts (.fieldLink RX2 27 "Twincuts$Forest" "web" "LTwincuts$Web;") (List.mem_of_getElem? (i := 2) (by decide +kernel))) (fun _ h9 => h9) rfl dX2_fillTable_75 ?_
                refine va_getN (D := D) (ci := 5) (v := .ref (g 2)) (C := RX5) (T := TX5) (N := 8) hx hb hts in_X2_fillTable_5 hown hK hP 0 rfl rfl 4 (by decide) (hN.use 21 rfl) (fun _ h9 => h9) rfl dX2_fillTable_78 ?_
                refine lv_iload_n hx hb dX2_fillTable_81 rfl (lv_at hl 1 rfl) ?_
                refine jx_iald hx hb hK hP 2 0 rfl rfl (by omega) (by decide) dX2_fillTable_82 ?_
                refine jxw_callV (X := jW cI g P n st sm gr co en la ++ jT cI cM g rt cs ct jo ++ jRL cL 8 8 rt (jmFT sm gr st ln)) (X' := jW cI g P n st sm gr co en la ++ jT cI cM g rt cs ct jo ++ jRL cL 8 8 rt (jmAddT (jmFT sm gr st ln) (sm ln) (gr ln))) (wc := jT cI cM g rt cs ct jo ++ jRL cL 8 8 rt (jmFT sm gr st ln)) (wc' := jT cI cM g rt cs ct jo ++ jRL cL 8 8 rt (jmAddT (jmFT sm gr st ln) (sm ln) (gr ln))) (wr := jW cI g P n st sm gr co en la) (N := 17) (As := [.int (nI (sm ln)), .int (nI (gr ln))]) (rest := []) ⟨hx, hb, hml, hown, hts⟩ (c_X2_addToTable l D cI cM cL g rt cs ct jo (jmFT sm gr st ln) H.size (sm ln) (gr ln) (by omega) (by omega)) (cwV 2 hts gX2_fillTable_X2_addToTable rfl rfl rfl (by decide +kernel) ⟨Nat.le_of_ble_eq_true rfl, Nat.le_of_ble_eq_true rfl⟩) hN hP hD (hK.sub (tys' := [(cI, .int), (cM, .array .long), (cL, .long)]) [0, 1, 2] rfl) hS hA [6, 7, 8, 9, 10, 11, 12, 13, 14, 15, 16] [0, 1, 2, 3, 4, 5] rfl rfl rfl rfl rfl rfl (by decide) (by decide) 6 2 rfl rfl rfl (hK.sub (tys' := [(cI, .int), (cM, .array .long), (cL, .long)]) [0, 1, 2] rfl) rfl hl.1 rfl (Nat.le_of_ble_eq_true rfl) dX2_fillTable_83 ⟨Nat.zero_le _, Nat.zero_le _⟩ (fun H locs hP hS => ?_)
                have hD : va_D A (jW cI g P n st sm gr co en la ++ jT cI cM g rt cs ct jo ++ jRL cL 8 8 rt (jmAddT (jmFT sm gr st ln) (sm ln) (gr ln))) := jxD hD0 rfl
                refine lv_iinc (v := nI (ln + 1)) (lv' := [(1, .int (nI (ln + 1))), (0, .ref (g 30))]) hx hb dX2_fillTable_86 hl (k := 1) rfl (jx_inc _) (by decide) rfl (fun ls hl => ?_)
                refine lv_goto (tgt := 39) hx hb dX2_fillTable_89 (by decide) ?_
                have ew_2 : jmAddT (jmFT sm gr st ln) (sm ln) (gr ln) = jmFT sm gr st (ln + 1) := by first | exact jmFT_y c61 | exact jmFT_n c61
                exact ih39 (ln + 1) (by omega) (by omega) H locs (by rw [← ew_2]; exact hP) hS ls (lv_sub hl [1, 0] rfl)
        have ew_3 : (fun _ _ => 0) = jmFT sm gr st 0 := by rfl
        exact L39 ((n - 0) + 1) 0 (by omega) (Nat.lt_succ_self _) H locs (by rw [← ew_3]; exact hP) hS ls (lv_sub hl [1, 0] rfl)
      · have c5 : i < 8 := jx_nle (by decide) (by omega) c5
        refine lv_iconst (v := nI 0) hx hb dX2_fillTable_8 (by decide) ?_
        refine lv_istore_n (lv' := [(2, .int (nI 0)), (0, .ref (g 30)), (1, .int (nI i))]) hx hb dX2_fillTable_9 rfl hl (by decide) rfl (fun ls hl => ?_)
        have L10 : ∀ (k : Nat) (j : Nat) (hj : j ≤ 8), 8 - j < k → ∀ (H : Heap) (locs : List Loc), va_P D vwCl (jW cI g P n st sm gr co en la ++ jT cI cM g rt cs ct jo ++ jRL cL 8 8 rt (jmCl 0 8 tb i j)) H → va_S A s.heap H locs → ∀ ls : Array Slot, lv_has ls 3 [(0, .ref (g 30)), (1, .int (nI i)), (2, .int (nI j))] → W p l e ({ frames := 1, cells := 0, slots := 0, locals := 22 } : Room) s m args below meth c H locs 0 0 Q (F0 m 10 ls []) := by
          intro k
          induction k with
          | zero => intro j hj hk; exact absurd hk (Nat.not_lt_zero _)
          | succ k ih10 =>
            intro j hj hk H locs hP hS ls hl
            have hD : va_D A (jW cI g P n st sm gr co en la ++ jT cI cM g rt cs ct jo ++ jRL cL 8 8 rt (jmCl 0 8 tb i j)) := jxD hD0 rfl
            refine lv_iload_n hx hb dX2_fillTable_10 rfl (lv_at hl 2 rfl) ?_
            refine lv_bipush (v := nI 8) hx hb dX2_fillTable_11 (by decide) ?_
            refine lv_icmp_ge (tgt := 31) hx hb dX2_fillTable_13 (by decide) (fun c13 => ?_) (fun c13 => ?_)
            · have c13 : 8 ≤ j := jx_le (by decide) (by omega) c13
              have es_31 : 8 = j := (by omega)
              subst es_31
              refine lv_iinc (v := nI (i + 1)) (lv' := [(1, .int (nI (i + 1))), (0, .ref (g 30)), (2, .int (nI 8))]) hx hb dX2_fillTable_31 hl (k := 1) rfl (jx_inc _) (by decide) rfl (fun ls hl => ?_)
              refine lv_goto (tgt := 2) hx hb dX2_fillTable_34 (by decide) ?_
              have ew_4 : jmCl 0 8 tb i 8 = jmCl 0 8 tb (i + 1) 0 := by exact jmCl_row _ _ _ _
              exact ih2 (i + 1) (by omega) (by omega) H locs (by rw [← ew_4]; exact hP) hS ls (lv_sub hl [1, 0] rfl)
            · have c13 : j < 8 := jx_nle (by decide) (by omega) c13
              refine lv_aload_n hx hb dX2_fillTable_16 rfl (lv_at hl 0 rfl) ?_
              refine va_get (D := D) (ci := 2) (v := .ref (g 31)) (C := RX2) (T := TX2) (N := 5) hx hb hts in_X2_fillTable_2 hown hK hP 6 rfl rfl 1 (by decide) (hts (.fieldLink RX2 11 "Twincuts$Forest" "table" "[[J") (List.mem_of_getElem? (i := 1) (by decide +kernel))) (fun _ h9 => h9) rfl dX2_fillTable_17 ?_
              refine lv_iload_n hx hb dX2_fillTable_20 rfl (lv_at hl 1 rfl) ?_
              refine jx_aald (N := 8) hx hb hK hP 7 1 rfl rfl (by omega) (by decide) dX2_fillTable_21 ?_
              refine lv_iload_n hx hb dX2_fillTable_22 rfl (lv_at hl 2 rfl) ?_
              refine lv_lconst (v := (0 : Int64)) hx hb dX2_fillTable_23 (by decide) ?_
              refine jx_last2 (N := 8) hx hb hK (X := jW cI g P n st sm gr co en la ++ jT cI cM g rt cs ct jo) hP hD hS 2 rfl (by omega) (by omega) (by decide) dX2_fillTable_24 (fun H locs hP hD hS => ?_)
              have hP : va_P D vwCl (jW cI g P n st sm gr co en la ++ jT cI cM g rt cs ct jo ++ jRL cL 8 8 rt (jxUp2 (jmCl 0 8 tb i j) i j (0 : Int64))) H := hP
              have hD : va_D A (jW cI g P n st sm gr co en la ++ jT cI cM g rt cs ct jo ++ jRL cL 8 8 rt (jxUp2 (jmCl 0 8 tb i j) i j (0 : Int64))) := jxD hD0 rfl
              refine lv_iinc (v := nI (j + 1)) (lv' := [(2, .int (nI (j + 1))), (0, .ref (g 30)), (1, .int (nI i))]) hx hb dX2_fillTable_25 hl (k := 2) rfl (jx_inc _) (by decide) rfl (fun ls hl => ?_)
              refine lv_goto (tgt := 10) hx hb dX2_fillTable_28 (by decide) ?_
              have ew_5 : jxUp2 (jmCl 0 8 tb i j) i j (0 : Int64) = jmCl 0 8 tb i (j + 1) := by exact jmCl_up _ _ _ _
              exact ih10 (j + 1) (by omega) (by omega) H locs (by rw [← ew_5]; exact hP) hS ls (lv_sub hl [1, 2, 0] rfl)
        exact L10 ((8 - 0) + 1) 0 (by omega) (Nat.lt_succ_self _) H locs hP hS ls (lv_sub hl [1, 2, 0] rfl)
  have ew_6 : tb = jmCl 0 8 tb 0 0 := by exact jmCl_0 _ _ _
  exact L2 ((8 - 0) + 1) 0 (by omega) (Nat.lt_succ_self _) H locs (by rw [← ew_6]; exact hP) hS ls (lv_sub hl [1, 0] rfl)
