set_option maxHeartbeats 4000000 in
set_option maxRecDepth 100000 in
/-- Integer.bitCount -/
theorem c_J6_bitCount_0f7a4 (l : Launch) (D : va_G)  (a : Nat) (ha : a < 65536) : jxRO l yJ6_bitCount_0f7a4 wsJ6_bitCount_0f7a4 ({ frames := 0, cells := 0, slots := 0, locals := 0 } : Room) D [] [] [.int (nI a)] (fun r => r = nI (jmPop a)) := by
  refine jx_enter (by decide) rfl (Nat.le_of_ble_eq_true rfl) ?_
  intro p e s m args below meth c Q ls hx hb hml hts hown hN hP hK hl hQ
  have hown : s.vm.findClass RJ6 = some m.cls := hown
  have hl : lv_has ls 1 [(0, .int (nI a))] := hl
  refine lv_iload_n hx hb dJ6_bitCount_0f7a4_0 rfl (lv_at hl 0 rfl) ?_
  refine lv_iload_n hx hb dJ6_bitCount_0f7a4_1 rfl (lv_at hl 0 rfl) ?_
  refine lv_iconst (v := nI 1) hx hb dJ6_bitCount_0f7a4_2 (by decide) ?_
  refine lv_iushr (v := nI (a / 2 ^ 1)) hx hb dJ6_bitCount_0f7a4_3 (pk_ushrN (Nat.lt_trans (by omega) (by decide)) _ 1 (s_u 1 (by decide))) ?_
  refine lv_ldcw (v := (1431655765 : Int32)) hx hb hown (hts (.constant RJ6 265 (1431655765)) (List.mem_of_getElem? (i := 1) (by decide +kernel))) dJ6_bitCount_0f7a4_4 ?_
  refine jx_val (z := (nI 1431655765)) (by decide : (1431655765 : Int32) = nI 1431655765) ?_
  refine lv_iand hx hb dJ6_bitCount_0f7a4_7 ?_
  refine jx_val (z := (nI ((a / 2 ^ 1) &&& 1431655765))) (fa_and _ _) ?_
  have f8 : a / 2 ^ 1 &&& 1431655765 ≤ a / 2 ^ 1 := Nat.and_le_left
  refine lv_isub hx hb dJ6_bitCount_0f7a4_8 ?_
  refine jx_val (z := (nI (a - ((a / 2 ^ 1) &&& 1431655765)))) (pk_sub (by omega)) ?_
  obtain ⟨x1, ex1⟩ : ∃ y : Nat, y = a - ((a / 2 ^ 1) &&& 1431655765) := ⟨_, rfl⟩
  rw [← ex1]
  refine lv_istore_n (lv' := [(0, .int (nI x1))]) hx hb dJ6_bitCount_0f7a4_9 rfl hl (by decide) rfl (fun ls hl => ?_)
  have f10 : x1 < 65536 := by omega
  refine lv_iload_n hx hb dJ6_bitCount_0f7a4_10 rfl (lv_at hl 0 rfl) ?_
  refine lv_ldcw (v := (858993459 : Int32)) hx hb hown (hts (.constant RJ6 266 (858993459)) (List.mem_of_getElem? (i := 2) (by decide +kernel))) dJ6_bitCount_0f7a4_11 ?_
  refine jx_val (z := (nI 858993459)) (by decide : (858993459 : Int32) = nI 858993459) ?_
  refine lv_iand hx hb dJ6_bitCount_0f7a4_14 ?_
  refine jx_val (z := (nI (x1 &&& 858993459))) (fa_and _ _) ?_
  refine lv_iload_n hx hb dJ6_bitCount_0f7a4_15 rfl (lv_at hl 0 rfl) ?_
  refine lv_iconst (v := nI 2) hx hb dJ6_bitCount_0f7a4_16 (by decide) ?_
  refine lv_iushr (v := nI (x1 / 2 ^ 2)) hx hb dJ6_bitCount_0f7a4_17 (pk_ushrN (Nat.lt_trans (by omega) (by decide)) _ 2 (s_u 2 (by decide))) ?_
  refine lv_ldcw (v := (858993459 : Int32)) hx hb hown (hts (.constant RJ6 266 (858993459)) (List.mem_of_getElem? (i := 2) (by decide +kernel))) dJ6_bitCount_0f7a4_18 ?_
  refine jx_val (z := (nI 858993459)) (by decide : (858993459 : Int32) = nI 858993459) ?_
  refine lv_iand hx hb dJ6_bitCount_0f7a4_21 ?_
  refine jx_val (z := (nI ((x1 / 2 ^ 2) &&& 858993459))) (fa_and _ _) ?_
  have f22 : x1 &&& 858993459 ≤ x1 := Nat.and_le_left
  have f22b : x1 / 2 ^ 2 &&& 858993459 ≤ x1 / 2 ^ 2 := Nat.and_le_left
  refine lv_iadd hx hb dJ6_bitCount_0f7a4_22 ?_
  refine jx_val (z := (nI ((x1 &&& 858993459) + ((x1 / 2 ^ 2) &&& 858993459)))) (nI_add _ _) ?_
  obtain ⟨x2, ex2⟩ : ∃ y : Nat, y = (x1 &&& 858993459) + ((x1 / 2 ^ 2) &&& 858993459) := ⟨_, rfl⟩
  rw [← ex2]
  refine lv_istore_n (lv' := [(0, .int (nI x2))]) hx hb dJ6_bitCount_0f7a4_23 rfl hl (by decide) rfl (fun ls hl => ?_)
  have f24 : x2 < 131072 := by omega
  refine lv_iload_n hx hb dJ6_bitCount_0f7a4_24 rfl (lv_at hl 0 rfl) ?_
  refine lv_iload_n hx hb dJ6_bitCount_0f7a4_25 rfl (lv_at hl 0 rfl) ?_
  refine lv_iconst (v := nI 4) hx hb dJ6_bitCount_0f7a4_26 (by decide) ?_
  refine lv_iushr (v := nI (x2 / 2 ^ 4)) hx hb dJ6_bitCount_0f7a4_27 (pk_ushrN (Nat.lt_trans (by omega) (by decide)) _ 4 (s_u 4 (by decide))) ?_
  refine lv_iadd hx hb dJ6_bitCount_0f7a4_28 ?_
  refine jx_val (z := (nI (x2 + (x2 / 2 ^ 4)))) (nI_add _ _) ?_
  refine lv_ldcw (v := (252645135 : Int32)) hx hb hown (hts (.constant RJ6 267 (252645135)) (List.mem_of_getElem? (i := 3) (by decide +kernel))) dJ6_bitCount_0f7a4_29 ?_
  refine jx_val (z := (nI 252645135)) (by decide : (252645135 : Int32) = nI 252645135) ?_
  refine lv_iand hx hb dJ6_bitCount_0f7a4_32 ?_
  refine jx_val (z := (nI ((x2 + (x2 / 2 ^ 4)) &&& 252645135))) (fa_and _ _) ?_
  obtain ⟨x3, ex3⟩ : ∃ y : Nat, y = (x2 + (x2 / 2 ^ 4)) &&& 252645135 := ⟨_, rfl⟩
  rw [← ex3]
  refine lv_istore_n (lv' := [(0, .int (nI x3))]) hx hb dJ6_bitCount_0f7a4_33 rfl hl (by decide) rfl (fun ls hl => ?_)
  have f34 : x3 < 262144 := by rw [ex3]; exact Nat.lt_of_le_of_lt Nat.and_le_left (by omega)
  refine lv_iload_n hx hb dJ6_bitCount_0f7a4_34 rfl (lv_at hl 0 rfl) ?_
  refine lv_iload_n hx hb dJ6_bitCount_0f7a4_35 rfl (lv_at hl 0 rfl) ?_
  refine lv_bipush (v := nI 8) hx hb dJ6_bitCount_0f7a4_36 (by decide) ?_
  refine lv_iushr (v := nI (x3 / 2 ^ 8)) hx hb dJ6_bitCount_0f7a4_38 (pk_ushrN (Nat.lt_trans (by omega) (by decide)) _ 8 (s_u 8 (by decide))) ?_
  refine lv_iadd hx hb dJ6_bitCount_0f7a4_39 ?_
  refine jx_val (z := (nI (x3 + (x3 / 2 ^ 8)))) (nI_add _ _) ?_
  obtain ⟨x4, ex4⟩ : ∃ y : Nat, y = x3 + (x3 / 2 ^ 8) := ⟨_, rfl⟩
  rw [← ex4]
  refine lv_istore_n (lv' := [(0, .int (nI x4))]) hx hb dJ6_bitCount_0f7a4_40 rfl hl (by decide) rfl (fun ls hl => ?_)
  have f41 : x4 < 524288 := by omega
  refine lv_iload_n hx hb dJ6_bitCount_0f7a4_41 rfl (lv_at hl 0 rfl) ?_
  refine lv_iload_n hx hb dJ6_bitCount_0f7a4_42 rfl (lv_at hl 0 rfl) ?_
  refine lv_bipush (v := nI 16) hx hb dJ6_bitCount_0f7a4_43 (by decide) ?_
  refine lv_iushr (v := nI (x4 / 2 ^ 16)) hx hb dJ6_bitCount_0f7a4_45 (pk_ushrN (Nat.lt_trans (by omega) (by decide)) _ 16 (s_u 16 (by decide))) ?_
  refine lv_iadd hx hb dJ6_bitCount_0f7a4_46 ?_
  refine jx_val (z := (nI (x4 + (x4 / 2 ^ 16)))) (nI_add _ _) ?_
  obtain ⟨x5, ex5⟩ : ∃ y : Nat, y = x4 + (x4 / 2 ^ 16) := ⟨_, rfl⟩
  rw [← ex5]
  refine lv_istore_n (lv' := [(0, .int (nI x5))]) hx hb dJ6_bitCount_0f7a4_47 rfl hl (by decide) rfl (fun ls hl => ?_)
  have f48 : x5 < 1048576 := by omega
  refine lv_iload_n hx hb dJ6_bitCount_0f7a4_48 rfl (lv_at hl 0 rfl) ?_
  refine lv_bipush (v := nI 63) hx hb dJ6_bitCount_0f7a4_49 (by decide) ?_
  refine lv_iand hx hb dJ6_bitCount_0f7a4_51 ?_
  refine jx_val (z := (nI (x5 &&& 63))) (fa_and _ _) ?_
  exact hQ (nI (x5 &&& 63)) _ _ dJ6_bitCount_0f7a4_52 (congrArg nI (by subst ex5; subst ex4; subst ex3; subst ex2; subst ex1; exact jmSwar_pop ha))
set_option maxRecDepth 20000 in
theorem in_X3_isFree_3 : ∀ w ∈ wsX30, w ∈ wsX3_isFree := by decide +kernel
set_option maxHeartbeats 4000000 in
set_option maxRecDepth 100000 in
/-- isFree(point, number, linked) -/
theorem c_X3_isFree (l : Launch) (D : va_G) (cI : ClassId) (g : Nat → Nat) (pk : Nat) (cl : Nat → Nat) (q nu lk : Nat) (hq : q ≤ 8) (hnu : nu < 256) (hlk : lk < 65536) (hcl : ∀ j, j < 8 → cl j < 256) : jxRO l yX3_isFree wsX3_isFree ({ frames := 1, cells := 0, slots := 0, locals := 21 } : Room) D [(cI, .int)] (jP cI g pk cl) [.ref (g 40), .int (nI q), .int (nI nu), .int (nI lk)] (fun r => r = nI (jB (jmAll (fun k => !(lk.testBit k && cl k == nu)) q 0))) := by
  refine jx_enterZ (by decide) rfl (Nat.le_of_ble_eq_true rfl) ?_
  intro p e s m args below meth c Q ls hx hb hml hts hown hN hP hK hl hQ
  have hown : s.vm.findClass RX3 = some m.cls := hown
  have hl : lv_has ls 5 [(0, .ref (g 40)), (1, .int (nI q)), (2, .int (nI nu)), (3, .int (nI lk))] := hl
  refine lv_iconst (v := nI 0) hx hb dX3_isFree_0 (by decide) ?_
  refine lv_istore (lv' := [(4, .int (nI 0)), (0, .ref (g 40)), (1, .int (nI q)), (2, .int (nI nu)), (3, .int (nI lk))]) hx hb dX3_isFree_1 hl (by decide) rfl (fun ls hl => ?_)
  have L3 : ∀ (k : Nat) (k1 : Nat) (hk1 : k1 ≤ q) (hd : jmAll (fun k => !(lk.testBit k && cl k == nu)) q 0 = jmAll (fun k => !(lk.testBit k && cl k == nu)) (q - k1) k1), q - k1 < k → ∀ ls : Array Slot, lv_has ls 5 [(0, .ref (g 40)), (1, .int (nI q)), (2, .int (nI nu)), (3, .int (nI lk)), (4, .int (nI k1))] → W p l e ({ frames := 1, cells := 0, slots := 0, locals := 21 } : Room) s m args below meth c s.heap [] 0 0 Q (F0 m 3 ls []) := by
    intro k
    induction k with
    | zero => intro k1 hk1 hd hk; exact absurd hk (Nat.not_lt_zero _)
    | succ k ih3 =>
      intro k1 hk1 hd hk ls hl
      refine lv_iload hx hb dX3_isFree_3 (lv_at hl 4 rfl) ?_
      refine lv_iload_n hx hb dX3_isFree_5 rfl (lv_at hl 1 rfl) ?_
      refine lv_icmp_ge (tgt := 37) hx hb dX3_isFree_6 (by decide) (fun c6 => ?_) (fun c6 => ?_)
      · have c6 : q ≤ k1 := jx_le (by omega) (by omega) c6
        refine lv_iconst (v := nI 1) hx hb dX3_isFree_37 (by decide) ?_
        exact hQ true _ _ dX3_isFree_38 (by rw [hd, show q - k1 = 0 by omega]; rfl)
      · have c6 : k1 < q := jx_nle (by omega) (by omega) c6
        refine lv_iload_n hx hb dX3_isFree_9 rfl (lv_at hl 3 rfl) ?_
        refine lv_iload hx hb dX3_isFree_10 (lv_at hl 4 rfl) ?_
        refine jx_callSN (As := [.int (nI lk), .int (nI k1)]) (rest := []) ⟨hx, hb, hml, hown, hts⟩ (c_X6_has l D lk k1 (by omega) (by omega)) (va_cnB 2 hts gX3_isFree_X6_has_n45 rfl rfl rfl (hN.get 46 rfl) (hts (.initialized RX6) (List.mem_of_getElem? (i := 3) (by decide +kernel))) (by decide +kernel) ⟨Nat.le_of_ble_eq_true rfl, Nat.le_of_ble_eq_true rfl⟩) (hts (.static yX6_has) (List.mem_of_getElem? (i := 2) (by decide +kernel))) hN (hP.sub (ws' := []) [] rfl) (hK.sub (tys' := []) [] rfl) rfl hl.1 rfl (Nat.le_of_ble_eq_true rfl) dX3_isFree_12 ⟨Nat.zero_le _, Nat.zero_le _⟩ (fun r hr => ?_)
        subst hr
        refine lv_if_eq (tgt := 31) hx hb dX3_isFree_15 (by decide) (fun c15 => ?_) (fun c15 => ?_)
        · have c15 := jB_0 c15
          refine lv_iinc (v := nI (k1 + 1)) (lv' := [(4, .int (nI (k1 + 1))), (0, .ref (g 40)), (1, .int (nI q)), (2, .int (nI nu)), (3, .int (nI lk))]) hx hb dX3_isFree_31 hl (k := 4) rfl (jx_inc _) (by decide) rfl (fun ls hl => ?_)
          refine lv_goto (tgt := 3) hx hb dX3_isFree_34 (by decide) ?_
          exact ih3 (k1 + 1) (by omega) (by rw [hd, show q - k1 = (q - (k1 + 1)) + 1 by omega]; simp [jmAll, c6, c15]) (by omega) ls (lv_sub hl [1, 2, 3, 4, 0] rfl)
        · have c15 := jB_1 c15
          refine lv_aload_n hx hb dX3_isFree_18 rfl (lv_at hl 0 rfl) ?_
          refine va_get (D := D) (ci := 3) (v := .ref (g 41)) (C := RX3) (T := TX3) (N := 3) hx hb hts in_X3_isFree_3 hown hK hP 0 rfl rfl 2 (by decide) (hts (.fieldLink RX3 15 "Twincuts$Palette" "colour" "[I") (List.mem_of_getElem? (i := 1) (by decide +kernel))) (fun _ h9 => h9) rfl dX3_isFree_19 ?_
          refine lv_iload hx hb dX3_isFree_22 (lv_at hl 4 rfl) ?_
          refine jx_iald hx hb hK hP 1 0 rfl rfl (by omega) (by decide) dX3_isFree_24 ?_
          refine lv_iload_n hx hb dX3_isFree_25 rfl (lv_at hl 2 rfl) ?_
          refine lv_icmp_ne (tgt := 31) hx hb dX3_isFree_26 (by decide) (fun c26 => ?_) (fun c26 => ?_)
          · have c26 : cl k1 ≠ nu := jx_ne c26
            refine lv_iinc (v := nI (k1 + 1)) (lv' := [(4, .int (nI (k1 + 1))), (0, .ref (g 40)), (1, .int (nI q)), (2, .int (nI nu)), (3, .int (nI lk))]) hx hb dX3_isFree_31 hl (k := 4) rfl (jx_inc _) (by decide) rfl (fun ls hl => ?_)
            refine lv_goto (tgt := 3) hx hb dX3_isFree_34 (by decide) ?_
            exact ih3 (k1 + 1) (by omega) (by rw [hd, show q - k1 = (q - (k1 + 1)) + 1 by omega]; simp [jmAll, c6, c15, c26]) (by omega) ls (lv_sub hl [1, 2, 3, 4, 0] rfl)
          · have c26 : cl k1 = nu := jx_e (by have := hcl k1 (by omega); omega) (by omega) c26
            refine lv_iconst (v := nI 0) hx hb dX3_isFree_29 (by decide) ?_
            exact hQ false _ _ dX3_isFree_30 (by rw [hd, show q - k1 = (q - (k1 + 1)) + 1 by omega]; simp [jmAll, c15, c26])
  exact L3 ((q - 0) + 1) 0 (by omega) rfl (Nat.lt_succ_self _) ls (lv_sub hl [1, 2, 3, 4, 0] rfl)
set_option maxRecDepth 20000 in
theorem in_X0_placeBehind_0 : ∀ w ∈ wsX00, w ∈ wsX0_placeBehind := by decide +kernel
set_option maxHeartbeats 4000000 in
set_option maxRecDepth 100000 in
/-- placeBehind(point, place) -/
theorem c_X0_placeBehind (l : Launch) (D : va_G) (cI : ClassId) (cO : ClassId) (g : Nat → Nat) (rd le : Nat → Nat) (wk : Nat) (fa : Nat → Int32) (q k : Nat) (hq : q < 8) (hk : k < 65536) (hle : le q ≤ 16) : jxRO l yX0_placeBehind wsX0_placeBehind ({ frames := 0, cells := 0, slots := 0, locals := 0 } : Room) D [(cI, .int), (cO, .array .int)] (jD cI cO g rd le wk fa) [.ref (g 50), .int (nI q), .int (nI k)] (fun r => r = nI (jmBehind (le q) k)) := by
  refine jx_enter (by decide) rfl (Nat.le_of_ble_eq_true rfl) ?_
  intro p e s m args below meth c Q ls hx hb hml hts hown hN hP hK hl hQ
  have hown : s.vm.findClass RX0 = some m.cls := hown
  have hl : lv_has ls 3 [(0, .ref (g 50)), (1, .int (nI q)), (2, .int (nI k))] := hl
  refine lv_iload_n hx hb dX0_placeBehind_0 rfl (lv_at hl 2 rfl) ?_
  refine lv_iconst (v := nI 1) hx hb dX0_placeBehind_1 (by decide) ?_
  refine lv_iadd hx hb dX0_placeBehind_2 ?_
  refine jx_val (z := (nI (k + 1))) (nI_add _ _) ?_
  refine lv_aload_n hx hb dX0_placeBehind_3 rfl (lv_at hl 0 rfl) ?_
  refine va_get (D := D) (ci := 0) (v := .ref (g 52)) (C := RX0) (T := TX0) (N := 5) hx hb hts in_X0_placeBehind_0 hown hK hP 0 rfl rfl 2 (by decide) (hts (.fieldLink RX0 16 "Twincuts$Drawing" "length" "[I") (List.mem_of_getElem? (i := 1) (by decide +kernel))) (fun _ h9 => h9) rfl dX0_placeBehind_4 ?_
  refine lv_iload_n hx hb dX0_placeBehind_7 rfl (lv_at hl 1 rfl) ?_
  refine jx_iald hx hb hK hP 2 0 rfl rfl (by omega) (by decide) dX0_placeBehind_8 ?_
  refine lv_icmp_ge (tgt := 18) hx hb dX0_placeBehind_9 (by decide) (fun c9 => ?_) (fun c9 => ?_)
  · have c9 : le q ≤ k + 1 := jx_le (by omega) (by omega) c9
    refine lv_iconst (v := nI 0) hx hb dX0_placeBehind_18 (by decide) ?_
    exact hQ (nI 0) _ _ dX0_placeBehind_19 (by unfold jmBehind; rw [if_neg (by omega)])
  · have c9 : k + 1 < le q := jx_nle (by omega) (by omega) c9
    refine lv_iload_n hx hb dX0_placeBehind_12 rfl (lv_at hl 2 rfl) ?_
    refine lv_iconst (v := nI 1) hx hb dX0_placeBehind_13 (by decide) ?_
    refine lv_iadd hx hb dX0_placeBehind_14 ?_
    refine jx_val (z := (nI (k + 1))) (nI_add _ _) ?_
    refine lv_goto (tgt := 19) hx hb dX0_placeBehind_15 (by decide) ?_
    exact hQ (nI (k + 1)) _ _ dX0_placeBehind_19 (by unfold jmBehind; rw [if_pos (by omega)])
set_option maxRecDepth 20000 in
theorem in_X0_placeOf_0 : ∀ w ∈ wsX00, w ∈ wsX0_placeOf := by decide +kernel
set_option maxHeartbeats 4000000 in
set_option maxRecDepth 100000 in
/-- placeOf(point, line) -/
theorem c_X0_placeOf (l : Launch) (D : va_G) (cI : ClassId) (cO : ClassId) (g : Nat → Nat) (rd le : Nat → Nat) (wk : Nat) (fa : Nat → Int32) (od : Nat → Nat → Nat) (q i : Nat) (hq : q < 8) (hi : i < 16) (hle : le q ≤ 16) (hod : ∀ k, k < le q → od q k < 16) : jxRO l yX0_placeOf wsX0_placeOf ({ frames := 0, cells := 0, slots := 0, locals := 0 } : Room) D [(cI, .int), (cO, .array .int)] (jD cI cO g rd le wk fa ++ jRN cI 8 16 rd od) [.ref (g 50), .int (nI q), .int (nI i)] (fun r => r = nI (jmFind (fun k => od q k == i) (le q) 0)) := by
  refine jx_enter (by decide) rfl (Nat.le_of_ble_eq_true rfl) ?_
  intro p e s m args below meth c Q ls hx hb hml hts hown hN hP hK hl hQ
  have hown : s.vm.findClass RX0 = some m.cls := hown
  have hl : lv_has ls 4 [(0, .ref (g 50)), (1, .int (nI q)), (2, .int (nI i))] := hl
  refine lv_iconst (v := nI 0) hx hb dX0_placeOf_0 (by decide) ?_
  refine lv_istore_n (lv' := [(3, .int (nI 0)), (0, .ref (g 50)), (1, .int (nI q)), (2, .int (nI i))]) hx hb dX0_placeOf_1 rfl hl (by decide) rfl (fun ls hl => ?_)
  have L2 : ∀ (k : Nat) (k1 : Nat) (hk1 : k1 ≤ le q) (hd : jmFind (fun k => od q k == i) (le q) 0 = jmFind (fun k => od q k == i) (le q - k1) k1), le q - k1 < k → ∀ ls : Array Slot, lv_has ls 4 [(0, .ref (g 50)), (1, .int (nI q)), (2, .int (nI i)), (3, .int (nI k1))] → W p l e ({ frames := 0, cells := 0, slots := 0, locals := 0 } : Room) s m args below meth c s.heap [] 0 0 Q (F0 m 2 ls []) := by
    intro k
    induction k with
    | zero => intro k1 hk1 hd hk; exact absurd hk (Nat.not_lt_zero _)
    | succ k ih2 =>
      intro k1 hk1 hd hk ls hl
      refine lv_iload_n hx hb dX0_placeOf_2 rfl (lv_at hl 3 rfl) ?_
      refine lv_aload_n hx hb dX0_placeOf_3 rfl (lv_at hl 0 rfl) ?_
      refine va_get (D := D) (ci := 0) (v := .ref (g 52)) (C := RX0) (T := TX0) (N := 5) hx hb hts in_X0_placeOf_0 hown hK hP 0 rfl rfl 2 (by decide) (hts (.fieldLink RX0 16 "Twincuts$Drawing" "length" "[I") (List.mem_of_getElem? (i := 1) (by decide +kernel))) (fun _ h9 => h9) rfl dX0_placeOf_4 ?_
      refine lv_iload_n hx hb dX0_placeOf_7 rfl (lv_at hl 1 rfl) ?_
      refine jx_iald hx hb hK hP 2 0 rfl rfl (by omega) (by decide) dX0_placeOf_8 ?_
      refine lv_icmp_ge (tgt := 32) hx hb dX0_placeOf_9 (by decide) (fun c9 => ?_) (fun c9 => ?_)
      · have c9 : le q ≤ k1 := jx_le (by omega) (by omega) c9
        refine lv_iconst (v := nI 0) hx hb dX0_placeOf_32 (by decide) ?_
        exact hQ (nI 0) _ _ dX0_placeOf_33 (by rw [hd, show le q - k1 = 0 by omega]; rfl)
      · have c9 : k1 < le q := jx_nle (by omega) (by omega) c9
        refine lv_aload_n hx hb dX0_placeOf_12 rfl (lv_at hl 0 rfl) ?_
        refine va_get (D := D) (ci := 0) (v := .ref (g 51)) (C := RX0) (T := TX0) (N := 5) hx hb hts in_X0_placeOf_0 hown hK hP 0 rfl rfl 1 (by decide) (hts (.fieldLink RX0 11 "Twincuts$Drawing" "order" "[[I") (List.mem_of_getElem? (i := 2) (by decide +kernel))) (fun _ h9 => h9) rfl dX0_placeOf_13 ?_
        refine lv_iload_n hx hb dX0_placeOf_16 rfl (lv_at hl 1 rfl) ?_
        refine jx_aald (N := 8) hx hb hK hP 1 1 rfl rfl (by omega) (by decide) dX0_placeOf_17 ?_
        refine lv_iload_n hx hb dX0_placeOf_18 rfl (lv_at hl 3 rfl) ?_
        refine jx_iald2N (N := 8) hx hb hK (X := jD cI cO g rd le wk fa) hP 0 rfl (by omega) (by omega) (by decide) dX0_placeOf_19 ?_
        refine lv_iload_n hx hb dX0_placeOf_20 rfl (lv_at hl 2 rfl) ?_
        refine lv_icmp_ne (tgt := 26) hx hb dX0_placeOf_21 (by decide) (fun c21 => ?_) (fun c21 => ?_)
        · have c21 : od q k1 ≠ i := jx_ne c21
          refine lv_iinc (v := nI (k1 + 1)) (lv' := [(3, .int (nI (k1 + 1))), (0, .ref (g 50)), (1, .int (nI q)), (2, .int (nI i))]) hx hb dX0_placeOf_26 hl (k := 3) rfl (jx_inc _) (by decide) rfl (fun ls hl => ?_)
          refine lv_goto (tgt := 2) hx hb dX0_placeOf_29 (by decide) ?_
          exact ih2 (k1 + 1) (by omega) (by rw [hd, show le q - k1 = (le q - (k1 + 1)) + 1 by omega]; simp [jmFind, c9, c21]) (by omega) ls (lv_sub hl [1, 2, 3, 0] rfl)
        · have c21 : od q k1 = i := jx_e (by have := hod k1 (by omega); omega) (by omega) c21
          refine lv_iload_n hx hb dX0_placeOf_24 rfl (lv_at hl 3 rfl) ?_
          exact hQ (nI k1) _ _ dX0_placeOf_25 (by rw [hd, show le q - k1 = (le q - (k1 + 1)) + 1 by omega]; simp [jmFind, c21])
  exact L2 ((le q - 0) + 1) 0 (by omega) rfl (Nat.lt_succ_self _) ls (lv_sub hl [1, 2, 3, 0] rfl)
set_option maxRecDepth 20000 in
theorem in_X0_allFaces_0 : ∀ w ∈ wsX00, w ∈ wsX0_allFaces := by decide +kernel
set_option maxRecDepth 20000 in
theorem in_X0_allFaces_5 : ∀ w ∈ wsX50, w ∈ wsX0_allFaces := by decide +kernel
set_option maxHeartbeats 4000000 in
set_option maxRecDepth 100000 in
/-- allFaces() -/
theorem c_X0_allFaces (l : Launch) (D : va_G) (cI : ClassId) (cO : ClassId) (g : Nat → Nat) (P n st : Nat) (sm gr co en la : Nat → Nat) (rd le : Nat → Nat) (wk : Nat) (fa : Nat → Int32) (hw : jmWF P n st sm gr co en la) (hwk : wk < 65536) : jxRO l yX0_allFaces wsX0_allFaces ({ frames := 1, cells := 0, slots := 0, locals := 21 } : Room) D [(cI, .int), (cO, .array .int)] (jW cI g P n st sm gr co en la ++ jD cI cO g rd le wk fa) [.ref (g 50)] (fun r => r = nI (wk + jmIso la st P)) := by
  refine jx_enter (by decide) rfl (Nat.le_of_ble_eq_true rfl) ?_
  intro p e s m args below meth c Q ls hx hb hml hts hown hN hP hK hl hQ
  have hown : s.vm.findClass RX0 = some m.cls := hown
  have hl : lv_has ls 3 [(0, .ref (g 50))] := hl
  have hP8 : P ≤ 8 := hw.1
  have hn16 : n ≤ 16 := hw.2.1
  have hst : st < 65536 := jmWF_st hw
  have hen : ∀ j, j < n → en j < 256 := jmWF_en hw
  have hla : ∀ q, q < P → la q < 65536 := jmWF_la hw
  have hgr : ∀ j, j < n → sm j < 8 ∧ gr j < 8 := jmWF_gr hw
  have hco : ∀ j, j < n → co j < 21 := jmWF_co hw
  refine lv_aload_n hx hb dX0_allFaces_0 rfl (lv_at hl 0 rfl) ?_
  refine va_get (D := D) (ci := 0) (v := .int (nI wk)) (C := RX0) (T := TX0) (N := 5) hx hb hts in_X0_allFaces_0 hown hK hP 6 rfl rfl 3 (by decide) (hts (.fieldLink RX0 20 "Twincuts$Drawing" "walked" "I") (List.mem_of_getElem? (i := 1) (by decide +kernel))) (fun _ h9 => h9) rfl dX0_allFaces_1 ?_
  refine lv_istore_n (lv' := [(1, .int (nI wk)), (0, .ref (g 50))]) hx hb dX0_allFaces_4 rfl hl (by decide) rfl (fun ls hl => ?_)
  refine lv_iconst (v := nI 0) hx hb dX0_allFaces_5 (by decide) ?_
  refine lv_istore_n (lv' := [(2, .int (nI 0)), (1, .int (nI wk)), (0, .ref (g 50))]) hx hb dX0_allFaces_6 rfl hl (by decide) rfl (fun ls hl => ?_)
  have L7 : ∀ (k : Nat) (q : Nat) (hq : q ≤ P), P - q < k → ∀ ls : Array Slot, lv_has ls 3 [(0, .ref (g 50)), (1, .int (nI (wk + jmIso la st q))), (2, .int (nI q))] → W p l e ({ frames := 1, cells := 0, slots := 0, locals := 21 } : Room) s m args below meth c s.heap [] 0 0 Q (F0 m 7 ls []) := by
    intro k
    induction k with
    | zero => intro q hq hk; exact absurd hk (Nat.not_lt_zero _)
    | succ k ih7 =>
      intro q hq hk ls hl
      refine lv_iload_n hx hb dX0_allFaces_7 rfl (lv_at hl 2 rfl) ?_
      refine lv_aload_n hx hb dX0_allFaces_8 rfl (lv_at hl 0 rfl) ?_
      refine va_get (D := D) (ci := 0) (v := .ref (g 0)) (C := RX0) (T := TX0) (N := 5) hx hb hts in_X0_allFaces_0 hown hK hP 6 rfl rfl 0 (by decide) (hts (.fieldLink RX0 27 "Twincuts$Drawing" "web" "LTwincuts$Web;") (List.mem_of_getElem? (i := 2) (by decide +kernel))) (fun _ h9 => h9) rfl dX0_allFaces_9 ?_
      refine va_getN (D := D) (ci := 5) (v := .int (nI P)) (C := RX5) (T := TX5) (N := 8) hx hb hts in_X0_allFaces_5 hown hK hP 0 rfl rfl 0 (by decide) (hN.use 5 rfl) (fun _ h9 => h9) rfl dX0_allFaces_12 ?_
      refine lv_icmp_ge (tgt := 38) hx hb dX0_allFaces_15 (by decide) (fun c15 => ?_) (fun c15 => ?_)
      · have c15 : P ≤ q := jx_le (by omega) (by omega) c15
        have es_38 : P = q := (by omega)
        subst es_38
        refine lv_iload_n hx hb dX0_allFaces_38 rfl (lv_at hl 1 rfl) ?_
        exact hQ (nI (wk + jmIso la st P)) _ _ dX0_allFaces_39 rfl
      · have c15 : q < P := jx_nle (by omega) (by omega) c15
        refine lv_aload_n hx hb dX0_allFaces_18 rfl (lv_at hl 0 rfl) ?_
        refine va_get (D := D) (ci := 0) (v := .ref (g 0)) (C := RX0) (T := TX0) (N := 5) hx hb hts in_X0_allFaces_0 hown hK hP 6 rfl rfl 0 (by decide) (hts (.fieldLink RX0 27 "Twincuts$Drawing" "web" "LTwincuts$Web;") (List.mem_of_getElem? (i := 2) (by decide +kernel))) (fun _ h9 => h9) rfl dX0_allFaces_19 ?_
        refine lv_iload_n hx hb dX0_allFaces_22 rfl (lv_at hl 2 rfl) ?_
        refine jx_callV (As := [.int (nI q)]) (rest := []) ⟨hx, hb, hml, hown, hts⟩ (c_X5_standingAt l D cI g P n st sm gr co en la hw q (by omega)) (cwV 1 hts gX0_allFaces_X5_standingAt rfl rfl rfl (by decide +kernel) ⟨Nat.le_of_ble_eq_true rfl, Nat.le_of_ble_eq_true rfl⟩) hN (hP.sub (ws' := jW cI g P n st sm gr co en la) [0, 1, 2, 3, 4, 5] rfl) (hK.sub (tys' := [(cI, .int)]) [0] rfl) 0 5 rfl rfl rfl rfl hl.1 rfl (Nat.le_of_ble_eq_true rfl) dX0_allFaces_23 ⟨Nat.zero_le _, Nat.zero_le _⟩ (fun r hr => ?_)
        subst hr
        refine lv_if_ne (tgt := 32) hx hb dX0_allFaces_26 (by decide) (fun c26 => ?_) (fun c26 => ?_)
        · have c26 : la q &&& st ≠ 0 := jx_nz c26
          refine lv_iinc (v := nI (q + 1)) (lv' := [(2, .int (nI (q + 1))), (0, .ref (g 50)), (1, .int (nI (wk + jmIso la st q)))]) hx hb dX0_allFaces_32 hl (k := 2) rfl (jx_inc _) (by decide) rfl (fun ls hl => ?_)
          refine lv_goto (tgt := 7) hx hb dX0_allFaces_35 (by decide) ?_
          have ev_1 : wk + jmIso la st q = wk + jmIso la st (q + 1) := by first | rfl | (simp [jmIso, c15, c26]; done) | (simp [jmIso, c15, c26]; omega)
          exact ih7 (q + 1) (by omega) (by omega) ls (by rw [← ev_1]; exact lv_sub hl [1, 2, 0] rfl)
        · have c26 : la q &&& st = 0 := jx_z (Nat.lt_of_le_of_lt Nat.and_le_left (by have := hla q (by omega); omega)) c26
          refine lv_iinc (v := nI (wk + jmIso la st q + 1)) (lv' := [(1, .int (nI (wk + jmIso la st q + 1))), (0, .ref (g 50)), (2, .int (nI q))]) hx hb dX0_allFaces_29 hl (k := 1) rfl (jx_inc _) (by decide) rfl (fun ls hl => ?_)
          refine lv_iinc (v := nI (q + 1)) (lv' := [(2, .int (nI (q + 1))), (1, .int (nI (wk + jmIso la st q + 1))), (0, .ref (g 50))]) hx hb dX0_allFaces_32 hl (k := 2) rfl (jx_inc _) (by decide) rfl (fun ls hl => ?_)
          refine lv_goto (tgt := 7) hx hb dX0_allFaces_35 (by decide) ?_
          have ev_2 : wk + jmIso la st q + 1 = wk + jmIso la st (q + 1) := by first | rfl | (simp [jmIso, c15, c26]; done) | (simp [jmIso, c15, c26]; omega)
          exact ih7 (q + 1) (by omega) (by omega) ls (by rw [← ev_2]; exact lv_sub hl [2, 1, 0] rfl)
  have ev_3 : wk = wk + jmIso la st 0 := by first | rfl | (simp [jmIso, if_true]; done) | (simp [jmIso, if_true]; omega)
  exact L7 ((P - 0) + 1) 0 (by omega) (Nat.lt_succ_self _) ls (by rw [← ev_3]; exact lv_sub hl [2, 1, 0] rfl)
set_option maxRecDepth 20000 in
theorem in_X4_isApartWithout_4 : ∀ w ∈ wsX40, w ∈ wsX4_isApartWithout := by decide +kernel
set_option maxRecDepth 20000 in
theorem in_X4_isApartWithout_5 : ∀ w ∈ wsX50, w ∈ wsX4_isApartWithout := by decide +kernel
set_option maxHeartbeats 4000000 in
set_option maxRecDepth 100000 in
/-- isApartWithout(one, other, points) -/
theorem c_X4_isApartWithout (l : Launch) (D : va_G) (cI : ClassId) (cO : ClassId) (g : Nat → Nat) (P n st : Nat) (sm gr co en la : Nat → Nat) (ro : Nat → Nat) (ca : Nat → Int32) (qu : Nat → Nat) (hw : jmWF P n st sm gr co en la) (a o S : Nat) (ha : a < 8) (ho : o < 8) (hS : S < 65536) : jxRO l yX4_isApartWithout wsX4_isApartWithout ({ frames := 1, cells := 0, slots := 0, locals := 28 } : Room) D [(cI, .int), (cO, .array .int)] (jW cI g P n st sm gr co en la ++ jY cI cO g ro ca qu) [.ref (g 20), .int (nI a), .int (nI o), .int (nI S)] (fun r => r = nI (jB (jmApart en P n st a o S))) := by
  refine jx_enterZ (by decide) rfl (Nat.le_of_ble_eq_true rfl) ?_
  intro p e s m args below meth c Q ls hx hb hml hts hown hN hP hK hl hQ
  have hown : s.vm.findClass RX4 = some m.cls := hown
  have hl : lv_has ls 4 [(0, .ref (g 20)), (1, .int (nI a)), (2, .int (nI o)), (3, .int (nI S))] := hl
  have hP8 : P ≤ 8 := hw.1
  have hn16 : n ≤ 16 := hw.2.1
  have hst : st < 65536 := jmWF_st hw
  have hen : ∀ j, j < n → en j < 256 := jmWF_en hw
  have hla : ∀ q, q < P → la q < 65536 := jmWF_la hw
  have hgr : ∀ j, j < n → sm j < 8 ∧ gr j < 8 := jmWF_gr hw
  have hco : ∀ j, j < n → co j < 21 := jmWF_co hw
  have hP2 := jx_pow256 hP8
  have hr8 := jmReach_lt (wi := jxAN (2 ^ P - 1) S) (b := st) ha hen
  refine lv_aload_n hx hb dX4_isApartWithout_0 rfl (lv_at hl 0 rfl) ?_
  refine va_get (D := D) (ci := 4) (v := .ref (g 0)) (C := RX4) (T := TX4) (N := 4) hx hb hts in_X4_isApartWithout_4 hown hK hP 6 rfl rfl 0 (by decide) (hts (.fieldLink RX4 23 "Twincuts$Ways" "web" "LTwincuts$Web;") (List.mem_of_getElem? (i := 1) (by decide +kernel))) (fun _ h9 => h9) rfl dX4_isApartWithout_1 ?_
  refine lv_iload_n hx hb dX4_isApartWithout_4 rfl (lv_at hl 1 rfl) ?_
  refine lv_aload_n hx hb dX4_isApartWithout_5 rfl (lv_at hl 0 rfl) ?_
  refine va_get (D := D) (ci := 4) (v := .ref (g 0)) (C := RX4) (T := TX4) (N := 4) hx hb hts in_X4_isApartWithout_4 hown hK hP 6 rfl rfl 0 (by decide) (hts (.fieldLink RX4 23 "Twincuts$Ways" "web" "LTwincuts$Web;") (List.mem_of_getElem? (i := 1) (by decide +kernel))) (fun _ h9 => h9) rfl dX4_isApartWithout_6 ?_
  refine jx_callV (As := []) (rest := [.int (nI a), .ref (g 0)]) ⟨hx, hb, hml, hown, hts⟩ (c_X5_allPoints l D cI g P n st sm gr co en la hw ) (cwV 0 hts gX4_isApartWithout_X5_allPoints rfl rfl rfl (by decide +kernel) ⟨Nat.le_of_ble_eq_true rfl, Nat.le_of_ble_eq_true rfl⟩) hN (hP.sub (ws' := jW cI g P n st sm gr co en la) [0, 1, 2, 3, 4, 5] rfl) (hK.sub (tys' := [(cI, .int)]) [0] rfl) 0 5 rfl rfl rfl rfl hl.1 rfl (Nat.le_of_ble_eq_true rfl) dX4_isApartWithout_9 ⟨Nat.zero_le _, Nat.zero_le _⟩ (fun r hr => ?_)
  subst hr
  refine lv_iload_n hx hb dX4_isApartWithout_12 rfl (lv_at hl 3 rfl) ?_
  refine lv_iconst (v := (-1)) hx hb dX4_isApartWithout_13 (by decide) ?_
  refine lv_ixor hx hb dX4_isApartWithout_14 ?_
  refine lv_iand hx hb dX4_isApartWithout_15 ?_
  refine jx_val (z := (nI (jxAN (2 ^ P - 1) S))) (jx_not _ _) ?_
  refine lv_aload_n hx hb dX4_isApartWithout_16 rfl (lv_at hl 0 rfl) ?_
  refine va_get (D := D) (ci := 4) (v := .ref (g 0)) (C := RX4) (T := TX4) (N := 4) hx hb hts in_X4_isApartWithout_4 hown hK hP 6 rfl rfl 0 (by decide) (hts (.fieldLink RX4 23 "Twincuts$Ways" "web" "LTwincuts$Web;") (List.mem_of_getElem? (i := 1) (by decide +kernel))) (fun _ h9 => h9) rfl dX4_isApartWithout_17 ?_
  refine va_getN (D := D) (ci := 5) (v := .int (nI st)) (C := RX5) (T := TX5) (N := 8) hx hb hts in_X4_isApartWithout_5 hown hK hP 0 rfl rfl 2 (by decide) (hN.use 11 rfl) (fun _ h9 => h9) rfl dX4_isApartWithout_20 ?_
  refine jx_callV (As := [.int (nI a), .int (nI (jxAN (2 ^ P - 1) S)), .int (nI st)]) (rest := []) ⟨hx, hb, hml, hown, hts⟩ (c_X5_reach l D cI g P n st sm gr co en la hw a (jxAN (2 ^ P - 1) S) st (by omega) (Nat.lt_trans (jxAN_lt (N := 256) (by omega)) (by decide)) (by omega)) (cwV 3 hts gX4_isApartWithout_X5_reach rfl rfl rfl (by decide +kernel) ⟨Nat.le_of_ble_eq_true rfl, Nat.le_of_ble_eq_true rfl⟩) hN (hP.sub (ws' := jW cI g P n st sm gr co en la) [0, 1, 2, 3, 4, 5] rfl) (hK.sub (tys' := [(cI, .int)]) [0] rfl) 0 5 rfl rfl rfl rfl hl.1 rfl (Nat.le_of_ble_eq_true rfl) dX4_isApartWithout_23 ⟨Nat.zero_le _, Nat.zero_le _⟩ (fun r hr => ?_)
  subst hr
  refine lv_iload_n hx hb dX4_isApartWithout_26 rfl (lv_at hl 2 rfl) ?_
  refine jx_callSN (As := [.int (nI (jmReach en (jxAN (2 ^ P - 1) S) st n a)), .int (nI o)]) (rest := []) ⟨hx, hb, hml, hown, hts⟩ (c_X6_has l D (jmReach en (jxAN (2 ^ P - 1) S) st n a) o (by omega) (by omega)) (va_cnB 2 hts gX4_isApartWithout_X6_has_n42 rfl rfl rfl (hN.get 41 rfl) (hts (.initialized RX6) (List.mem_of_getElem? (i := 15) (by decide +kernel))) (by decide +kernel) ⟨Nat.le_of_ble_eq_true rfl, Nat.le_of_ble_eq_true rfl⟩) (hts (.static yX6_has) (List.mem_of_getElem? (i := 14) (by decide +kernel))) hN (hP.sub (ws' := []) [] rfl) (hK.sub (tys' := []) [] rfl) rfl hl.1 rfl (Nat.le_of_ble_eq_true rfl) dX4_isApartWithout_27 ⟨Nat.zero_le _, Nat.zero_le _⟩ (fun r hr => ?_)
  subst hr
  refine lv_if_ne (tgt := 37) hx hb dX4_isApartWithout_30 (by decide) (fun c30 => ?_) (fun c30 => ?_)
  · have c30 := jB_1 c30
    refine lv_iconst (v := nI 0) hx hb dX4_isApartWithout_37 (by decide) ?_
    exact hQ false _ _ dX4_isApartWithout_38 (by simp [jmApart, c30])
  · have c30 := jB_0 c30
    refine lv_iconst (v := nI 1) hx hb dX4_isApartWithout_33 (by decide) ?_
    refine lv_goto (tgt := 38) hx hb dX4_isApartWithout_34 (by decide) ?_
    exact hQ true _ _ dX4_isApartWithout_38 (by simp [jmApart, c30])
set_option maxRecDepth 20000 in
theorem in_X4_gap_4 : ∀ w ∈ wsX40, w ∈ wsX4_gap := by decide +kernel
set_option maxRecDepth 20000 in
theorem in_X4_gap_5 : ∀ w ∈ wsX50, w ∈ wsX4_gap := by decide +kernel
set_option maxHeartbeats 4000000 in
set_option maxRecDepth 100000 in
/-- gap(one, other) -/
theorem c_X4_gap (l : Launch) (D : va_G) (cI : ClassId) (cO : ClassId) (g : Nat → Nat) (P n st : Nat) (sm gr co en la : Nat → Nat) (ro : Nat → Nat) (ca : Nat → Int32) (qu : Nat → Nat) (hw : jmWF P n st sm gr co en la) (a o : Nat) (ha : a < P) (ho : o < P) : jxRO l yX4_gap wsX4_gap ({ frames := 2, cells := 0, slots := 0, locals := 51 } : Room) D [(cI, .int), (cO, .array .int)] (jW cI g P n st sm gr co en la ++ jY cI cO g ro ca qu) [.ref (g 20), .int (nI a), .int (nI o)] (fun r => r = jmGap en la P n st a o) := by
  refine jx_enter (by decide) rfl (Nat.le_of_ble_eq_true rfl) ?_
  intro p e s m args below meth c Q ls hx hb hml hts hown hN hP hK hl hQ
  have hown : s.vm.findClass RX4 = some m.cls := hown
  have hl : lv_has ls 7 [(0, .ref (g 20)), (1, .int (nI a)), (2, .int (nI o))] := hl
  have hP8 : P ≤ 8 := hw.1
  have hn16 : n ≤ 16 := hw.2.1
  have hst : st < 65536 := jmWF_st hw
  have hen : ∀ j, j < n → en j < 256 := jmWF_en hw
  have hla : ∀ q, q < P → la q < 65536 := jmWF_la hw
  have hgr : ∀ j, j < n → sm j < 8 ∧ gr j < 8 := jmWF_gr hw
  have hco : ∀ j, j < n → co j < 21 := jmWF_co hw
  have hP2 := jx_pow256 hP8
  have hP1 := Nat.one_le_two_pow (n := P)
  have hli := jmLinked_lt (la := la) (st := st) (q := a) hen
  refine lv_aload_n hx hb dX4_gap_0 rfl (lv_at hl 0 rfl) ?_
  refine va_get (D := D) (ci := 4) (v := .ref (g 0)) (C := RX4) (T := TX4) (N := 4) hx hb hts in_X4_gap_4 hown hK hP 6 rfl rfl 0 (by decide) (hts (.fieldLink RX4 23 "Twincuts$Ways" "web" "LTwincuts$Web;") (List.mem_of_getElem? (i := 1) (by decide +kernel))) (fun _ h9 => h9) rfl dX4_gap_1 ?_
  refine lv_iload_n hx hb dX4_gap_4 rfl (lv_at hl 1 rfl) ?_
  refine jx_callV (As := [.int (nI a)]) (rest := []) ⟨hx, hb, hml, hown, hts⟩ (c_X5_linkedWith l D cI g P n st sm gr co en la hw a (by omega)) (cwV 1 hts gX4_gap_X5_linkedWith rfl rfl rfl (by decide +kernel) ⟨Nat.le_of_ble_eq_true rfl, Nat.le_of_ble_eq_true rfl⟩) hN (hP.sub (ws' := jW cI g P n st sm gr co en la) [0, 1, 2, 3, 4, 5] rfl) (hK.sub (tys' := [(cI, .int)]) [0] rfl) 0 5 rfl rfl rfl rfl hl.1 rfl (Nat.le_of_ble_eq_true rfl) dX4_gap_5 ⟨Nat.zero_le _, Nat.zero_le _⟩ (fun r hr => ?_)
  subst hr
  refine lv_iload_n hx hb dX4_gap_8 rfl (lv_at hl 2 rfl) ?_
  refine jx_callSN (As := [.int (nI (jmLinked en la st n a)), .int (nI o)]) (rest := []) ⟨hx, hb, hml, hown, hts⟩ (c_X6_has l D (jmLinked en la st n a) o (by omega) (by omega)) (va_cnB 2 hts gX4_gap_X6_has_n42 rfl rfl rfl (hN.get 41 rfl) (hts (.initialized RX6) (List.mem_of_getElem? (i := 12) (by decide +kernel))) (by decide +kernel) ⟨Nat.le_of_ble_eq_true rfl, Nat.le_of_ble_eq_true rfl⟩) (hts (.static yX6_has) (List.mem_of_getElem? (i := 11) (by decide +kernel))) hN (hP.sub (ws' := []) [] rfl) (hK.sub (tys' := []) [] rfl) rfl hl.1 rfl (Nat.le_of_ble_eq_true rfl) dX4_gap_9 ⟨Nat.zero_le _, Nat.zero_le _⟩ (fun r hr => ?_)
  subst hr
  refine lv_if_eq (tgt := 17) hx hb dX4_gap_12 (by decide) (fun c12 => ?_) (fun c12 => ?_)
  · have c12 := jB_0 c12
    refine lv_iconst (v := nI 1) hx hb dX4_gap_17 (by decide) ?_
    refine lv_iload_n hx hb dX4_gap_18 rfl (lv_at hl 1 rfl) ?_
    refine lv_ishl hx hb dX4_gap_19 ?_
    refine jx_val (z := (nI (2 ^ a))) (jx_1shl (by omega)) ?_
    refine lv_iconst (v := nI 1) hx hb dX4_gap_20 (by decide) ?_
    refine lv_iload_n hx hb dX4_gap_21 rfl (lv_at hl 2 rfl) ?_
    refine lv_ishl hx hb dX4_gap_22 ?_
    refine jx_val (z := (nI (2 ^ o))) (jx_1shl (by omega)) ?_
    refine lv_ior hx hb dX4_gap_23 ?_
    refine jx_val (z := (nI ((2 ^ a) ||| (2 ^ o)))) (fa_or _ _) ?_
    refine lv_istore_n (lv' := [(3, .int (nI ((2 ^ a) ||| (2 ^ o)))), (0, .ref (g 20)), (1, .int (nI a)), (2, .int (nI o))]) hx hb dX4_gap_24 rfl hl (by decide) rfl (fun ls hl => ?_)
    refine lv_aload_n hx hb dX4_gap_25 rfl (lv_at hl 1 rfl) ?_
    refine va_get (D := D) (ci := 4) (v := .ref (g 0)) (C := RX4) (T := TX4) (N := 4) hx hb hts in_X4_gap_4 hown hK hP 6 rfl rfl 0 (by decide) (hts (.fieldLink RX4 23 "Twincuts$Ways" "web" "LTwincuts$Web;") (List.mem_of_getElem? (i := 1) (by decide +kernel))) (fun _ h9 => h9) rfl dX4_gap_26 ?_
    refine jx_callV (As := []) (rest := []) ⟨hx, hb, hml, hown, hts⟩ (c_X5_allPoints l D cI g P n st sm gr co en la hw ) (cwV 0 hts gX4_gap_X5_allPoints rfl rfl rfl (by decide +kernel) ⟨Nat.le_of_ble_eq_true rfl, Nat.le_of_ble_eq_true rfl⟩) hN (hP.sub (ws' := jW cI g P n st sm gr co en la) [0, 1, 2, 3, 4, 5] rfl) (hK.sub (tys' := [(cI, .int)]) [0] rfl) 0 5 rfl rfl rfl rfl hl.1 rfl (Nat.le_of_ble_eq_true rfl) dX4_gap_29 ⟨Nat.zero_le _, Nat.zero_le _⟩ (fun r hr => ?_)
    subst hr
    refine lv_iload_n hx hb dX4_gap_32 rfl (lv_at hl 0 rfl) ?_
    refine lv_iconst (v := (-1)) hx hb dX4_gap_33 (by decide) ?_
    refine lv_ixor hx hb dX4_gap_34 ?_
    refine lv_iand hx hb dX4_gap_35 ?_
    refine jx_val (z := (nI (jxAN (2 ^ P - 1) ((2 ^ a) ||| (2 ^ o))))) (jx_not _ _) ?_
    refine lv_istore (lv' := [(4, .int (nI (jxAN (2 ^ P - 1) ((2 ^ a) ||| (2 ^ o))))), (3, .int (nI ((2 ^ a) ||| (2 ^ o)))), (0, .ref (g 20)), (1, .int (nI a)), (2, .int (nI o))]) hx hb dX4_gap_36 hl (by decide) rfl (fun ls hl => ?_)
    refine lv_iconst (v := nI 0) hx hb dX4_gap_38 (by decide) ?_
    refine lv_istore (lv' := [(5, .int (nI 0)), (4, .int (nI (jxAN (2 ^ P - 1) ((2 ^ a) ||| (2 ^ o))))), (3, .int (nI ((2 ^ a) ||| (2 ^ o)))), (0, .ref (g 20)), (1, .int (nI a)), (2, .int (nI o))]) hx hb dX4_gap_39 hl (by decide) rfl (fun ls hl => ?_)
    have L41 : ∀ (k : Nat) (S : Nat) (hS : S ≤ 2 ^ P), 2 ^ P - S < k → ∀ ls : Array Slot, lv_has ls 7 [(0, .ref (g 20)), (1, .int (nI a)), (2, .int (nI o)), (3, .int (nI (2 ^ a ||| 2 ^ o))), (4, .int (nI (jmGapF en P n st a o S))), (5, .int (nI S))] → W p l e ({ frames := 2, cells := 0, slots := 0, locals := 51 } : Room) s m args below meth c s.heap [] 0 0 Q (F0 m 41 ls []) := by
      intro k
      induction k with
      | zero => intro S hS hk; exact absurd hk (Nat.not_lt_zero _)
      | succ k ih41 =>
        intro S hS hk ls hl
        have hG := jmGapF_lt (en := en) (n := n) (st := st) (a := a) (o := o) hS
        refine lv_iload hx hb dX4_gap_41 (lv_at hl 5 rfl) ?_
        refine lv_aload_n hx hb dX4_gap_43 rfl (lv_at hl 0 rfl) ?_
        refine va_get (D := D) (ci := 4) (v := .ref (g 0)) (C := RX4) (T := TX4) (N := 4) hx hb hts in_X4_gap_4 hown hK hP 6 rfl rfl 0 (by decide) (hts (.fieldLink RX4 23 "Twincuts$Ways" "web" "LTwincuts$Web;") (List.mem_of_getElem? (i := 1) (by decide +kernel))) (fun _ h9 => h9) rfl dX4_gap_44 ?_
        refine jx_callV (As := []) (rest := [.int (nI S)]) ⟨hx, hb, hml, hown, hts⟩ (c_X5_allPoints l D cI g P n st sm gr co en la hw ) (cwV 0 hts gX4_gap_X5_allPoints rfl rfl rfl (by decide +kernel) ⟨Nat.le_of_ble_eq_true rfl, Nat.le_of_ble_eq_true rfl⟩) hN (hP.sub (ws' := jW cI g P n st sm gr co en la) [0, 1, 2, 3, 4, 5] rfl) (hK.sub (tys' := [(cI, .int)]) [0] rfl) 0 5 rfl rfl rfl rfl hl.1 rfl (Nat.le_of_ble_eq_true rfl) dX4_gap_47 ⟨Nat.zero_le _, Nat.zero_le _⟩ (fun r hr => ?_)
        subst hr
        refine lv_icmp_gt (tgt := 106) hx hb dX4_gap_50 (by decide) (fun c50 => ?_) (fun c50 => ?_)
        · have c50 : 2 ^ P - 1 < S := jx_lt (Nat.lt_of_le_of_lt (Nat.sub_le _ _) (jx_pow31 (by omega))) (by omega) c50
          refine lv_iload hx hb dX4_gap_106 (lv_at hl 4 rfl) ?_
          exact hQ (nI (jmGapF en P n st a o S)) _ _ dX4_gap_108 (by unfold jmGap; rw [if_neg (by simp [c12]), show S = 2 ^ P by omega])
        · have c50 : S ≤ 2 ^ P - 1 := jx_nlt (Nat.lt_of_le_of_lt (Nat.sub_le _ _) (jx_pow31 (by omega))) (by omega) c50
          refine lv_iload hx hb dX4_gap_53 (lv_at hl 5 rfl) ?_
          refine jx_callS (As := [.int (nI S)]) (rest := []) ⟨hx, hb, hml, hown, hts⟩ (c_J6_bitCount_0f7a4 l D S (by omega)) (va_cwS 1 hts gX4_gap_J6_bitCount_0f7a4 rfl rfl rfl (by decide +kernel) ⟨Nat.le_of_ble_eq_true rfl, Nat.le_of_ble_eq_true rfl⟩) hN (hP.sub (ws' := []) [] rfl) (hK.sub (tys' := []) [] rfl) rfl hl.1 rfl (Nat.le_of_ble_eq_true rfl) dX4_gap_55 ⟨Nat.zero_le _, Nat.zero_le _⟩ (fun r hr => ?_)
          subst hr
          refine lv_iload hx hb dX4_gap_58 (lv_at hl 4 rfl) ?_
          refine jx_callS (As := [.int (nI (jmGapF en P n st a o S))]) (rest := [.int (nI (jmPop S))]) ⟨hx, hb, hml, hown, hts⟩ (c_J6_bitCount_0f7a4 l D (jmGapF en P n st a o S) (by omega)) (va_cwS 1 hts gX4_gap_J6_bitCount_0f7a4 rfl rfl rfl (by decide +kernel) ⟨Nat.le_of_ble_eq_true rfl, Nat.le_of_ble_eq_true rfl⟩) hN (hP.sub (ws' := []) [] rfl) (hK.sub (tys' := []) [] rfl) rfl hl.1 rfl (Nat.le_of_ble_eq_true rfl) dX4_gap_60 ⟨Nat.zero_le _, Nat.zero_le _⟩ (fun r hr => ?_)
          subst hr
          refine lv_icmp_ge (tgt := 70) hx hb dX4_gap_63 (by decide) (fun c63 => ?_) (fun c63 => ?_)
          · have c63 : jmPop (jmGapF en P n st a o S) ≤ jmPop S := jx_le (Nat.lt_of_le_of_lt (jmPop_le _) (by decide)) (Nat.lt_of_le_of_lt (jmPop_le _) (by decide)) c63
            refine lv_iconst (v := nI 0) hx hb dX4_gap_70 (by decide) ?_
            refine lv_istore (lv' := [(6, .int (nI 0)), (0, .ref (g 20)), (1, .int (nI a)), (2, .int (nI o)), (3, .int (nI (2 ^ a ||| 2 ^ o))), (4, .int (nI (jmGapF en P n st a o S))), (5, .int (nI S))]) hx hb dX4_gap_71 hl (by decide) rfl (fun ls hl => ?_)
            refine lv_iload hx hb dX4_gap_73 (lv_at hl 6 rfl) ?_
            refine lv_iload_n hx hb dX4_gap_75 rfl (lv_at hl 4 rfl) ?_
            refine lv_iand hx hb dX4_gap_76 ?_
            refine jx_val (z := (nI (S &&& (2 ^ a ||| 2 ^ o)))) (fa_and _ _) ?_
            refine lv_if_ne (tgt := 100) hx hb dX4_gap_77 (by decide) (fun c77 => ?_) (fun c77 => ?_)
            · have c77 : S &&& (2 ^ a ||| 2 ^ o) ≠ 0 := jx_nz c77
              refine lv_iinc (v := nI (S + 1)) (lv' := [(5, .int (nI (S + 1))), (6, .int (nI 0)), (0, .ref (g 20)), (1, .int (nI a)), (2, .int (nI o)), (3, .int (nI (2 ^ a ||| 2 ^ o))), (4, .int (nI (jmGapF en P n st a o S)))]) hx hb dX4_gap_100 hl (k := 6) rfl (jx_inc _) (by decide) rfl (fun ls hl => ?_)
              refine lv_goto (tgt := 41) hx hb dX4_gap_103 (by decide) ?_
              have ev_1 : jmGapF en P n st a o S = jmGapF en P n st a o (S + 1) := by first | rfl | (simp [jmGapF, c50, c63, c77]; done) | (simp [jmGapF, c50, c63, c77]; omega)
              exact ih41 (S + 1) (by omega) (by omega) ls (by rw [← ev_1]; exact lv_sub hl [2, 3, 4, 5, 6, 0] rfl)
            · have c77 : S &&& (2 ^ a ||| 2 ^ o) = 0 := jx_z (Nat.lt_of_le_of_lt Nat.and_le_left (by omega)) c77
              refine lv_iload hx hb dX4_gap_80 (lv_at hl 0 rfl) ?_
              refine lv_if_eq (tgt := 100) hx hb dX4_gap_82 (by decide) (fun _ => ?_) (fun c => absurd c (by decide))
              refine lv_iinc (v := nI (S + 1)) (lv' := [(5, .int (nI (S + 1))), (6, .int (nI 0)), (0, .ref (g 20)), (1, .int (nI a)), (2, .int (nI o)), (3, .int (nI (2 ^ a ||| 2 ^ o))), (4, .int (nI (jmGapF en P n st a o S)))]) hx hb dX4_gap_100 hl (k := 6) rfl (jx_inc _) (by decide) rfl (fun ls hl => ?_)
              refine lv_goto (tgt := 41) hx hb dX4_gap_103 (by decide) ?_
              have ev_2 : jmGapF en P n st a o S = jmGapF en P n st a o (S + 1) := by first | rfl | (simp [jmGapF, c50, c63, c77]; done) | (simp [jmGapF, c50, c63, c77]; omega)
              exact ih41 (S + 1) (by omega) (by omega) ls (by rw [← ev_2]; exact lv_sub hl [2, 3, 4, 5, 6, 0] rfl)
          · have c63 : jmPop S < jmPop (jmGapF en P n st a o S) := jx_nle (Nat.lt_of_le_of_lt (jmPop_le _) (by decide)) (Nat.lt_of_le_of_lt (jmPop_le _) (by decide)) c63
            refine lv_iconst (v := nI 1) hx hb dX4_gap_66 (by decide) ?_
            refine lv_goto (tgt := 71) hx hb dX4_gap_67 (by decide) ?_
            refine lv_istore (lv' := [(6, .int (nI 1)), (0, .ref (g 20)), (1, .int (nI a)), (2, .int (nI o)), (3, .int (nI (2 ^ a ||| 2 ^ o))), (4, .int (nI (jmGapF en P n st a o S))), (5, .int (nI S))]) hx hb dX4_gap_71 hl (by decide) rfl (fun ls hl => ?_)
            refine lv_iload hx hb dX4_gap_73 (lv_at hl 6 rfl) ?_
            refine lv_iload_n hx hb dX4_gap_75 rfl (lv_at hl 4 rfl) ?_
            refine lv_iand hx hb dX4_gap_76 ?_
            refine jx_val (z := (nI (S &&& (2 ^ a ||| 2 ^ o)))) (fa_and _ _) ?_
            refine lv_if_ne (tgt := 100) hx hb dX4_gap_77 (by decide) (fun c77 => ?_) (fun c77 => ?_)
            · have c77 : S &&& (2 ^ a ||| 2 ^ o) ≠ 0 := jx_nz c77
              refine lv_iinc (v := nI (S + 1)) (lv' := [(5, .int (nI (S + 1))), (6, .int (nI 1)), (0, .ref (g 20)), (1, .int (nI a)), (2, .int (nI o)), (3, .int (nI (2 ^ a ||| 2 ^ o))), (4, .int (nI (jmGapF en P n st a o S)))]) hx hb dX4_gap_100 hl (k := 6) rfl (jx_inc _) (by decide) rfl (fun ls hl => ?_)
              refine lv_goto (tgt := 41) hx hb dX4_gap_103 (by decide) ?_
              have ev_3 : jmGapF en P n st a o S = jmGapF en P n st a o (S + 1) := by first | rfl | (simp [jmGapF, c50, c63, c77]; done) | (simp [jmGapF, c50, c63, c77]; omega)
              exact ih41 (S + 1) (by omega) (by omega) ls (by rw [← ev_3]; exact lv_sub hl [2, 3, 4, 5, 6, 0] rfl)
            · have c77 : S &&& (2 ^ a ||| 2 ^ o) = 0 := jx_z (Nat.lt_of_le_of_lt Nat.and_le_left (by omega)) c77
              refine lv_iload hx hb dX4_gap_80 (lv_at hl 0 rfl) ?_
              refine lv_if_eq (tgt := 100) hx hb dX4_gap_82 (by decide) (fun c => absurd c (by decide)) (fun _ => ?_)
              refine lv_aload_n hx hb dX4_gap_85 rfl (lv_at hl 1 rfl) ?_
              refine lv_iload_n hx hb dX4_gap_86 rfl (lv_at hl 2 rfl) ?_
              refine lv_iload_n hx hb dX4_gap_87 rfl (lv_at hl 3 rfl) ?_
              refine lv_iload hx hb dX4_gap_88 (lv_at hl 6 rfl) ?_
              refine jx_callV (As := [.int (nI a), .int (nI o), .int (nI S)]) (rest := []) ⟨hx, hb, hml, hown, hts⟩ (c_X4_isApartWithout l D cI cO g P n st sm gr co en la ro ca qu hw a o S (by omega) (by omega) (by omega)) (cwV 3 hts gX4_gap_X4_isApartWithout rfl rfl rfl (by decide +kernel) ⟨Nat.le_of_ble_eq_true rfl, Nat.le_of_ble_eq_true rfl⟩) hN (hP.sub (ws' := jW cI g P n st sm gr co en la ++ jY cI cO g ro ca qu) [0, 1, 2, 3, 4, 5, 6, 7, 8, 9] rfl) (hK.sub (tys' := [(cI, .int), (cO, .array .int)]) [0, 1] rfl) 6 4 rfl rfl rfl rfl hl.1 rfl (Nat.le_of_ble_eq_true rfl) dX4_gap_90 ⟨Nat.zero_le _, Nat.zero_le _⟩ (fun r hr => ?_)
              subst hr
              refine lv_if_eq (tgt := 100) hx hb dX4_gap_93 (by decide) (fun c93 => ?_) (fun c93 => ?_)
              · have c93 := jB_0 c93
                refine lv_iinc (v := nI (S + 1)) (lv' := [(5, .int (nI (S + 1))), (6, .int (nI 1)), (0, .ref (g 20)), (1, .int (nI a)), (2, .int (nI o)), (3, .int (nI (2 ^ a ||| 2 ^ o))), (4, .int (nI (jmGapF en P n st a o S)))]) hx hb dX4_gap_100 hl (k := 6) rfl (jx_inc _) (by decide) rfl (fun ls hl => ?_)
                refine lv_goto (tgt := 41) hx hb dX4_gap_103 (by decide) ?_
                have ev_4 : jmGapF en P n st a o S = jmGapF en P n st a o (S + 1) := by first | rfl | (simp [jmGapF, c50, c63, c77, c93]; done) | (simp [jmGapF, c50, c63, c77, c93]; omega)
                exact ih41 (S + 1) (by omega) (by omega) ls (by rw [← ev_4]; exact lv_sub hl [2, 3, 4, 5, 6, 0] rfl)
              · have c93 := jB_1 c93
                refine lv_iload hx hb dX4_gap_96 (lv_at hl 6 rfl) ?_
                refine lv_istore (lv' := [(4, .int (nI S)), (6, .int (nI 1)), (0, .ref (g 20)), (1, .int (nI a)), (2, .int (nI o)), (3, .int (nI (2 ^ a ||| 2 ^ o))), (5, .int (nI S))]) hx hb dX4_gap_98 hl (by decide) rfl (fun ls hl => ?_)
                refine lv_iinc (v := nI (S + 1)) (lv' := [(5, .int (nI (S + 1))), (4, .int (nI S)), (6, .int (nI 1)), (0, .ref (g 20)), (1, .int (nI a)), (2, .int (nI o)), (3, .int (nI (2 ^ a ||| 2 ^ o)))]) hx hb dX4_gap_100 hl (k := 6) rfl (jx_inc _) (by decide) rfl (fun ls hl => ?_)
                refine lv_goto (tgt := 41) hx hb dX4_gap_103 (by decide) ?_
                have ev_5 : S = jmGapF en P n st a o (S + 1) := by first | rfl | (simp [jmGapF, c50, c63, c77, c93]; done) | (simp [jmGapF, c50, c63, c77, c93]; omega)
                exact ih41 (S + 1) (by omega) (by omega) ls (by rw [← ev_5]; exact lv_sub hl [3, 4, 5, 6, 1, 0] rfl)
    have ev_6 : (2 ^ a) ||| (2 ^ o) = 2 ^ a ||| 2 ^ o := by first | rfl | (simp [jmGapF, c12]; done) | (simp [jmGapF, c12]; omega)
    have ev_7 : jxAN (2 ^ P - 1) ((2 ^ a) ||| (2 ^ o)) = jmGapF en P n st a o 0 := by first | rfl | (simp [jmGapF, c12]; done) | (simp [jmGapF, c12]; omega)
    exact L41 ((2 ^ P - 0) + 1) 0 (by omega) (Nat.lt_succ_self _) ls (by rw [← ev_7, ← ev_6]; exact lv_sub hl [3, 4, 5, 2, 1, 0] rfl)
  · have c12 := jB_1 c12
    refine lv_iconst (v := (-1)) hx hb dX4_gap_15 (by decide) ?_
    exact hQ (-1 : Int32) _ _ dX4_gap_16 (by unfold jmGap; rw [if_pos c12])
set_option maxRecDepth 20000 in
theorem in_X4_side_4 : ∀ w ∈ wsX40, w ∈ wsX4_side := by decide +kernel
set_option maxRecDepth 20000 in
theorem in_X4_side_5 : ∀ w ∈ wsX50, w ∈ wsX4_side := by decide +kernel
set_option maxHeartbeats 4000000 in
set_option maxRecDepth 100000 in
/-- side(one, other) -/
theorem c_X4_side (l : Launch) (D : va_G) (cI : ClassId) (cO : ClassId) (g : Nat → Nat) (P n st : Nat) (sm gr co en la : Nat → Nat) (ro : Nat → Nat) (ca : Nat → Int32) (qu : Nat → Nat) (hw : jmWF P n st sm gr co en la) (a o : Nat) (ha : a < P) (ho : o < P) : jxRO l yX4_side wsX4_side ({ frames := 2, cells := 0, slots := 0, locals := 44 } : Room) D [(cI, .int), (cO, .array .int)] (jW cI g P n st sm gr co en la ++ jY cI cO g ro ca qu) [.ref (g 20), .int (nI a), .int (nI o)] (fun r => r = nI (jmSide la P st a o)) := by
  refine jx_enter (by decide) rfl (Nat.le_of_ble_eq_true rfl) ?_
  intro p e s m args below meth c Q ls hx hb hml hts hown hN hP hK hl hQ
  have hown : s.vm.findClass RX4 = some m.cls := hown
  have hl : lv_has ls 8 [(0, .ref (g 20)), (1, .int (nI a)), (2, .int (nI o))] := hl
  have hP8 : P ≤ 8 := hw.1
  have hn16 : n ≤ 16 := hw.2.1
  have hst : st < 65536 := jmWF_st hw
  have hen : ∀ j, j < n → en j < 256 := jmWF_en hw
  have hla : ∀ q, q < P → la q < 65536 := jmWF_la hw
  have hgr : ∀ j, j < n → sm j < 8 ∧ gr j < 8 := jmWF_gr hw
  have hco : ∀ j, j < n → co j < 21 := jmWF_co hw
  have hP2 := jx_pow256 hP8
  have hP1 := Nat.one_le_two_pow (n := P)
  have ha2 : 2 ^ a < 256 := jx_pow8 (by omega)
  refine lv_iconst (v := nI 1) hx hb dX4_side_0 (by decide) ?_
  refine lv_iload_n hx hb dX4_side_1 rfl (lv_at hl 1 rfl) ?_
  refine lv_ishl hx hb dX4_side_2 ?_
  refine jx_val (z := (nI (2 ^ a))) (jx_1shl (by omega)) ?_
  refine lv_istore_n (lv' := [(3, .int (nI (2 ^ a))), (0, .ref (g 20)), (1, .int (nI a)), (2, .int (nI o))]) hx hb dX4_side_3 rfl hl (by decide) rfl (fun ls hl => ?_)
  refine lv_aload_n hx hb dX4_side_4 rfl (lv_at hl 1 rfl) ?_
  refine va_get (D := D) (ci := 4) (v := .ref (g 0)) (C := RX4) (T := TX4) (N := 4) hx hb hts in_X4_side_4 hown hK hP 6 rfl rfl 0 (by decide) (hts (.fieldLink RX4 23 "Twincuts$Ways" "web" "LTwincuts$Web;") (List.mem_of_getElem? (i := 1) (by decide +kernel))) (fun _ h9 => h9) rfl dX4_side_5 ?_
  refine lv_iload_n hx hb dX4_side_8 rfl (lv_at hl 0 rfl) ?_
  refine jx_callV (As := [.int (nI (2 ^ a))]) (rest := []) ⟨hx, hb, hml, hown, hts⟩ (c_X5_linesOutOf l D cI g P n st sm gr co en la hw (2 ^ a) (by omega)) (cwV 1 hts gX4_side_X5_linesOutOf rfl rfl rfl (by decide +kernel) ⟨Nat.le_of_ble_eq_true rfl, Nat.le_of_ble_eq_true rfl⟩) hN (hP.sub (ws' := jW cI g P n st sm gr co en la) [0, 1, 2, 3, 4, 5] rfl) (hK.sub (tys' := [(cI, .int)]) [0] rfl) 0 5 rfl rfl rfl rfl hl.1 rfl (Nat.le_of_ble_eq_true rfl) dX4_side_9 ⟨Nat.zero_le _, Nat.zero_le _⟩ (fun r hr => ?_)
  subst hr
  refine jx_callS (As := [.int (nI (jmOut la st (2 ^ a) P))]) (rest := []) ⟨hx, hb, hml, hown, hts⟩ (c_J6_bitCount_0f7a4 l D (jmOut la st (2 ^ a) P) (jmOut_lt hst)) (va_cwS 1 hts gX4_side_J6_bitCount_0f7a4 rfl rfl rfl (by decide +kernel) ⟨Nat.le_of_ble_eq_true rfl, Nat.le_of_ble_eq_true rfl⟩) hN (hP.sub (ws' := []) [] rfl) (hK.sub (tys' := []) [] rfl) rfl hl.1 rfl (Nat.le_of_ble_eq_true rfl) dX4_side_12 ⟨Nat.zero_le _, Nat.zero_le _⟩ (fun r hr => ?_)
  subst hr
  refine lv_istore (lv' := [(4, .int (nI (jmPop (jmOut la st (2 ^ a) P)))), (3, .int (nI (2 ^ a))), (0, .ref (g 20)), (1, .int (nI a)), (2, .int (nI o))]) hx hb dX4_side_15 hl (by decide) rfl (fun ls hl => ?_)
  refine lv_iconst (v := nI 0) hx hb dX4_side_17 (by decide) ?_
  refine lv_istore (lv' := [(5, .int (nI 0)), (4, .int (nI (jmPop (jmOut la st (2 ^ a) P)))), (3, .int (nI (2 ^ a))), (0, .ref (g 20)), (1, .int (nI a)), (2, .int (nI o))]) hx hb dX4_side_18 hl (by decide) rfl (fun ls hl => ?_)
  have L20 : ∀ (k : Nat) (S : Nat) (hS : S ≤ 2 ^ P), 2 ^ P - S < k → ∀ ls : Array Slot, lv_has ls 8 [(0, .ref (g 20)), (1, .int (nI a)), (2, .int (nI o)), (3, .int (nI (jmSideF la P st a o S))), (4, .int (nI (jmPop (jmOut la st (jmSideF la P st a o S) P)))), (5, .int (nI S))] → W p l e ({ frames := 2, cells := 0, slots := 0, locals := 44 } : Room) s m args below meth c s.heap [] 0 0 Q (F0 m 20 ls []) := by
    intro k
    induction k with
    | zero => intro S hS hk; exact absurd hk (Nat.not_lt_zero _)
    | succ k ih20 =>
      intro S hS hk ls hl
      have hG := jmSideF_lt (la := la) (st := st) (o := o) ha hS
      refine lv_iload hx hb dX4_side_20 (lv_at hl 5 rfl) ?_
      refine lv_aload_n hx hb dX4_side_22 rfl (lv_at hl 0 rfl) ?_
      refine va_get (D := D) (ci := 4) (v := .ref (g 0)) (C := RX4) (T := TX4) (N := 4) hx hb hts in_X4_side_4 hown hK hP 6 rfl rfl 0 (by decide) (hts (.fieldLink RX4 23 "Twincuts$Ways" "web" "LTwincuts$Web;") (List.mem_of_getElem? (i := 1) (by decide +kernel))) (fun _ h9 => h9) rfl dX4_side_23 ?_
      refine jx_callV (As := []) (rest := [.int (nI S)]) ⟨hx, hb, hml, hown, hts⟩ (c_X5_allPoints l D cI g P n st sm gr co en la hw ) (cwV 0 hts gX4_side_X5_allPoints rfl rfl rfl (by decide +kernel) ⟨Nat.le_of_ble_eq_true rfl, Nat.le_of_ble_eq_true rfl⟩) hN (hP.sub (ws' := jW cI g P n st sm gr co en la) [0, 1, 2, 3, 4, 5] rfl) (hK.sub (tys' := [(cI, .int)]) [0] rfl) 0 5 rfl rfl rfl rfl hl.1 rfl (Nat.le_of_ble_eq_true rfl) dX4_side_26 ⟨Nat.zero_le _, Nat.zero_le _⟩ (fun r hr => ?_)
      subst hr
      refine lv_icmp_gt (tgt := 115) hx hb dX4_side_29 (by decide) (fun c29 => ?_) (fun c29 => ?_)
      · have c29 : 2 ^ P - 1 < S := jx_lt (Nat.lt_of_le_of_lt (Nat.sub_le _ _) (jx_pow31 (by omega))) (by omega) c29
        refine lv_iload_n hx hb dX4_side_115 rfl (lv_at hl 3 rfl) ?_
        exact hQ (nI (jmSideF la P st a o S)) _ _ dX4_side_116 (by unfold jmSide; rw [show S = 2 ^ P by omega])
      · have c29 : S ≤ 2 ^ P - 1 := jx_nlt (Nat.lt_of_le_of_lt (Nat.sub_le _ _) (jx_pow31 (by omega))) (by omega) c29
        refine lv_iload hx hb dX4_side_32 (lv_at hl 5 rfl) ?_
        refine lv_iload_n hx hb dX4_side_34 rfl (lv_at hl 1 rfl) ?_
        refine jx_callSN (As := [.int (nI S), .int (nI a)]) (rest := []) ⟨hx, hb, hml, hown, hts⟩ (c_X6_has l D S a (by omega) (by omega)) (va_cnB 2 hts gX4_side_X6_has_n42 rfl rfl rfl (hN.get 41 rfl) (hts (.initialized RX6) (List.mem_of_getElem? (i := 9) (by decide +kernel))) (by decide +kernel) ⟨Nat.le_of_ble_eq_true rfl, Nat.le_of_ble_eq_true rfl⟩) (hts (.static yX6_has) (List.mem_of_getElem? (i := 8) (by decide +kernel))) hN (hP.sub (ws' := []) [] rfl) (hK.sub (tys' := []) [] rfl) rfl hl.1 rfl (Nat.le_of_ble_eq_true rfl) dX4_side_35 ⟨Nat.zero_le _, Nat.zero_le _⟩ (fun r hr => ?_)
        subst hr
        refine lv_if_eq (tgt := 109) hx hb dX4_side_38 (by decide) (fun c38 => ?_) (fun c38 => ?_)
        · have c38 := jB_0 c38
          refine lv_iinc (v := nI (S + 1)) (lv' := [(5, .int (nI (S + 1))), (0, .ref (g 20)), (1, .int (nI a)), (2, .int (nI o)), (3, .int (nI (jmSideF la P st a o S))), (4, .int (nI (jmPop (jmOut la st (jmSideF la P st a o S) P))))]) hx hb dX4_side_109 hl (k := 5) rfl (jx_inc _) (by decide) rfl (fun ls hl => ?_)
          refine lv_goto (tgt := 20) hx hb dX4_side_112 (by decide) ?_
          have ev_1 : jmSideF la P st a o S = jmSideF la P st a o (S + 1) := by first | rfl | (simp [jmSideF, jmOutN, c29, c38]; done) | (simp [jmSideF, jmOutN, c29, c38]; omega)
          have ev_2 : jmPop (jmOut la st (jmSideF la P st a o S) P) = jmPop (jmOut la st (jmSideF la P st a o (S + 1)) P) := by rw [← ev_1]
          exact ih20 (S + 1) (by omega) (by omega) ls (by rw [← ev_2, ← ev_1]; exact lv_sub hl [1, 2, 3, 4, 5, 0] rfl)
        · have c38 := jB_1 c38
          refine lv_iload hx hb dX4_side_41 (lv_at hl 5 rfl) ?_
          refine lv_iload_n hx hb dX4_side_43 rfl (lv_at hl 2 rfl) ?_
          refine jx_callSN (As := [.int (nI S), .int (nI o)]) (rest := []) ⟨hx, hb, hml, hown, hts⟩ (c_X6_has l D S o (by omega) (by omega)) (va_cnB 2 hts gX4_side_X6_has_n42 rfl rfl rfl (hN.get 41 rfl) (hts (.initialized RX6) (List.mem_of_getElem? (i := 9) (by decide +kernel))) (by decide +kernel) ⟨Nat.le_of_ble_eq_true rfl, Nat.le_of_ble_eq_true rfl⟩) (hts (.static yX6_has) (List.mem_of_getElem? (i := 8) (by decide +kernel))) hN (hP.sub (ws' := []) [] rfl) (hK.sub (tys' := []) [] rfl) rfl hl.1 rfl (Nat.le_of_ble_eq_true rfl) dX4_side_44 ⟨Nat.zero_le _, Nat.zero_le _⟩ (fun r hr => ?_)
          subst hr
          refine lv_if_ne (tgt := 109) hx hb dX4_side_47 (by decide) (fun c47 => ?_) (fun c47 => ?_)
          · have c47 := jB_1 c47
            refine lv_iinc (v := nI (S + 1)) (lv' := [(5, .int (nI (S + 1))), (0, .ref (g 20)), (1, .int (nI a)), (2, .int (nI o)), (3, .int (nI (jmSideF la P st a o S))), (4, .int (nI (jmPop (jmOut la st (jmSideF la P st a o S) P))))]) hx hb dX4_side_109 hl (k := 5) rfl (jx_inc _) (by decide) rfl (fun ls hl => ?_)
            refine lv_goto (tgt := 20) hx hb dX4_side_112 (by decide) ?_
            have ev_3 : jmSideF la P st a o S = jmSideF la P st a o (S + 1) := by first | rfl | (simp [jmSideF, jmOutN, c29, c38, c47]; done) | (simp [jmSideF, jmOutN, c29, c38, c47]; omega)
            have ev_4 : jmPop (jmOut la st (jmSideF la P st a o S) P) = jmPop (jmOut la st (jmSideF la P st a o (S + 1)) P) := by rw [← ev_3]
            exact ih20 (S + 1) (by omega) (by omega) ls (by rw [← ev_4, ← ev_3]; exact lv_sub hl [1, 2, 3, 4, 5, 0] rfl)
          · have c47 := jB_0 c47
            refine lv_aload_n hx hb dX4_side_50 rfl (lv_at hl 0 rfl) ?_
            refine va_get (D := D) (ci := 4) (v := .ref (g 0)) (C := RX4) (T := TX4) (N := 4) hx hb hts in_X4_side_4 hown hK hP 6 rfl rfl 0 (by decide) (hts (.fieldLink RX4 23 "Twincuts$Ways" "web" "LTwincuts$Web;") (List.mem_of_getElem? (i := 1) (by decide +kernel))) (fun _ h9 => h9) rfl dX4_side_51 ?_
            refine lv_iload hx hb dX4_side_54 (lv_at hl 5 rfl) ?_
            refine jx_callV (As := [.int (nI S)]) (rest := []) ⟨hx, hb, hml, hown, hts⟩ (c_X5_linesOutOf l D cI g P n st sm gr co en la hw S (by omega)) (cwV 1 hts gX4_side_X5_linesOutOf rfl rfl rfl (by decide +kernel) ⟨Nat.le_of_ble_eq_true rfl, Nat.le_of_ble_eq_true rfl⟩) hN (hP.sub (ws' := jW cI g P n st sm gr co en la) [0, 1, 2, 3, 4, 5] rfl) (hK.sub (tys' := [(cI, .int)]) [0] rfl) 0 5 rfl rfl rfl rfl hl.1 rfl (Nat.le_of_ble_eq_true rfl) dX4_side_56 ⟨Nat.zero_le _, Nat.zero_le _⟩ (fun r hr => ?_)
            subst hr
            refine jx_callS (As := [.int (nI (jmOut la st S P))]) (rest := []) ⟨hx, hb, hml, hown, hts⟩ (c_J6_bitCount_0f7a4 l D (jmOut la st S P) (jmOut_lt hst)) (va_cwS 1 hts gX4_side_J6_bitCount_0f7a4 rfl rfl rfl (by decide +kernel) ⟨Nat.le_of_ble_eq_true rfl, Nat.le_of_ble_eq_true rfl⟩) hN (hP.sub (ws' := []) [] rfl) (hK.sub (tys' := []) [] rfl) rfl hl.1 rfl (Nat.le_of_ble_eq_true rfl) dX4_side_59 ⟨Nat.zero_le _, Nat.zero_le _⟩ (fun r hr => ?_)
            subst hr
            refine lv_istore (lv' := [(6, .int (nI (jmPop (jmOut la st S P)))), (0, .ref (g 20)), (1, .int (nI a)), (2, .int (nI o)), (3, .int (nI (jmSideF la P st a o S))), (4, .int (nI (jmPop (jmOut la st (jmSideF la P st a o S) P)))), (5, .int (nI S))]) hx hb dX4_side_62 hl (by decide) rfl (fun ls hl => ?_)
            refine lv_iload hx hb dX4_side_64 (lv_at hl 6 rfl) ?_
            refine jx_callS (As := [.int (nI S)]) (rest := []) ⟨hx, hb, hml, hown, hts⟩ (c_J6_bitCount_0f7a4 l D S (by omega)) (va_cwS 1 hts gX4_side_J6_bitCount_0f7a4 rfl rfl rfl (by decide +kernel) ⟨Nat.le_of_ble_eq_true rfl, Nat.le_of_ble_eq_true rfl⟩) hN (hP.sub (ws' := []) [] rfl) (hK.sub (tys' := []) [] rfl) rfl hl.1 rfl (Nat.le_of_ble_eq_true rfl) dX4_side_66 ⟨Nat.zero_le _, Nat.zero_le _⟩ (fun r hr => ?_)
            subst hr
            refine lv_iload_n hx hb dX4_side_69 rfl (lv_at hl 4 rfl) ?_
            refine jx_callS (As := [.int (nI (jmSideF la P st a o S))]) (rest := [.int (nI (jmPop S))]) ⟨hx, hb, hml, hown, hts⟩ (c_J6_bitCount_0f7a4 l D (jmSideF la P st a o S) (by omega)) (va_cwS 1 hts gX4_side_J6_bitCount_0f7a4 rfl rfl rfl (by decide +kernel) ⟨Nat.le_of_ble_eq_true rfl, Nat.le_of_ble_eq_true rfl⟩) hN (hP.sub (ws' := []) [] rfl) (hK.sub (tys' := []) [] rfl) rfl hl.1 rfl (Nat.le_of_ble_eq_true rfl) dX4_side_70 ⟨Nat.zero_le _, Nat.zero_le _⟩ (fun r hr => ?_)
            subst hr
            refine lv_icmp_ge (tgt := 80) hx hb dX4_side_73 (by decide) (fun c73 => ?_) (fun c73 => ?_)
            · have c73 : jmPop (jmSideF la P st a o S) ≤ jmPop S := jx_le (Nat.lt_of_le_of_lt (jmPop_le _) (by decide)) (Nat.lt_of_le_of_lt (jmPop_le _) (by decide)) c73
              refine lv_iconst (v := nI 0) hx hb dX4_side_80 (by decide) ?_
              refine lv_istore (lv' := [(7, .int (nI 0)), (6, .int (nI (jmPop (jmOut la st S P)))), (0, .ref (g 20)), (1, .int (nI a)), (2, .int (nI o)), (3, .int (nI (jmSideF la P st a o S))), (4, .int (nI (jmPop (jmOut la st (jmSideF la P st a o S) P)))), (5, .int (nI S))]) hx hb dX4_side_81 hl (by decide) rfl (fun ls hl => ?_)
              refine lv_iload hx hb dX4_side_83 (lv_at hl 1 rfl) ?_
              refine lv_iload hx hb dX4_side_85 (lv_at hl 6 rfl) ?_
              refine lv_icmp_lt (tgt := 102) hx hb dX4_side_87 (by decide) (fun c87 => ?_) (fun c87 => ?_)
              · have c87 : jmPop (jmOut la st S P) < jmPop (jmOut la st (jmSideF la P st a o S) P) := jx_lt (Nat.lt_of_le_of_lt (jmPop_le _) (by decide)) (Nat.lt_of_le_of_lt (jmPop_le _) (by decide)) c87
                refine lv_iload hx hb dX4_side_102 (lv_at hl 7 rfl) ?_
                refine lv_istore_n (lv' := [(3, .int (nI S)), (7, .int (nI 0)), (6, .int (nI (jmPop (jmOut la st S P)))), (0, .ref (g 20)), (1, .int (nI a)), (2, .int (nI o)), (4, .int (nI (jmPop (jmOut la st (jmSideF la P st a o S) P)))), (5, .int (nI S))]) hx hb dX4_side_104 rfl hl (by decide) rfl (fun ls hl => ?_)
                refine lv_iload hx hb dX4_side_105 (lv_at hl 2 rfl) ?_
                refine lv_istore (lv' := [(4, .int (nI (jmPop (jmOut la st S P)))), (3, .int (nI S)), (7, .int (nI 0)), (6, .int (nI (jmPop (jmOut la st S P)))), (0, .ref (g 20)), (1, .int (nI a)), (2, .int (nI o)), (5, .int (nI S))]) hx hb dX4_side_107 hl (by decide) rfl (fun ls hl => ?_)
                refine lv_iinc (v := nI (S + 1)) (lv' := [(5, .int (nI (S + 1))), (4, .int (nI (jmPop (jmOut la st S P)))), (3, .int (nI S)), (7, .int (nI 0)), (6, .int (nI (jmPop (jmOut la st S P)))), (0, .ref (g 20)), (1, .int (nI a)), (2, .int (nI o))]) hx hb dX4_side_109 hl (k := 7) rfl (jx_inc _) (by decide) rfl (fun ls hl => ?_)
                refine lv_goto (tgt := 20) hx hb dX4_side_112 (by decide) ?_
                have ev_5 : S = jmSideF la P st a o (S + 1) := by first | rfl | (simp [jmSideF, jmOutN, c29, c38, c47, c73, c87]; done) | (simp [jmSideF, jmOutN, c29, c38, c47, c73, c87]; omega)
                have ev_6 : jmPop (jmOut la st S P) = jmPop (jmOut la st (jmSideF la P st a o (S + 1)) P) := by rw [← ev_5]
                exact ih20 (S + 1) (by omega) (by omega) ls (by rw [← ev_6, ← ev_5]; exact lv_sub hl [5, 6, 7, 2, 1, 0] rfl)
              · have c87 : jmPop (jmOut la st (jmSideF la P st a o S) P) ≤ jmPop (jmOut la st S P) := jx_nlt (Nat.lt_of_le_of_lt (jmPop_le _) (by decide)) (Nat.lt_of_le_of_lt (jmPop_le _) (by decide)) c87
                refine lv_iload hx hb dX4_side_90 (lv_at hl 1 rfl) ?_
                refine lv_iload hx hb dX4_side_92 (lv_at hl 6 rfl) ?_
                refine lv_icmp_ne (tgt := 109) hx hb dX4_side_94 (by decide) (fun c94 => ?_) (fun c94 => ?_)
                · have c94 : jmPop (jmOut la st S P) ≠ jmPop (jmOut la st (jmSideF la P st a o S) P) := jx_ne c94
                  refine lv_iinc (v := nI (S + 1)) (lv' := [(5, .int (nI (S + 1))), (7, .int (nI 0)), (6, .int (nI (jmPop (jmOut la st S P)))), (0, .ref (g 20)), (1, .int (nI a)), (2, .int (nI o)), (3, .int (nI (jmSideF la P st a o S))), (4, .int (nI (jmPop (jmOut la st (jmSideF la P st a o S) P))))]) hx hb dX4_side_109 hl (k := 7) rfl (jx_inc _) (by decide) rfl (fun ls hl => ?_)
                  refine lv_goto (tgt := 20) hx hb dX4_side_112 (by decide) ?_
                  have ev_7 : jmSideF la P st a o S = jmSideF la P st a o (S + 1) := by first | rfl | (simp [jmSideF, jmOutN, c29, c38, c47, c73, c87, c94]; done) | (simp [jmSideF, jmOutN, c29, c38, c47, c73, c87, c94]; omega)
                  have ev_8 : jmPop (jmOut la st (jmSideF la P st a o S) P) = jmPop (jmOut la st (jmSideF la P st a o (S + 1)) P) := by rw [← ev_7]
                  exact ih20 (S + 1) (by omega) (by omega) ls (by rw [← ev_8, ← ev_7]; exact lv_sub hl [3, 4, 5, 6, 7, 0] rfl)
                · have c94 : jmPop (jmOut la st S P) = jmPop (jmOut la st (jmSideF la P st a o S) P) := jx_e (Nat.lt_of_le_of_lt (jmPop_le _) (by decide)) (Nat.lt_of_le_of_lt (jmPop_le _) (by decide)) c94
                  refine lv_iload hx hb dX4_side_97 (lv_at hl 0 rfl) ?_
                  refine lv_if_eq (tgt := 109) hx hb dX4_side_99 (by decide) (fun _ => ?_) (fun c => absurd c (by decide))
                  refine lv_iinc (v := nI (S + 1)) (lv' := [(5, .int (nI (S + 1))), (7, .int (nI 0)), (6, .int (nI (jmPop (jmOut la st S P)))), (0, .ref (g 20)), (1, .int (nI a)), (2, .int (nI o)), (3, .int (nI (jmSideF la P st a o S))), (4, .int (nI (jmPop (jmOut la st (jmSideF la P st a o S) P))))]) hx hb dX4_side_109 hl (k := 7) rfl (jx_inc _) (by decide) rfl (fun ls hl => ?_)
                  refine lv_goto (tgt := 20) hx hb dX4_side_112 (by decide) ?_
                  have ev_9 : jmSideF la P st a o S = jmSideF la P st a o (S + 1) := by first | rfl | (simp [jmSideF, jmOutN, c29, c38, c47, c73, c87, c94]; done) | (simp [jmSideF, jmOutN, c29, c38, c47, c73, c87, c94]; omega)
                  have ev_10 : jmPop (jmOut la st (jmSideF la P st a o S) P) = jmPop (jmOut la st (jmSideF la P st a o (S + 1)) P) := by rw [← ev_9]
                  exact ih20 (S + 1) (by omega) (by omega) ls (by rw [← ev_10, ← ev_9]; exact lv_sub hl [3, 4, 5, 6, 7, 0] rfl)
            · have c73 : jmPop S < jmPop (jmSideF la P st a o S) := jx_nle (Nat.lt_of_le_of_lt (jmPop_le _) (by decide)) (Nat.lt_of_le_of_lt (jmPop_le _) (by decide)) c73
              refine lv_iconst (v := nI 1) hx hb dX4_side_76 (by decide) ?_
              refine lv_goto (tgt := 81) hx hb dX4_side_77 (by decide) ?_
              refine lv_istore (lv' := [(7, .int (nI 1)), (6, .int (nI (jmPop (jmOut la st S P)))), (0, .ref (g 20)), (1, .int (nI a)), (2, .int (nI o)), (3, .int (nI (jmSideF la P st a o S))), (4, .int (nI (jmPop (jmOut la st (jmSideF la P st a o S) P)))), (5, .int (nI S))]) hx hb dX4_side_81 hl (by decide) rfl (fun ls hl => ?_)
              refine lv_iload hx hb dX4_side_83 (lv_at hl 1 rfl) ?_
              refine lv_iload hx hb dX4_side_85 (lv_at hl 6 rfl) ?_
              refine lv_icmp_lt (tgt := 102) hx hb dX4_side_87 (by decide) (fun c87 => ?_) (fun c87 => ?_)
              · have c87 : jmPop (jmOut la st S P) < jmPop (jmOut la st (jmSideF la P st a o S) P) := jx_lt (Nat.lt_of_le_of_lt (jmPop_le _) (by decide)) (Nat.lt_of_le_of_lt (jmPop_le _) (by decide)) c87
                refine lv_iload hx hb dX4_side_102 (lv_at hl 7 rfl) ?_
                refine lv_istore_n (lv' := [(3, .int (nI S)), (7, .int (nI 1)), (6, .int (nI (jmPop (jmOut la st S P)))), (0, .ref (g 20)), (1, .int (nI a)), (2, .int (nI o)), (4, .int (nI (jmPop (jmOut la st (jmSideF la P st a o S) P)))), (5, .int (nI S))]) hx hb dX4_side_104 rfl hl (by decide) rfl (fun ls hl => ?_)
                refine lv_iload hx hb dX4_side_105 (lv_at hl 2 rfl) ?_
                refine lv_istore (lv' := [(4, .int (nI (jmPop (jmOut la st S P)))), (3, .int (nI S)), (7, .int (nI 1)), (6, .int (nI (jmPop (jmOut la st S P)))), (0, .ref (g 20)), (1, .int (nI a)), (2, .int (nI o)), (5, .int (nI S))]) hx hb dX4_side_107 hl (by decide) rfl (fun ls hl => ?_)
                refine lv_iinc (v := nI (S + 1)) (lv' := [(5, .int (nI (S + 1))), (4, .int (nI (jmPop (jmOut la st S P)))), (3, .int (nI S)), (7, .int (nI 1)), (6, .int (nI (jmPop (jmOut la st S P)))), (0, .ref (g 20)), (1, .int (nI a)), (2, .int (nI o))]) hx hb dX4_side_109 hl (k := 7) rfl (jx_inc _) (by decide) rfl (fun ls hl => ?_)
                refine lv_goto (tgt := 20) hx hb dX4_side_112 (by decide) ?_
                have ev_11 : S = jmSideF la P st a o (S + 1) := by first | rfl | (simp [jmSideF, jmOutN, c29, c38, c47, c73, c87]; done) | (simp [jmSideF, jmOutN, c29, c38, c47, c73, c87]; omega)
                have ev_12 : jmPop (jmOut la st S P) = jmPop (jmOut la st (jmSideF la P st a o (S + 1)) P) := by rw [← ev_11]
                exact ih20 (S + 1) (by omega) (by omega) ls (by rw [← ev_12, ← ev_11]; exact lv_sub hl [5, 6, 7, 2, 1, 0] rfl)
              · have c87 : jmPop (jmOut la st (jmSideF la P st a o S) P) ≤ jmPop (jmOut la st S P) := jx_nlt (Nat.lt_of_le_of_lt (jmPop_le _) (by decide)) (Nat.lt_of_le_of_lt (jmPop_le _) (by decide)) c87
                refine lv_iload hx hb dX4_side_90 (lv_at hl 1 rfl) ?_
                refine lv_iload hx hb dX4_side_92 (lv_at hl 6 rfl) ?_
                refine lv_icmp_ne (tgt := 109) hx hb dX4_side_94 (by decide) (fun c94 => ?_) (fun c94 => ?_)
                · have c94 : jmPop (jmOut la st S P) ≠ jmPop (jmOut la st (jmSideF la P st a o S) P) := jx_ne c94
                  refine lv_iinc (v := nI (S + 1)) (lv' := [(5, .int (nI (S + 1))), (7, .int (nI 1)), (6, .int (nI (jmPop (jmOut la st S P)))), (0, .ref (g 20)), (1, .int (nI a)), (2, .int (nI o)), (3, .int (nI (jmSideF la P st a o S))), (4, .int (nI (jmPop (jmOut la st (jmSideF la P st a o S) P))))]) hx hb dX4_side_109 hl (k := 7) rfl (jx_inc _) (by decide) rfl (fun ls hl => ?_)
                  refine lv_goto (tgt := 20) hx hb dX4_side_112 (by decide) ?_
                  have ev_13 : jmSideF la P st a o S = jmSideF la P st a o (S + 1) := by first | rfl | (simp [jmSideF, jmOutN, c29, c38, c47, c73, c87, c94]; done) | (simp [jmSideF, jmOutN, c29, c38, c47, c73, c87, c94]; omega)
                  have ev_14 : jmPop (jmOut la st (jmSideF la P st a o S) P) = jmPop (jmOut la st (jmSideF la P st a o (S + 1)) P) := by rw [← ev_13]
                  exact ih20 (S + 1) (by omega) (by omega) ls (by rw [← ev_14, ← ev_13]; exact lv_sub hl [3, 4, 5, 6, 7, 0] rfl)
                · have c94 : jmPop (jmOut la st S P) = jmPop (jmOut la st (jmSideF la P st a o S) P) := jx_e (Nat.lt_of_le_of_lt (jmPop_le _) (by decide)) (Nat.lt_of_le_of_lt (jmPop_le _) (by decide)) c94
                  refine lv_iload hx hb dX4_side_97 (lv_at hl 0 rfl) ?_
                  refine lv_if_eq (tgt := 109) hx hb dX4_side_99 (by decide) (fun c => absurd c (by decide)) (fun _ => ?_)
                  refine lv_iload hx hb dX4_side_102 (lv_at hl 7 rfl) ?_
                  refine lv_istore_n (lv' := [(3, .int (nI S)), (7, .int (nI 1)), (6, .int (nI (jmPop (jmOut la st S P)))), (0, .ref (g 20)), (1, .int (nI a)), (2, .int (nI o)), (4, .int (nI (jmPop (jmOut la st (jmSideF la P st a o S) P)))), (5, .int (nI S))]) hx hb dX4_side_104 rfl hl (by decide) rfl (fun ls hl => ?_)
                  refine lv_iload hx hb dX4_side_105 (lv_at hl 2 rfl) ?_
                  refine lv_istore (lv' := [(4, .int (nI (jmPop (jmOut la st S P)))), (3, .int (nI S)), (7, .int (nI 1)), (6, .int (nI (jmPop (jmOut la st S P)))), (0, .ref (g 20)), (1, .int (nI a)), (2, .int (nI o)), (5, .int (nI S))]) hx hb dX4_side_107 hl (by decide) rfl (fun ls hl => ?_)
                  refine lv_iinc (v := nI (S + 1)) (lv' := [(5, .int (nI (S + 1))), (4, .int (nI (jmPop (jmOut la st S P)))), (3, .int (nI S)), (7, .int (nI 1)), (6, .int (nI (jmPop (jmOut la st S P)))), (0, .ref (g 20)), (1, .int (nI a)), (2, .int (nI o))]) hx hb dX4_side_109 hl (k := 7) rfl (jx_inc _) (by decide) rfl (fun ls hl => ?_)
                  refine lv_goto (tgt := 20) hx hb dX4_side_112 (by decide) ?_
                  have ev_15 : S = jmSideF la P st a o (S + 1) := by first | rfl | (simp [jmSideF, jmOutN, c29, c38, c47, c73, c87, c94]; done) | (simp [jmSideF, jmOutN, c29, c38, c47, c73, c87, c94]; omega)
                  have ev_16 : jmPop (jmOut la st S P) = jmPop (jmOut la st (jmSideF la P st a o (S + 1)) P) := by rw [← ev_15]
                  exact ih20 (S + 1) (by omega) (by omega) ls (by rw [← ev_16, ← ev_15]; exact lv_sub hl [5, 6, 7, 2, 1, 0] rfl)
  have ev_17 : 2 ^ a = jmSideF la P st a o 0 := by first | rfl | (simp [jmSideF, jmOutN, if_true]; done) | (simp [jmSideF, jmOutN, if_true]; omega)
  have ev_18 : jmPop (jmOut la st (2 ^ a) P) = jmPop (jmOut la st (jmSideF la P st a o 0) P) := by first | rfl | (simp [jmSideF, jmOutN, if_true]; done) | (simp [jmSideF, jmOutN, if_true]; omega)
  exact L20 ((2 ^ P - 0) + 1) 0 (by omega) (Nat.lt_succ_self _) ls (by rw [← ev_18, ← ev_17]; exact lv_sub hl [3, 4, 5, 2, 1, 0] rfl)
set_option maxRecDepth 20000 in
theorem in_X1_pairPoint_1 : ∀ w ∈ wsX10, w ∈ wsX1_pairPoint := by decide +kernel
set_option maxHeartbeats 4000000 in
set_option maxRecDepth 100000 in
/-- pairPoint(nth, isGreater) -/
theorem c_X1_pairPoint (l : Launch) (D : va_G) (cI : ClassId) (g : Nat → Nat) (fp fb fc fk fq ft : Nat) (pa ps fi : Nat → Nat) (bl : Nat → Int32) (sp gp sw gw : Nat → Nat) (k : Nat) (gt : Bool) (hk : k < 2 ^ 31) (hf : fq ≤ 28) : jxRO l yX1_pairPoint wsX1_pairPoint ({ frames := 0, cells := 0, slots := 0, locals := 0 } : Room) D [(cI, .int)] (jF cI g fp fb fc fk fq ft pa ps fi bl sp gp sw gw) [.ref (g 10), .int (nI k), .int (nI (jB gt))] (fun r => r = if k < fq then (if gt = true then nI (gp k) else nI (sp k)) else -1) := by
  refine jx_enter (by decide) rfl (Nat.le_of_ble_eq_true rfl) ?_
  intro p e s m args below meth c Q ls hx hb hml hts hown hN hP hK hl hQ
  have hown : s.vm.findClass RX1 = some m.cls := hown
  have hl : lv_has ls 3 [(0, .ref (g 10)), (1, .int (nI k)), (2, .int (nI (jB gt)))] := hl
  refine lv_iload_n hx hb dX1_pairPoint_0 rfl (lv_at hl 1 rfl) ?_
  refine lv_if_lt (tgt := 12) hx hb dX1_pairPoint_1 (by decide) (fun c => absurd c (nI_pos (by omega))) (fun _ => ?_)
  refine lv_iload_n hx hb dX1_pairPoint_4 rfl (lv_at hl 1 rfl) ?_
  refine lv_aload_n hx hb dX1_pairPoint_5 rfl (lv_at hl 0 rfl) ?_
  refine va_get (D := D) (ci := 1) (v := .int (nI fq)) (C := RX1) (T := TX1) (N := 15) hx hb hts in_X1_pairPoint_1 hown hK hP 0 rfl rfl 5 (by decide) (hts (.fieldLink RX1 24 "Twincuts$Falls" "pairs" "I") (List.mem_of_getElem? (i := 1) (by decide +kernel))) (fun _ h9 => h9) rfl dX1_pairPoint_6 ?_
  refine lv_icmp_lt (tgt := 14) hx hb dX1_pairPoint_9 (by decide) (fun c9 => ?_) (fun c9 => ?_)
  · have c9 : k < fq := jx_lt (by omega) (by omega) c9
    refine lv_iload_n hx hb dX1_pairPoint_14 rfl (lv_at hl 2 rfl) ?_
    refine lv_if_eq (tgt := 27) hx hb dX1_pairPoint_15 (by decide) (fun c15 => ?_) (fun c15 => ?_)
    · have c15 := jB_0 c15
      refine lv_aload_n hx hb dX1_pairPoint_27 rfl (lv_at hl 0 rfl) ?_
      refine va_get (D := D) (ci := 1) (v := .ref (g 15)) (C := RX1) (T := TX1) (N := 15) hx hb hts in_X1_pairPoint_1 hown hK hP 0 rfl rfl 11 (by decide) (hts (.fieldLink RX1 43 "Twincuts$Falls" "smallerOfPair" "[I") (List.mem_of_getElem? (i := 3) (by decide +kernel))) (fun _ h9 => h9) rfl dX1_pairPoint_28 ?_
      refine lv_iload_n hx hb dX1_pairPoint_31 rfl (lv_at hl 1 rfl) ?_
      refine jx_iald hx hb hK hP 5 0 rfl rfl (by omega) (by decide) dX1_pairPoint_32 ?_
      exact hQ (nI (sp k)) _ _ dX1_pairPoint_33 (by rw [if_pos (by omega), if_neg (by simp [c15])])
    · have c15 := jB_1 c15
      refine lv_aload_n hx hb dX1_pairPoint_18 rfl (lv_at hl 0 rfl) ?_
      refine va_get (D := D) (ci := 1) (v := .ref (g 16)) (C := RX1) (T := TX1) (N := 15) hx hb hts in_X1_pairPoint_1 hown hK hP 0 rfl rfl 12 (by decide) (hts (.fieldLink RX1 46 "Twincuts$Falls" "greaterOfPair" "[I") (List.mem_of_getElem? (i := 2) (by decide +kernel))) (fun _ h9 => h9) rfl dX1_pairPoint_19 ?_
      refine lv_iload_n hx hb dX1_pairPoint_22 rfl (lv_at hl 1 rfl) ?_
      refine jx_iald hx hb hK hP 6 0 rfl rfl (by omega) (by decide) dX1_pairPoint_23 ?_
      refine lv_goto (tgt := 33) hx hb dX1_pairPoint_24 (by decide) ?_
      exact hQ (nI (gp k)) _ _ dX1_pairPoint_33 (by rw [if_pos (by omega), if_pos c15])
  · have c9 : fq ≤ k := jx_nlt (by omega) (by omega) c9
    refine lv_iconst (v := (-1)) hx hb dX1_pairPoint_12 (by decide) ?_
    exact hQ (-1 : Int32) _ _ dX1_pairPoint_13 (by rw [if_neg (by omega)])
set_option maxRecDepth 20000 in
theorem in_X1_twinLine_1 : ∀ w ∈ wsX10, w ∈ wsX1_twinLine := by decide +kernel
set_option maxHeartbeats 4000000 in
set_option maxRecDepth 100000 in
/-- twinLine(nth, isGreater) -/
theorem c_X1_twinLine (l : Launch) (D : va_G) (cI : ClassId) (g : Nat → Nat) (fp fb fc fk fq ft : Nat) (pa ps fi : Nat → Nat) (bl : Nat → Int32) (sp gp sw gw : Nat → Nat) (k : Nat) (gt : Bool) (hk : k < 2 ^ 31) (hf : ft ≤ 120) : jxRO l yX1_twinLine wsX1_twinLine ({ frames := 0, cells := 0, slots := 0, locals := 0 } : Room) D [(cI, .int)] (jF cI g fp fb fc fk fq ft pa ps fi bl sp gp sw gw) [.ref (g 10), .int (nI k), .int (nI (jB gt))] (fun r => r = if k < ft then (if gt = true then nI (gw k) else nI (sw k)) else -1) := by
  refine jx_enter (by decide) rfl (Nat.le_of_ble_eq_true rfl) ?_
  intro p e s m args below meth c Q ls hx hb hml hts hown hN hP hK hl hQ
  have hown : s.vm.findClass RX1 = some m.cls := hown
  have hl : lv_has ls 3 [(0, .ref (g 10)), (1, .int (nI k)), (2, .int (nI (jB gt)))] := hl
  refine lv_iload_n hx hb dX1_twinLine_0 rfl (lv_at hl 1 rfl) ?_
  refine lv_if_lt (tgt := 12) hx hb dX1_twinLine_1 (by decide) (fun c => absurd c (nI_pos (by omega))) (fun _ => ?_)
  refine lv_iload_n hx hb dX1_twinLine_4 rfl (lv_at hl 1 rfl) ?_
  refine lv_aload_n hx hb dX1_twinLine_5 rfl (lv_at hl 0 rfl) ?_
  refine va_get (D := D) (ci := 1) (v := .int (nI ft)) (C := RX1) (T := TX1) (N := 15) hx hb hts in_X1_twinLine_1 hown hK hP 0 rfl rfl 6 (by decide) (hts (.fieldLink RX1 27 "Twincuts$Falls" "twins" "I") (List.mem_of_getElem? (i := 1) (by decide +kernel))) (fun _ h9 => h9) rfl dX1_twinLine_6 ?_
  refine lv_icmp_lt (tgt := 14) hx hb dX1_twinLine_9 (by decide) (fun c9 => ?_) (fun c9 => ?_)
  · have c9 : k < ft := jx_lt (by omega) (by omega) c9
    refine lv_iload_n hx hb dX1_twinLine_14 rfl (lv_at hl 2 rfl) ?_
    refine lv_if_eq (tgt := 27) hx hb dX1_twinLine_15 (by decide) (fun c15 => ?_) (fun c15 => ?_)
    · have c15 := jB_0 c15
      refine lv_aload_n hx hb dX1_twinLine_27 rfl (lv_at hl 0 rfl) ?_
      refine va_get (D := D) (ci := 1) (v := .ref (g 17)) (C := RX1) (T := TX1) (N := 15) hx hb hts in_X1_twinLine_1 hown hK hP 0 rfl rfl 13 (by decide) (hts (.fieldLink RX1 49 "Twincuts$Falls" "smallerOfTwins" "[I") (List.mem_of_getElem? (i := 3) (by decide +kernel))) (fun _ h9 => h9) rfl dX1_twinLine_28 ?_
      refine lv_iload_n hx hb dX1_twinLine_31 rfl (lv_at hl 1 rfl) ?_
      refine jx_iald hx hb hK hP 7 0 rfl rfl (by omega) (by decide) dX1_twinLine_32 ?_
      exact hQ (nI (sw k)) _ _ dX1_twinLine_33 (by rw [if_pos (by omega), if_neg (by simp [c15])])
    · have c15 := jB_1 c15
      refine lv_aload_n hx hb dX1_twinLine_18 rfl (lv_at hl 0 rfl) ?_
      refine va_get (D := D) (ci := 1) (v := .ref (g 18)) (C := RX1) (T := TX1) (N := 15) hx hb hts in_X1_twinLine_1 hown hK hP 0 rfl rfl 14 (by decide) (hts (.fieldLink RX1 52 "Twincuts$Falls" "greaterOfTwins" "[I") (List.mem_of_getElem? (i := 2) (by decide +kernel))) (fun _ h9 => h9) rfl dX1_twinLine_19 ?_
      refine lv_iload_n hx hb dX1_twinLine_22 rfl (lv_at hl 1 rfl) ?_
      refine jx_iald hx hb hK hP 8 0 rfl rfl (by omega) (by decide) dX1_twinLine_23 ?_
      refine lv_goto (tgt := 33) hx hb dX1_twinLine_24 (by decide) ?_
      exact hQ (nI (gw k)) _ _ dX1_twinLine_33 (by rw [if_pos (by omega), if_pos c15])
  · have c9 : ft ≤ k := jx_nlt (by omega) (by omega) c9
    refine lv_iconst (v := (-1)) hx hb dX1_twinLine_12 (by decide) ?_
    exact hQ (-1 : Int32) _ _ dX1_twinLine_13 (by rw [if_neg (by omega)])
set_option maxRecDepth 20000 in
theorem in_X1_isPair_1 : ∀ w ∈ wsX10, w ∈ wsX1_isPair := by decide +kernel
set_option maxRecDepth 20000 in
theorem in_X1_isPair_5 : ∀ w ∈ wsX50, w ∈ wsX1_isPair := by decide +kernel
set_option maxHeartbeats 4000000 in
set_option maxRecDepth 100000 in
/-- isPair(one, other) -/
theorem c_X1_isPair (l : Launch) (D : va_G) (cI : ClassId) (g : Nat → Nat) (P n st : Nat) (sm gr co en la : Nat → Nat) (fp fb fc fk fq ft : Nat) (pa ps fi : Nat → Nat) (bl : Nat → Int32) (sp gp sw gw : Nat → Nat) (hw : jmWF P n st sm gr co en la) (a o : Nat) (ha : a < 8) (ho : o < 8) (hpa : ∀ j, j < 8 → pa j < 256) (hps : ∀ j, j < 8 → ps j < 256) (hfc : fc < 65536) : jxRO l yX1_isPair wsX1_isPair ({ frames := 2, cells := 0, slots := 0, locals := 53 } : Room) D [(cI, .int)] (jW cI g P n st sm gr co en la ++ jF cI g fp fb fc fk fq ft pa ps fi bl sp gp sw gw) [.ref (g 10), .int (nI a), .int (nI o)] (fun r => r = nI (jB (jmIsPair en P n st fc pa ps a o))) := by
  refine jx_enterZ (by decide) rfl (Nat.le_of_ble_eq_true rfl) ?_
  intro p e s m args below meth c Q ls hx hb hml hts hown hN hP hK hl hQ
  have hown : s.vm.findClass RX1 = some m.cls := hown
  have hl : lv_has ls 4 [(0, .ref (g 10)), (1, .int (nI a)), (2, .int (nI o))] := hl
  have hP8 : P ≤ 8 := hw.1
  have hn16 : n ≤ 16 := hw.2.1
  have hst : st < 65536 := jmWF_st hw
  have hen : ∀ j, j < n → en j < 256 := jmWF_en hw
  have hla : ∀ q, q < P → la q < 65536 := jmWF_la hw
  have hgr : ∀ j, j < n → sm j < 8 ∧ gr j < 8 := jmWF_gr hw
  have hco : ∀ j, j < n → co j < 21 := jmWF_co hw
  refine lv_iconst (v := nI 1) hx hb dX1_isPair_0 (by decide) ?_
  refine lv_iload_n hx hb dX1_isPair_1 rfl (lv_at hl 1 rfl) ?_
  refine lv_ishl hx hb dX1_isPair_2 ?_
  refine jx_val (z := (nI (2 ^ a))) (jx_1shl (by omega)) ?_
  refine lv_iconst (v := nI 1) hx hb dX1_isPair_3 (by decide) ?_
  refine lv_iload_n hx hb dX1_isPair_4 rfl (lv_at hl 2 rfl) ?_
  refine lv_ishl hx hb dX1_isPair_5 ?_
  refine jx_val (z := (nI (2 ^ o))) (jx_1shl (by omega)) ?_
  refine lv_ior hx hb dX1_isPair_6 ?_
  refine jx_val (z := (nI ((2 ^ a) ||| (2 ^ o)))) (fa_or _ _) ?_
  refine lv_istore_n (lv' := [(3, .int (nI ((2 ^ a) ||| (2 ^ o)))), (0, .ref (g 10)), (1, .int (nI a)), (2, .int (nI o))]) hx hb dX1_isPair_7 rfl hl (by decide) rfl (fun ls hl => ?_)
  refine lv_aload_n hx hb dX1_isPair_8 rfl (lv_at hl 1 rfl) ?_
  refine va_get (D := D) (ci := 1) (v := .ref (g 11)) (C := RX1) (T := TX1) (N := 15) hx hb hts in_X1_isPair_1 hown hK hP 6 rfl rfl 7 (by decide) (hts (.fieldLink RX1 30 "Twincuts$Falls" "part" "[I") (List.mem_of_getElem? (i := 1) (by decide +kernel))) (fun _ h9 => h9) rfl dX1_isPair_9 ?_
  refine lv_iload_n hx hb dX1_isPair_12 rfl (lv_at hl 2 rfl) ?_
  refine jx_iald hx hb hK hP 7 0 rfl rfl (by omega) (by decide) dX1_isPair_13 ?_
  refine lv_aload_n hx hb dX1_isPair_14 rfl (lv_at hl 1 rfl) ?_
  refine va_get (D := D) (ci := 1) (v := .ref (g 11)) (C := RX1) (T := TX1) (N := 15) hx hb hts in_X1_isPair_1 hown hK hP 6 rfl rfl 7 (by decide) (hts (.fieldLink RX1 30 "Twincuts$Falls" "part" "[I") (List.mem_of_getElem? (i := 1) (by decide +kernel))) (fun _ h9 => h9) rfl dX1_isPair_15 ?_
  refine lv_iload_n hx hb dX1_isPair_18 rfl (lv_at hl 3 rfl) ?_
  refine jx_iald hx hb hK hP 7 0 rfl rfl (by omega) (by decide) dX1_isPair_19 ?_
  refine lv_icmp_ne (tgt := 64) hx hb dX1_isPair_20 (by decide) (fun c20 => ?_) (fun c20 => ?_)
  · have c20 : pa a ≠ pa o := jx_ne c20
    refine lv_iconst (v := nI 0) hx hb dX1_isPair_64 (by decide) ?_
    exact hQ false _ _ dX1_isPair_65 (by unfold jmIsPair; rw [decide_eq_false (fun h => by obtain ⟨h1, h2, h3⟩ := h; first | exact c20 h1 | exact c29 h2 | omega)])
  · have c20 : pa a = pa o := jx_e (by have := hpa a (by omega); omega) (by have := hpa o (by omega); omega) c20
    refine lv_aload_n hx hb dX1_isPair_23 rfl (lv_at hl 1 rfl) ?_
    refine va_get (D := D) (ci := 1) (v := .int (nI fc)) (C := RX1) (T := TX1) (N := 15) hx hb hts in_X1_isPair_1 hown hK hP 6 rfl rfl 3 (by decide) (hts (.fieldLink RX1 18 "Twincuts$Falls" "cutPointSet" "I") (List.mem_of_getElem? (i := 2) (by decide +kernel))) (fun _ h9 => h9) rfl dX1_isPair_24 ?_
    refine lv_iload_n hx hb dX1_isPair_27 rfl (lv_at hl 0 rfl) ?_
    refine lv_iand hx hb dX1_isPair_28 ?_
    refine jx_val (z := (nI (fc &&& ((2 ^ a) ||| (2 ^ o))))) (fa_and _ _) ?_
    refine lv_if_ne (tgt := 64) hx hb dX1_isPair_29 (by decide) (fun c29 => ?_) (fun c29 => ?_)
    · have c29 : fc &&& ((2 ^ a) ||| (2 ^ o)) ≠ 0 := jx_nz c29
      refine lv_iconst (v := nI 0) hx hb dX1_isPair_64 (by decide) ?_
      exact hQ false _ _ dX1_isPair_65 (by unfold jmIsPair; rw [decide_eq_false (fun h => by obtain ⟨h1, h2, h3⟩ := h; first | exact c20 h1 | exact c29 h2 | omega)])
    · have c29 : fc &&& ((2 ^ a) ||| (2 ^ o)) = 0 := jx_z (Nat.lt_of_le_of_lt Nat.and_le_left (by omega)) c29
      refine lv_aload_n hx hb dX1_isPair_32 rfl (lv_at hl 1 rfl) ?_
      refine va_get (D := D) (ci := 1) (v := .ref (g 0)) (C := RX1) (T := TX1) (N := 15) hx hb hts in_X1_isPair_1 hown hK hP 6 rfl rfl 0 (by decide) (hts (.fieldLink RX1 55 "Twincuts$Falls" "web" "LTwincuts$Web;") (List.mem_of_getElem? (i := 3) (by decide +kernel))) (fun _ h9 => h9) rfl dX1_isPair_33 ?_
      refine lv_aload_n hx hb dX1_isPair_36 rfl (lv_at hl 1 rfl) ?_
      refine va_get (D := D) (ci := 1) (v := .ref (g 12)) (C := RX1) (T := TX1) (N := 15) hx hb hts in_X1_isPair_1 hown hK hP 6 rfl rfl 8 (by decide) (hts (.fieldLink RX1 34 "Twincuts$Falls" "partSet" "[I") (List.mem_of_getElem? (i := 4) (by decide +kernel))) (fun _ h9 => h9) rfl dX1_isPair_37 ?_
      refine lv_iload_n hx hb dX1_isPair_40 rfl (lv_at hl 2 rfl) ?_
      refine jx_iald hx hb hK hP 8 0 rfl rfl (by omega) (by decide) dX1_isPair_41 ?_
      refine lv_iload_n hx hb dX1_isPair_42 rfl (lv_at hl 0 rfl) ?_
      refine lv_iconst (v := (-1)) hx hb dX1_isPair_43 (by decide) ?_
      refine lv_ixor hx hb dX1_isPair_44 ?_
      refine lv_iand hx hb dX1_isPair_45 ?_
      refine jx_val (z := (nI (jxAN (ps a) ((2 ^ a) ||| (2 ^ o))))) (jx_not _ _) ?_
      refine lv_aload_n hx hb dX1_isPair_46 rfl (lv_at hl 1 rfl) ?_
      refine va_get (D := D) (ci := 1) (v := .ref (g 0)) (C := RX1) (T := TX1) (N := 15) hx hb hts in_X1_isPair_1 hown hK hP 6 rfl rfl 0 (by decide) (hts (.fieldLink RX1 55 "Twincuts$Falls" "web" "LTwincuts$Web;") (List.mem_of_getElem? (i := 3) (by decide +kernel))) (fun _ h9 => h9) rfl dX1_isPair_47 ?_
      refine va_getN (D := D) (ci := 5) (v := .int (nI st)) (C := RX5) (T := TX5) (N := 8) hx hb hts in_X1_isPair_5 hown hK hP 0 rfl rfl 2 (by decide) (hN.use 14 rfl) (fun _ h9 => h9) rfl dX1_isPair_50 ?_
      refine jx_callV (As := [.int (nI (jxAN (ps a) ((2 ^ a) ||| (2 ^ o)))), .int (nI st)]) (rest := []) ⟨hx, hb, hml, hown, hts⟩ (c_X5_countParts l D cI g P n st sm gr co en la hw (jxAN (ps a) ((2 ^ a) ||| (2 ^ o))) st (Nat.lt_trans (jxAN_lt (hps a (by omega))) (by decide)) (by omega)) (cwV 2 hts gX1_isPair_X5_countParts rfl rfl rfl (by decide +kernel) ⟨Nat.le_of_ble_eq_true rfl, Nat.le_of_ble_eq_true rfl⟩) hN (hP.sub (ws' := jW cI g P n st sm gr co en la) [0, 1, 2, 3, 4, 5] rfl) (hK.sub (tys' := [(cI, .int)]) [0] rfl) 0 5 rfl rfl rfl rfl hl.1 rfl (Nat.le_of_ble_eq_true rfl) dX1_isPair_53 ⟨Nat.zero_le _, Nat.zero_le _⟩ (fun r hr => ?_)
      subst hr
      refine lv_iconst (v := nI 1) hx hb dX1_isPair_56 (by decide) ?_
      refine lv_icmp_le (tgt := 64) hx hb dX1_isPair_57 (by decide) (fun c57 => ?_) (fun c57 => ?_)
      · have c57 : jmCPc en (jxAN (ps a) ((2 ^ a) ||| (2 ^ o))) st n P ≤ 1 := jx_le (Nat.lt_of_le_of_lt (jmCPc_le _) (by omega)) (by decide) c57
        refine lv_iconst (v := nI 0) hx hb dX1_isPair_64 (by decide) ?_
        exact hQ false _ _ dX1_isPair_65 (by unfold jmIsPair; rw [decide_eq_false (fun h => by obtain ⟨h1, h2, h3⟩ := h; first | exact c20 h1 | exact c29 h2 | omega)])
      · have c57 : 1 < jmCPc en (jxAN (ps a) ((2 ^ a) ||| (2 ^ o))) st n P := jx_nle (Nat.lt_of_le_of_lt (jmCPc_le _) (by omega)) (by decide) c57
        refine lv_iconst (v := nI 1) hx hb dX1_isPair_60 (by decide) ?_
        refine lv_goto (tgt := 65) hx hb dX1_isPair_61 (by decide) ?_
        exact hQ true _ _ dX1_isPair_65 (by unfold jmIsPair; rw [decide_eq_true ⟨c20, c29, c57⟩])
set_option maxRecDepth 20000 in
theorem in_X1_areTwins_1 : ∀ w ∈ wsX10, w ∈ wsX1_areTwins := by decide +kernel
set_option maxRecDepth 20000 in
theorem in_X1_areTwins_5 : ∀ w ∈ wsX50, w ∈ wsX1_areTwins := by decide +kernel
set_option maxHeartbeats 4000000 in
set_option maxRecDepth 100000 in
/-- areTwins(one, other) -/
theorem c_X1_areTwins (l : Launch) (D : va_G) (cI : ClassId) (g : Nat → Nat) (P n st : Nat) (sm gr co en la : Nat → Nat) (fp fb fc fk fq ft : Nat) (pa ps fi : Nat → Nat) (bl : Nat → Int32) (sp gp sw gw : Nat → Nat) (hw : jmWF P n st sm gr co en la) (a o : Nat) (ha : a < 16) (ho : o < 16) (hfb : fb < 65536) (hfp : fp < 256) : jxRO l yX1_areTwins wsX1_areTwins ({ frames := 2, cells := 0, slots := 0, locals := 53 } : Room) D [(cI, .int)] (jW cI g P n st sm gr co en la ++ jF cI g fp fb fc fk fq ft pa ps fi bl sp gp sw gw) [.ref (g 10), .int (nI a), .int (nI o)] (fun r => r = nI (jB (jmAreTwins en P n st fb fp a o))) := by
  refine jx_enterZ (by decide) rfl (Nat.le_of_ble_eq_true rfl) ?_
  intro p e s m args below meth c Q ls hx hb hml hts hown hN hP hK hl hQ
  have hown : s.vm.findClass RX1 = some m.cls := hown
  have hl : lv_has ls 4 [(0, .ref (g 10)), (1, .int (nI a)), (2, .int (nI o))] := hl
  have hP8 : P ≤ 8 := hw.1
  have hn16 : n ≤ 16 := hw.2.1
  have hst : st < 65536 := jmWF_st hw
  have hen : ∀ j, j < n → en j < 256 := jmWF_en hw
  have hla : ∀ q, q < P → la q < 65536 := jmWF_la hw
  have hgr : ∀ j, j < n → sm j < 8 ∧ gr j < 8 := jmWF_gr hw
  have hco : ∀ j, j < n → co j < 21 := jmWF_co hw
  have hP2 := jx_pow256 hP8
  refine lv_iconst (v := nI 1) hx hb dX1_areTwins_0 (by decide) ?_
  refine lv_iload_n hx hb dX1_areTwins_1 rfl (lv_at hl 1 rfl) ?_
  refine lv_ishl hx hb dX1_areTwins_2 ?_
  refine jx_val (z := (nI (2 ^ a))) (jx_1shl (by omega)) ?_
  refine lv_iconst (v := nI 1) hx hb dX1_areTwins_3 (by decide) ?_
  refine lv_iload_n hx hb dX1_areTwins_4 rfl (lv_at hl 2 rfl) ?_
  refine lv_ishl hx hb dX1_areTwins_5 ?_
  refine jx_val (z := (nI (2 ^ o))) (jx_1shl (by omega)) ?_
  refine lv_ior hx hb dX1_areTwins_6 ?_
  refine jx_val (z := (nI ((2 ^ a) ||| (2 ^ o)))) (fa_or _ _) ?_
  refine lv_istore_n (lv' := [(3, .int (nI ((2 ^ a) ||| (2 ^ o)))), (0, .ref (g 10)), (1, .int (nI a)), (2, .int (nI o))]) hx hb dX1_areTwins_7 rfl hl (by decide) rfl (fun ls hl => ?_)
  refine lv_aload_n hx hb dX1_areTwins_8 rfl (lv_at hl 1 rfl) ?_
  refine va_get (D := D) (ci := 1) (v := .ref (g 0)) (C := RX1) (T := TX1) (N := 15) hx hb hts in_X1_areTwins_1 hown hK hP 6 rfl rfl 0 (by decide) (hts (.fieldLink RX1 55 "Twincuts$Falls" "web" "LTwincuts$Web;") (List.mem_of_getElem? (i := 1) (by decide +kernel))) (fun _ h9 => h9) rfl dX1_areTwins_9 ?_
  refine va_getN (D := D) (ci := 5) (v := .int (nI st)) (C := RX5) (T := TX5) (N := 8) hx hb hts in_X1_areTwins_5 hown hK hP 0 rfl rfl 2 (by decide) (hN.use 14 rfl) (fun _ h9 => h9) rfl dX1_areTwins_12 ?_
  refine lv_aload_n hx hb dX1_areTwins_15 rfl (lv_at hl 1 rfl) ?_
  refine va_get (D := D) (ci := 1) (v := .int (nI fb)) (C := RX1) (T := TX1) (N := 15) hx hb hts in_X1_areTwins_1 hown hK hP 6 rfl rfl 2 (by decide) (hts (.fieldLink RX1 15 "Twincuts$Falls" "bridgeSet" "I") (List.mem_of_getElem? (i := 2) (by decide +kernel))) (fun _ h9 => h9) rfl dX1_areTwins_16 ?_
  refine lv_iconst (v := (-1)) hx hb dX1_areTwins_19 (by decide) ?_
  refine lv_ixor hx hb dX1_areTwins_20 ?_
  refine lv_iand hx hb dX1_areTwins_21 ?_
  refine jx_val (z := (nI (jxAN st fb))) (jx_not _ _) ?_
  refine lv_iload_n hx hb dX1_areTwins_22 rfl (lv_at hl 0 rfl) ?_
  refine lv_iand hx hb dX1_areTwins_23 ?_
  refine jx_val (z := (nI ((jxAN st fb) &&& ((2 ^ a) ||| (2 ^ o))))) (fa_and _ _) ?_
  refine lv_iload_n hx hb dX1_areTwins_24 rfl (lv_at hl 0 rfl) ?_
  refine lv_icmp_ne (tgt := 64) hx hb dX1_areTwins_25 (by decide) (fun c25 => ?_) (fun c25 => ?_)
  · have c25 : (jxAN st fb) &&& ((2 ^ a) ||| (2 ^ o)) ≠ (2 ^ a) ||| (2 ^ o) := jx_ne c25
    refine lv_iconst (v := nI 0) hx hb dX1_areTwins_64 (by decide) ?_
    exact hQ false _ _ dX1_areTwins_65 (by unfold jmAreTwins; rw [decide_eq_false (fun h => by obtain ⟨h1, h2⟩ := h; first | exact c25 h1 | omega)])
  · have c25 : (jxAN st fb) &&& ((2 ^ a) ||| (2 ^ o)) = (2 ^ a) ||| (2 ^ o) := jx_e (Nat.lt_of_le_of_lt Nat.and_le_left (jxAN_lt (by omega))) (Nat.or_lt_two_pow (jx_pow31 (by omega)) (jx_pow31 (by omega))) c25
    refine lv_aload_n hx hb dX1_areTwins_28 rfl (lv_at hl 1 rfl) ?_
    refine va_get (D := D) (ci := 1) (v := .ref (g 0)) (C := RX1) (T := TX1) (N := 15) hx hb hts in_X1_areTwins_1 hown hK hP 6 rfl rfl 0 (by decide) (hts (.fieldLink RX1 55 "Twincuts$Falls" "web" "LTwincuts$Web;") (List.mem_of_getElem? (i := 1) (by decide +kernel))) (fun _ h9 => h9) rfl dX1_areTwins_29 ?_
    refine lv_aload_n hx hb dX1_areTwins_32 rfl (lv_at hl 1 rfl) ?_
    refine va_get (D := D) (ci := 1) (v := .ref (g 0)) (C := RX1) (T := TX1) (N := 15) hx hb hts in_X1_areTwins_1 hown hK hP 6 rfl rfl 0 (by decide) (hts (.fieldLink RX1 55 "Twincuts$Falls" "web" "LTwincuts$Web;") (List.mem_of_getElem? (i := 1) (by decide +kernel))) (fun _ h9 => h9) rfl dX1_areTwins_33 ?_
    refine jx_callV (As := []) (rest := [.ref (g 0)]) ⟨hx, hb, hml, hown, hts⟩ (c_X5_allPoints l D cI g P n st sm gr co en la hw ) (cwV 0 hts gX1_areTwins_X5_allPoints rfl rfl rfl (by decide +kernel) ⟨Nat.le_of_ble_eq_true rfl, Nat.le_of_ble_eq_true rfl⟩) hN (hP.sub (ws' := jW cI g P n st sm gr co en la) [0, 1, 2, 3, 4, 5] rfl) (hK.sub (tys' := [(cI, .int)]) [0] rfl) 0 5 rfl rfl rfl rfl hl.1 rfl (Nat.le_of_ble_eq_true rfl) dX1_areTwins_36 ⟨Nat.zero_le _, Nat.zero_le _⟩ (fun r hr => ?_)
    subst hr
    refine lv_aload_n hx hb dX1_areTwins_39 rfl (lv_at hl 1 rfl) ?_
    refine va_get (D := D) (ci := 1) (v := .ref (g 0)) (C := RX1) (T := TX1) (N := 15) hx hb hts in_X1_areTwins_1 hown hK hP 6 rfl rfl 0 (by decide) (hts (.fieldLink RX1 55 "Twincuts$Falls" "web" "LTwincuts$Web;") (List.mem_of_getElem? (i := 1) (by decide +kernel))) (fun _ h9 => h9) rfl dX1_areTwins_40 ?_
    refine va_getN (D := D) (ci := 5) (v := .int (nI st)) (C := RX5) (T := TX5) (N := 8) hx hb hts in_X1_areTwins_5 hown hK hP 0 rfl rfl 2 (by decide) (hN.use 14 rfl) (fun _ h9 => h9) rfl dX1_areTwins_43 ?_
    refine lv_iload_n hx hb dX1_areTwins_46 rfl (lv_at hl 0 rfl) ?_
    refine lv_iconst (v := (-1)) hx hb dX1_areTwins_47 (by decide) ?_
    refine lv_ixor hx hb dX1_areTwins_48 ?_
    refine lv_iand hx hb dX1_areTwins_49 ?_
    refine jx_val (z := (nI (jxAN st ((2 ^ a) ||| (2 ^ o))))) (jx_not _ _) ?_
    refine jx_callV (As := [.int (nI (2 ^ P - 1)), .int (nI (jxAN st ((2 ^ a) ||| (2 ^ o))))]) (rest := []) ⟨hx, hb, hml, hown, hts⟩ (c_X5_countParts l D cI g P n st sm gr co en la hw (2 ^ P - 1) (jxAN st ((2 ^ a) ||| (2 ^ o))) (by omega) (Nat.lt_of_lt_of_le (jxAN_lt hst) (by decide))) (cwV 2 hts gX1_areTwins_X5_countParts rfl rfl rfl (by decide +kernel) ⟨Nat.le_of_ble_eq_true rfl, Nat.le_of_ble_eq_true rfl⟩) hN (hP.sub (ws' := jW cI g P n st sm gr co en la) [0, 1, 2, 3, 4, 5] rfl) (hK.sub (tys' := [(cI, .int)]) [0] rfl) 0 5 rfl rfl rfl rfl hl.1 rfl (Nat.le_of_ble_eq_true rfl) dX1_areTwins_50 ⟨Nat.zero_le _, Nat.zero_le _⟩ (fun r hr => ?_)
    subst hr
    refine lv_aload_n hx hb dX1_areTwins_53 rfl (lv_at hl 1 rfl) ?_
    refine va_get (D := D) (ci := 1) (v := .int (nI fp)) (C := RX1) (T := TX1) (N := 15) hx hb hts in_X1_areTwins_1 hown hK hP 6 rfl rfl 1 (by decide) (hts (.fieldLink RX1 9 "Twincuts$Falls" "parts" "I") (List.mem_of_getElem? (i := 3) (by decide +kernel))) (fun _ h9 => h9) rfl dX1_areTwins_54 ?_
    refine lv_icmp_le (tgt := 64) hx hb dX1_areTwins_57 (by decide) (fun c57 => ?_) (fun c57 => ?_)
    · have c57 : jmCPc en (2 ^ P - 1) (jxAN st ((2 ^ a) ||| (2 ^ o))) n P ≤ fp := jx_le (Nat.lt_of_le_of_lt (jmCPc_le _) (by omega)) (by omega) c57
      refine lv_iconst (v := nI 0) hx hb dX1_areTwins_64 (by decide) ?_
      exact hQ false _ _ dX1_areTwins_65 (by unfold jmAreTwins; rw [decide_eq_false (fun h => by obtain ⟨h1, h2⟩ := h; first | exact c25 h1 | omega)])
    · have c57 : fp < jmCPc en (2 ^ P - 1) (jxAN st ((2 ^ a) ||| (2 ^ o))) n P := jx_nle (Nat.lt_of_le_of_lt (jmCPc_le _) (by omega)) (by omega) c57
      refine lv_iconst (v := nI 1) hx hb dX1_areTwins_60 (by decide) ?_
      refine lv_goto (tgt := 65) hx hb dX1_areTwins_61 (by decide) ?_
      exact hQ true _ _ dX1_areTwins_65 (by unfold jmAreTwins; rw [decide_eq_true ⟨c25, c57⟩])
set_option maxRecDepth 20000 in
theorem in_X1_blocksAt_1 : ∀ w ∈ wsX10, w ∈ wsX1_blocksAt := by decide +kernel
set_option maxRecDepth 20000 in
theorem in_X1_blocksAt_5 : ∀ w ∈ wsX50, w ∈ wsX1_blocksAt := by decide +kernel
set_option maxHeartbeats 4000000 in
set_option maxRecDepth 100000 in
/-- blocksAt(point) -/
theorem c_X1_blocksAt (l : Launch) (D : va_G) (cI : ClassId) (g : Nat → Nat) (P n st : Nat) (sm gr co en la : Nat → Nat) (fp fb fc fk fq ft : Nat) (pa ps fi : Nat → Nat) (bl : Nat → Int32) (sp gp sw gw : Nat → Nat) (hw : jmWF P n st sm gr co en la) (q : Nat) (hq : q < P) (hbl : ∀ j, j < n → st.testBit j = true → ∃ b, b < 16 ∧ bl j = nI b) : jxRO l yX1_blocksAt wsX1_blocksAt ({ frames := 1, cells := 0, slots := 0, locals := 21 } : Room) D [(cI, .int)] (jW cI g P n st sm gr co en la ++ jF cI g fp fb fc fk fq ft pa ps fi bl sp gp sw gw) [.ref (g 10), .int (nI q)] (fun r => r = nI (jmPop (jmBlk bl (la q &&& st) n))) := by
  refine jx_enter (by decide) rfl (Nat.le_of_ble_eq_true rfl) ?_
  intro p e s m args below meth c Q ls hx hb hml hts hown hN hP hK hl hQ
  have hown : s.vm.findClass RX1 = some m.cls := hown
  have hl : lv_has ls 4 [(0, .ref (g 10)), (1, .int (nI q))] := hl
  have hP8 : P ≤ 8 := hw.1
  have hn16 : n ≤ 16 := hw.2.1
  have hst : st < 65536 := jmWF_st hw
  have hen : ∀ j, j < n → en j < 256 := jmWF_en hw
  have hla : ∀ q, q < P → la q < 65536 := jmWF_la hw
  have hgr : ∀ j, j < n → sm j < 8 ∧ gr j < 8 := jmWF_gr hw
  have hco : ∀ j, j < n → co j < 21 := jmWF_co hw
  have hbt : ∀ j, j < n → (la q &&& st).testBit j = true → ∃ b, b < 16 ∧ bl j = nI b := fun j hj h => hbl j hj (by rw [Nat.testBit_and] at h; exact (Bool.and_eq_true _ _ ▸ h).2)
  refine lv_iconst (v := nI 0) hx hb dX1_blocksAt_0 (by decide) ?_
  refine lv_istore_n (lv' := [(2, .int (nI 0)), (0, .ref (g 10)), (1, .int (nI q))]) hx hb dX1_blocksAt_1 rfl hl (by decide) rfl (fun ls hl => ?_)
  refine lv_iconst (v := nI 0) hx hb dX1_blocksAt_2 (by decide) ?_
  refine lv_istore_n (lv' := [(3, .int (nI 0)), (2, .int (nI 0)), (0, .ref (g 10)), (1, .int (nI q))]) hx hb dX1_blocksAt_3 rfl hl (by decide) rfl (fun ls hl => ?_)
  have L4 : ∀ (k : Nat) (ln : Nat) (hln : ln ≤ n), n - ln < k → ∀ ls : Array Slot, lv_has ls 4 [(0, .ref (g 10)), (1, .int (nI q)), (2, .int (nI (jmBlk bl (la q &&& st) ln))), (3, .int (nI ln))] → W p l e ({ frames := 1, cells := 0, slots := 0, locals := 21 } : Room) s m args below meth c s.heap [] 0 0 Q (F0 m 4 ls []) := by
    intro k
    induction k with
    | zero => intro ln hln hk; exact absurd hk (Nat.not_lt_zero _)
    | succ k ih4 =>
      intro ln hln hk ls hl
      have hB := jmBlk_lt (bl := bl) (t := la q &&& st) (k := ln) (fun j hj => hbt j (by omega))
      refine lv_iload_n hx hb dX1_blocksAt_4 rfl (lv_at hl 3 rfl) ?_
      refine lv_aload_n hx hb dX1_blocksAt_5 rfl (lv_at hl 0 rfl) ?_
      refine va_get (D := D) (ci := 1) (v := .ref (g 0)) (C := RX1) (T := TX1) (N := 15) hx hb hts in_X1_blocksAt_1 hown hK hP 6 rfl rfl 0 (by decide) (hts (.fieldLink RX1 55 "Twincuts$Falls" "web" "LTwincuts$Web;") (List.mem_of_getElem? (i := 1) (by decide +kernel))) (fun _ h9 => h9) rfl dX1_blocksAt_6 ?_
      refine va_getN (D := D) (ci := 5) (v := .int (nI n)) (C := RX5) (T := TX5) (N := 8) hx hb hts in_X1_blocksAt_5 hown hK hP 0 rfl rfl 1 (by decide) (hN.use 7 rfl) (fun _ h9 => h9) rfl dX1_blocksAt_9 ?_
      refine lv_icmp_ge (tgt := 47) hx hb dX1_blocksAt_12 (by decide) (fun c12 => ?_) (fun c12 => ?_)
      · have c12 : n ≤ ln := jx_le (by omega) (by omega) c12
        have es_47 : n = ln := (by omega)
        subst es_47
        refine lv_iload_n hx hb dX1_blocksAt_47 rfl (lv_at hl 2 rfl) ?_
        refine jx_callS (As := [.int (nI (jmBlk bl (la q &&& st) n))]) (rest := []) ⟨hx, hb, hml, hown, hts⟩ (c_J6_bitCount_0f7a4 l D (jmBlk bl (la q &&& st) n) hB) (va_cwS 1 hts gX1_blocksAt_J6_bitCount_0f7a4 rfl rfl rfl (by decide +kernel) ⟨Nat.le_of_ble_eq_true rfl, Nat.le_of_ble_eq_true rfl⟩) hN (hP.sub (ws' := []) [] rfl) (hK.sub (tys' := []) [] rfl) rfl hl.1 rfl (Nat.le_of_ble_eq_true rfl) dX1_blocksAt_48 ⟨Nat.zero_le _, Nat.zero_le _⟩ (fun r hr => ?_)
        subst hr
        exact hQ (nI (jmPop (jmBlk bl (la q &&& st) n))) _ _ dX1_blocksAt_51 rfl
      · have c12 : ln < n := jx_nle (by omega) (by omega) c12
        refine lv_aload_n hx hb dX1_blocksAt_15 rfl (lv_at hl 0 rfl) ?_
        refine va_get (D := D) (ci := 1) (v := .ref (g 0)) (C := RX1) (T := TX1) (N := 15) hx hb hts in_X1_blocksAt_1 hown hK hP 6 rfl rfl 0 (by decide) (hts (.fieldLink RX1 55 "Twincuts$Falls" "web" "LTwincuts$Web;") (List.mem_of_getElem? (i := 1) (by decide +kernel))) (fun _ h9 => h9) rfl dX1_blocksAt_16 ?_
        refine lv_iload_n hx hb dX1_blocksAt_19 rfl (lv_at hl 1 rfl) ?_
        refine jx_callV (As := [.int (nI q)]) (rest := []) ⟨hx, hb, hml, hown, hts⟩ (c_X5_standingAt l D cI g P n st sm gr co en la hw q (by omega)) (cwV 1 hts gX1_blocksAt_X5_standingAt rfl rfl rfl (by decide +kernel) ⟨Nat.le_of_ble_eq_true rfl, Nat.le_of_ble_eq_true rfl⟩) hN (hP.sub (ws' := jW cI g P n st sm gr co en la) [0, 1, 2, 3, 4, 5] rfl) (hK.sub (tys' := [(cI, .int)]) [0] rfl) 0 5 rfl rfl rfl rfl hl.1 rfl (Nat.le_of_ble_eq_true rfl) dX1_blocksAt_20 ⟨Nat.zero_le _, Nat.zero_le _⟩ (fun r hr => ?_)
        subst hr
        refine lv_iload_n hx hb dX1_blocksAt_23 rfl (lv_at hl 3 rfl) ?_
        refine jx_callSN (As := [.int (nI (la q &&& st)), .int (nI ln)]) (rest := []) ⟨hx, hb, hml, hown, hts⟩ (c_X6_has l D (la q &&& st) ln (Nat.lt_of_le_of_lt Nat.and_le_left (by have := hla q (by omega); omega)) (by omega)) (va_cnB 2 hts gX1_blocksAt_X6_has_n89 rfl rfl rfl (hN.get 43 rfl) (hts (.initialized RX6) (List.mem_of_getElem? (i := 11) (by decide +kernel))) (by decide +kernel) ⟨Nat.le_of_ble_eq_true rfl, Nat.le_of_ble_eq_true rfl⟩) (hts (.static yX6_has) (List.mem_of_getElem? (i := 10) (by decide +kernel))) hN (hP.sub (ws' := []) [] rfl) (hK.sub (tys' := []) [] rfl) rfl hl.1 rfl (Nat.le_of_ble_eq_true rfl) dX1_blocksAt_24 ⟨Nat.zero_le _, Nat.zero_le _⟩ (fun r hr => ?_)
        subst hr
        refine lv_if_eq (tgt := 41) hx hb dX1_blocksAt_27 (by decide) (fun c27 => ?_) (fun c27 => ?_)
        · have c27 := jB_0 c27
          refine lv_iinc (v := nI (ln + 1)) (lv' := [(3, .int (nI (ln + 1))), (0, .ref (g 10)), (1, .int (nI q)), (2, .int (nI (jmBlk bl (la q &&& st) ln)))]) hx hb dX1_blocksAt_41 hl (k := 3) rfl (jx_inc _) (by decide) rfl (fun ls hl => ?_)
          refine lv_goto (tgt := 4) hx hb dX1_blocksAt_44 (by decide) ?_
          have ev_1 : jmBlk bl (la q &&& st) ln = jmBlk bl (la q &&& st) (ln + 1) := by first | rfl | (simp [jmBlk, c12, c27]; done)
          exact ih4 (ln + 1) (by omega) (by omega) ls (by rw [← ev_1]; exact lv_sub hl [1, 2, 3, 0] rfl)
        · have c27 := jB_1 c27
          refine lv_iload_n hx hb dX1_blocksAt_30 rfl (lv_at hl 2 rfl) ?_
          refine lv_iconst (v := nI 1) hx hb dX1_blocksAt_31 (by decide) ?_
          refine lv_aload_n hx hb dX1_blocksAt_32 rfl (lv_at hl 0 rfl) ?_
          refine va_get (D := D) (ci := 1) (v := .ref (g 14)) (C := RX1) (T := TX1) (N := 15) hx hb hts in_X1_blocksAt_1 hown hK hP 6 rfl rfl 10 (by decide) (hts (.fieldLink RX1 40 "Twincuts$Falls" "block" "[I") (List.mem_of_getElem? (i := 2) (by decide +kernel))) (fun _ h9 => h9) rfl dX1_blocksAt_33 ?_
          refine lv_iload_n hx hb dX1_blocksAt_36 rfl (lv_at hl 3 rfl) ?_
          refine jx_iald hx hb hK hP 10 0 rfl rfl (by omega) (by decide) dX1_blocksAt_37 ?_
          refine jx_val (z := (nI ((bl ln).toNatClampNeg))) (jx_clampI (hbt ln (by omega) c27) (by decide)).2 ?_
          have hcb := (jx_clampI (hbt ln (by omega) c27) (by decide)).1
          refine lv_ishl hx hb dX1_blocksAt_38 ?_
          refine jx_val (z := (nI (2 ^ ((bl ln).toNatClampNeg)))) (jx_1shl (by omega)) ?_
          refine lv_ior hx hb dX1_blocksAt_39 ?_
          refine jx_val (z := (nI ((jmBlk bl (la q &&& st) ln) ||| (2 ^ ((bl ln).toNatClampNeg))))) (fa_or _ _) ?_
          refine lv_istore_n (lv' := [(2, .int (nI ((jmBlk bl (la q &&& st) ln) ||| (2 ^ ((bl ln).toNatClampNeg))))), (0, .ref (g 10)), (1, .int (nI q)), (3, .int (nI ln))]) hx hb dX1_blocksAt_40 rfl hl (by decide) rfl (fun ls hl => ?_)
          refine lv_iinc (v := nI (ln + 1)) (lv' := [(3, .int (nI (ln + 1))), (2, .int (nI ((jmBlk bl (la q &&& st) ln) ||| (2 ^ ((bl ln).toNatClampNeg))))), (0, .ref (g 10)), (1, .int (nI q))]) hx hb dX1_blocksAt_41 hl (k := 3) rfl (jx_inc _) (by decide) rfl (fun ls hl => ?_)
          refine lv_goto (tgt := 4) hx hb dX1_blocksAt_44 (by decide) ?_
          have ev_2 : (jmBlk bl (la q &&& st) ln) ||| (2 ^ ((bl ln).toNatClampNeg)) = jmBlk bl (la q &&& st) (ln + 1) := by first | rfl | (simp [jmBlk, c12, c27]; done)
          exact ih4 (ln + 1) (by omega) (by omega) ls (by rw [← ev_2]; exact lv_sub hl [2, 3, 1, 0] rfl)
  have ev_3 : 0 = jmBlk bl (la q &&& st) 0 := by first | rfl | (simp [jmBlk, if_true]; done)
  exact L4 ((n - 0) + 1) 0 (by omega) (Nat.lt_succ_self _) ls (by rw [← ev_3]; exact lv_sub hl [2, 3, 1, 0] rfl)
set_option maxRecDepth 20000 in
theorem in_X1_isAloneInBlock_1 : ∀ w ∈ wsX10, w ∈ wsX1_isAloneInBlock := by decide +kernel
set_option maxRecDepth 20000 in
theorem in_X1_isAloneInBlock_5 : ∀ w ∈ wsX50, w ∈ wsX1_isAloneInBlock := by decide +kernel
set_option maxHeartbeats 4000000 in
set_option maxRecDepth 100000 in
/-- isAloneInBlock(line) -/
theorem c_X1_isAloneInBlock (l : Launch) (D : va_G) (cI : ClassId) (g : Nat → Nat) (P n st : Nat) (sm gr co en la : Nat → Nat) (fp fb fc fk fq ft : Nat) (pa ps fi : Nat → Nat) (bl : Nat → Int32) (sp gp sw gw : Nat → Nat) (hw : jmWF P n st sm gr co en la) (i : Nat) (hi : i < n) : jxRO l yX1_isAloneInBlock wsX1_isAloneInBlock ({ frames := 0, cells := 0, slots := 0, locals := 0 } : Room) D [(cI, .int)] (jW cI g P n st sm gr co en la ++ jF cI g fp fb fc fk fq ft pa ps fi bl sp gp sw gw) [.ref (g 10), .int (nI i)] (fun r => r = nI (jB (jmAll (fun k => k == i || !(bl k == bl i)) n 0))) := by
  refine jx_enterZ (by decide) rfl (Nat.le_of_ble_eq_true rfl) ?_
  intro p e s m args below meth c Q ls hx hb hml hts hown hN hP hK hl hQ
  have hown : s.vm.findClass RX1 = some m.cls := hown
  have hl : lv_has ls 3 [(0, .ref (g 10)), (1, .int (nI i))] := hl
  have hP8 : P ≤ 8 := hw.1
  have hn16 : n ≤ 16 := hw.2.1
  have hst : st < 65536 := jmWF_st hw
  have hen : ∀ j, j < n → en j < 256 := jmWF_en hw
  have hla : ∀ q, q < P → la q < 65536 := jmWF_la hw
  have hgr : ∀ j, j < n → sm j < 8 ∧ gr j < 8 := jmWF_gr hw
  have hco : ∀ j, j < n → co j < 21 := jmWF_co hw
  refine lv_iconst (v := nI 0) hx hb dX1_isAloneInBlock_0 (by decide) ?_
  refine lv_istore_n (lv' := [(2, .int (nI 0)), (0, .ref (g 10)), (1, .int (nI i))]) hx hb dX1_isAloneInBlock_1 rfl hl (by decide) rfl (fun ls hl => ?_)
  have L2 : ∀ (k : Nat) (k1 : Nat) (hk1 : k1 ≤ n) (hd : jmAll (fun k => k == i || !(bl k == bl i)) n 0 = jmAll (fun k => k == i || !(bl k == bl i)) (n - k1) k1), n - k1 < k → ∀ ls : Array Slot, lv_has ls 3 [(0, .ref (g 10)), (1, .int (nI i)), (2, .int (nI k1))] → W p l e ({ frames := 0, cells := 0, slots := 0, locals := 0 } : Room) s m args below meth c s.heap [] 0 0 Q (F0 m 2 ls []) := by
    intro k
    induction k with
    | zero => intro k1 hk1 hd hk; exact absurd hk (Nat.not_lt_zero _)
    | succ k ih2 =>
      intro k1 hk1 hd hk ls hl
      refine lv_iload_n hx hb dX1_isAloneInBlock_2 rfl (lv_at hl 2 rfl) ?_
      refine lv_aload_n hx hb dX1_isAloneInBlock_3 rfl (lv_at hl 0 rfl) ?_
      refine va_get (D := D) (ci := 1) (v := .ref (g 0)) (C := RX1) (T := TX1) (N := 15) hx hb hts in_X1_isAloneInBlock_1 hown hK hP 6 rfl rfl 0 (by decide) (hts (.fieldLink RX1 55 "Twincuts$Falls" "web" "LTwincuts$Web;") (List.mem_of_getElem? (i := 1) (by decide +kernel))) (fun _ h9 => h9) rfl dX1_isAloneInBlock_4 ?_
      refine va_getN (D := D) (ci := 5) (v := .int (nI n)) (C := RX5) (T := TX5) (N := 8) hx hb hts in_X1_isAloneInBlock_5 hown hK hP 0 rfl rfl 1 (by decide) (hN.use 7 rfl) (fun _ h9 => h9) rfl dX1_isAloneInBlock_7 ?_
      refine lv_icmp_ge (tgt := 41) hx hb dX1_isAloneInBlock_10 (by decide) (fun c10 => ?_) (fun c10 => ?_)
      · have c10 : n ≤ k1 := jx_le (by omega) (by omega) c10
        refine lv_iconst (v := nI 1) hx hb dX1_isAloneInBlock_41 (by decide) ?_
        exact hQ true _ _ dX1_isAloneInBlock_42 (by rw [hd, show n - k1 = 0 by omega]; rfl)
      · have c10 : k1 < n := jx_nle (by omega) (by omega) c10
        refine lv_iload_n hx hb dX1_isAloneInBlock_13 rfl (lv_at hl 2 rfl) ?_
        refine lv_iload_n hx hb dX1_isAloneInBlock_14 rfl (lv_at hl 1 rfl) ?_
        refine lv_icmp_eq (tgt := 35) hx hb dX1_isAloneInBlock_15 (by decide) (fun c15 => ?_) (fun c15 => ?_)
        · have c15 : k1 = i := jx_e (by omega) (by omega) c15
          refine lv_iinc (v := nI (k1 + 1)) (lv' := [(2, .int (nI (k1 + 1))), (0, .ref (g 10)), (1, .int (nI i))]) hx hb dX1_isAloneInBlock_35 hl (k := 2) rfl (jx_inc _) (by decide) rfl (fun ls hl => ?_)
          refine lv_goto (tgt := 2) hx hb dX1_isAloneInBlock_38 (by decide) ?_
          exact ih2 (k1 + 1) (by omega) (by rw [hd, show n - k1 = (n - (k1 + 1)) + 1 by omega]; simp [jmAll, c10, c15]) (by omega) ls (lv_sub hl [1, 2, 0] rfl)
        · have c15 : k1 ≠ i := jx_ne c15
          refine lv_aload_n hx hb dX1_isAloneInBlock_18 rfl (lv_at hl 0 rfl) ?_
          refine va_get (D := D) (ci := 1) (v := .ref (g 14)) (C := RX1) (T := TX1) (N := 15) hx hb hts in_X1_isAloneInBlock_1 hown hK hP 6 rfl rfl 10 (by decide) (hts (.fieldLink RX1 40 "Twincuts$Falls" "block" "[I") (List.mem_of_getElem? (i := 2) (by decide +kernel))) (fun _ h9 => h9) rfl dX1_isAloneInBlock_19 ?_
          refine lv_iload_n hx hb dX1_isAloneInBlock_22 rfl (lv_at hl 2 rfl) ?_
          refine jx_iald hx hb hK hP 10 0 rfl rfl (by omega) (by decide) dX1_isAloneInBlock_23 ?_
          refine lv_aload_n hx hb dX1_isAloneInBlock_24 rfl (lv_at hl 0 rfl) ?_
          refine va_get (D := D) (ci := 1) (v := .ref (g 14)) (C := RX1) (T := TX1) (N := 15) hx hb hts in_X1_isAloneInBlock_1 hown hK hP 6 rfl rfl 10 (by decide) (hts (.fieldLink RX1 40 "Twincuts$Falls" "block" "[I") (List.mem_of_getElem? (i := 2) (by decide +kernel))) (fun _ h9 => h9) rfl dX1_isAloneInBlock_25 ?_
          refine lv_iload_n hx hb dX1_isAloneInBlock_28 rfl (lv_at hl 1 rfl) ?_
          refine jx_iald hx hb hK hP 10 0 rfl rfl (by omega) (by decide) dX1_isAloneInBlock_29 ?_
          refine lv_icmp_ne (tgt := 35) hx hb dX1_isAloneInBlock_30 (by decide) (fun c30 => ?_) (fun c30 => ?_)
          · skip
            refine lv_iinc (v := nI (k1 + 1)) (lv' := [(2, .int (nI (k1 + 1))), (0, .ref (g 10)), (1, .int (nI i))]) hx hb dX1_isAloneInBlock_35 hl (k := 2) rfl (jx_inc _) (by decide) rfl (fun ls hl => ?_)
            refine lv_goto (tgt := 2) hx hb dX1_isAloneInBlock_38 (by decide) ?_
            exact ih2 (k1 + 1) (by omega) (by rw [hd, show n - k1 = (n - (k1 + 1)) + 1 by omega]; simp [jmAll, c10, c15, c30]) (by omega) ls (lv_sub hl [1, 2, 0] rfl)
          · skip
            refine lv_iconst (v := nI 0) hx hb dX1_isAloneInBlock_33 (by decide) ?_
            exact hQ false _ _ dX1_isAloneInBlock_34 (by rw [hd, show n - k1 = (n - (k1 + 1)) + 1 by omega]; simp [jmAll, c15, c30])
  exact L2 ((n - 0) + 1) 0 (by omega) rfl (Nat.lt_succ_self _) ls (lv_sub hl [1, 2, 0] rfl)
set_option maxRecDepth 20000 in
theorem in_X0_walkBehind_0 : ∀ w ∈ wsX00, w ∈ wsX0_walkBehind := by decide +kernel
set_option maxRecDepth 20000 in
theorem in_X0_walkBehind_5 : ∀ w ∈ wsX50, w ∈ wsX0_walkBehind := by decide +kernel
set_option maxHeartbeats 4000000 in
set_option maxRecDepth 100000 in
/-- walkBehind(walk) -/
theorem c_X0_walkBehind (l : Launch) (D : va_G) (cI : ClassId) (cO : ClassId) (g : Nat → Nat) (P n st : Nat) (sm gr co en la : Nat → Nat) (rd le : Nat → Nat) (wk : Nat) (fa : Nat → Int32) (od : Nat → Nat → Nat) (hw : jmWF P n st sm gr co en la) (hdw : jmDW P n le od) (w q : Nat) (hwn : w < 2 * n) (hq9 : q = jmWalkAt sm gr w) : jxRO l yX0_walkBehind wsX0_walkBehind ({ frames := 1, cells := 0, slots := 0, locals := 23 } : Room) D [(cI, .int), (cO, .array .int)] (jW cI g P n st sm gr co en la ++ jD cI cO g rd le wk fa ++ jRN cI 8 16 rd od) [.ref (g 50), .int (nI w)] (fun r => r = nI (jmWB sm st (od q) (le q) q w (le q) (jmFind (fun k => od q k == w / 2) (le q) 0))) := by
  refine jx_enter (by decide) rfl (Nat.le_of_ble_eq_true rfl) ?_
  intro p e s m args below meth c Q ls hx hb hml hts hown hN hP hK hl hQ
  have hown : s.vm.findClass RX0 = some m.cls := hown
  have hl : lv_has ls 7 [(0, .ref (g 50)), (1, .int (nI w))] := hl
  have hP8 : P ≤ 8 := hw.1
  have hn16 : n ≤ 16 := hw.2.1
  have hst : st < 65536 := jmWF_st hw
  have hen : ∀ j, j < n → en j < 256 := jmWF_en hw
  have hla : ∀ q, q < P → la q < 65536 := jmWF_la hw
  have hgr : ∀ j, j < n → sm j < 8 ∧ gr j < 8 := jmWF_gr hw
  have hco : ∀ j, j < n → co j < 21 := jmWF_co hw
  have hqP : q < P := jmWalkAt_lt hw hwn hq9
  have hle := hdw.1 q hqP
  have hod := hdw.2 q hqP
  refine lv_iload_n hx hb dX0_walkBehind_0 rfl (lv_at hl 1 rfl) ?_
  refine lv_iconst (v := nI 2) hx hb dX0_walkBehind_1 (by decide) ?_
  refine lv_idiv hx hb dX0_walkBehind_2 (by decide) ?_
  refine jx_val (z := (nI (w / 2))) (pk_div (by omega) (by decide) (by decide)) ?_
  refine lv_istore_n (lv' := [(2, .int (nI (w / 2))), (0, .ref (g 50)), (1, .int (nI w))]) hx hb dX0_walkBehind_3 rfl hl (by decide) rfl (fun ls hl => ?_)
  refine lv_iload_n hx hb dX0_walkBehind_4 rfl (lv_at hl 2 rfl) ?_
  refine lv_iconst (v := nI 2) hx hb dX0_walkBehind_5 (by decide) ?_
  refine lv_irem hx hb dX0_walkBehind_6 (by decide) ?_
  refine jx_val (z := (nI (w % 2))) (pk_rem (by omega) (by decide) (by decide)) ?_
  refine lv_if_ne (tgt := 22) hx hb dX0_walkBehind_7 (by decide) (fun c7 => ?_) (fun c7 => ?_)
  · have c7 : w % 2 ≠ 0 := jx_nz c7
    refine lv_aload_n hx hb dX0_walkBehind_22 rfl (lv_at hl 1 rfl) ?_
    refine va_get (D := D) (ci := 0) (v := .ref (g 0)) (C := RX0) (T := TX0) (N := 5) hx hb hts in_X0_walkBehind_0 hown hK hP 6 rfl rfl 0 (by decide) (hts (.fieldLink RX0 27 "Twincuts$Drawing" "web" "LTwincuts$Web;") (List.mem_of_getElem? (i := 1) (by decide +kernel))) (fun _ h9 => h9) rfl dX0_walkBehind_23 ?_
    refine va_getN (D := D) (ci := 5) (v := .ref (g 1)) (C := RX5) (T := TX5) (N := 8) hx hb hts in_X0_walkBehind_5 hown hK hP 0 rfl rfl 3 (by decide) (hN.use 18 rfl) (fun _ h9 => h9) rfl dX0_walkBehind_26 ?_
    refine lv_iload_n hx hb dX0_walkBehind_29 rfl (lv_at hl 0 rfl) ?_
    refine jx_iald hx hb hK hP 1 0 rfl rfl (by omega) (by decide) dX0_walkBehind_30 ?_
    refine jx_val (z := (nI q)) (congrArg nI (by rw [hq9]; unfold jmWalkAt; rw [if_neg c7])) ?_
    refine lv_istore_n (lv' := [(3, .int (nI q)), (2, .int (nI (w / 2))), (0, .ref (g 50)), (1, .int (nI w))]) hx hb dX0_walkBehind_31 rfl hl (by decide) rfl (fun ls hl => ?_)
    refine lv_aload_n hx hb dX0_walkBehind_32 rfl (lv_at hl 2 rfl) ?_
    refine lv_iload_n hx hb dX0_walkBehind_33 rfl (lv_at hl 0 rfl) ?_
    refine lv_iload_n hx hb dX0_walkBehind_34 rfl (lv_at hl 1 rfl) ?_
    refine jx_callV (As := [.int (nI q), .int (nI (w / 2))]) (rest := []) ⟨hx, hb, hml, hown, hts⟩ (c_X0_placeOf l D cI cO g rd le wk fa od q (w / 2) (by omega) (by omega) hle (fun k hk => by have := hod k hk; omega)) (cwV 2 hts gX0_walkBehind_X0_placeOf rfl rfl rfl (by decide +kernel) ⟨Nat.le_of_ble_eq_true rfl, Nat.le_of_ble_eq_true rfl⟩) hN (hP.sub (ws' := jD cI cO g rd le wk fa ++ jRN cI 8 16 rd od) [6, 7, 8, 9, 10, 11, 12, 13, 14, 15, 16, 17] rfl) (hK.sub (tys' := [(cI, .int), (cO, .array .int)]) [0, 1] rfl) 0 0 rfl rfl rfl rfl hl.1 rfl (Nat.le_of_ble_eq_true rfl) dX0_walkBehind_35 ⟨Nat.zero_le _, Nat.zero_le _⟩ (fun r hr => ?_)
    subst hr
    refine lv_istore (lv' := [(4, .int (nI (jmFind (fun k => od q k == (w / 2)) (le q) 0))), (3, .int (nI q)), (2, .int (nI (w / 2))), (0, .ref (g 50)), (1, .int (nI w))]) hx hb dX0_walkBehind_38 hl (by decide) rfl (fun ls hl => ?_)
    refine lv_iconst (v := nI 0) hx hb dX0_walkBehind_40 (by decide) ?_
    refine lv_istore (lv' := [(5, .int (nI 0)), (4, .int (nI (jmFind (fun k => od q k == (w / 2)) (le q) 0))), (3, .int (nI q)), (2, .int (nI (w / 2))), (0, .ref (g 50)), (1, .int (nI w))]) hx hb dX0_walkBehind_41 hl (by decide) rfl (fun ls hl => ?_)
    have L43 : ∀ (k : Nat) (s1 : Nat) (u9 : Nat) (hs1 : s1 ≤ le q) (hp : u9 < 65536) (hd : jmWB sm st (od q) (le q) q w (le q) (jmFind (fun k => od q k == w / 2) (le q) 0) = jmWB sm st (od q) (le q) q w (le q - s1) u9), le q - s1 < k → ∀ ls : Array Slot, lv_has ls 7 [(0, .ref (g 50)), (1, .int (nI w)), (2, .int (nI (w / 2))), (3, .int (nI q)), (4, .int (nI u9)), (5, .int (nI s1))] → W p l e ({ frames := 1, cells := 0, slots := 0, locals := 23 } : Room) s m args below meth c s.heap [] 0 0 Q (F0 m 43 ls []) := by
      intro k
      induction k with
      | zero => intro s1 u9 hs1 hp hd hk; exact absurd hk (Nat.not_lt_zero _)
      | succ k ih43 =>
        intro s1 u9 hs1 hp hd hk ls hl
        refine lv_iload hx hb dX0_walkBehind_43 (lv_at hl 5 rfl) ?_
        refine lv_aload_n hx hb dX0_walkBehind_45 rfl (lv_at hl 0 rfl) ?_
        refine va_get (D := D) (ci := 0) (v := .ref (g 52)) (C := RX0) (T := TX0) (N := 5) hx hb hts in_X0_walkBehind_0 hown hK hP 6 rfl rfl 2 (by decide) (hts (.fieldLink RX0 16 "Twincuts$Drawing" "length" "[I") (List.mem_of_getElem? (i := 2) (by decide +kernel))) (fun _ h9 => h9) rfl dX0_walkBehind_46 ?_
        refine lv_iload_n hx hb dX0_walkBehind_49 rfl (lv_at hl 3 rfl) ?_
        refine jx_iald hx hb hK hP 8 0 rfl rfl (by omega) (by decide) dX0_walkBehind_50 ?_
        refine lv_icmp_ge (tgt := 120) hx hb dX0_walkBehind_51 (by decide) (fun c51 => ?_) (fun c51 => ?_)
        · have c51 : le q ≤ s1 := jx_le (by omega) (by omega) c51
          refine lv_iload_n hx hb dX0_walkBehind_120 rfl (lv_at hl 1 rfl) ?_
          exact hQ (nI w) _ _ dX0_walkBehind_121 (by rw [hd, show le q - s1 = 0 by omega]; rfl)
        · have c51 : s1 < le q := jx_nle (by omega) (by omega) c51
          have hbh := jmBehind_lt (l := le q) (k := u9) (by omega)
          have hbo := hod _ hbh
          refine lv_aload_n hx hb dX0_walkBehind_54 rfl (lv_at hl 0 rfl) ?_
          refine lv_iload_n hx hb dX0_walkBehind_55 rfl (lv_at hl 3 rfl) ?_
          refine lv_iload hx hb dX0_walkBehind_56 (lv_at hl 4 rfl) ?_
          refine jx_callV (As := [.int (nI q), .int (nI u9)]) (rest := []) ⟨hx, hb, hml, hown, hts⟩ (c_X0_placeBehind l D cI cO g rd le wk fa q u9 (by omega) (by omega) hle) (cwV 2 hts gX0_walkBehind_X0_placeBehind rfl rfl rfl (by decide +kernel) ⟨Nat.le_of_ble_eq_true rfl, Nat.le_of_ble_eq_true rfl⟩) hN (hP.sub (ws' := jD cI cO g rd le wk fa) [6, 7, 8, 9] rfl) (hK.sub (tys' := [(cI, .int), (cO, .array .int)]) [0, 1] rfl) 0 0 rfl rfl rfl rfl hl.1 rfl (Nat.le_of_ble_eq_true rfl) dX0_walkBehind_58 ⟨Nat.zero_le _, Nat.zero_le _⟩ (fun r hr => ?_)
          subst hr
          refine lv_istore (lv' := [(4, .int (nI (jmBehind (le q) u9))), (0, .ref (g 50)), (1, .int (nI w)), (2, .int (nI (w / 2))), (3, .int (nI q)), (5, .int (nI s1))]) hx hb dX0_walkBehind_61 hl (by decide) rfl (fun ls hl => ?_)
          refine lv_aload_n hx hb dX0_walkBehind_63 rfl (lv_at hl 1 rfl) ?_
          refine va_get (D := D) (ci := 0) (v := .ref (g 51)) (C := RX0) (T := TX0) (N := 5) hx hb hts in_X0_walkBehind_0 hown hK hP 6 rfl rfl 1 (by decide) (hts (.fieldLink RX0 11 "Twincuts$Drawing" "order" "[[I") (List.mem_of_getElem? (i := 3) (by decide +kernel))) (fun _ h9 => h9) rfl dX0_walkBehind_64 ?_
          refine lv_iload_n hx hb dX0_walkBehind_67 rfl (lv_at hl 4 rfl) ?_
          refine jx_aald (N := 8) hx hb hK hP 7 1 rfl rfl (by omega) (by decide) dX0_walkBehind_68 ?_
          refine lv_iload hx hb dX0_walkBehind_69 (lv_at hl 0 rfl) ?_
          refine jx_iald2N (N := 8) hx hb hK (X := jW cI g P n st sm gr co en la ++ jD cI cO g rd le wk fa) hP 0 rfl (by omega) (by omega) (by decide) dX0_walkBehind_71 ?_
          refine lv_istore (lv' := [(6, .int (nI (od q (jmBehind (le q) u9)))), (4, .int (nI (jmBehind (le q) u9))), (0, .ref (g 50)), (1, .int (nI w)), (2, .int (nI (w / 2))), (3, .int (nI q)), (5, .int (nI s1))]) hx hb dX0_walkBehind_72 hl (by decide) rfl (fun ls hl => ?_)
          refine lv_aload_n hx hb dX0_walkBehind_74 rfl (lv_at hl 2 rfl) ?_
          refine va_get (D := D) (ci := 0) (v := .ref (g 0)) (C := RX0) (T := TX0) (N := 5) hx hb hts in_X0_walkBehind_0 hown hK hP 6 rfl rfl 0 (by decide) (hts (.fieldLink RX0 27 "Twincuts$Drawing" "web" "LTwincuts$Web;") (List.mem_of_getElem? (i := 1) (by decide +kernel))) (fun _ h9 => h9) rfl dX0_walkBehind_75 ?_
          refine va_getN (D := D) (ci := 5) (v := .int (nI st)) (C := RX5) (T := TX5) (N := 8) hx hb hts in_X0_walkBehind_5 hown hK hP 0 rfl rfl 2 (by decide) (hN.use 13 rfl) (fun _ h9 => h9) rfl dX0_walkBehind_78 ?_
          refine lv_iload hx hb dX0_walkBehind_81 (lv_at hl 0 rfl) ?_
          refine jx_callSN (As := [.int (nI st), .int (nI (od q (jmBehind (le q) u9)))]) (rest := []) ⟨hx, hb, hml, hown, hts⟩ (c_X6_has l D st (od q (jmBehind (le q) u9)) (by omega) (by omega)) (va_cnB 2 hts gX0_walkBehind_X6_has_n43 rfl rfl rfl (hN.get 44 rfl) (hts (.initialized RX6) (List.mem_of_getElem? (i := 14) (by decide +kernel))) (by decide +kernel) ⟨Nat.le_of_ble_eq_true rfl, Nat.le_of_ble_eq_true rfl⟩) (hts (.static yX6_has) (List.mem_of_getElem? (i := 13) (by decide +kernel))) hN (hP.sub (ws' := []) [] rfl) (hK.sub (tys' := []) [] rfl) rfl hl.1 rfl (Nat.le_of_ble_eq_true rfl) dX0_walkBehind_83 ⟨Nat.zero_le _, Nat.zero_le _⟩ (fun r hr => ?_)
          subst hr
          refine lv_if_eq (tgt := 114) hx hb dX0_walkBehind_86 (by decide) (fun c86 => ?_) (fun c86 => ?_)
          · have c86 := jB_0 c86
            refine lv_iinc (v := nI (s1 + 1)) (lv' := [(5, .int (nI (s1 + 1))), (6, .int (nI (od q (jmBehind (le q) u9)))), (4, .int (nI (jmBehind (le q) u9))), (0, .ref (g 50)), (1, .int (nI w)), (2, .int (nI (w / 2))), (3, .int (nI q))]) hx hb dX0_walkBehind_114 hl (k := 6) rfl (jx_inc _) (by decide) rfl (fun ls hl => ?_)
            refine lv_goto (tgt := 43) hx hb dX0_walkBehind_117 (by decide) ?_
            exact ih43 (s1 + 1) (jmBehind (le q) u9) (by omega) (by omega) (by rw [hd, show le q - s1 = (le q - (s1 + 1)) + 1 by omega]; simp [jmWB, c51, c86]) (by omega) ls (lv_sub hl [3, 4, 5, 6, 2, 0] rfl)
          · have c86 := jB_1 c86
            refine lv_iconst (v := nI 2) hx hb dX0_walkBehind_89 (by decide) ?_
            refine lv_iload hx hb dX0_walkBehind_90 (lv_at hl 0 rfl) ?_
            refine lv_imul hx hb dX0_walkBehind_92 ?_
            refine jx_val (z := (nI (2 * (od q (jmBehind (le q) u9))))) (pk_mul _ _) ?_
            refine lv_aload_n hx hb dX0_walkBehind_93 rfl (lv_at hl 2 rfl) ?_
            refine va_get (D := D) (ci := 0) (v := .ref (g 0)) (C := RX0) (T := TX0) (N := 5) hx hb hts in_X0_walkBehind_0 hown hK hP 6 rfl rfl 0 (by decide) (hts (.fieldLink RX0 27 "Twincuts$Drawing" "web" "LTwincuts$Web;") (List.mem_of_getElem? (i := 1) (by decide +kernel))) (fun _ h9 => h9) rfl dX0_walkBehind_94 ?_
            refine va_getN (D := D) (ci := 5) (v := .ref (g 1)) (C := RX5) (T := TX5) (N := 8) hx hb hts in_X0_walkBehind_5 hown hK hP 0 rfl rfl 3 (by decide) (hN.use 18 rfl) (fun _ h9 => h9) rfl dX0_walkBehind_97 ?_
            refine lv_iload hx hb dX0_walkBehind_100 (lv_at hl 0 rfl) ?_
            refine jx_iald hx hb hK hP 1 0 rfl rfl (by omega) (by decide) dX0_walkBehind_102 ?_
            refine lv_iload_n hx hb dX0_walkBehind_103 rfl (lv_at hl 5 rfl) ?_
            refine lv_icmp_ne (tgt := 111) hx hb dX0_walkBehind_104 (by decide) (fun c104 => ?_) (fun c104 => ?_)
            · have c104 : sm (od q (jmBehind (le q) u9)) ≠ q := jx_ne c104
              refine lv_iconst (v := nI 1) hx hb dX0_walkBehind_111 (by decide) ?_
              refine lv_iadd hx hb dX0_walkBehind_112 ?_
              refine jx_val (z := (nI ((2 * (od q (jmBehind (le q) u9))) + 1))) (nI_add _ _) ?_
              exact hQ (nI ((2 * (od q (jmBehind (le q) u9))) + 1)) _ _ dX0_walkBehind_113 (by rw [hd, show le q - s1 = (le q - (s1 + 1)) + 1 by omega]; simp [jmWB, c86, c104])
            · have c104 : sm (od q (jmBehind (le q) u9)) = q := jx_e (by have := hgr _ hbo; omega) (by omega) c104
              refine lv_iconst (v := nI 0) hx hb dX0_walkBehind_107 (by decide) ?_
              refine lv_goto (tgt := 112) hx hb dX0_walkBehind_108 (by decide) ?_
              refine lv_iadd hx hb dX0_walkBehind_112 ?_
              refine jx_val (z := (nI ((2 * (od q (jmBehind (le q) u9))) + 0))) (nI_add _ _) ?_
              exact hQ (nI ((2 * (od q (jmBehind (le q) u9))) + 0)) _ _ dX0_walkBehind_113 (by rw [hd, show le q - s1 = (le q - (s1 + 1)) + 1 by omega]; simp [jmWB, c86, c104])
    have ev_1 : jmFind (fun k => od q k == (w / 2)) (le q) 0 = (jmFind (fun k => od q k == w / 2) (le q) 0) := by first | rfl | (simp [*]; done)
    exact L43 ((le q - 0) + 1) 0 (jmFind (fun k => od q k == w / 2) (le q) 0) (by omega) (Nat.lt_of_lt_of_le (jmFind_lt (N := 17) (by omega) (by omega)) (by decide)) rfl (Nat.lt_succ_self _) ls (by rw [← ev_1]; exact lv_sub hl [4, 5, 3, 2, 1, 0] rfl)
  · have c7 : w % 2 = 0 := jx_z (by omega) c7
    refine lv_aload_n hx hb dX0_walkBehind_10 rfl (lv_at hl 1 rfl) ?_
    refine va_get (D := D) (ci := 0) (v := .ref (g 0)) (C := RX0) (T := TX0) (N := 5) hx hb hts in_X0_walkBehind_0 hown hK hP 6 rfl rfl 0 (by decide) (hts (.fieldLink RX0 27 "Twincuts$Drawing" "web" "LTwincuts$Web;") (List.mem_of_getElem? (i := 1) (by decide +kernel))) (fun _ h9 => h9) rfl dX0_walkBehind_11 ?_
    refine va_getN (D := D) (ci := 5) (v := .ref (g 2)) (C := RX5) (T := TX5) (N := 8) hx hb hts in_X0_walkBehind_5 hown hK hP 0 rfl rfl 4 (by decide) (hN.use 22 rfl) (fun _ h9 => h9) rfl dX0_walkBehind_14 ?_
    refine lv_iload_n hx hb dX0_walkBehind_17 rfl (lv_at hl 0 rfl) ?_
    refine jx_iald hx hb hK hP 2 0 rfl rfl (by omega) (by decide) dX0_walkBehind_18 ?_
    refine lv_goto (tgt := 31) hx hb dX0_walkBehind_19 (by decide) ?_
    refine jx_val (z := (nI q)) (congrArg nI (by rw [hq9]; unfold jmWalkAt; rw [if_pos c7])) ?_
    refine lv_istore_n (lv' := [(3, .int (nI q)), (2, .int (nI (w / 2))), (0, .ref (g 50)), (1, .int (nI w))]) hx hb dX0_walkBehind_31 rfl hl (by decide) rfl (fun ls hl => ?_)
    refine lv_aload_n hx hb dX0_walkBehind_32 rfl (lv_at hl 2 rfl) ?_
    refine lv_iload_n hx hb dX0_walkBehind_33 rfl (lv_at hl 0 rfl) ?_
    refine lv_iload_n hx hb dX0_walkBehind_34 rfl (lv_at hl 1 rfl) ?_
    refine jx_callV (As := [.int (nI q), .int (nI (w / 2))]) (rest := []) ⟨hx, hb, hml, hown, hts⟩ (c_X0_placeOf l D cI cO g rd le wk fa od q (w / 2) (by omega) (by omega) hle (fun k hk => by have := hod k hk; omega)) (cwV 2 hts gX0_walkBehind_X0_placeOf rfl rfl rfl (by decide +kernel) ⟨Nat.le_of_ble_eq_true rfl, Nat.le_of_ble_eq_true rfl⟩) hN (hP.sub (ws' := jD cI cO g rd le wk fa ++ jRN cI 8 16 rd od) [6, 7, 8, 9, 10, 11, 12, 13, 14, 15, 16, 17] rfl) (hK.sub (tys' := [(cI, .int), (cO, .array .int)]) [0, 1] rfl) 0 0 rfl rfl rfl rfl hl.1 rfl (Nat.le_of_ble_eq_true rfl) dX0_walkBehind_35 ⟨Nat.zero_le _, Nat.zero_le _⟩ (fun r hr => ?_)
    subst hr
    refine lv_istore (lv' := [(4, .int (nI (jmFind (fun k => od q k == (w / 2)) (le q) 0))), (3, .int (nI q)), (2, .int (nI (w / 2))), (0, .ref (g 50)), (1, .int (nI w))]) hx hb dX0_walkBehind_38 hl (by decide) rfl (fun ls hl => ?_)
    refine lv_iconst (v := nI 0) hx hb dX0_walkBehind_40 (by decide) ?_
    refine lv_istore (lv' := [(5, .int (nI 0)), (4, .int (nI (jmFind (fun k => od q k == (w / 2)) (le q) 0))), (3, .int (nI q)), (2, .int (nI (w / 2))), (0, .ref (g 50)), (1, .int (nI w))]) hx hb dX0_walkBehind_41 hl (by decide) rfl (fun ls hl => ?_)
    have L43 : ∀ (k : Nat) (s1 : Nat) (u9 : Nat) (hs1 : s1 ≤ le q) (hp : u9 < 65536) (hd : jmWB sm st (od q) (le q) q w (le q) (jmFind (fun k => od q k == w / 2) (le q) 0) = jmWB sm st (od q) (le q) q w (le q - s1) u9), le q - s1 < k → ∀ ls : Array Slot, lv_has ls 7 [(0, .ref (g 50)), (1, .int (nI w)), (2, .int (nI (w / 2))), (3, .int (nI q)), (4, .int (nI u9)), (5, .int (nI s1))] → W p l e ({ frames := 1, cells := 0, slots := 0, locals := 23 } : Room) s m args below meth c s.heap [] 0 0 Q (F0 m 43 ls []) := by
      intro k
      induction k with
      | zero => intro s1 u9 hs1 hp hd hk; exact absurd hk (Nat.not_lt_zero _)
      | succ k ih43 =>
        intro s1 u9 hs1 hp hd hk ls hl
        refine lv_iload hx hb dX0_walkBehind_43 (lv_at hl 5 rfl) ?_
        refine lv_aload_n hx hb dX0_walkBehind_45 rfl (lv_at hl 0 rfl) ?_
        refine va_get (D := D) (ci := 0) (v := .ref (g 52)) (C := RX0) (T := TX0) (N := 5) hx hb hts in_X0_walkBehind_0 hown hK hP 6 rfl rfl 2 (by decide) (hts (.fieldLink RX0 16 "Twincuts$Drawing" "length" "[I") (List.mem_of_getElem? (i := 2) (by decide +kernel))) (fun _ h9 => h9) rfl dX0_walkBehind_46 ?_
        refine lv_iload_n hx hb dX0_walkBehind_49 rfl (lv_at hl 3 rfl) ?_
        refine jx_iald hx hb hK hP 8 0 rfl rfl (by omega) (by decide) dX0_walkBehind_50 ?_
        refine lv_icmp_ge (tgt := 120) hx hb dX0_walkBehind_51 (by decide) (fun c51 => ?_) (fun c51 => ?_)
        · have c51 : le q ≤ s1 := jx_le (by omega) (by omega) c51
          refine lv_iload_n hx hb dX0_walkBehind_120 rfl (lv_at hl 1 rfl) ?_
          exact hQ (nI w) _ _ dX0_walkBehind_121 (by rw [hd, show le q - s1 = 0 by omega]; rfl)
        · have c51 : s1 < le q := jx_nle (by omega) (by omega) c51
          have hbh := jmBehind_lt (l := le q) (k := u9) (by omega)
          have hbo := hod _ hbh
          refine lv_aload_n hx hb dX0_walkBehind_54 rfl (lv_at hl 0 rfl) ?_
          refine lv_iload_n hx hb dX0_walkBehind_55 rfl (lv_at hl 3 rfl) ?_
          refine lv_iload hx hb dX0_walkBehind_56 (lv_at hl 4 rfl) ?_
          refine jx_callV (As := [.int (nI q), .int (nI u9)]) (rest := []) ⟨hx, hb, hml, hown, hts⟩ (c_X0_placeBehind l D cI cO g rd le wk fa q u9 (by omega) (by omega) hle) (cwV 2 hts gX0_walkBehind_X0_placeBehind rfl rfl rfl (by decide +kernel) ⟨Nat.le_of_ble_eq_true rfl, Nat.le_of_ble_eq_true rfl⟩) hN (hP.sub (ws' := jD cI cO g rd le wk fa) [6, 7, 8, 9] rfl) (hK.sub (tys' := [(cI, .int), (cO, .array .int)]) [0, 1] rfl) 0 0 rfl rfl rfl rfl hl.1 rfl (Nat.le_of_ble_eq_true rfl) dX0_walkBehind_58 ⟨Nat.zero_le _, Nat.zero_le _⟩ (fun r hr => ?_)
          subst hr
          refine lv_istore (lv' := [(4, .int (nI (jmBehind (le q) u9))), (0, .ref (g 50)), (1, .int (nI w)), (2, .int (nI (w / 2))), (3, .int (nI q)), (5, .int (nI s1))]) hx hb dX0_walkBehind_61 hl (by decide) rfl (fun ls hl => ?_)
          refine lv_aload_n hx hb dX0_walkBehind_63 rfl (lv_at hl 1 rfl) ?_
          refine va_get (D := D) (ci := 0) (v := .ref (g 51)) (C := RX0) (T := TX0) (N := 5) hx hb hts in_X0_walkBehind_0 hown hK hP 6 rfl rfl 1 (by decide) (hts (.fieldLink RX0 11 "Twincuts$Drawing" "order" "[[I") (List.mem_of_getElem? (i := 3) (by decide +kernel))) (fun _ h9 => h9) rfl dX0_walkBehind_64 ?_
          refine lv_iload_n hx hb dX0_walkBehind_67 rfl (lv_at hl 4 rfl) ?_
          refine jx_aald (N := 8) hx hb hK hP 7 1 rfl rfl (by omega) (by decide) dX0_walkBehind_68 ?_
          refine lv_iload hx hb dX0_walkBehind_69 (lv_at hl 0 rfl) ?_
          refine jx_iald2N (N := 8) hx hb hK (X := jW cI g P n st sm gr co en la ++ jD cI cO g rd le wk fa) hP 0 rfl (by omega) (by omega) (by decide) dX0_walkBehind_71 ?_
          refine lv_istore (lv' := [(6, .int (nI (od q (jmBehind (le q) u9)))), (4, .int (nI (jmBehind (le q) u9))), (0, .ref (g 50)), (1, .int (nI w)), (2, .int (nI (w / 2))), (3, .int (nI q)), (5, .int (nI s1))]) hx hb dX0_walkBehind_72 hl (by decide) rfl (fun ls hl => ?_)
          refine lv_aload_n hx hb dX0_walkBehind_74 rfl (lv_at hl 2 rfl) ?_
          refine va_get (D := D) (ci := 0) (v := .ref (g 0)) (C := RX0) (T := TX0) (N := 5) hx hb hts in_X0_walkBehind_0 hown hK hP 6 rfl rfl 0 (by decide) (hts (.fieldLink RX0 27 "Twincuts$Drawing" "web" "LTwincuts$Web;") (List.mem_of_getElem? (i := 1) (by decide +kernel))) (fun _ h9 => h9) rfl dX0_walkBehind_75 ?_
          refine va_getN (D := D) (ci := 5) (v := .int (nI st)) (C := RX5) (T := TX5) (N := 8) hx hb hts in_X0_walkBehind_5 hown hK hP 0 rfl rfl 2 (by decide) (hN.use 13 rfl) (fun _ h9 => h9) rfl dX0_walkBehind_78 ?_
          refine lv_iload hx hb dX0_walkBehind_81 (lv_at hl 0 rfl) ?_
          refine jx_callSN (As := [.int (nI st), .int (nI (od q (jmBehind (le q) u9)))]) (rest := []) ⟨hx, hb, hml, hown, hts⟩ (c_X6_has l D st (od q (jmBehind (le q) u9)) (by omega) (by omega)) (va_cnB 2 hts gX0_walkBehind_X6_has_n43 rfl rfl rfl (hN.get 44 rfl) (hts (.initialized RX6) (List.mem_of_getElem? (i := 14) (by decide +kernel))) (by decide +kernel) ⟨Nat.le_of_ble_eq_true rfl, Nat.le_of_ble_eq_true rfl⟩) (hts (.static yX6_has) (List.mem_of_getElem? (i := 13) (by decide +kernel))) hN (hP.sub (ws' := []) [] rfl) (hK.sub (tys' := []) [] rfl) rfl hl.1 rfl (Nat.le_of_ble_eq_true rfl) dX0_walkBehind_83 ⟨Nat.zero_le _, Nat.zero_le _⟩ (fun r hr => ?_)
          subst hr
          refine lv_if_eq (tgt := 114) hx hb dX0_walkBehind_86 (by decide) (fun c86 => ?_) (fun c86 => ?_)
          · have c86 := jB_0 c86
            refine lv_iinc (v := nI (s1 + 1)) (lv' := [(5, .int (nI (s1 + 1))), (6, .int (nI (od q (jmBehind (le q) u9)))), (4, .int (nI (jmBehind (le q) u9))), (0, .ref (g 50)), (1, .int (nI w)), (2, .int (nI (w / 2))), (3, .int (nI q))]) hx hb dX0_walkBehind_114 hl (k := 6) rfl (jx_inc _) (by decide) rfl (fun ls hl => ?_)
            refine lv_goto (tgt := 43) hx hb dX0_walkBehind_117 (by decide) ?_
            exact ih43 (s1 + 1) (jmBehind (le q) u9) (by omega) (by omega) (by rw [hd, show le q - s1 = (le q - (s1 + 1)) + 1 by omega]; simp [jmWB, c51, c86]) (by omega) ls (lv_sub hl [3, 4, 5, 6, 2, 0] rfl)
          · have c86 := jB_1 c86
            refine lv_iconst (v := nI 2) hx hb dX0_walkBehind_89 (by decide) ?_
            refine lv_iload hx hb dX0_walkBehind_90 (lv_at hl 0 rfl) ?_
            refine lv_imul hx hb dX0_walkBehind_92 ?_
            refine jx_val (z := (nI (2 * (od q (jmBehind (le q) u9))))) (pk_mul _ _) ?_
            refine lv_aload_n hx hb dX0_walkBehind_93 rfl (lv_at hl 2 rfl) ?_
            refine va_get (D := D) (ci := 0) (v := .ref (g 0)) (C := RX0) (T := TX0) (N := 5) hx hb hts in_X0_walkBehind_0 hown hK hP 6 rfl rfl 0 (by decide) (hts (.fieldLink RX0 27 "Twincuts$Drawing" "web" "LTwincuts$Web;") (List.mem_of_getElem? (i := 1) (by decide +kernel))) (fun _ h9 => h9) rfl dX0_walkBehind_94 ?_
            refine va_getN (D := D) (ci := 5) (v := .ref (g 1)) (C := RX5) (T := TX5) (N := 8) hx hb hts in_X0_walkBehind_5 hown hK hP 0 rfl rfl 3 (by decide) (hN.use 18 rfl) (fun _ h9 => h9) rfl dX0_walkBehind_97 ?_
            refine lv_iload hx hb dX0_walkBehind_100 (lv_at hl 0 rfl) ?_
            refine jx_iald hx hb hK hP 1 0 rfl rfl (by omega) (by decide) dX0_walkBehind_102 ?_
            refine lv_iload_n hx hb dX0_walkBehind_103 rfl (lv_at hl 5 rfl) ?_
            refine lv_icmp_ne (tgt := 111) hx hb dX0_walkBehind_104 (by decide) (fun c104 => ?_) (fun c104 => ?_)
            · have c104 : sm (od q (jmBehind (le q) u9)) ≠ q := jx_ne c104
              refine lv_iconst (v := nI 1) hx hb dX0_walkBehind_111 (by decide) ?_
              refine lv_iadd hx hb dX0_walkBehind_112 ?_
              refine jx_val (z := (nI ((2 * (od q (jmBehind (le q) u9))) + 1))) (nI_add _ _) ?_
              exact hQ (nI ((2 * (od q (jmBehind (le q) u9))) + 1)) _ _ dX0_walkBehind_113 (by rw [hd, show le q - s1 = (le q - (s1 + 1)) + 1 by omega]; simp [jmWB, c86, c104])
            · have c104 : sm (od q (jmBehind (le q) u9)) = q := jx_e (by have := hgr _ hbo; omega) (by omega) c104
              refine lv_iconst (v := nI 0) hx hb dX0_walkBehind_107 (by decide) ?_
              refine lv_goto (tgt := 112) hx hb dX0_walkBehind_108 (by decide) ?_
              refine lv_iadd hx hb dX0_walkBehind_112 ?_
              refine jx_val (z := (nI ((2 * (od q (jmBehind (le q) u9))) + 0))) (nI_add _ _) ?_
              exact hQ (nI ((2 * (od q (jmBehind (le q) u9))) + 0)) _ _ dX0_walkBehind_113 (by rw [hd, show le q - s1 = (le q - (s1 + 1)) + 1 by omega]; simp [jmWB, c86, c104])
    have ev_2 : jmFind (fun k => od q k == (w / 2)) (le q) 0 = (jmFind (fun k => od q k == w / 2) (le q) 0) := by first | rfl | (simp [*]; done)
    exact L43 ((le q - 0) + 1) 0 (jmFind (fun k => od q k == w / 2) (le q) 0) (by omega) (Nat.lt_of_lt_of_le (jmFind_lt (N := 17) (by omega) (by omega)) (by decide)) rfl (Nat.lt_succ_self _) ls (by rw [← ev_2]; exact lv_sub hl [4, 5, 3, 2, 1, 0] rfl)
