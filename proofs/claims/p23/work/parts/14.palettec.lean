set_option maxRecDepth 20000 in
theorem in_X3_learn_3 : ∀ w ∈ wsX30, w ∈ wsX3_learn := by decide +kernel
set_option maxRecDepth 20000 in
theorem in_X3_learn_5 : ∀ w ∈ wsX50, w ∈ wsX3_learn := by decide +kernel
set_option maxHeartbeats 4000000 in
set_option maxRecDepth 100000 in
/-- learn() -/
theorem c_X3_learn (l : Launch) (D : va_G) (cI : ClassId) (g : Nat → Nat) (P n st : Nat) (sm gr co en la : Nat → Nat) (pk : Nat) (cl : Nat → Nat) (sz : Nat) (hw : jmWF P n st sm gr co en la) (hcl : ∀ j, j < 8 → cl j < 256) : jxWv l yX3_learn wsX3_learn ({ frames := 11, cells := 0, slots := 0, locals := 271 } : Room) D [(cI, .int)] (jW cI g P n st sm gr co en la ++ jP cI g pk cl) [.ref (g 40)] sz (jW cI g P n st sm gr co en la ++ jP cI g ((jmPe en la P n st pk (P + 1) 0 cl).1) ((jmPe en la P n st pk (P + 1) 0 cl).2)) := by
  refine jxw_enterV (by decide) rfl (Nat.le_of_ble_eq_true rfl) ?_
  intro p e s m args below meth c Q A ls hx hb hml hts hown hN hP hK hD hA hl hQ
  have hD0 := hD
  obtain ⟨H, hH⟩ : ∃ h, h = s.heap := ⟨_, rfl⟩
  have hS : va_S A s.heap H [] := by rw [hH]; exact va_S.rf
  rw [← hH] at hP ⊢
  obtain ⟨locs, hlocs⟩ : ∃ z : List Loc, z = [] := ⟨_, rfl⟩
  rw [← hlocs] at hS ⊢
  have hown : s.vm.findClass RX3 = some m.cls := hown
  have hl : lv_has ls 2 [(0, .ref (g 40))] := hl
  have hP8 : P ≤ 8 := hw.1
  have hn16 : n ≤ 16 := hw.2.1
  have hst : st < 65536 := jmWF_st hw
  have hen : ∀ j, j < n → en j < 256 := jmWF_en hw
  have hla : ∀ q, q < P → la q < 65536 := jmWF_la hw
  have hgr : ∀ j, j < n → sm j < 8 ∧ gr j < 8 := jmWF_gr hw
  have hco : ∀ j, j < n → co j < 21 := jmWF_co hw
  refine lv_iconst (v := nI 0) hx hb dX3_learn_0 (by decide) ?_
  refine lv_istore_n (lv' := [(1, .int (nI 0)), (0, .ref (g 40))]) hx hb dX3_learn_1 rfl hl (by decide) rfl (fun ls hl => ?_)
  have L2 : ∀ (k : Nat) (mo : Nat) (cl9 : Nat → Nat) (hmo : mo ≤ P + 1) (hcl9 : ∀ j, j < 8 → cl9 j < 256) (hd : jmPe en la P n st pk (P + 1) 0 cl = jmPe en la P n st pk (P + 1 - mo) mo cl9), P + 1 - mo < k → ∀ (H : Heap) (locs : List Loc), va_P D vwCl (jW cI g P n st sm gr co en la ++ jP cI g pk cl9) H → va_S A s.heap H locs → ∀ ls : Array Slot, lv_has ls 2 [(0, .ref (g 40)), (1, .int (nI mo))] → W p l e ({ frames := 11, cells := 0, slots := 0, locals := 271 } : Room) s m args below meth c H locs 0 0 Q (F0 m 2 ls []) := by
    intro k
    induction k with
    | zero => intro mo cl9 hmo hcl9 hd hk; exact absurd hk (Nat.not_lt_zero _)
    | succ k ih2 =>
      intro mo cl9 hmo hcl9 hd hk H locs hP hS ls hl
      have hD : va_D A (jW cI g P n st sm gr co en la ++ jP cI g pk cl9) := jxD hD0 rfl
      refine lv_iload_n hx hb dX3_learn_2 rfl (lv_at hl 1 rfl) ?_
      refine lv_aload_n hx hb dX3_learn_3 rfl (lv_at hl 0 rfl) ?_
      refine va_get (D := D) (ci := 3) (v := .ref (g 0)) (C := RX3) (T := TX3) (N := 3) hx hb hts in_X3_learn_3 hown hK hP 6 rfl rfl 0 (by decide) (hts (.fieldLink RX3 19 "Twincuts$Palette" "web" "LTwincuts$Web;") (List.mem_of_getElem? (i := 1) (by decide +kernel))) (fun _ h9 => h9) rfl dX3_learn_4 ?_
      refine va_getN (D := D) (ci := 5) (v := .int (nI P)) (C := RX5) (T := TX5) (N := 8) hx hb hts in_X3_learn_5 hown hK hP 0 rfl rfl 0 (by decide) (hN.use 1 rfl) (fun _ h9 => h9) rfl dX3_learn_7 ?_
      refine lv_icmp_gt (tgt := 35) hx hb dX3_learn_10 (by decide) (fun c10 => ?_) (fun c10 => ?_)
      · have c10 : P < mo := jx_lt (by omega) (by omega) c10
        have ev_1 : pk = (jmPe en la P n st pk (P + 1) 0 cl).1 := by first | (rw [hd, show P + 1 - mo = (P + 1 - (mo + 1)) + 1 by omega, jmPe_y c20]; done) | (rw [hd, show P + 1 - mo = 0 by omega]; rfl)
        have ev_2 : cl9 = (jmPe en la P n st pk (P + 1) 0 cl).2 := by first | (rw [hd, show P + 1 - mo = (P + 1 - (mo + 1)) + 1 by omega, jmPe_y c20]; done) | (rw [hd, show P + 1 - mo = 0 by omega]; rfl)
        exact hQ H locs _ _ dX3_learn_35 (by rw [← ev_1, ← ev_2]; exact hP) hS
      · have c10 : mo ≤ P := jx_nlt (by omega) (by omega) c10
        refine lv_aload_n hx hb dX3_learn_13 rfl (lv_at hl 0 rfl) ?_
        refine lv_iconst (v := nI 0) hx hb dX3_learn_14 (by decide) ?_
        refine lv_iconst (v := nI 0) hx hb dX3_learn_15 (by decide) ?_
        refine lv_iload_n hx hb dX3_learn_16 rfl (lv_at hl 1 rfl) ?_
        refine jxw_callVi (X := jW cI g P n st sm gr co en la ++ jP cI g pk cl9) (X' := jW cI g P n st sm gr co en la ++ jP cI g pk ((jmPa en la P n st mo P 0 cl9).2)) (wc := jW cI g P n st sm gr co en la ++ jP cI g pk cl9) (wc' := jW cI g P n st sm gr co en la ++ jP cI g pk ((jmPa en la P n st mo P 0 cl9).2)) (wr := []) (N := 8) (As := [.int (nI 0), .int (nI 0), .int (nI mo)]) (rest := []) ⟨hx, hb, hml, hown, hts⟩ (c_X3_paintsFrom l D cI g P n st sm gr co en la pk hw mo (by omega) P 0 0 cl9 H.size (by omega) (by omega) hcl9) (cwV 3 hts gX3_learn_X3_paintsFrom rfl rfl rfl (by decide +kernel) ⟨by simp only [jmRm]; omega, by simp only [jmRm]; omega⟩) hN hP hD (hK.sub (tys' := [(cI, .int)]) [0] rfl) hS hA [0, 1, 2, 3, 4, 5, 6, 7] [] rfl rfl rfl rfl rfl rfl (by decide) (by decide) 6 3 rfl rfl rfl (hK.sub (tys' := [(cI, .int)]) [0] rfl) rfl hl.1 rfl (Nat.le_of_ble_eq_true rfl) dX3_learn_17 ⟨Nat.zero_le _, Nat.zero_le _⟩ (fun r H locs hr hP hS => ?_)
        have hD : va_D A (jW cI g P n st sm gr co en la ++ jP cI g pk ((jmPa en la P n st mo P 0 cl9).2)) := jxD hD0 rfl
        subst hr
        refine lv_if_eq (tgt := 29) hx hb dX3_learn_20 (by decide) (fun c20 => ?_) (fun c20 => ?_)
        · have c20 := jB_0 c20
          refine lv_iinc (v := nI (mo + 1)) (lv' := [(1, .int (nI (mo + 1))), (0, .ref (g 40))]) hx hb dX3_learn_29 hl (k := 1) rfl (jx_inc _) (by decide) rfl (fun ls hl => ?_)
          refine lv_goto (tgt := 2) hx hb dX3_learn_32 (by decide) ?_
          exact ih2 (mo + 1) ((jmPa en la P n st mo P 0 cl9).2) (by omega) (jmPa_lt (by omega) P 0 cl9 (by omega) hcl9) (by rw [hd, show P + 1 - mo = (P + 1 - (mo + 1)) + 1 by omega, jmPe_n c20]) (by omega) H locs hP hS ls (lv_sub hl [1, 0] rfl)
        · have c20 := jB_1 c20
          refine lv_aload_n hx hb dX3_learn_23 rfl (lv_at hl 0 rfl) ?_
          refine lv_iload_n hx hb dX3_learn_24 rfl (lv_at hl 1 rfl) ?_
          refine va_put (D := D) (ci := 3) (v := .int (nI mo)) (ty := .int) (C := RX3) (T := TX3) (N := 3) hx hb hts in_X3_learn_3 tyX3 tyX3_ok nmX3 hown hK hP hD hS 6 rfl rfl 1 (by decide) (hts (.fieldLink RX3 9 "Twincuts$Palette" "colours" "I") (List.mem_of_getElem? (i := 2) (by decide +kernel))) (fun _ h9 => h9) rfl (by decide +kernel) rfl rfl (Nat.le_of_ble_eq_true rfl) dX3_learn_25 (fun H locs hP hD hS => ?_)
          have hP : va_P D vwCl (jW cI g P n st sm gr co en la ++ jP cI g mo ((jmPa en la P n st mo P 0 cl9).2)) H := hP
          have hD : va_D A (jW cI g P n st sm gr co en la ++ jP cI g mo ((jmPa en la P n st mo P 0 cl9).2)) := jxD hD0 rfl
          have ev_3 : mo = (jmPe en la P n st pk (P + 1) 0 cl).1 := by first | (rw [hd, show P + 1 - mo = (P + 1 - (mo + 1)) + 1 by omega, jmPe_y c20]; done) | (rw [hd, show P + 1 - mo = 0 by omega]; rfl)
          have ev_4 : (jmPa en la P n st mo P 0 cl9).2 = (jmPe en la P n st pk (P + 1) 0 cl).2 := by first | (rw [hd, show P + 1 - mo = (P + 1 - (mo + 1)) + 1 by omega, jmPe_y c20]; done) | (rw [hd, show P + 1 - mo = 0 by omega]; rfl)
          exact hQ H locs _ _ dX3_learn_28 (by rw [← ev_3, ← ev_4]; exact hP) hS
  exact L2 ((P + 1 - 0) + 1) 0 cl (by omega) hcl rfl (Nat.lt_succ_self _) H locs hP hS ls (lv_sub hl [1, 0] rfl)
