set_option maxRecDepth 20000 in
theorem in_X2_takeCheapest_2 : ∀ w ∈ wsX20, w ∈ wsX2_takeCheapest := by decide +kernel
set_option maxRecDepth 20000 in
theorem in_X2_takeCheapest_5 : ∀ w ∈ wsX50, w ∈ wsX2_takeCheapest := by decide +kernel
set_option maxHeartbeats 4000000 in
set_option maxRecDepth 100000 in
/-- takeCheapest() -/
theorem c_X2_takeCheapest (l : Launch) (D : va_G) (cI : ClassId) (cM : ClassId) (g : Nat → Nat) (P n st : Nat) (sm gr co en la : Nat → Nat) (rt : Nat → Nat) (cs : Nat) (ct : Int32) (jo : Nat → Nat) (sz : Nat) (hw : jmWF P n st sm gr co en la) (hjo : ∀ j, j < 8 → jo j < 256) (hcs : cs < 65536) : jxWv l yX2_takeCheapest wsX2_takeCheapest ({ frames := 2, cells := 0, slots := 0, locals := 45 } : Room) D [(cI, .int), (cM, .array .long)] (jW cI g P n st sm gr co en la ++ jT cI cM g rt cs ct jo) [.ref (g 30)] sz (jW cI g P n st sm gr co en la ++ jT cI cM g rt ((jmTCo sm gr co P n st (cs, nI 0, jmPw jo P) 20).1) ((jmTCo sm gr co P n st (cs, nI 0, jmPw jo P) 20).2.1) ((jmTCo sm gr co P n st (cs, nI 0, jmPw jo P) 20).2.2)) := by
  refine jxw_enterV (by decide) rfl (Nat.le_of_ble_eq_true rfl) ?_
  intro p e s m args below meth c Q A ls hx hb hml hts hown hN hP hK hD hA hl hQ
  have hD0 := hD
  obtain ⟨H, hH⟩ : ∃ h, h = s.heap := ⟨_, rfl⟩
  have hS : va_S A s.heap H [] := by rw [hH]; exact va_S.rf
  rw [← hH] at hP ⊢
  obtain ⟨locs, hlocs⟩ : ∃ z : List Loc, z = [] := ⟨_, rfl⟩
  rw [← hlocs] at hS ⊢
  have hown : s.vm.findClass RX2 = some m.cls := hown
  have hl : lv_has ls 3 [(0, .ref (g 30))] := hl
  have hP8 : P ≤ 8 := hw.1
  have hn16 : n ≤ 16 := hw.2.1
  have hst : st < 65536 := jmWF_st hw
  have hen : ∀ j, j < n → en j < 256 := jmWF_en hw
  have hla : ∀ q, q < P → la q < 65536 := jmWF_la hw
  have hgr : ∀ j, j < n → sm j < 8 ∧ gr j < 8 := jmWF_gr hw
  have hco : ∀ j, j < n → co j < 21 := jmWF_co hw
  refine lv_aload_n hx hb dX2_takeCheapest_0 rfl (lv_at hl 0 rfl) ?_
  refine lv_iconst (v := nI 0) hx hb dX2_takeCheapest_1 (by decide) ?_
  refine va_put (D := D) (ci := 2) (v := .int (nI 0)) (ty := .int) (C := RX2) (T := TX2) (N := 5) hx hb hts in_X2_takeCheapest_2 tyX2 tyX2_ok nmX2 hown hK hP hD hS 6 rfl rfl 3 (by decide) (hts (.fieldLink RX2 20 "Twincuts$Forest" "cheapestCost" "I") (List.mem_of_getElem? (i := 1) (by decide +kernel))) (fun _ h9 => h9) rfl (by decide +kernel) rfl rfl (Nat.le_of_ble_eq_true rfl) dX2_takeCheapest_2 (fun H locs hP hD hS => ?_)
  have hP : va_P D vwCl (jW cI g P n st sm gr co en la ++ jT cI cM g rt cs (nI 0) jo) H := hP
  have hD : va_D A (jW cI g P n st sm gr co en la ++ jT cI cM g rt cs (nI 0) jo) := jxD hD0 rfl
  refine lv_iconst (v := nI 0) hx hb dX2_takeCheapest_5 (by decide) ?_
  refine lv_istore_n (lv' := [(1, .int (nI 0)), (0, .ref (g 30))]) hx hb dX2_takeCheapest_6 rfl hl (by decide) rfl (fun ls hl => ?_)
  have L7 : ∀ (k : Nat) (q : Nat) (hq : q ≤ P), P - q < k → ∀ (H : Heap) (locs : List Loc), va_P D vwCl (jW cI g P n st sm gr co en la ++ jT cI cM g rt cs (nI 0) (jmPw jo q)) H → va_S A s.heap H locs → ∀ ls : Array Slot, lv_has ls 3 [(0, .ref (g 30)), (1, .int (nI q))] → W p l e ({ frames := 2, cells := 0, slots := 0, locals := 45 } : Room) s m args below meth c H locs 0 0 Q (F0 m 7 ls []) := by
    intro k
    induction k with
    | zero => intro q hq hk; exact absurd hk (Nat.not_lt_zero _)
    | succ k ih7 =>
      intro q hq hk H locs hP hS ls hl
      have hD : va_D A (jW cI g P n st sm gr co en la ++ jT cI cM g rt cs (nI 0) (jmPw jo q)) := jxD hD0 rfl
      refine lv_iload_n hx hb dX2_takeCheapest_7 rfl (lv_at hl 1 rfl) ?_
      refine lv_aload_n hx hb dX2_takeCheapest_8 rfl (lv_at hl 0 rfl) ?_
      refine va_get (D := D) (ci := 2) (v := .ref (g 0)) (C := RX2) (T := TX2) (N := 5) hx hb hts in_X2_takeCheapest_2 hown hK hP 6 rfl rfl 0 (by decide) (hts (.fieldLink RX2 27 "Twincuts$Forest" "web" "LTwincuts$Web;") (List.mem_of_getElem? (i := 2) (by decide +kernel))) (fun _ h9 => h9) rfl dX2_takeCheapest_9 ?_
      refine va_getN (D := D) (ci := 5) (v := .int (nI P)) (C := RX5) (T := TX5) (N := 8) hx hb hts in_X2_takeCheapest_5 hown hK hP 0 rfl rfl 0 (by decide) (hN.use 3 rfl) (fun _ h9 => h9) rfl dX2_takeCheapest_12 ?_
      refine lv_icmp_ge (tgt := 33) hx hb dX2_takeCheapest_15 (by decide) (fun c15 => ?_) (fun c15 => ?_)
      · have c15 : P ≤ q := jx_le (by omega) (by omega) c15
        have es_33 : P = q := (by omega)
        subst es_33
        refine lv_iconst (v := nI 1) hx hb dX2_takeCheapest_33 (by decide) ?_
        refine lv_istore_n (lv' := [(1, .int (nI 1)), (0, .ref (g 30))]) hx hb dX2_takeCheapest_34 rfl hl (by decide) rfl (fun ls hl => ?_)
        have L35 : ∀ (k : Nat) (c1 : Nat) (hc1 : c1 ≤ 20), 20 - c1 < k → ∀ (H : Heap) (locs : List Loc), va_P D vwCl (jW cI g P n st sm gr co en la ++ jT cI cM g rt ((jmTCo sm gr co P n st (cs, nI 0, jmPw jo P) c1).1) ((jmTCo sm gr co P n st (cs, nI 0, jmPw jo P) c1).2.1) ((jmTCo sm gr co P n st (cs, nI 0, jmPw jo P) c1).2.2)) H → va_S A s.heap H locs → ∀ ls : Array Slot, lv_has ls 3 [(0, .ref (g 30)), (1, .int (nI (c1 + 1)))] → W p l e ({ frames := 2, cells := 0, slots := 0, locals := 45 } : Room) s m args below meth c H locs 0 0 Q (F0 m 35 ls []) := by
          intro k
          induction k with
          | zero => intro c1 hc1 hk; exact absurd hk (Nat.not_lt_zero _)
          | succ k ih35 =>
            intro c1 hc1 hk H locs hP hS ls hl
            have hD : va_D A (jW cI g P n st sm gr co en la ++ jT cI cM g rt ((jmTCo sm gr co P n st (cs, nI 0, jmPw jo P) c1).1) ((jmTCo sm gr co P n st (cs, nI 0, jmPw jo P) c1).2.1) ((jmTCo sm gr co P n st (cs, nI 0, jmPw jo P) c1).2.2)) := jxD hD0 rfl
            have hK1 := jmTCo_ok (co := co) (P := P) (st := st) (t := (cs, nI 0, jmPw jo P)) ⟨hcs, jmPw_lt hjo⟩ hn16 hgr c1
            refine lv_iload_n hx hb dX2_takeCheapest_35 rfl (lv_at hl 1 rfl) ?_
            refine lv_bipush (v := nI 20) hx hb dX2_takeCheapest_36 (by decide) ?_
            refine lv_icmp_gt (tgt := 98) hx hb dX2_takeCheapest_38 (by decide) (fun c38 => ?_) (fun c38 => ?_)
            · have c38 : 20 < c1 + 1 := jx_lt (by decide) (by omega) c38
              have es_98 : 20 = c1 := (by omega)
              subst es_98
              exact hQ H locs _ _ dX2_takeCheapest_98 hP hS
            · have c38 : c1 + 1 ≤ 20 := jx_nlt (by decide) (by omega) c38
              refine lv_iconst (v := nI 0) hx hb dX2_takeCheapest_41 (by decide) ?_
              refine lv_istore_n (lv' := [(2, .int (nI 0)), (0, .ref (g 30)), (1, .int (nI (c1 + 1)))]) hx hb dX2_takeCheapest_42 rfl hl (by decide) rfl (fun ls hl => ?_)
              have L43 : ∀ (k : Nat) (ln : Nat) (hln : ln ≤ n), n - ln < k → ∀ (H : Heap) (locs : List Loc), va_P D vwCl (jW cI g P n st sm gr co en la ++ jT cI cM g rt ((jmTC sm gr co P st (c1 + 1) (jmTCo sm gr co P n st (cs, nI 0, jmPw jo P) c1) ln).1) ((jmTC sm gr co P st (c1 + 1) (jmTCo sm gr co P n st (cs, nI 0, jmPw jo P) c1) ln).2.1) ((jmTC sm gr co P st (c1 + 1) (jmTCo sm gr co P n st (cs, nI 0, jmPw jo P) c1) ln).2.2)) H → va_S A s.heap H locs → ∀ ls : Array Slot, lv_has ls 3 [(0, .ref (g 30)), (1, .int (nI (c1 + 1))), (2, .int (nI ln))] → W p l e ({ frames := 2, cells := 0, slots := 0, locals := 45 } : Room) s m args below meth c H locs 0 0 Q (F0 m 43 ls []) := by
                intro k
                induction k with
                | zero => intro ln hln hk; exact absurd hk (Nat.not_lt_zero _)
                | succ k ih43 =>
                  intro ln hln hk H locs hP hS ls hl
                  have hD : va_D A (jW cI g P n st sm gr co en la ++ jT cI cM g rt ((jmTC sm gr co P st (c1 + 1) (jmTCo sm gr co P n st (cs, nI 0, jmPw jo P) c1) ln).1) ((jmTC sm gr co P st (c1 + 1) (jmTCo sm gr co P n st (cs, nI 0, jmPw jo P) c1) ln).2.1) ((jmTC sm gr co P st (c1 + 1) (jmTCo sm gr co P n st (cs, nI 0, jmPw jo P) c1) ln).2.2)) := jxD hD0 rfl
                  have hK2 := jmTC_ok (co := co) (P := P) (st := st) (c := c1 + 1) hK1 hn16 hgr ln hln
                  refine lv_iload_n hx hb dX2_takeCheapest_43 rfl (lv_at hl 2 rfl) ?_
                  refine lv_aload_n hx hb dX2_takeCheapest_44 rfl (lv_at hl 0 rfl) ?_
                  refine va_get (D := D) (ci := 2) (v := .ref (g 0)) (C := RX2) (T := TX2) (N := 5) hx hb hts in_X2_takeCheapest_2 hown hK hP 6 rfl rfl 0 (by decide) (hts (.fieldLink RX2 27 "Twincuts$Forest" "web" "LTwincuts$Web;") (List.mem_of_getElem? (i := 2) (by decide +kernel))) (fun _ h9 => h9) rfl dX2_takeCheapest_45 ?_
                  refine va_getN (D := D) (ci := 5) (v := .int (nI n)) (C := RX5) (T := TX5) (N := 8) hx hb hts in_X2_takeCheapest_5 hown hK hP 0 rfl rfl 1 (by decide) (hN.use 9 rfl) (fun _ h9 => h9) rfl dX2_takeCheapest_48 ?_
                  refine lv_icmp_ge (tgt := 92) hx hb dX2_takeCheapest_51 (by decide) (fun c51 => ?_) (fun c51 => ?_)
                  · have c51 : n ≤ ln := jx_le (by omega) (by omega) c51
                    have es_92 : n = ln := (by omega)
                    subst es_92
                    refine lv_iinc (v := nI (c1 + 1 + 1)) (lv' := [(1, .int (nI (c1 + 1 + 1))), (0, .ref (g 30)), (2, .int (nI n))]) hx hb dX2_takeCheapest_92 hl (k := 1) rfl (jx_inc _) (by decide) rfl (fun ls hl => ?_)
                    refine lv_goto (tgt := 35) hx hb dX2_takeCheapest_95 (by decide) ?_
                    have ev_1 : c1 + 1 + 1 = (c1 + 1) + 1 := by first | rfl | (simp [*]; done)
                    have ew_2 : (jmTC sm gr co P st (c1 + 1) (jmTCo sm gr co P n st (cs, nI 0, jmPw jo P) c1) n).1 = (jmTCo sm gr co P n st (cs, nI 0, jmPw jo P) (c1 + 1)).1 := by rfl
                    have ew_3 : (jmTC sm gr co P st (c1 + 1) (jmTCo sm gr co P n st (cs, nI 0, jmPw jo P) c1) n).2.1 = (jmTCo sm gr co P n st (cs, nI 0, jmPw jo P) (c1 + 1)).2.1 := by rfl
                    have ew_4 : (jmTC sm gr co P st (c1 + 1) (jmTCo sm gr co P n st (cs, nI 0, jmPw jo P) c1) n).2.2 = (jmTCo sm gr co P n st (cs, nI 0, jmPw jo P) (c1 + 1)).2.2 := by rfl
                    exact ih35 (c1 + 1) (by omega) (by omega) H locs (by rw [← ew_2, ← ew_3, ← ew_4]; exact hP) hS ls (by rw [← ev_1]; exact lv_sub hl [1, 0] rfl)
                  · have c51 : ln < n := jx_nle (by omega) (by omega) c51
                    refine lv_aload_n hx hb dX2_takeCheapest_54 rfl (lv_at hl 0 rfl) ?_
                    refine va_get (D := D) (ci := 2) (v := .ref (g 0)) (C := RX2) (T := TX2) (N := 5) hx hb hts in_X2_takeCheapest_2 hown hK hP 6 rfl rfl 0 (by decide) (hts (.fieldLink RX2 27 "Twincuts$Forest" "web" "LTwincuts$Web;") (List.mem_of_getElem? (i := 2) (by decide +kernel))) (fun _ h9 => h9) rfl dX2_takeCheapest_55 ?_
                    refine va_getN (D := D) (ci := 5) (v := .int (nI st)) (C := RX5) (T := TX5) (N := 8) hx hb hts in_X2_takeCheapest_5 hown hK hP 0 rfl rfl 2 (by decide) (hN.use 12 rfl) (fun _ h9 => h9) rfl dX2_takeCheapest_58 ?_
                    refine lv_iload_n hx hb dX2_takeCheapest_61 rfl (lv_at hl 2 rfl) ?_
                    refine jx_callSN (As := [.int (nI st), .int (nI ln)]) (rest := []) ⟨hx, hb, hml, hown, hts⟩ (c_X6_has l D st ln (by omega) (by omega)) (va_cnB 2 hts gX2_takeCheapest_X6_has_n50 rfl rfl rfl (hN.get 42 rfl) (hts (.initialized RX6) (List.mem_of_getElem? (i := 5) (by decide +kernel))) (by decide +kernel) ⟨Nat.le_of_ble_eq_true rfl, Nat.le_of_ble_eq_true rfl⟩) (hts (.static yX6_has) (List.mem_of_getElem? (i := 4) (by decide +kernel))) hN (hP.sub (ws' := []) [] rfl) (hK.sub (tys' := []) [] rfl) rfl hl.1 rfl (Nat.le_of_ble_eq_true rfl) dX2_takeCheapest_62 ⟨Nat.zero_le _, Nat.zero_le _⟩ (fun r hr => ?_)
                    subst hr
                    refine lv_if_eq (tgt := 86) hx hb dX2_takeCheapest_65 (by decide) (fun c65 => ?_) (fun c65 => ?_)
                    · have c65 := jB_0 c65
                      refine lv_iinc (v := nI (ln + 1)) (lv' := [(2, .int (nI (ln + 1))), (0, .ref (g 30)), (1, .int (nI (c1 + 1)))]) hx hb dX2_takeCheapest_86 hl (k := 2) rfl (jx_inc _) (by decide) rfl (fun ls hl => ?_)
                      refine lv_goto (tgt := 43) hx hb dX2_takeCheapest_89 (by decide) ?_
                      have ew_5 : (jmTC sm gr co P st (c1 + 1) (jmTCo sm gr co P n st (cs, nI 0, jmPw jo P) c1) ln).1 = (jmTC sm gr co P st (c1 + 1) (jmTCo sm gr co P n st (cs, nI 0, jmPw jo P) c1) (ln + 1)).1 := by first | exact congrArg (fun z : jmK => z.1) (jmTC_y c65 c78) | exact congrArg (fun z : jmK => z.1) (jmTC_n1 c65) | exact congrArg (fun z : jmK => z.1) (jmTC_n2 c78)
                      have ew_6 : (jmTC sm gr co P st (c1 + 1) (jmTCo sm gr co P n st (cs, nI 0, jmPw jo P) c1) ln).2.1 = (jmTC sm gr co P st (c1 + 1) (jmTCo sm gr co P n st (cs, nI 0, jmPw jo P) c1) (ln + 1)).2.1 := by first | exact congrArg (fun z : jmK => z.2.1) (jmTC_y c65 c78) | exact congrArg (fun z : jmK => z.2.1) (jmTC_n1 c65) | exact congrArg (fun z : jmK => z.2.1) (jmTC_n2 c78)
                      have ew_7 : (jmTC sm gr co P st (c1 + 1) (jmTCo sm gr co P n st (cs, nI 0, jmPw jo P) c1) ln).2.2 = (jmTC sm gr co P st (c1 + 1) (jmTCo sm gr co P n st (cs, nI 0, jmPw jo P) c1) (ln + 1)).2.2 := by first | exact congrArg (fun z : jmK => z.2.2) (jmTC_y c65 c78) | exact congrArg (fun z : jmK => z.2.2) (jmTC_n1 c65) | exact congrArg (fun z : jmK => z.2.2) (jmTC_n2 c78)
                      exact ih43 (ln + 1) (by omega) (by omega) H locs (by rw [← ew_5, ← ew_6, ← ew_7]; exact hP) hS ls (lv_sub hl [1, 2, 0] rfl)
                    · have c65 := jB_1 c65
                      refine lv_aload_n hx hb dX2_takeCheapest_68 rfl (lv_at hl 0 rfl) ?_
                      refine va_get (D := D) (ci := 2) (v := .ref (g 0)) (C := RX2) (T := TX2) (N := 5) hx hb hts in_X2_takeCheapest_2 hown hK hP 6 rfl rfl 0 (by decide) (hts (.fieldLink RX2 27 "Twincuts$Forest" "web" "LTwincuts$Web;") (List.mem_of_getElem? (i := 2) (by decide +kernel))) (fun _ h9 => h9) rfl dX2_takeCheapest_69 ?_
                      refine va_getN (D := D) (ci := 5) (v := .ref (g 3)) (C := RX5) (T := TX5) (N := 8) hx hb hts in_X2_takeCheapest_5 hown hK hP 0 rfl rfl 5 (by decide) (hN.use 25 rfl) (fun _ h9 => h9) rfl dX2_takeCheapest_72 ?_
                      refine lv_iload_n hx hb dX2_takeCheapest_75 rfl (lv_at hl 2 rfl) ?_
                      refine jx_iald hx hb hK hP 3 0 rfl rfl (by omega) (by decide) dX2_takeCheapest_76 ?_
                      refine lv_iload_n hx hb dX2_takeCheapest_77 rfl (lv_at hl 1 rfl) ?_
                      refine lv_icmp_ne (tgt := 86) hx hb dX2_takeCheapest_78 (by decide) (fun c78 => ?_) (fun c78 => ?_)
                      · have c78 : co ln ≠ c1 + 1 := jx_ne c78
                        refine lv_iinc (v := nI (ln + 1)) (lv' := [(2, .int (nI (ln + 1))), (0, .ref (g 30)), (1, .int (nI (c1 + 1)))]) hx hb dX2_takeCheapest_86 hl (k := 2) rfl (jx_inc _) (by decide) rfl (fun ls hl => ?_)
                        refine lv_goto (tgt := 43) hx hb dX2_takeCheapest_89 (by decide) ?_
                        have ew_8 : (jmTC sm gr co P st (c1 + 1) (jmTCo sm gr co P n st (cs, nI 0, jmPw jo P) c1) ln).1 = (jmTC sm gr co P st (c1 + 1) (jmTCo sm gr co P n st (cs, nI 0, jmPw jo P) c1) (ln + 1)).1 := by first | exact congrArg (fun z : jmK => z.1) (jmTC_y c65 c78) | exact congrArg (fun z : jmK => z.1) (jmTC_n1 c65) | exact congrArg (fun z : jmK => z.1) (jmTC_n2 c78)
                        have ew_9 : (jmTC sm gr co P st (c1 + 1) (jmTCo sm gr co P n st (cs, nI 0, jmPw jo P) c1) ln).2.1 = (jmTC sm gr co P st (c1 + 1) (jmTCo sm gr co P n st (cs, nI 0, jmPw jo P) c1) (ln + 1)).2.1 := by first | exact congrArg (fun z : jmK => z.2.1) (jmTC_y c65 c78) | exact congrArg (fun z : jmK => z.2.1) (jmTC_n1 c65) | exact congrArg (fun z : jmK => z.2.1) (jmTC_n2 c78)
                        have ew_10 : (jmTC sm gr co P st (c1 + 1) (jmTCo sm gr co P n st (cs, nI 0, jmPw jo P) c1) ln).2.2 = (jmTC sm gr co P st (c1 + 1) (jmTCo sm gr co P n st (cs, nI 0, jmPw jo P) c1) (ln + 1)).2.2 := by first | exact congrArg (fun z : jmK => z.2.2) (jmTC_y c65 c78) | exact congrArg (fun z : jmK => z.2.2) (jmTC_n1 c65) | exact congrArg (fun z : jmK => z.2.2) (jmTC_n2 c78)
                        exact ih43 (ln + 1) (by omega) (by omega) H locs (by rw [← ew_8, ← ew_9, ← ew_10]; exact hP) hS ls (lv_sub hl [1, 2, 0] rfl)
                      · have c78 : co ln = c1 + 1 := jx_e (by have := hco ln (by omega); omega) (by omega) c78
                        refine lv_aload_n hx hb dX2_takeCheapest_81 rfl (lv_at hl 0 rfl) ?_
                        refine lv_iload_n hx hb dX2_takeCheapest_82 rfl (lv_at hl 2 rfl) ?_
                        refine jxw_callV (X := jW cI g P n st sm gr co en la ++ jT cI cM g rt ((jmTC sm gr co P st (c1 + 1) (jmTCo sm gr co P n st (cs, nI 0, jmPw jo P) c1) ln).1) ((jmTC sm gr co P st (c1 + 1) (jmTCo sm gr co P n st (cs, nI 0, jmPw jo P) c1) ln).2.1) ((jmTC sm gr co P st (c1 + 1) (jmTCo sm gr co P n st (cs, nI 0, jmPw jo P) c1) ln).2.2)) (X' := jW cI g P n st sm gr co en la ++ jT cI cM g rt ((jmTk sm gr co P ((jmTC sm gr co P st (c1 + 1) (jmTCo sm gr co P n st (cs, nI 0, jmPw jo P) c1) ln).1, (jmTC sm gr co P st (c1 + 1) (jmTCo sm gr co P n st (cs, nI 0, jmPw jo P) c1) ln).2.1, (jmTC sm gr co P st (c1 + 1) (jmTCo sm gr co P n st (cs, nI 0, jmPw jo P) c1) ln).2.2) ln).1) ((jmTk sm gr co P ((jmTC sm gr co P st (c1 + 1) (jmTCo sm gr co P n st (cs, nI 0, jmPw jo P) c1) ln).1, (jmTC sm gr co P st (c1 + 1) (jmTCo sm gr co P n st (cs, nI 0, jmPw jo P) c1) ln).2.1, (jmTC sm gr co P st (c1 + 1) (jmTCo sm gr co P n st (cs, nI 0, jmPw jo P) c1) ln).2.2) ln).2.1) ((jmTk sm gr co P ((jmTC sm gr co P st (c1 + 1) (jmTCo sm gr co P n st (cs, nI 0, jmPw jo P) c1) ln).1, (jmTC sm gr co P st (c1 + 1) (jmTCo sm gr co P n st (cs, nI 0, jmPw jo P) c1) ln).2.1, (jmTC sm gr co P st (c1 + 1) (jmTCo sm gr co P n st (cs, nI 0, jmPw jo P) c1) ln).2.2) ln).2.2)) (wc := jW cI g P n st sm gr co en la ++ jT cI cM g rt ((jmTC sm gr co P st (c1 + 1) (jmTCo sm gr co P n st (cs, nI 0, jmPw jo P) c1) ln).1) ((jmTC sm gr co P st (c1 + 1) (jmTCo sm gr co P n st (cs, nI 0, jmPw jo P) c1) ln).2.1) ((jmTC sm gr co P st (c1 + 1) (jmTCo sm gr co P n st (cs, nI 0, jmPw jo P) c1) ln).2.2)) (wc' := jW cI g P n st sm gr co en la ++ jT cI cM g rt ((jmTk sm gr co P ((jmTC sm gr co P st (c1 + 1) (jmTCo sm gr co P n st (cs, nI 0, jmPw jo P) c1) ln).1, (jmTC sm gr co P st (c1 + 1) (jmTCo sm gr co P n st (cs, nI 0, jmPw jo P) c1) ln).2.1, (jmTC sm gr co P st (c1 + 1) (jmTCo sm gr co P n st (cs, nI 0, jmPw jo P) c1) ln).2.2) ln).1) ((jmTk sm gr co P ((jmTC sm gr co P st (c1 + 1) (jmTCo sm gr co P n st (cs, nI 0, jmPw jo P) c1) ln).1, (jmTC sm gr co P st (c1 + 1) (jmTCo sm gr co P n st (cs, nI 0, jmPw jo P) c1) ln).2.1, (jmTC sm gr co P st (c1 + 1) (jmTCo sm gr co P n st (cs, nI 0, jmPw jo P) c1) ln).2.2) ln).2.1) ((jmTk sm gr co P ((jmTC sm gr co P st (c1 + 1) (jmTCo sm gr co P n st (cs, nI 0, jmPw jo P) c1) ln).1, (jmTC sm gr co P st (c1 + 1) (jmTCo sm gr co P n st (cs, nI 0, jmPw jo P) c1) ln).2.1, (jmTC sm gr co P st (c1 + 1) (jmTCo sm gr co P n st (cs, nI 0, jmPw jo P) c1) ln).2.2) ln).2.2)) (wr := []) (N := 9) (As := [.int (nI ln)]) (rest := []) ⟨hx, hb, hml, hown, hts⟩ (c_X2_takeIfNew l D cI cM g P n st sm gr co en la rt ((jmTC sm gr co P st (c1 + 1) (jmTCo sm gr co P n st (cs, nI 0, jmPw jo P) c1) ln).1) ((jmTC sm gr co P st (c1 + 1) (jmTCo sm gr co P n st (cs, nI 0, jmPw jo P) c1) ln).2.1) ((jmTC sm gr co P st (c1 + 1) (jmTCo sm gr co P n st (cs, nI 0, jmPw jo P) c1) ln).2.2) H.size hw ln (by omega) hK2.2 hK2.1) (cwV 1 hts gX2_takeCheapest_X2_takeIfNew rfl rfl rfl (by decide +kernel) ⟨Nat.le_of_ble_eq_true rfl, Nat.le_of_ble_eq_true rfl⟩) hN hP hD (hK.sub (tys' := [(cI, .int), (cM, .array .long)]) [0, 1] rfl) hS hA [0, 1, 2, 3, 4, 5, 6, 7, 8] [] rfl rfl rfl rfl rfl rfl (by decide) (by decide) 6 2 rfl rfl rfl (hK.sub (tys' := [(cI, .int), (cM, .array .long)]) [0, 1] rfl) rfl hl.1 rfl (Nat.le_of_ble_eq_true rfl) dX2_takeCheapest_83 ⟨Nat.zero_le _, Nat.zero_le _⟩ (fun H locs hP hS => ?_)
                        have hD : va_D A (jW cI g P n st sm gr co en la ++ jT cI cM g rt ((jmTk sm gr co P ((jmTC sm gr co P st (c1 + 1) (jmTCo sm gr co P n st (cs, nI 0, jmPw jo P) c1) ln).1, (jmTC sm gr co P st (c1 + 1) (jmTCo sm gr co P n st (cs, nI 0, jmPw jo P) c1) ln).2.1, (jmTC sm gr co P st (c1 + 1) (jmTCo sm gr co P n st (cs, nI 0, jmPw jo P) c1) ln).2.2) ln).1) ((jmTk sm gr co P ((jmTC sm gr co P st (c1 + 1) (jmTCo sm gr co P n st (cs, nI 0, jmPw jo P) c1) ln).1, (jmTC sm gr co P st (c1 + 1) (jmTCo sm gr co P n st (cs, nI 0, jmPw jo P) c1) ln).2.1, (jmTC sm gr co P st (c1 + 1) (jmTCo sm gr co P n st (cs, nI 0, jmPw jo P) c1) ln).2.2) ln).2.1) ((jmTk sm gr co P ((jmTC sm gr co P st (c1 + 1) (jmTCo sm gr co P n st (cs, nI 0, jmPw jo P) c1) ln).1, (jmTC sm gr co P st (c1 + 1) (jmTCo sm gr co P n st (cs, nI 0, jmPw jo P) c1) ln).2.1, (jmTC sm gr co P st (c1 + 1) (jmTCo sm gr co P n st (cs, nI 0, jmPw jo P) c1) ln).2.2) ln).2.2)) := jxD hD0 rfl
                        refine lv_iinc (v := nI (ln + 1)) (lv' := [(2, .int (nI (ln + 1))), (0, .ref (g 30)), (1, .int (nI (c1 + 1)))]) hx hb dX2_takeCheapest_86 hl (k := 2) rfl (jx_inc _) (by decide) rfl (fun ls hl => ?_)
                        refine lv_goto (tgt := 43) hx hb dX2_takeCheapest_89 (by decide) ?_
                        have ew_11 : (jmTk sm gr co P ((jmTC sm gr co P st (c1 + 1) (jmTCo sm gr co P n st (cs, nI 0, jmPw jo P) c1) ln).1, (jmTC sm gr co P st (c1 + 1) (jmTCo sm gr co P n st (cs, nI 0, jmPw jo P) c1) ln).2.1, (jmTC sm gr co P st (c1 + 1) (jmTCo sm gr co P n st (cs, nI 0, jmPw jo P) c1) ln).2.2) ln).1 = (jmTC sm gr co P st (c1 + 1) (jmTCo sm gr co P n st (cs, nI 0, jmPw jo P) c1) (ln + 1)).1 := by first | exact congrArg (fun z : jmK => z.1) (jmTC_y c65 c78) | exact congrArg (fun z : jmK => z.1) (jmTC_n1 c65) | exact congrArg (fun z : jmK => z.1) (jmTC_n2 c78)
                        have ew_12 : (jmTk sm gr co P ((jmTC sm gr co P st (c1 + 1) (jmTCo sm gr co P n st (cs, nI 0, jmPw jo P) c1) ln).1, (jmTC sm gr co P st (c1 + 1) (jmTCo sm gr co P n st (cs, nI 0, jmPw jo P) c1) ln).2.1, (jmTC sm gr co P st (c1 + 1) (jmTCo sm gr co P n st (cs, nI 0, jmPw jo P) c1) ln).2.2) ln).2.1 = (jmTC sm gr co P st (c1 + 1) (jmTCo sm gr co P n st (cs, nI 0, jmPw jo P) c1) (ln + 1)).2.1 := by first | exact congrArg (fun z : jmK => z.2.1) (jmTC_y c65 c78) | exact congrArg (fun z : jmK => z.2.1) (jmTC_n1 c65) | exact congrArg (fun z : jmK => z.2.1) (jmTC_n2 c78)
                        have ew_13 : (jmTk sm gr co P ((jmTC sm gr co P st (c1 + 1) (jmTCo sm gr co P n st (cs, nI 0, jmPw jo P) c1) ln).1, (jmTC sm gr co P st (c1 + 1) (jmTCo sm gr co P n st (cs, nI 0, jmPw jo P) c1) ln).2.1, (jmTC sm gr co P st (c1 + 1) (jmTCo sm gr co P n st (cs, nI 0, jmPw jo P) c1) ln).2.2) ln).2.2 = (jmTC sm gr co P st (c1 + 1) (jmTCo sm gr co P n st (cs, nI 0, jmPw jo P) c1) (ln + 1)).2.2 := by first | exact congrArg (fun z : jmK => z.2.2) (jmTC_y c65 c78) | exact congrArg (fun z : jmK => z.2.2) (jmTC_n1 c65) | exact congrArg (fun z : jmK => z.2.2) (jmTC_n2 c78)
                        exact ih43 (ln + 1) (by omega) (by omega) H locs (by rw [← ew_11, ← ew_12, ← ew_13]; exact hP) hS ls (lv_sub hl [1, 2, 0] rfl)
              have ew_14 : (jmTCo sm gr co P n st (cs, nI 0, jmPw jo P) c1).1 = (jmTC sm gr co P st (c1 + 1) (jmTCo sm gr co P n st (cs, nI 0, jmPw jo P) c1) 0).1 := by rfl
              have ew_15 : (jmTCo sm gr co P n st (cs, nI 0, jmPw jo P) c1).2.1 = (jmTC sm gr co P st (c1 + 1) (jmTCo sm gr co P n st (cs, nI 0, jmPw jo P) c1) 0).2.1 := by rfl
              have ew_16 : (jmTCo sm gr co P n st (cs, nI 0, jmPw jo P) c1).2.2 = (jmTC sm gr co P st (c1 + 1) (jmTCo sm gr co P n st (cs, nI 0, jmPw jo P) c1) 0).2.2 := by rfl
              exact L43 ((n - 0) + 1) 0 (by omega) (Nat.lt_succ_self _) H locs (by rw [← ew_14, ← ew_15, ← ew_16]; exact hP) hS ls (lv_sub hl [1, 2, 0] rfl)
        have ev_17 : 1 = 0 + 1 := by rfl
        have ew_18 : cs = (jmTCo sm gr co P n st (cs, nI 0, jmPw jo P) 0).1 := by rfl
        have ew_19 : (nI 0) = (jmTCo sm gr co P n st (cs, nI 0, jmPw jo P) 0).2.1 := by rfl
        have ew_20 : jmPw jo P = (jmTCo sm gr co P n st (cs, nI 0, jmPw jo P) 0).2.2 := by rfl
        exact L35 ((20 - 0) + 1) 0 (by omega) (Nat.lt_succ_self _) H locs (by rw [← ew_18, ← ew_19, ← ew_20]; exact hP) hS ls (by rw [← ev_17]; exact lv_sub hl [1, 0] rfl)
      · have c15 : q < P := jx_nle (by omega) (by omega) c15
        refine lv_aload_n hx hb dX2_takeCheapest_18 rfl (lv_at hl 0 rfl) ?_
        refine va_get (D := D) (ci := 2) (v := .ref (g 32)) (C := RX2) (T := TX2) (N := 5) hx hb hts in_X2_takeCheapest_2 hown hK hP 6 rfl rfl 4 (by decide) (hts (.fieldLink RX2 23 "Twincuts$Forest" "joined" "[I") (List.mem_of_getElem? (i := 3) (by decide +kernel))) (fun _ h9 => h9) rfl dX2_takeCheapest_19 ?_
        refine lv_iload_n hx hb dX2_takeCheapest_22 rfl (lv_at hl 1 rfl) ?_
        refine lv_iconst (v := nI 1) hx hb dX2_takeCheapest_23 (by decide) ?_
        refine lv_iload_n hx hb dX2_takeCheapest_24 rfl (lv_at hl 1 rfl) ?_
        refine lv_ishl hx hb dX2_takeCheapest_25 ?_
        refine jx_val (z := (nI (2 ^ q))) (jx_1shl (by omega)) ?_
        refine jx_iastN hx hb hK hP hD hS 8 0 rfl rfl (by omega) (by decide) dX2_takeCheapest_26 (fun H locs hP hD hS => ?_)
        have hP : va_P D vwCl (jW cI g P n st sm gr co en la ++ jT cI cM g rt cs (nI 0) (jxUp (jmPw jo q) q (2 ^ q))) H := hP
        have hD : va_D A (jW cI g P n st sm gr co en la ++ jT cI cM g rt cs (nI 0) (jxUp (jmPw jo q) q (2 ^ q))) := jxD hD0 rfl
        refine lv_iinc (v := nI (q + 1)) (lv' := [(1, .int (nI (q + 1))), (0, .ref (g 30))]) hx hb dX2_takeCheapest_27 hl (k := 1) rfl (jx_inc _) (by decide) rfl (fun ls hl => ?_)
        refine lv_goto (tgt := 7) hx hb dX2_takeCheapest_30 (by decide) ?_
        have ew_21 : jxUp (jmPw jo q) q (2 ^ q) = jmPw jo (q + 1) := by exact jmPw_up _ _
        exact ih7 (q + 1) (by omega) (by omega) H locs (by rw [← ew_21]; exact hP) hS ls (lv_sub hl [1, 0] rfl)
  have ew_22 : jo = jmPw jo 0 := by exact jmPw_0 _
  exact L7 ((P - 0) + 1) 0 (by omega) (Nat.lt_succ_self _) H locs (by rw [← ew_22]; exact hP) hS ls (lv_sub hl [1, 0] rfl)
