set_option maxRecDepth 20000 in
theorem in_X2_takeIfNew_2 : ∀ w ∈ wsX20, w ∈ wsX2_takeIfNew := by decide +kernel
set_option maxRecDepth 20000 in
theorem in_X2_takeIfNew_5 : ∀ w ∈ wsX50, w ∈ wsX2_takeIfNew := by decide +kernel
set_option maxHeartbeats 4000000 in
set_option maxRecDepth 100000 in
/-- takeIfNew(line) -/
theorem c_X2_takeIfNew (l : Launch) (D : va_G) (cI : ClassId) (cM : ClassId) (g : Nat → Nat) (P n st : Nat) (sm gr co en la : Nat → Nat) (rt : Nat → Nat) (cs : Nat) (ct : Int32) (jo : Nat → Nat) (sz : Nat) (hw : jmWF P n st sm gr co en la) (i : Nat) (hi : i < n) (hjo : ∀ j, j < 8 → jo j < 256) (hcs : cs < 65536) : jxWv l yX2_takeIfNew wsX2_takeIfNew ({ frames := 1, cells := 0, slots := 0, locals := 21 } : Room) D [(cI, .int), (cM, .array .long)] (jW cI g P n st sm gr co en la ++ jT cI cM g rt cs ct jo) [.ref (g 30), .int (nI i)] sz (jW cI g P n st sm gr co en la ++ jT cI cM g rt ((jmTk sm gr co P (cs, ct, jo) i).1) ((jmTk sm gr co P (cs, ct, jo) i).2.1) ((jmTk sm gr co P (cs, ct, jo) i).2.2)) := by
  refine jxw_enterV (by decide) rfl (Nat.le_of_ble_eq_true rfl) ?_
  intro p e s m args below meth c Q A ls hx hb hml hts hown hN hP hK hD hA hl hQ
  have hD0 := hD
  obtain ⟨H, hH⟩ : ∃ h, h = s.heap := ⟨_, rfl⟩
  have hS : va_S A s.heap H [] := by rw [hH]; exact va_S.rf
  rw [← hH] at hP ⊢
  obtain ⟨locs, hlocs⟩ : ∃ z : List Loc, z = [] := ⟨_, rfl⟩
  rw [← hlocs] at hS ⊢
  have hown : s.vm.findClass RX2 = some m.cls := hown
  have hl : lv_has ls 5 [(0, .ref (g 30)), (1, .int (nI i))] := hl
  have hP8 : P ≤ 8 := hw.1
  have hn16 : n ≤ 16 := hw.2.1
  have hst : st < 65536 := jmWF_st hw
  have hen : ∀ j, j < n → en j < 256 := jmWF_en hw
  have hla : ∀ q, q < P → la q < 65536 := jmWF_la hw
  have hgr : ∀ j, j < n → sm j < 8 ∧ gr j < 8 := jmWF_gr hw
  have hco : ∀ j, j < n → co j < 21 := jmWF_co hw
  have hg9 := hgr i hi
  have hj1 := hjo (sm i) hg9.1
  have hj2 := hjo (gr i) hg9.2
  refine lv_aload_n hx hb dX2_takeIfNew_0 rfl (lv_at hl 0 rfl) ?_
  refine va_get (D := D) (ci := 2) (v := .ref (g 32)) (C := RX2) (T := TX2) (N := 5) hx hb hts in_X2_takeIfNew_2 hown hK hP 6 rfl rfl 4 (by decide) (hts (.fieldLink RX2 23 "Twincuts$Forest" "joined" "[I") (List.mem_of_getElem? (i := 1) (by decide +kernel))) (fun _ h9 => h9) rfl dX2_takeIfNew_1 ?_
  refine lv_aload_n hx hb dX2_takeIfNew_4 rfl (lv_at hl 0 rfl) ?_
  refine va_get (D := D) (ci := 2) (v := .ref (g 0)) (C := RX2) (T := TX2) (N := 5) hx hb hts in_X2_takeIfNew_2 hown hK hP 6 rfl rfl 0 (by decide) (hts (.fieldLink RX2 27 "Twincuts$Forest" "web" "LTwincuts$Web;") (List.mem_of_getElem? (i := 2) (by decide +kernel))) (fun _ h9 => h9) rfl dX2_takeIfNew_5 ?_
  refine va_getN (D := D) (ci := 5) (v := .ref (g 1)) (C := RX5) (T := TX5) (N := 8) hx hb hts in_X2_takeIfNew_5 hown hK hP 0 rfl rfl 3 (by decide) (hN.use 17 rfl) (fun _ h9 => h9) rfl dX2_takeIfNew_8 ?_
  refine lv_iload_n hx hb dX2_takeIfNew_11 rfl (lv_at hl 1 rfl) ?_
  refine jx_iald hx hb hK hP 1 0 rfl rfl (by omega) (by decide) dX2_takeIfNew_12 ?_
  refine jx_iald hx hb hK hP 8 0 rfl rfl (by omega) (by decide) dX2_takeIfNew_13 ?_
  refine lv_istore_n (lv' := [(2, .int (nI (jo (sm i)))), (0, .ref (g 30)), (1, .int (nI i))]) hx hb dX2_takeIfNew_14 rfl hl (by decide) rfl (fun ls hl => ?_)
  refine lv_aload_n hx hb dX2_takeIfNew_15 rfl (lv_at hl 1 rfl) ?_
  refine va_get (D := D) (ci := 2) (v := .ref (g 32)) (C := RX2) (T := TX2) (N := 5) hx hb hts in_X2_takeIfNew_2 hown hK hP 6 rfl rfl 4 (by decide) (hts (.fieldLink RX2 23 "Twincuts$Forest" "joined" "[I") (List.mem_of_getElem? (i := 1) (by decide +kernel))) (fun _ h9 => h9) rfl dX2_takeIfNew_16 ?_
  refine lv_aload_n hx hb dX2_takeIfNew_19 rfl (lv_at hl 1 rfl) ?_
  refine va_get (D := D) (ci := 2) (v := .ref (g 0)) (C := RX2) (T := TX2) (N := 5) hx hb hts in_X2_takeIfNew_2 hown hK hP 6 rfl rfl 0 (by decide) (hts (.fieldLink RX2 27 "Twincuts$Forest" "web" "LTwincuts$Web;") (List.mem_of_getElem? (i := 2) (by decide +kernel))) (fun _ h9 => h9) rfl dX2_takeIfNew_20 ?_
  refine va_getN (D := D) (ci := 5) (v := .ref (g 2)) (C := RX5) (T := TX5) (N := 8) hx hb hts in_X2_takeIfNew_5 hown hK hP 0 rfl rfl 4 (by decide) (hN.use 21 rfl) (fun _ h9 => h9) rfl dX2_takeIfNew_23 ?_
  refine lv_iload_n hx hb dX2_takeIfNew_26 rfl (lv_at hl 2 rfl) ?_
  refine jx_iald hx hb hK hP 2 0 rfl rfl (by omega) (by decide) dX2_takeIfNew_27 ?_
  refine jx_iald hx hb hK hP 8 0 rfl rfl (by omega) (by decide) dX2_takeIfNew_28 ?_
  refine lv_istore_n (lv' := [(3, .int (nI (jo (gr i)))), (2, .int (nI (jo (sm i)))), (0, .ref (g 30)), (1, .int (nI i))]) hx hb dX2_takeIfNew_29 rfl hl (by decide) rfl (fun ls hl => ?_)
  refine lv_iload_n hx hb dX2_takeIfNew_30 rfl (lv_at hl 1 rfl) ?_
  refine lv_iload_n hx hb dX2_takeIfNew_31 rfl (lv_at hl 0 rfl) ?_
  refine lv_icmp_ne (tgt := 36) hx hb dX2_takeIfNew_32 (by decide) (fun c32 => ?_) (fun c32 => ?_)
  · have c32 : jo (sm i) ≠ jo (gr i) := jx_ne c32
    refine lv_iconst (v := nI 0) hx hb dX2_takeIfNew_36 (by decide) ?_
    refine lv_istore (lv' := [(4, .int (nI 0)), (3, .int (nI (jo (gr i)))), (2, .int (nI (jo (sm i)))), (0, .ref (g 30)), (1, .int (nI i))]) hx hb dX2_takeIfNew_37 hl (by decide) rfl (fun ls hl => ?_)
    have L39 : ∀ (k : Nat) (q : Nat) (hq : q ≤ P), P - q < k → ∀ (H : Heap) (locs : List Loc), va_P D vwCl (jW cI g P n st sm gr co en la ++ jT cI cM g rt cs ct (jmPut jo (jo (sm i) ||| jo (gr i)) (jo (sm i) ||| jo (gr i)) q)) H → va_S A s.heap H locs → ∀ ls : Array Slot, lv_has ls 5 [(0, .ref (g 30)), (1, .int (nI i)), (2, .int (nI (jo (sm i)))), (3, .int (nI (jo (gr i)))), (4, .int (nI q))] → W p l e ({ frames := 1, cells := 0, slots := 0, locals := 21 } : Room) s m args below meth c H locs 0 0 Q (F0 m 39 ls []) := by
      intro k
      induction k with
      | zero => intro q hq hk; exact absurd hk (Nat.not_lt_zero _)
      | succ k ih39 =>
        intro q hq hk H locs hP hS ls hl
        have hD : va_D A (jW cI g P n st sm gr co en la ++ jT cI cM g rt cs ct (jmPut jo (jo (sm i) ||| jo (gr i)) (jo (sm i) ||| jo (gr i)) q)) := jxD hD0 rfl
        refine lv_iload hx hb dX2_takeIfNew_39 (lv_at hl 4 rfl) ?_
        refine lv_aload_n hx hb dX2_takeIfNew_41 rfl (lv_at hl 0 rfl) ?_
        refine va_get (D := D) (ci := 2) (v := .ref (g 0)) (C := RX2) (T := TX2) (N := 5) hx hb hts in_X2_takeIfNew_2 hown hK hP 6 rfl rfl 0 (by decide) (hts (.fieldLink RX2 27 "Twincuts$Forest" "web" "LTwincuts$Web;") (List.mem_of_getElem? (i := 2) (by decide +kernel))) (fun _ h9 => h9) rfl dX2_takeIfNew_42 ?_
        refine va_getN (D := D) (ci := 5) (v := .int (nI P)) (C := RX5) (T := TX5) (N := 8) hx hb hts in_X2_takeIfNew_5 hown hK hP 0 rfl rfl 0 (by decide) (hN.use 3 rfl) (fun _ h9 => h9) rfl dX2_takeIfNew_45 ?_
        refine lv_icmp_ge (tgt := 78) hx hb dX2_takeIfNew_48 (by decide) (fun c48 => ?_) (fun c48 => ?_)
        · have c48 : P ≤ q := jx_le (by omega) (by omega) c48
          have es_78 : P = q := (by omega)
          subst es_78
          refine lv_aload_n hx hb dX2_takeIfNew_78 rfl (lv_at hl 0 rfl) ?_
          refine lv_dup hx hb dX2_takeIfNew_79 rfl ?_
          refine va_get (D := D) (ci := 2) (v := .int (nI cs)) (C := RX2) (T := TX2) (N := 5) hx hb hts in_X2_takeIfNew_2 hown hK hP 6 rfl rfl 2 (by decide) (hts (.fieldLink RX2 16 "Twincuts$Forest" "cheapestSet" "I") (List.mem_of_getElem? (i := 3) (by decide +kernel))) (fun _ h9 => h9) rfl dX2_takeIfNew_80 ?_
          refine lv_iconst (v := nI 1) hx hb dX2_takeIfNew_83 (by decide) ?_
          refine lv_iload_n hx hb dX2_takeIfNew_84 rfl (lv_at hl 1 rfl) ?_
          refine lv_ishl hx hb dX2_takeIfNew_85 ?_
          refine jx_val (z := (nI (2 ^ i))) (jx_1shl (by omega)) ?_
          refine lv_ior hx hb dX2_takeIfNew_86 ?_
          refine jx_val (z := (nI (cs ||| (2 ^ i)))) (fa_or _ _) ?_
          refine va_put (D := D) (ci := 2) (v := .int (nI (cs ||| (2 ^ i)))) (ty := .int) (C := RX2) (T := TX2) (N := 5) hx hb hts in_X2_takeIfNew_2 tyX2 tyX2_ok nmX2 hown hK hP hD hS 6 rfl rfl 2 (by decide) (hts (.fieldLink RX2 16 "Twincuts$Forest" "cheapestSet" "I") (List.mem_of_getElem? (i := 3) (by decide +kernel))) (fun _ h9 => h9) rfl (by decide +kernel) rfl rfl (Nat.le_of_ble_eq_true rfl) dX2_takeIfNew_87 (fun H locs hP hD hS => ?_)
          have hP : va_P D vwCl (jW cI g P n st sm gr co en la ++ jT cI cM g rt (cs ||| (2 ^ i)) ct (jmPut jo (jo (sm i) ||| jo (gr i)) (jo (sm i) ||| jo (gr i)) P)) H := hP
          have hD : va_D A (jW cI g P n st sm gr co en la ++ jT cI cM g rt (cs ||| (2 ^ i)) ct (jmPut jo (jo (sm i) ||| jo (gr i)) (jo (sm i) ||| jo (gr i)) P)) := jxD hD0 rfl
          refine lv_aload_n hx hb dX2_takeIfNew_90 rfl (lv_at hl 0 rfl) ?_
          refine lv_dup hx hb dX2_takeIfNew_91 rfl ?_
          refine va_get (D := D) (ci := 2) (v := .int ct) (C := RX2) (T := TX2) (N := 5) hx hb hts in_X2_takeIfNew_2 hown hK hP 6 rfl rfl 3 (by decide) (hts (.fieldLink RX2 20 "Twincuts$Forest" "cheapestCost" "I") (List.mem_of_getElem? (i := 4) (by decide +kernel))) (fun _ h9 => h9) rfl dX2_takeIfNew_92 ?_
          refine lv_aload_n hx hb dX2_takeIfNew_95 rfl (lv_at hl 0 rfl) ?_
          refine va_get (D := D) (ci := 2) (v := .ref (g 0)) (C := RX2) (T := TX2) (N := 5) hx hb hts in_X2_takeIfNew_2 hown hK hP 6 rfl rfl 0 (by decide) (hts (.fieldLink RX2 27 "Twincuts$Forest" "web" "LTwincuts$Web;") (List.mem_of_getElem? (i := 2) (by decide +kernel))) (fun _ h9 => h9) rfl dX2_takeIfNew_96 ?_
          refine va_getN (D := D) (ci := 5) (v := .ref (g 3)) (C := RX5) (T := TX5) (N := 8) hx hb hts in_X2_takeIfNew_5 hown hK hP 0 rfl rfl 5 (by decide) (hN.use 25 rfl) (fun _ h9 => h9) rfl dX2_takeIfNew_99 ?_
          refine lv_iload_n hx hb dX2_takeIfNew_102 rfl (lv_at hl 1 rfl) ?_
          refine jx_iald hx hb hK hP 3 0 rfl rfl (by omega) (by decide) dX2_takeIfNew_103 ?_
          refine lv_iadd hx hb dX2_takeIfNew_104 ?_
          refine va_put (D := D) (ci := 2) (v := .int (ct + (nI (co i)))) (ty := .int) (C := RX2) (T := TX2) (N := 5) hx hb hts in_X2_takeIfNew_2 tyX2 tyX2_ok nmX2 hown hK hP hD hS 6 rfl rfl 3 (by decide) (hts (.fieldLink RX2 20 "Twincuts$Forest" "cheapestCost" "I") (List.mem_of_getElem? (i := 4) (by decide +kernel))) (fun _ h9 => h9) rfl (by decide +kernel) rfl rfl (Nat.le_of_ble_eq_true rfl) dX2_takeIfNew_105 (fun H locs hP hD hS => ?_)
          have hP : va_P D vwCl (jW cI g P n st sm gr co en la ++ jT cI cM g rt (cs ||| (2 ^ i)) (ct + (nI (co i))) (jmPut jo (jo (sm i) ||| jo (gr i)) (jo (sm i) ||| jo (gr i)) P)) H := hP
          have hD : va_D A (jW cI g P n st sm gr co en la ++ jT cI cM g rt (cs ||| (2 ^ i)) (ct + (nI (co i))) (jmPut jo (jo (sm i) ||| jo (gr i)) (jo (sm i) ||| jo (gr i)) P)) := jxD hD0 rfl
          have ev_1 : cs ||| (2 ^ i) = (jmTk sm gr co P (cs, ct, jo) i).1 := by simp [jmTk, c32]
          have ev_2 : (ct + (nI (co i))) = (jmTk sm gr co P (cs, ct, jo) i).2.1 := by simp [jmTk, c32]
          have ev_3 : jmPut jo (jo (sm i) ||| jo (gr i)) (jo (sm i) ||| jo (gr i)) P = (jmTk sm gr co P (cs, ct, jo) i).2.2 := by simp [jmTk, c32]
          exact hQ H locs _ _ dX2_takeIfNew_108 (by rw [← ev_1, ← ev_2, ← ev_3]; exact hP) hS
        · have c48 : q < P := jx_nle (by omega) (by omega) c48
          refine lv_iload_n hx hb dX2_takeIfNew_51 rfl (lv_at hl 2 rfl) ?_
          refine lv_iload_n hx hb dX2_takeIfNew_52 rfl (lv_at hl 3 rfl) ?_
          refine lv_ior hx hb dX2_takeIfNew_53 ?_
          refine jx_val (z := (nI ((jo (sm i)) ||| (jo (gr i))))) (fa_or _ _) ?_
          refine lv_iload hx hb dX2_takeIfNew_54 (lv_at hl 4 rfl) ?_
          refine jx_callSN (As := [.int (nI ((jo (sm i)) ||| (jo (gr i)))), .int (nI q)]) (rest := []) ⟨hx, hb, hml, hown, hts⟩ (c_X6_has l D ((jo (sm i)) ||| (jo (gr i))) q (Nat.or_lt_two_pow (by omega) (by omega)) (by omega)) (va_cnB 2 hts gX2_takeIfNew_X6_has_n50 rfl rfl rfl (hN.get 42 rfl) (hts (.initialized RX6) (List.mem_of_getElem? (i := 6) (by decide +kernel))) (by decide +kernel) ⟨Nat.le_of_ble_eq_true rfl, Nat.le_of_ble_eq_true rfl⟩) (hts (.static yX6_has) (List.mem_of_getElem? (i := 5) (by decide +kernel))) hN (hP.sub (ws' := []) [] rfl) (hK.sub (tys' := []) [] rfl) rfl hl.1 rfl (Nat.le_of_ble_eq_true rfl) dX2_takeIfNew_56 ⟨Nat.zero_le _, Nat.zero_le _⟩ (fun r hr => ?_)
          subst hr
          refine lv_if_eq (tgt := 72) hx hb dX2_takeIfNew_59 (by decide) (fun c59 => ?_) (fun c59 => ?_)
          · have c59 := jB_0 c59
            refine lv_iinc (v := nI (q + 1)) (lv' := [(4, .int (nI (q + 1))), (0, .ref (g 30)), (1, .int (nI i)), (2, .int (nI (jo (sm i)))), (3, .int (nI (jo (gr i))))]) hx hb dX2_takeIfNew_72 hl (k := 4) rfl (jx_inc _) (by decide) rfl (fun ls hl => ?_)
            refine lv_goto (tgt := 39) hx hb dX2_takeIfNew_75 (by decide) ?_
            have ew_4 : jmPut jo (jo (sm i) ||| jo (gr i)) (jo (sm i) ||| jo (gr i)) q = jmPut jo (jo (sm i) ||| jo (gr i)) (jo (sm i) ||| jo (gr i)) (q + 1) := by first | exact jmPut_up c59 | exact jmPut_no c59
            exact ih39 (q + 1) (by omega) (by omega) H locs (by rw [← ew_4]; exact hP) hS ls (lv_sub hl [1, 2, 3, 4, 0] rfl)
          · have c59 := jB_1 c59
            refine lv_aload_n hx hb dX2_takeIfNew_62 rfl (lv_at hl 0 rfl) ?_
            refine va_get (D := D) (ci := 2) (v := .ref (g 32)) (C := RX2) (T := TX2) (N := 5) hx hb hts in_X2_takeIfNew_2 hown hK hP 6 rfl rfl 4 (by decide) (hts (.fieldLink RX2 23 "Twincuts$Forest" "joined" "[I") (List.mem_of_getElem? (i := 1) (by decide +kernel))) (fun _ h9 => h9) rfl dX2_takeIfNew_63 ?_
            refine lv_iload hx hb dX2_takeIfNew_66 (lv_at hl 4 rfl) ?_
            refine lv_iload_n hx hb dX2_takeIfNew_68 rfl (lv_at hl 2 rfl) ?_
            refine lv_iload_n hx hb dX2_takeIfNew_69 rfl (lv_at hl 3 rfl) ?_
            refine lv_ior hx hb dX2_takeIfNew_70 ?_
            refine jx_val (z := (nI ((jo (sm i)) ||| (jo (gr i))))) (fa_or _ _) ?_
            refine jx_iastN hx hb hK hP hD hS 8 0 rfl rfl (by omega) (by decide) dX2_takeIfNew_71 (fun H locs hP hD hS => ?_)
            have hP : va_P D vwCl (jW cI g P n st sm gr co en la ++ jT cI cM g rt cs ct (jxUp (jmPut jo (jo (sm i) ||| jo (gr i)) (jo (sm i) ||| jo (gr i)) q) q ((jo (sm i)) ||| (jo (gr i))))) H := hP
            have hD : va_D A (jW cI g P n st sm gr co en la ++ jT cI cM g rt cs ct (jxUp (jmPut jo (jo (sm i) ||| jo (gr i)) (jo (sm i) ||| jo (gr i)) q) q ((jo (sm i)) ||| (jo (gr i))))) := jxD hD0 rfl
            refine lv_iinc (v := nI (q + 1)) (lv' := [(4, .int (nI (q + 1))), (0, .ref (g 30)), (1, .int (nI i)), (2, .int (nI (jo (sm i)))), (3, .int (nI (jo (gr i))))]) hx hb dX2_takeIfNew_72 hl (k := 4) rfl (jx_inc _) (by decide) rfl (fun ls hl => ?_)
            refine lv_goto (tgt := 39) hx hb dX2_takeIfNew_75 (by decide) ?_
            have ew_5 : jxUp (jmPut jo (jo (sm i) ||| jo (gr i)) (jo (sm i) ||| jo (gr i)) q) q ((jo (sm i)) ||| (jo (gr i))) = jmPut jo (jo (sm i) ||| jo (gr i)) (jo (sm i) ||| jo (gr i)) (q + 1) := by first | exact jmPut_up c59 | exact jmPut_no c59
            exact ih39 (q + 1) (by omega) (by omega) H locs (by rw [← ew_5]; exact hP) hS ls (lv_sub hl [1, 2, 3, 4, 0] rfl)
    have ew_6 : jo = jmPut jo (jo (sm i) ||| jo (gr i)) (jo (sm i) ||| jo (gr i)) 0 := by exact jmPut_0 _ _ _
    exact L39 ((P - 0) + 1) 0 (by omega) (Nat.lt_succ_self _) H locs (by rw [← ew_6]; exact hP) hS ls (lv_sub hl [3, 4, 2, 1, 0] rfl)
  · have c32 : jo (sm i) = jo (gr i) := jx_e (by omega) (by omega) c32
    have ev_7 : cs = (jmTk sm gr co P (cs, ct, jo) i).1 := by simp [jmTk, c32]
    have ev_8 : ct = (jmTk sm gr co P (cs, ct, jo) i).2.1 := by simp [jmTk, c32]
    have ev_9 : jo = (jmTk sm gr co P (cs, ct, jo) i).2.2 := by simp [jmTk, c32]
    exact hQ H locs _ _ dX2_takeIfNew_35 (by rw [← ev_7, ← ev_8, ← ev_9]; exact hP) hS
