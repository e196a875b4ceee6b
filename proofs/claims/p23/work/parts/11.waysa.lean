set_option maxRecDepth 20000 in
theorem in_X4_clearRoom_4 : ∀ w ∈ wsX40, w ∈ wsX4_clearRoom := by decide +kernel
set_option maxHeartbeats 4000000 in
set_option maxRecDepth 100000 in
/-- clearRoom() -/
theorem c_X4_clearRoom (l : Launch) (D : va_G) (cI : ClassId) (cO : ClassId) (g : Nat → Nat) (ro : Nat → Nat) (ca : Nat → Int32) (qu : Nat → Nat) (rm : Nat → Nat → Int32) (sz : Nat)  : jxWv l yX4_clearRoom wsX4_clearRoom ({ frames := 0, cells := 0, slots := 0, locals := 0 } : Room) D [(cI, .int), (cO, .array .int)] (jY cI cO g ro ca qu ++ jRI cI 16 16 ro rm) [.ref (g 20)] sz (jY cI cO g ro ca qu ++ jRI cI 16 16 ro (fun _ _ => 0)) := by
  refine jxw_enterV (by decide) rfl (Nat.le_of_ble_eq_true rfl) ?_
  intro p e s m args below meth c Q A ls hx hb hml hts hown hN hP hK hD hA hl hQ
  have hD0 := hD
  obtain ⟨H, hH⟩ : ∃ h, h = s.heap := ⟨_, rfl⟩
  have hS : va_S A s.heap H [] := by rw [hH]; exact va_S.rf
  rw [← hH] at hP ⊢
  obtain ⟨locs, hlocs⟩ : ∃ z : List Loc, z = [] := ⟨_, rfl⟩
  rw [← hlocs] at hS ⊢
  have hown : s.vm.findClass RX4 = some m.cls := hown
  have hl : lv_has ls 3 [(0, .ref (g 20))] := hl
  refine lv_iconst (v := nI 0) hx hb dX4_clearRoom_0 (by decide) ?_
  refine lv_istore_n (lv' := [(1, .int (nI 0)), (0, .ref (g 20))]) hx hb dX4_clearRoom_1 rfl hl (by decide) rfl (fun ls hl => ?_)
  have L2 : ∀ (k : Nat) (i : Nat) (hi : i ≤ 16), 16 - i < k → ∀ (H : Heap) (locs : List Loc), va_P D vwCl (jY cI cO g ro ca qu ++ jRI cI 16 16 ro (jmCl 0 16 rm i 0)) H → va_S A s.heap H locs → ∀ ls : Array Slot, lv_has ls 3 [(0, .ref (g 20)), (1, .int (nI i))] → W p l e ({ frames := 0, cells := 0, slots := 0, locals := 0 } : Room) s m args below meth c H locs 0 0 Q (F0 m 2 ls []) := by
    intro k
    induction k with
    | zero => intro i hi hk; exact absurd hk (Nat.not_lt_zero _)
    | succ k ih2 =>
      intro i hi hk H locs hP hS ls hl
      have hD : va_D A (jY cI cO g ro ca qu ++ jRI cI 16 16 ro (jmCl 0 16 rm i 0)) := jxD hD0 rfl
      refine lv_iload_n hx hb dX4_clearRoom_2 rfl (lv_at hl 1 rfl) ?_
      refine lv_bipush (v := nI 16) hx hb dX4_clearRoom_3 (by decide) ?_
      refine lv_icmp_ge (tgt := 37) hx hb dX4_clearRoom_5 (by decide) (fun c5 => ?_) (fun c5 => ?_)
      · have c5 : 16 ≤ i := jx_le (by decide) (by omega) c5
        have es_37 : 16 = i := (by omega)
        subst es_37
        exact hQ H locs _ _ dX4_clearRoom_37 (jx_canonR (f := fun i => (16, .inl (jmCl 0 16 rm 16 0 i))) (f' := fun _ => (16, .inl (fun _ => 0))) hP (fun i hi => jx_cellI (fun j hj => jmCl_end _ _ hi hj))) hS
      · have c5 : i < 16 := jx_nle (by decide) (by omega) c5
        refine lv_iconst (v := nI 0) hx hb dX4_clearRoom_8 (by decide) ?_
        refine lv_istore_n (lv' := [(2, .int (nI 0)), (0, .ref (g 20)), (1, .int (nI i))]) hx hb dX4_clearRoom_9 rfl hl (by decide) rfl (fun ls hl => ?_)
        have L10 : ∀ (k : Nat) (j : Nat) (hj : j ≤ 16), 16 - j < k → ∀ (H : Heap) (locs : List Loc), va_P D vwCl (jY cI cO g ro ca qu ++ jRI cI 16 16 ro (jmCl 0 16 rm i j)) H → va_S A s.heap H locs → ∀ ls : Array Slot, lv_has ls 3 [(0, .ref (g 20)), (1, .int (nI i)), (2, .int (nI j))] → W p l e ({ frames := 0, cells := 0, slots := 0, locals := 0 } : Room) s m args below meth c H locs 0 0 Q (F0 m 10 ls []) := by
          intro k
          induction k with
          | zero => intro j hj hk; exact absurd hk (Nat.not_lt_zero _)
          | succ k ih10 =>
            intro j hj hk H locs hP hS ls hl
            have hD : va_D A (jY cI cO g ro ca qu ++ jRI cI 16 16 ro (jmCl 0 16 rm i j)) := jxD hD0 rfl
            refine lv_iload_n hx hb dX4_clearRoom_10 rfl (lv_at hl 2 rfl) ?_
            refine lv_bipush (v := nI 16) hx hb dX4_clearRoom_11 (by decide) ?_
            refine lv_icmp_ge (tgt := 31) hx hb dX4_clearRoom_13 (by decide) (fun c13 => ?_) (fun c13 => ?_)
            · have c13 : 16 ≤ j := jx_le (by decide) (by omega) c13
              have es_31 : 16 = j := (by omega)
              subst es_31
              refine lv_iinc (v := nI (i + 1)) (lv' := [(1, .int (nI (i + 1))), (0, .ref (g 20)), (2, .int (nI 16))]) hx hb dX4_clearRoom_31 hl (k := 1) rfl (jx_inc _) (by decide) rfl (fun ls hl => ?_)
              refine lv_goto (tgt := 2) hx hb dX4_clearRoom_34 (by decide) ?_
              have ew_1 : jmCl 0 16 rm i 16 = jmCl 0 16 rm (i + 1) 0 := by exact jmCl_row _ _ _ _
              exact ih2 (i + 1) (by omega) (by omega) H locs (by rw [← ew_1]; exact hP) hS ls (lv_sub hl [1, 0] rfl)
            · have c13 : j < 16 := jx_nle (by decide) (by omega) c13
              refine lv_aload_n hx hb dX4_clearRoom_16 rfl (lv_at hl 0 rfl) ?_
              refine va_get (D := D) (ci := 4) (v := .ref (g 21)) (C := RX4) (T := TX4) (N := 4) hx hb hts in_X4_clearRoom_4 hown hK hP 0 rfl rfl 1 (by decide) (hts (.fieldLink RX4 13 "Twincuts$Ways" "room" "[[I") (List.mem_of_getElem? (i := 1) (by decide +kernel))) (fun _ h9 => h9) rfl dX4_clearRoom_17 ?_
              refine lv_iload_n hx hb dX4_clearRoom_20 rfl (lv_at hl 1 rfl) ?_
              refine jx_aald (N := 16) hx hb hK hP 1 1 rfl rfl (by omega) (by decide) dX4_clearRoom_21 ?_
              refine lv_iload_n hx hb dX4_clearRoom_22 rfl (lv_at hl 2 rfl) ?_
              refine lv_iconst (v := nI 0) hx hb dX4_clearRoom_23 (by decide) ?_
              refine jx_iast2I (N := 16) hx hb hK (X := jY cI cO g ro ca qu) hP hD hS 0 rfl (by omega) (by omega) (by decide) dX4_clearRoom_24 (fun H locs hP hD hS => ?_)
              have hP : va_P D vwCl (jY cI cO g ro ca qu ++ jRI cI 16 16 ro (jxUp2 (jmCl 0 16 rm i j) i j (nI 0))) H := hP
              have hD : va_D A (jY cI cO g ro ca qu ++ jRI cI 16 16 ro (jxUp2 (jmCl 0 16 rm i j) i j (nI 0))) := jxD hD0 rfl
              refine lv_iinc (v := nI (j + 1)) (lv' := [(2, .int (nI (j + 1))), (0, .ref (g 20)), (1, .int (nI i))]) hx hb dX4_clearRoom_25 hl (k := 2) rfl (jx_inc _) (by decide) rfl (fun ls hl => ?_)
              refine lv_goto (tgt := 10) hx hb dX4_clearRoom_28 (by decide) ?_
              have ew_2 : jxUp2 (jmCl 0 16 rm i j) i j (nI 0) = jmCl 0 16 rm i (j + 1) := by exact jmCl_up _ _ _ _
              exact ih10 (j + 1) (by omega) (by omega) H locs (by rw [← ew_2]; exact hP) hS ls (lv_sub hl [1, 2, 0] rfl)
        exact L10 ((16 - 0) + 1) 0 (by omega) (Nat.lt_succ_self _) H locs hP hS ls (lv_sub hl [1, 2, 0] rfl)
  have ew_3 : rm = jmCl 0 16 rm 0 0 := by exact jmCl_0 _ _ _
  exact L2 ((16 - 0) + 1) 0 (by omega) (Nat.lt_succ_self _) H locs (by rw [← ew_3]; exact hP) hS ls (lv_sub hl [1, 0] rfl)
