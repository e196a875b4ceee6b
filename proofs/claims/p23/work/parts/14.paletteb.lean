set_option maxHeartbeats 4000000 in
set_option maxRecDepth 100000 in
/-- paintsFrom(point, used, most) -/
theorem c_paintS (l : Launch) (D : va_G) (cI : ClassId) (g : Nat → Nat) (P n st : Nat) (sm gr co en la : Nat → Nat) (pk : Nat) (cl : Nat → Nat) (sz : Nat) (hw : jmWF P n st sm gr co en la) (d : Nat) (q used mo : Nat) (hq : q + (d + 1) = P) (hu : used ≤ 8) (hmo : mo ≤ 8) (hcl : ∀ j, j < 8 → cl j < 256) (ih : ∀ (q used : Nat) (cl : Nat → Nat) (sz : Nat), q + d = P → used ≤ 8 → (∀ j, j < 8 → cl j < 256) → jxWi l yX3_paintsFrom wsX3_paintsFrom (jmRm d) D [(cI, .int)] (jW cI g P n st sm gr co en la ++ jP cI g pk cl) [.ref (g 40), .int (nI q), .int (nI used), .int (nI mo)] sz (fun r => r = nI (jB (jmPa en la P n st mo d used cl).1)) (jW cI g P n st sm gr co en la ++ jP cI g pk (jmPa en la P n st mo d used cl).2))  : jxWi l yX3_paintsFrom wsX3_paintsFrom (jmRm (d + 1)) D [(cI, .int)] (jW cI g P n st sm gr co en la ++ jP cI g pk cl) [.ref (g 40), .int (nI q), .int (nI used), .int (nI mo)] sz (fun r => r = nI (jB (jmPa en la P n st mo (d + 1) used cl).1)) (jW cI g P n st sm gr co en la ++ jP cI g pk ((jmPa en la P n st mo (d + 1) used cl).2)) := by
  refine jxw_enterZ (by decide) rfl (Nat.le_of_ble_eq_true rfl) ?_
  intro p e s m args below meth c Q A ls hx hb hml hts hown hN hP hK hD hA hl hQ
  have hD0 := hD
  obtain ⟨H, hH⟩ : ∃ h, h = s.heap := ⟨_, rfl⟩
  have hS : va_S A s.heap H [] := by rw [hH]; exact va_S.rf
  rw [← hH] at hP ⊢
  obtain ⟨locs, hlocs⟩ : ∃ z : List Loc, z = [] := ⟨_, rfl⟩
  rw [← hlocs] at hS ⊢
  have hown : s.vm.findClass RX3 = some m.cls := hown
  have hl : lv_has ls 6 [(0, .ref (g 40)), (1, .int (nI q)), (2, .int (nI used)), (3, .int (nI mo))] := hl
  have hP8 : P ≤ 8 := hw.1
  have hn16 : n ≤ 16 := hw.2.1
  have hst : st < 65536 := jmWF_st hw
  have hen : ∀ j, j < n → en j < 256 := jmWF_en hw
  have hla : ∀ q, q < P → la q < 65536 := jmWF_la hw
  have hgr : ∀ j, j < n → sm j < 8 ∧ gr j < 8 := jmWF_gr hw
  have hco : ∀ j, j < n → co j < 21 := jmWF_co hw
  have hlk := jmLinked_lt (la := la) (st := st) (q := q) hen
  refine lv_iload_n hx hb dX3_paintsFrom_0 rfl (lv_at hl 1 rfl) ?_
  refine lv_aload_n hx hb dX3_paintsFrom_1 rfl (lv_at hl 0 rfl) ?_
  refine va_get (D := D) (ci := 3) (v := .ref (g 0)) (C := RX3) (T := TX3) (N := 3) hx hb hts in_X3_paintsFrom_3 hown hK hP 6 rfl rfl 0 (by decide) (hts (.fieldLink RX3 19 "Twincuts$Palette" "web" "LTwincuts$Web;") (List.mem_of_getElem? (i := 1) (by decide +kernel))) (fun _ h9 => h9) rfl dX3_paintsFrom_2 ?_
  refine va_getN (D := D) (ci := 5) (v := .int (nI P)) (C := RX5) (T := TX5) (N := 8) hx hb hts in_X3_paintsFrom_5 hown hK hP 0 rfl rfl 0 (by decide) (hN.use 1 rfl) (fun _ h9 => h9) rfl dX3_paintsFrom_5 ?_
  refine lv_icmp_lt (tgt := 13) hx hb dX3_paintsFrom_8 (by decide) (fun c8 => ?_) (fun c8 => ?_)
  · have c8 : q < P := jx_lt (by omega) (by omega) c8
    refine lv_aload_n hx hb dX3_paintsFrom_13 rfl (lv_at hl 0 rfl) ?_
    refine va_get (D := D) (ci := 3) (v := .ref (g 0)) (C := RX3) (T := TX3) (N := 3) hx hb hts in_X3_paintsFrom_3 hown hK hP 6 rfl rfl 0 (by decide) (hts (.fieldLink RX3 19 "Twincuts$Palette" "web" "LTwincuts$Web;") (List.mem_of_getElem? (i := 1) (by decide +kernel))) (fun _ h9 => h9) rfl dX3_paintsFrom_14 ?_
    refine lv_iload_n hx hb dX3_paintsFrom_17 rfl (lv_at hl 1 rfl) ?_
    refine jx_callV (As := [.int (nI q)]) (rest := []) ⟨hx, hb, hml, hown, hts⟩ (c_X5_linkedWith l D cI g P n st sm gr co en la hw q (by omega)) (cwV 1 hts gX3_paintsFrom_X5_linkedWith rfl rfl rfl (by decide +kernel) ⟨by simp only [jmRm]; omega, by simp only [jmRm]; omega⟩) hN (hP.sub (ws' := jW cI g P n st sm gr co en la) [0, 1, 2, 3, 4, 5] rfl) (hK.sub (tys' := [(cI, .int)]) [0] rfl) 0 5 rfl rfl rfl rfl hl.1 rfl (Nat.le_of_ble_eq_true rfl) dX3_paintsFrom_18 ⟨Nat.zero_le _, Nat.zero_le _⟩ (fun r hr => ?_)
    subst hr
    refine lv_istore (lv' := [(4, .int (nI (jmLinked en la st n q))), (0, .ref (g 40)), (1, .int (nI q)), (2, .int (nI used)), (3, .int (nI mo))]) hx hb dX3_paintsFrom_21 hl (by decide) rfl (fun ls hl => ?_)
    refine lv_iconst (v := nI 0) hx hb dX3_paintsFrom_23 (by decide) ?_
    refine lv_istore (lv' := [(5, .int (nI 0)), (4, .int (nI (jmLinked en la st n q))), (0, .ref (g 40)), (1, .int (nI q)), (2, .int (nI used)), (3, .int (nI mo))]) hx hb dX3_paintsFrom_24 hl (by decide) rfl (fun ls hl => ?_)
    have L26 : ∀ (k : Nat) (nu : Nat) (cl9 : Nat → Nat) (hnu : nu ≤ 8) (hcl9 : ∀ j, j < 8 → cl9 j < 256) (hd : jmPa en la P n st mo (d + 1) used cl = jmPL (jmPa en la P n st mo d) q (jmLinked en la st n q) used (min (used + 1) mo - nu) nu cl9), min (used + 1) mo - nu + 1 < k → ∀ (H : Heap) (locs : List Loc), va_P D vwCl (jW cI g P n st sm gr co en la ++ jP cI g pk cl9) H → va_S A s.heap H locs → ∀ ls : Array Slot, lv_has ls 6 [(0, .ref (g 40)), (1, .int (nI q)), (2, .int (nI used)), (3, .int (nI mo)), (4, .int (nI (jmLinked en la st n q))), (5, .int (nI nu))] → W p l e (jmRm (d + 1)) s m args below meth c H locs 0 0 Q (F0 m 26 ls []) := by
      intro k
      induction k with
      | zero => intro nu cl9 hnu hcl9 hd hk; exact absurd hk (Nat.not_lt_zero _)
      | succ k ih26 =>
        intro nu cl9 hnu hcl9 hd hk H locs hP hS ls hl
        have hD : va_D A (jW cI g P n st sm gr co en la ++ jP cI g pk cl9) := jxD hD0 rfl
        refine lv_iload hx hb dX3_paintsFrom_26 (lv_at hl 5 rfl) ?_
        refine lv_iload_n hx hb dX3_paintsFrom_28 rfl (lv_at hl 2 rfl) ?_
        refine lv_icmp_gt (tgt := 85) hx hb dX3_paintsFrom_29 (by decide) (fun c29 => ?_) (fun c29 => ?_)
        · have c29 : used < nu := jx_lt (by omega) (by omega) c29
          refine lv_iconst (v := nI 0) hx hb dX3_paintsFrom_85 (by decide) ?_
          have ev_1 : cl9 = (jmPa en la P n st mo (d + 1) used cl).2 := by first | (rw [hd, show min (used + 1) mo - nu = (min (used + 1) mo - (nu + 1)) + 1 by omega, jmPL_1 c47 c74]; done) | (rw [hd, show min (used + 1) mo - nu = 0 by omega]; rfl)
          exact hQ false H locs _ _ dX3_paintsFrom_86 (by rw [hd, show min (used + 1) mo - nu = 0 by omega]; rfl) (by rw [← ev_1]; exact hP) hS
        · have c29 : nu ≤ used := jx_nlt (by omega) (by omega) c29
          refine lv_iload hx hb dX3_paintsFrom_32 (lv_at hl 5 rfl) ?_
          refine lv_iload_n hx hb dX3_paintsFrom_34 rfl (lv_at hl 3 rfl) ?_
          refine lv_icmp_ge (tgt := 85) hx hb dX3_paintsFrom_35 (by decide) (fun c35 => ?_) (fun c35 => ?_)
          · have c35 : mo ≤ nu := jx_le (by omega) (by omega) c35
            refine lv_iconst (v := nI 0) hx hb dX3_paintsFrom_85 (by decide) ?_
            have ev_2 : cl9 = (jmPa en la P n st mo (d + 1) used cl).2 := by first | (rw [hd, show min (used + 1) mo - nu = (min (used + 1) mo - (nu + 1)) + 1 by omega, jmPL_1 c47 c74]; done) | (rw [hd, show min (used + 1) mo - nu = 0 by omega]; rfl)
            exact hQ false H locs _ _ dX3_paintsFrom_86 (by rw [hd, show min (used + 1) mo - nu = 0 by omega]; rfl) (by rw [← ev_2]; exact hP) hS
          · have c35 : nu < mo := jx_nle (by omega) (by omega) c35
            refine lv_aload_n hx hb dX3_paintsFrom_38 rfl (lv_at hl 0 rfl) ?_
            refine lv_iload_n hx hb dX3_paintsFrom_39 rfl (lv_at hl 1 rfl) ?_
            refine lv_iload hx hb dX3_paintsFrom_40 (lv_at hl 5 rfl) ?_
            refine lv_iload hx hb dX3_paintsFrom_42 (lv_at hl 4 rfl) ?_
            refine jx_callV (As := [.int (nI q), .int (nI nu), .int (nI (jmLinked en la st n q))]) (rest := []) ⟨hx, hb, hml, hown, hts⟩ (c_X3_isFree l D cI g pk cl9 q nu (jmLinked en la st n q) (by omega) (by omega) (by omega) hcl9) (cwV 3 hts gX3_paintsFrom_X3_isFree rfl rfl rfl (by decide +kernel) ⟨by simp only [jmRm]; omega, by simp only [jmRm]; omega⟩) hN (hP.sub (ws' := jP cI g pk cl9) [6, 7] rfl) (hK.sub (tys' := [(cI, .int)]) [0] rfl) 0 3 rfl rfl rfl rfl hl.1 rfl (Nat.le_of_ble_eq_true rfl) dX3_paintsFrom_44 ⟨Nat.zero_le _, Nat.zero_le _⟩ (fun r hr => ?_)
            subst hr
            refine lv_if_eq (tgt := 79) hx hb dX3_paintsFrom_47 (by decide) (fun c47 => ?_) (fun c47 => ?_)
            · have c47 := jB_0 c47
              refine lv_iinc (v := nI (nu + 1)) (lv' := [(5, .int (nI (nu + 1))), (0, .ref (g 40)), (1, .int (nI q)), (2, .int (nI used)), (3, .int (nI mo)), (4, .int (nI (jmLinked en la st n q)))]) hx hb dX3_paintsFrom_79 hl (k := 5) rfl (jx_inc _) (by decide) rfl (fun ls hl => ?_)
              refine lv_goto (tgt := 26) hx hb dX3_paintsFrom_82 (by decide) ?_
              exact ih26 (nu + 1) cl9 (by omega) (by first | exact hup2 | exact hcl9) (by rw [hd, show min (used + 1) mo - nu = (min (used + 1) mo - (nu + 1)) + 1 by omega]; first | rw [jmPL_2 c47 c74] | rw [jmPL_3 c47]) (by omega) H locs hP hS ls (lv_sub hl [1, 2, 3, 4, 5, 0] rfl)
            · have c47 := jB_1 c47
              refine lv_aload_n hx hb dX3_paintsFrom_50 rfl (lv_at hl 0 rfl) ?_
              refine va_get (D := D) (ci := 3) (v := .ref (g 41)) (C := RX3) (T := TX3) (N := 3) hx hb hts in_X3_paintsFrom_3 hown hK hP 6 rfl rfl 2 (by decide) (hts (.fieldLink RX3 15 "Twincuts$Palette" "colour" "[I") (List.mem_of_getElem? (i := 2) (by decide +kernel))) (fun _ h9 => h9) rfl dX3_paintsFrom_51 ?_
              refine lv_iload_n hx hb dX3_paintsFrom_54 rfl (lv_at hl 1 rfl) ?_
              refine lv_iload hx hb dX3_paintsFrom_55 (lv_at hl 5 rfl) ?_
              refine jx_iastN hx hb hK hP hD hS 7 0 rfl rfl (by omega) (by decide) dX3_paintsFrom_57 (fun H locs hP hD hS => ?_)
              have hP : va_P D vwCl (jW cI g P n st sm gr co en la ++ jP cI g pk (jxUp cl9 q nu)) H := hP
              have hD : va_D A (jW cI g P n st sm gr co en la ++ jP cI g pk (jxUp cl9 q nu)) := jxD hD0 rfl
              have hup : ∀ j, j < 8 → jxUp cl9 q nu j < 256 := fun j hj => by
                unfold jxUp
                split
                · omega
                · exact hcl9 j hj
              have hup2 := jmPa_lt (en := en) (la := la) (P := P) (n := n) (st := st) (mo := mo) (by omega) d (max used (nu + 1)) (jxUp cl9 q nu) (by omega) hup
              refine lv_aload_n hx hb dX3_paintsFrom_58 rfl (lv_at hl 0 rfl) ?_
              refine lv_iload_n hx hb dX3_paintsFrom_59 rfl (lv_at hl 1 rfl) ?_
              refine lv_iconst (v := nI 1) hx hb dX3_paintsFrom_60 (by decide) ?_
              refine lv_iadd hx hb dX3_paintsFrom_61 ?_
              refine jx_val (z := (nI (q + 1))) (nI_add _ _) ?_
              refine lv_iload_n hx hb dX3_paintsFrom_62 rfl (lv_at hl 2 rfl) ?_
              refine lv_iload hx hb dX3_paintsFrom_63 (lv_at hl 5 rfl) ?_
              refine lv_iconst (v := nI 1) hx hb dX3_paintsFrom_65 (by decide) ?_
              refine lv_iadd hx hb dX3_paintsFrom_66 ?_
              refine jx_val (z := (nI (nu + 1))) (nI_add _ _) ?_
              refine va_mmax (rest := [.int (nI (q + 1)), .ref (g 40)]) hx hb (hml.trans hl.1.symm) hown (hts (.methodLink RX3 39 Lib.Math.max.name) (List.mem_of_getElem? (i := 3) (by decide +kernel))) (hts (.static Lib.Math.max.name) (List.mem_of_getElem? (i := 4) (by decide +kernel))) (hts (.initialized "java/lang/Math") (List.mem_of_getElem? (i := 5) (by decide +kernel))) (hts (.code Lib.Math.max.name Lib.Math.max.code 2 (some .int)) (List.mem_of_getElem? (i := 6) (by decide +kernel))) (by first | (simp only [jmRm]; omega) | (simp [jmRm, Value.category]; omega)) (by first | (simp only [jmRm]; omega) | (simp [jmRm, Value.category]; omega)) (Nat.zero_le _) (Nat.zero_le _) dX3_paintsFrom_67 ?_
              refine jx_val (z := (nI (max used (nu + 1)))) (jx_max (by omega) (by omega)) ?_
              refine lv_iload_n hx hb dX3_paintsFrom_70 rfl (lv_at hl 3 rfl) ?_
              refine jxw_callVi (X := jW cI g P n st sm gr co en la ++ jP cI g pk (jxUp cl9 q nu)) (X' := jW cI g P n st sm gr co en la ++ jP cI g pk ((jmPa en la P n st mo d (max used (nu + 1)) (jxUp cl9 q nu)).2)) (wc := jW cI g P n st sm gr co en la ++ jP cI g pk (jxUp cl9 q nu)) (wc' := jW cI g P n st sm gr co en la ++ jP cI g pk ((jmPa en la P n st mo d (max used (nu + 1)) (jxUp cl9 q nu)).2)) (wr := []) (N := 8) (As := [.int (nI (q + 1)), .int (nI (max used (nu + 1))), .int (nI mo)]) (rest := []) ⟨hx, hb, hml, hown, hts⟩ (ih (q + 1) (max used (nu + 1)) (jxUp cl9 q nu) H.size (by omega) (by omega) hup) (cwV 3 hts gX3_paintsFrom_X3_paintsFrom rfl rfl rfl (by decide +kernel) ⟨by simp only [jmRm]; omega, by simp only [jmRm]; omega⟩) hN hP hD (hK.sub (tys' := [(cI, .int)]) [0] rfl) hS hA [0, 1, 2, 3, 4, 5, 6, 7] [] rfl rfl rfl rfl rfl rfl (by decide) (by decide) 6 3 rfl rfl rfl (hK.sub (tys' := [(cI, .int)]) [0] rfl) rfl hl.1 rfl (Nat.le_of_ble_eq_true rfl) dX3_paintsFrom_71 ⟨Nat.zero_le _, Nat.zero_le _⟩ (fun r H locs hr hP hS => ?_)
              have hD : va_D A (jW cI g P n st sm gr co en la ++ jP cI g pk ((jmPa en la P n st mo d (max used (nu + 1)) (jxUp cl9 q nu)).2)) := jxD hD0 rfl
              subst hr
              refine lv_if_eq (tgt := 79) hx hb dX3_paintsFrom_74 (by decide) (fun c74 => ?_) (fun c74 => ?_)
              · have c74 := jB_0 c74
                refine lv_iinc (v := nI (nu + 1)) (lv' := [(5, .int (nI (nu + 1))), (0, .ref (g 40)), (1, .int (nI q)), (2, .int (nI used)), (3, .int (nI mo)), (4, .int (nI (jmLinked en la st n q)))]) hx hb dX3_paintsFrom_79 hl (k := 5) rfl (jx_inc _) (by decide) rfl (fun ls hl => ?_)
                refine lv_goto (tgt := 26) hx hb dX3_paintsFrom_82 (by decide) ?_
                exact ih26 (nu + 1) ((jmPa en la P n st mo d (max used (nu + 1)) (jxUp cl9 q nu)).2) (by omega) (by first | exact hup2 | exact hcl9) (by rw [hd, show min (used + 1) mo - nu = (min (used + 1) mo - (nu + 1)) + 1 by omega]; first | rw [jmPL_2 c47 c74] | rw [jmPL_3 c47]) (by omega) H locs hP hS ls (lv_sub hl [1, 2, 3, 4, 5, 0] rfl)
              · have c74 := jB_1 c74
                refine lv_iconst (v := nI 1) hx hb dX3_paintsFrom_77 (by decide) ?_
                have ev_3 : (jmPa en la P n st mo d (max used (nu + 1)) (jxUp cl9 q nu)).2 = (jmPa en la P n st mo (d + 1) used cl).2 := by first | (rw [hd, show min (used + 1) mo - nu = (min (used + 1) mo - (nu + 1)) + 1 by omega, jmPL_1 c47 c74]; done) | (rw [hd, show min (used + 1) mo - nu = 0 by omega]; rfl)
                exact hQ true H locs _ _ dX3_paintsFrom_78 (by rw [hd, show min (used + 1) mo - nu = (min (used + 1) mo - (nu + 1)) + 1 by omega, jmPL_1 c47 c74, c74]) (by rw [← ev_3]; exact hP) hS
    exact L26 ((min (used + 1) mo - 0 + 1) + 1) 0 cl (by omega) hcl (by rw [show q = P - (d + 1) by omega]; rfl) (Nat.lt_succ_self _) H locs hP hS ls (lv_sub hl [2, 3, 4, 5, 1, 0] rfl)
  · have c8 : P ≤ q := jx_nlt (by omega) (by omega) c8
    exact absurd c8 (by omega)
/-- paintsFrom, at any depth d -/
theorem c_X3_paintsFrom (l : Launch) (D : va_G) (cI : ClassId) (g : Nat → Nat) (P n st : Nat) (sm gr co en la : Nat → Nat) (pk : Nat) (hw : jmWF P n st sm gr co en la) (mo : Nat) (hmo : mo ≤ 8) : ∀ (d q used : Nat) (cl : Nat → Nat) (sz : Nat), q + d = P → used ≤ 8 → (∀ j, j < 8 → cl j < 256) → jxWi l yX3_paintsFrom wsX3_paintsFrom (jmRm d) D [(cI, .int)] (jW cI g P n st sm gr co en la ++ jP cI g pk cl) [.ref (g 40), .int (nI q), .int (nI used), .int (nI mo)] sz (fun r => r = nI (jB (jmPa en la P n st mo d used cl).1)) (jW cI g P n st sm gr co en la ++ jP cI g pk (jmPa en la P n st mo d used cl).2) := by
  intro d
  induction d with
  | zero => exact fun q used cl sz hq hu hc => c_paint0 l D cI g P n st sm gr co en la pk cl sz hw q used mo hq hu hmo hc
  | succ d ih => exact fun q used cl sz hq hu hc => c_paintS l D cI g P n st sm gr co en la pk cl sz hw d q used mo hq hu hmo hc ih
