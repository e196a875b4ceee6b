set_option maxRecDepth 20000 in
theorem in_X6_demandPoint_6 : ∀ w ∈ wsX60, w ∈ wsX6_demandPoint := by decide +kernel
set_option maxRecDepth 20000 in
theorem in_X6_demandPoint_5 : ∀ w ∈ wsX50, w ∈ wsX6_demandPoint := by decide +kernel
set_option maxHeartbeats 4000000 in
set_option maxRecDepth 100000 in
/-- demandPoint(point), of one that there is -/
theorem c_X6_demandPoint (l : Launch) (D : va_G) (cI : ClassId) (g : Nat → Nat) (P n st : Nat) (sm gr co en la : Nat → Nat) (rf : Int32) (sz : Nat) (hw : jmWF P n st sm gr co en la) (q : Nat) (hq : q < P) : jxWv l yX6_demandPoint wsX6_demandPoint ({ frames := 0, cells := 0, slots := 0, locals := 0 } : Room) D [(cI, .int)] (jW cI g P n st sm gr co en la ++ jC g rf) [.ref (g 60), .int (nI q)] sz (jW cI g P n st sm gr co en la ++ jC g rf) := by
  refine jxw_enterV (by decide) rfl (Nat.le_of_ble_eq_true rfl) ?_
  intro p e s m args below meth c Q A ls hx hb hml hts hown hN hP hK hD hA hl hQ
  have hD0 := hD
  obtain ⟨H, hH⟩ : ∃ h, h = s.heap := ⟨_, rfl⟩
  have hS : va_S A s.heap H [] := by rw [hH]; exact va_S.rf
  rw [← hH] at hP ⊢
  obtain ⟨locs, hlocs⟩ : ∃ z : List Loc, z = [] := ⟨_, rfl⟩
  rw [← hlocs] at hS ⊢
  have hown : s.vm.findClass RX6 = some m.cls := hown
  have hl : lv_has ls 2 [(0, .ref (g 60)), (1, .int (nI q))] := hl
  have hP8 : P ≤ 8 := hw.1
  have hn16 : n ≤ 16 := hw.2.1
  have hst : st < 65536 := jmWF_st hw
  have hen : ∀ j, j < n → en j < 256 := jmWF_en hw
  have hla : ∀ q, q < P → la q < 65536 := jmWF_la hw
  have hgr : ∀ j, j < n → sm j < 8 ∧ gr j < 8 := jmWF_gr hw
  have hco : ∀ j, j < n → co j < 21 := jmWF_co hw
  refine lv_iload_n hx hb dX6_demandPoint_0 rfl (lv_at hl 1 rfl) ?_
  refine lv_if_lt (tgt := 15) hx hb dX6_demandPoint_1 (by decide) (fun c => absurd c (nI_pos (by omega))) (fun _ => ?_)
  refine lv_iload_n hx hb dX6_demandPoint_4 rfl (lv_at hl 1 rfl) ?_
  refine lv_aload_n hx hb dX6_demandPoint_5 rfl (lv_at hl 0 rfl) ?_
  refine va_get (D := D) (ci := 6) (v := .ref (g 0)) (C := RX6) (T := TX6) (N := 7) hx hb hts in_X6_demandPoint_6 hown hK hP 6 rfl rfl 0 (by decide) (hts (.fieldLink RX6 10 "Twincuts" "web" "LTwincuts$Web;") (List.mem_of_getElem? (i := 3) (by decide +kernel))) (fun _ h9 => h9) rfl dX6_demandPoint_6 ?_
  refine va_getN (D := D) (ci := 5) (v := .int (nI P)) (C := RX5) (T := TX5) (N := 8) hx hb hts in_X6_demandPoint_5 hown hK hP 0 rfl rfl 0 (by decide) (hN.use 0 rfl) (fun _ h9 => h9) rfl dX6_demandPoint_9 ?_
  refine lv_icmp_lt (tgt := 26) hx hb dX6_demandPoint_12 (by decide) (fun c12 => ?_) (fun c12 => ?_)
  · have c12 : q < P := jx_lt (by omega) (by omega) c12
    exact hQ H locs _ _ dX6_demandPoint_26 hP hS
  · have c12 : P ≤ q := jx_nlt (by omega) (by omega) c12
    first | exact absurd c12 (by omega)
set_option maxRecDepth 20000 in
theorem in_X6_demandLine_6 : ∀ w ∈ wsX60, w ∈ wsX6_demandLine := by decide +kernel
set_option maxRecDepth 20000 in
theorem in_X6_demandLine_5 : ∀ w ∈ wsX50, w ∈ wsX6_demandLine := by decide +kernel
set_option maxHeartbeats 4000000 in
set_option maxRecDepth 100000 in
/-- demandLine(line), of one that there is -/
theorem c_X6_demandLine (l : Launch) (D : va_G) (cI : ClassId) (g : Nat → Nat) (P n st : Nat) (sm gr co en la : Nat → Nat) (rf : Int32) (sz : Nat) (hw : jmWF P n st sm gr co en la) (i : Nat) (hi : i < n) : jxWv l yX6_demandLine wsX6_demandLine ({ frames := 0, cells := 0, slots := 0, locals := 0 } : Room) D [(cI, .int)] (jW cI g P n st sm gr co en la ++ jC g rf) [.ref (g 60), .int (nI i)] sz (jW cI g P n st sm gr co en la ++ jC g rf) := by
  refine jxw_enterV (by decide) rfl (Nat.le_of_ble_eq_true rfl) ?_
  intro p e s m args below meth c Q A ls hx hb hml hts hown hN hP hK hD hA hl hQ
  have hD0 := hD
  obtain ⟨H, hH⟩ : ∃ h, h = s.heap := ⟨_, rfl⟩
  have hS : va_S A s.heap H [] := by rw [hH]; exact va_S.rf
  rw [← hH] at hP ⊢
  obtain ⟨locs, hlocs⟩ : ∃ z : List Loc, z = [] := ⟨_, rfl⟩
  rw [← hlocs] at hS ⊢
  have hown : s.vm.findClass RX6 = some m.cls := hown
  have hl : lv_has ls 2 [(0, .ref (g 60)), (1, .int (nI i))] := hl
  have hP8 : P ≤ 8 := hw.1
  have hn16 : n ≤ 16 := hw.2.1
  have hst : st < 65536 := jmWF_st hw
  have hen : ∀ j, j < n → en j < 256 := jmWF_en hw
  have hla : ∀ q, q < P → la q < 65536 := jmWF_la hw
  have hgr : ∀ j, j < n → sm j < 8 ∧ gr j < 8 := jmWF_gr hw
  have hco : ∀ j, j < n → co j < 21 := jmWF_co hw
  refine lv_iload_n hx hb dX6_demandLine_0 rfl (lv_at hl 1 rfl) ?_
  refine lv_if_lt (tgt := 15) hx hb dX6_demandLine_1 (by decide) (fun c => absurd c (nI_pos (by omega))) (fun _ => ?_)
  refine lv_iload_n hx hb dX6_demandLine_4 rfl (lv_at hl 1 rfl) ?_
  refine lv_aload_n hx hb dX6_demandLine_5 rfl (lv_at hl 0 rfl) ?_
  refine va_get (D := D) (ci := 6) (v := .ref (g 0)) (C := RX6) (T := TX6) (N := 7) hx hb hts in_X6_demandLine_6 hown hK hP 6 rfl rfl 0 (by decide) (hts (.fieldLink RX6 10 "Twincuts" "web" "LTwincuts$Web;") (List.mem_of_getElem? (i := 3) (by decide +kernel))) (fun _ h9 => h9) rfl dX6_demandLine_6 ?_
  refine va_getN (D := D) (ci := 5) (v := .int (nI n)) (C := RX5) (T := TX5) (N := 8) hx hb hts in_X6_demandLine_5 hown hK hP 0 rfl rfl 1 (by decide) (hN.use 8 rfl) (fun _ h9 => h9) rfl dX6_demandLine_9 ?_
  refine lv_icmp_lt (tgt := 26) hx hb dX6_demandLine_12 (by decide) (fun c12 => ?_) (fun c12 => ?_)
  · have c12 : i < n := jx_lt (by omega) (by omega) c12
    exact hQ H locs _ _ dX6_demandLine_26 hP hS
  · have c12 : n ≤ i := jx_nlt (by omega) (by omega) c12
    first | exact absurd c12 (by omega)
set_option maxRecDepth 20000 in
theorem in_X6_demandPlace_6 : ∀ w ∈ wsX60, w ∈ wsX6_demandPlace := by decide +kernel
set_option maxRecDepth 20000 in
theorem in_X6_demandPlace_0 : ∀ w ∈ wsX00, w ∈ wsX6_demandPlace := by decide +kernel
set_option maxHeartbeats 4000000 in
set_option maxRecDepth 100000 in
/-- demandPlace(point, place), of one that there is -/
theorem c_X6_demandPlace (l : Launch) (D : va_G) (cI : ClassId) (cO : ClassId) (g : Nat → Nat) (rd le : Nat → Nat) (wk : Nat) (fa : Nat → Int32) (rf : Int32) (sz : Nat) (q k : Nat) (hq : q < 8) (hk : k < le q) (hle : le q ≤ 16) : jxWv l yX6_demandPlace wsX6_demandPlace ({ frames := 0, cells := 0, slots := 0, locals := 0 } : Room) D [(cI, .int), (cO, .array .int)] (jD cI cO g rd le wk fa ++ jC g rf) [.ref (g 60), .int (nI q), .int (nI k)] sz (jD cI cO g rd le wk fa ++ jC g rf) := by
  refine jxw_enterV (by decide) rfl (Nat.le_of_ble_eq_true rfl) ?_
  intro p e s m args below meth c Q A ls hx hb hml hts hown hN hP hK hD hA hl hQ
  have hD0 := hD
  obtain ⟨H, hH⟩ : ∃ h, h = s.heap := ⟨_, rfl⟩
  have hS : va_S A s.heap H [] := by rw [hH]; exact va_S.rf
  rw [← hH] at hP ⊢
  obtain ⟨locs, hlocs⟩ : ∃ z : List Loc, z = [] := ⟨_, rfl⟩
  rw [← hlocs] at hS ⊢
  have hown : s.vm.findClass RX6 = some m.cls := hown
  have hl : lv_has ls 3 [(0, .ref (g 60)), (1, .int (nI q)), (2, .int (nI k))] := hl
  refine lv_iload_n hx hb dX6_demandPlace_0 rfl (lv_at hl 2 rfl) ?_
  refine lv_if_lt (tgt := 17) hx hb dX6_demandPlace_1 (by decide) (fun c => absurd c (nI_pos (by omega))) (fun _ => ?_)
  refine lv_iload_n hx hb dX6_demandPlace_4 rfl (lv_at hl 2 rfl) ?_
  refine lv_aload_n hx hb dX6_demandPlace_5 rfl (lv_at hl 0 rfl) ?_
  refine va_get (D := D) (ci := 6) (v := .ref (g 50)) (C := RX6) (T := TX6) (N := 7) hx hb hts in_X6_demandPlace_6 hown hK hP 4 rfl rfl 5 (by decide) (hts (.fieldLink RX6 49 "Twincuts" "drawing" "LTwincuts$Drawing;") (List.mem_of_getElem? (i := 3) (by decide +kernel))) (fun _ h9 => h9) rfl dX6_demandPlace_6 ?_
  refine va_getN (D := D) (ci := 0) (v := .ref (g 52)) (C := RX0) (T := TX0) (N := 5) hx hb hts in_X6_demandPlace_0 hown hK hP 0 rfl rfl 2 (by decide) (hN.use 38 rfl) (fun _ h9 => h9) rfl dX6_demandPlace_9 ?_
  refine lv_iload_n hx hb dX6_demandPlace_12 rfl (lv_at hl 1 rfl) ?_
  refine jx_iald hx hb hK hP 2 0 rfl rfl (by omega) (by decide) dX6_demandPlace_13 ?_
  refine lv_icmp_lt (tgt := 28) hx hb dX6_demandPlace_14 (by decide) (fun c14 => ?_) (fun c14 => ?_)
  · have c14 : k < le q := jx_lt (by omega) (by omega) c14
    exact hQ H locs _ _ dX6_demandPlace_28 hP hS
  · have c14 : le q ≤ k := jx_nlt (by omega) (by omega) c14
    first | exact absurd c14 (by omega)
set_option maxHeartbeats 4000000 in
set_option maxRecDepth 100000 in
/-- demandUnlike(one, other), of two -/
theorem c_X6_demandUnlike (l : Launch) (D : va_G)  (g : Nat → Nat)  (sz : Nat) (a o : Nat) (hao : a ≠ o) (ha : a < 2 ^ 31) (ho : o < 2 ^ 31) : jxWv l yX6_demandUnlike wsX6_demandUnlike ({ frames := 0, cells := 0, slots := 0, locals := 0 } : Room) D [] ([]) [.int (nI a), .int (nI o)] sz ([]) := by
  refine jxw_enterV (by decide) rfl (Nat.le_of_ble_eq_true rfl) ?_
  intro p e s m args below meth c Q A ls hx hb hml hts hown hN hP hK hD hA hl hQ
  have hD0 := hD
  obtain ⟨H, hH⟩ : ∃ h, h = s.heap := ⟨_, rfl⟩
  have hS : va_S A s.heap H [] := by rw [hH]; exact va_S.rf
  rw [← hH] at hP ⊢
  obtain ⟨locs, hlocs⟩ : ∃ z : List Loc, z = [] := ⟨_, rfl⟩
  rw [← hlocs] at hS ⊢
  have hown : s.vm.findClass RX6 = some m.cls := hown
  have hl : lv_has ls 2 [(0, .int (nI a)), (1, .int (nI o))] := hl
  refine lv_iload_n hx hb dX6_demandUnlike_0 rfl (lv_at hl 0 rfl) ?_
  refine lv_iload_n hx hb dX6_demandUnlike_1 rfl (lv_at hl 1 rfl) ?_
  refine lv_icmp_ne (tgt := 16) hx hb dX6_demandUnlike_2 (by decide) (fun c2 => ?_) (fun c2 => ?_)
  · have c2 : a ≠ o := jx_ne c2
    exact hQ H locs _ _ dX6_demandUnlike_16 hP hS
  · have c2 : a = o := jx_e (by omega) (by omega) c2
    exact absurd c2 hao
set_option maxHeartbeats 4000000 in
set_option maxRecDepth 100000 in
/-- demandCost(cost), of 1 to 20 -/
theorem c_X6_demandCost (l : Launch) (D : va_G)  (g : Nat → Nat)  (sz : Nat) (x : Nat) (h1 : 1 ≤ x) (h2 : x ≤ 20) : jxWv l yX6_demandCost wsX6_demandCost ({ frames := 0, cells := 0, slots := 0, locals := 0 } : Room) D [] ([]) [.int (nI x)] sz ([]) := by
  refine jxw_enterV (by decide) rfl (Nat.le_of_ble_eq_true rfl) ?_
  intro p e s m args below meth c Q A ls hx hb hml hts hown hN hP hK hD hA hl hQ
  have hD0 := hD
  obtain ⟨H, hH⟩ : ∃ h, h = s.heap := ⟨_, rfl⟩
  have hS : va_S A s.heap H [] := by rw [hH]; exact va_S.rf
  rw [← hH] at hP ⊢
  obtain ⟨locs, hlocs⟩ : ∃ z : List Loc, z = [] := ⟨_, rfl⟩
  rw [← hlocs] at hS ⊢
  have hown : s.vm.findClass RX6 = some m.cls := hown
  have hl : lv_has ls 1 [(0, .int (nI x))] := hl
  refine lv_iload_n hx hb dX6_demandCost_0 rfl (lv_at hl 0 rfl) ?_
  refine lv_iconst (v := nI 1) hx hb dX6_demandCost_1 (by decide) ?_
  refine lv_icmp_lt (tgt := 11) hx hb dX6_demandCost_2 (by decide) (fun c2 => ?_) (fun c2 => ?_)
  · have c2 : x < 1 := jx_lt (by omega) (by decide) c2
    first | exact absurd c2 (by omega) | exact absurd c8 (by omega)
  · have c2 : 1 ≤ x := jx_nlt (by omega) (by decide) c2
    refine lv_iload_n hx hb dX6_demandCost_5 rfl (lv_at hl 0 rfl) ?_
    refine lv_bipush (v := nI 20) hx hb dX6_demandCost_6 (by decide) ?_
    refine lv_icmp_le (tgt := 22) hx hb dX6_demandCost_8 (by decide) (fun c8 => ?_) (fun c8 => ?_)
    · have c8 : x ≤ 20 := jx_le (by omega) (by decide) c8
      exact hQ H locs _ _ dX6_demandCost_22 hP hS
    · have c8 : 20 < x := jx_nle (by omega) (by decide) c8
      first | exact absurd c2 (by omega) | exact absurd c8 (by omega)
set_option maxHeartbeats 4000000 in
set_option maxRecDepth 100000 in
/-- demandWhat(what, last), of 0 to last -/
theorem c_X6_demandWhat (l : Launch) (D : va_G)  (g : Nat → Nat)  (sz : Nat) (x y : Nat) (h1 : x ≤ y) (h2 : y < 256) : jxWv l yX6_demandWhat wsX6_demandWhat ({ frames := 0, cells := 0, slots := 0, locals := 0 } : Room) D [] ([]) [.int (nI x), .int (nI y)] sz ([]) := by
  refine jxw_enterV (by decide) rfl (Nat.le_of_ble_eq_true rfl) ?_
  intro p e s m args below meth c Q A ls hx hb hml hts hown hN hP hK hD hA hl hQ
  have hD0 := hD
  obtain ⟨H, hH⟩ : ∃ h, h = s.heap := ⟨_, rfl⟩
  have hS : va_S A s.heap H [] := by rw [hH]; exact va_S.rf
  rw [← hH] at hP ⊢
  obtain ⟨locs, hlocs⟩ : ∃ z : List Loc, z = [] := ⟨_, rfl⟩
  rw [← hlocs] at hS ⊢
  have hown : s.vm.findClass RX6 = some m.cls := hown
  have hl : lv_has ls 2 [(0, .int (nI x)), (1, .int (nI y))] := hl
  refine lv_iload_n hx hb dX6_demandWhat_0 rfl (lv_at hl 0 rfl) ?_
  refine lv_if_lt (tgt := 9) hx hb dX6_demandWhat_1 (by decide) (fun c => absurd c (nI_pos (by omega))) (fun _ => ?_)
  refine lv_iload_n hx hb dX6_demandWhat_4 rfl (lv_at hl 0 rfl) ?_
  refine lv_iload_n hx hb dX6_demandWhat_5 rfl (lv_at hl 1 rfl) ?_
  refine lv_icmp_le (tgt := 20) hx hb dX6_demandWhat_6 (by decide) (fun c6 => ?_) (fun c6 => ?_)
  · have c6 : x ≤ y := jx_le (by omega) (by omega) c6
    exact hQ H locs _ _ dX6_demandWhat_20 hP hS
  · have c6 : y < x := jx_nle (by omega) (by omega) c6
    first | exact absurd c6 (by omega)
set_option maxHeartbeats 4000000 in
set_option maxRecDepth 100000 in
/-- demandNth(nth), not below 0 -/
theorem c_X6_demandNth (l : Launch) (D : va_G)  (g : Nat → Nat)  (sz : Nat) (x : Nat) (h1 : x < 2 ^ 31) : jxWv l yX6_demandNth wsX6_demandNth ({ frames := 0, cells := 0, slots := 0, locals := 0 } : Room) D [] ([]) [.int (nI x)] sz ([]) := by
  refine jxw_enterV (by decide) rfl (Nat.le_of_ble_eq_true rfl) ?_
  intro p e s m args below meth c Q A ls hx hb hml hts hown hN hP hK hD hA hl hQ
  have hD0 := hD
  obtain ⟨H, hH⟩ : ∃ h, h = s.heap := ⟨_, rfl⟩
  have hS : va_S A s.heap H [] := by rw [hH]; exact va_S.rf
  rw [← hH] at hP ⊢
  obtain ⟨locs, hlocs⟩ : ∃ z : List Loc, z = [] := ⟨_, rfl⟩
  rw [← hlocs] at hS ⊢
  have hown : s.vm.findClass RX6 = some m.cls := hown
  have hl : lv_has ls 1 [(0, .int (nI x))] := hl
  refine lv_iload_n hx hb dX6_demandNth_0 rfl (lv_at hl 0 rfl) ?_
  refine lv_if_ge (tgt := 15) hx hb dX6_demandNth_1 (by decide) (fun _ => ?_) (fun c => absurd (nI_pos' (by omega)) c)
  exact hQ H locs _ _ dX6_demandNth_15 hP hS
