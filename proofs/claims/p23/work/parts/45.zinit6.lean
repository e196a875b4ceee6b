/-! own rows: the constructor of Twincuts: the whole world, fresh; the first point -/
def jzGG (a b c d e f : Nat → Nat) (z : Nat) : Nat → Nat := fun i => if i < 6 then a i else if i < 20 then b i else if i < 30 then c i else if i < 40 then d i else if i < 50 then e i else if i < 60 then f i else z
def jzV0 : jZ := (0, 0, 0, fun _ => 0, fun _ => 0, fun _ => 0, fun _ => 0, fun _ => 0, 0, 0, 0, 0, 0, 0, fun _ => 0, fun _ => 0, fun _ => 0, fun _ => nI 0, fun _ => 0, fun _ => 0, fun _ => 0, fun _ => 0, 0, -1, fun _ => 0, 0, fun _ => 0, fun _ => 0, 0, fun _ => nI 0, fun _ _ => 0, nI 0)
def jzS0 : jS := (fun _ => nI 0, fun _ => 0, fun _ _ => nI 0, fun _ _ => 0)
theorem jzB_0 : jzB jzV0 := by
  refine ⟨⟨Nat.zero_le _, Nat.zero_le _, Nat.one_pos, fun j hj => absurd hj (Nat.not_lt_zero j), fun q hq => absurd hq (Nat.not_lt_zero q)⟩, fun _ _ _ => rfl, ⟨fun q hq => absurd hq (Nat.not_lt_zero q), fun q hq => absurd hq (Nat.not_lt_zero q), fun q hq => absurd hq (Nat.not_lt_zero q), fun q hq => absurd hq (Nat.not_lt_zero q), fun _ _ _ => rfl⟩, fun _ _ => ?_, fun _ _ => ?_, fun _ _ => ?_, fun _ _ => ?_, fun _ _ => ?_⟩
  · exact (by decide : 0 < 256)
  · exact (by decide : 0 < 256)
  · exact (by decide : 0 < 16)
  · exact (by decide : 0 < 256)
  · exact (by decide : 0 < 256)
theorem jzS0_ok : jSok jzS0 := fun _ _ => (by decide : 0 < 16)
theorem jz_gW (cI : ClassId) (a b c d e f : Nat → Nat) (z : Nat) (P n st : Nat) (sm gr co en la : Nat → Nat) : jW cI (jzGG a b c d e f z) P n st sm gr co en la = jW cI a P n st sm gr co en la := rfl
theorem jz_gF (cI : ClassId) {a b c d e f : Nat → Nat} {z : Nat} (h : a 0 = b 0) (fp fb fc fk fq ft : Nat) (pa ps fi : Nat → Nat) (bl : Nat → Int32) (sp gp sw gw : Nat → Nat) : jF cI (jzGG a b c d e f z) fp fb fc fk fq ft pa ps fi bl sp gp sw gw = jF cI b fp fb fc fk fq ft pa ps fi bl sp gp sw gw := by
  have h0 : jzGG a b c d e f z 0 = b 0 := h
  unfold jF
  rw [h0]
  rfl
theorem jz_gY (cI cO : ClassId) {a b c d e f : Nat → Nat} {z : Nat} (h : a 0 = c 0) (ro : Nat → Nat) (ca : Nat → Int32) (qu : Nat → Nat) : jY cI cO (jzGG a b c d e f z) ro ca qu = jY cI cO c ro ca qu := by
  have h0 : jzGG a b c d e f z 0 = c 0 := h
  unfold jY
  rw [h0]
  rfl
theorem jz_gT (cI cM : ClassId) {a b c d e f : Nat → Nat} {z : Nat} (h : a 0 = d 0) (rt : Nat → Nat) (cs : Nat) (ct : Int32) (jo : Nat → Nat) : jT cI cM (jzGG a b c d e f z) rt cs ct jo = jT cI cM d rt cs ct jo := by
  have h0 : jzGG a b c d e f z 0 = d 0 := h
  unfold jT
  rw [h0]
  rfl
theorem jz_gP (cI : ClassId) {a b c d e f : Nat → Nat} {z : Nat} (h : a 0 = e 0) (pk : Nat) (cl : Nat → Nat) : jP cI (jzGG a b c d e f z) pk cl = jP cI e pk cl := by
  have h0 : jzGG a b c d e f z 0 = e 0 := h
  unfold jP
  rw [h0]
  rfl
theorem jz_gD (cI cO : ClassId) {a b c d e f : Nat → Nat} {z : Nat} (h : a 0 = f 0) (rd le : Nat → Nat) (wk : Nat) (fa : Nat → Int32) : jD cI cO (jzGG a b c d e f z) rd le wk fa = jD cI cO f rd le wk fa := by
  have h0 : jzGG a b c d e f z 0 = f 0 := h
  unfold jD
  rw [h0]
  rfl
theorem jz_gC (a b c d e f : Nat → Nat) (z : Nat) (rf : Int32) : jC (jzGG a b c d e f z) rf = [(z, .inr (6, [.ref (a 0), .ref (b 10), .ref (c 20), .ref (d 30), .ref (e 40), .ref (f 50), .int rf]))] := rfl
theorem jz_fresh (cI cO cM cL : ClassId) (g5 g1 g4 g2 g3 g0 r4 r2 r0 : Nat → Nat) (b : Nat) (h1 : g5 0 = g1 0) (h4 : g5 0 = g4 0) (h2 : g5 0 = g2 0) (h3 : g5 0 = g3 0) (h0 : g5 0 = g0 0) : jzX cI cO cM cL (jzGG g5 g1 g4 g2 g3 g0 b) r4 r2 r0 jzV0 jzS0 = ((((((jW cI g5 0 0 0 (fun _ => 0) (fun _ => 0) (fun _ => 0) (fun _ => 0) (fun _ => 0)) ++ (jF cI g1 0 0 0 0 0 0 (fun _ => 0) (fun _ => 0) (fun _ => 0) (fun _ => nI 0) (fun _ => 0) (fun _ => 0) (fun _ => 0) (fun _ => 0))) ++ (jY cI cO g4 r4 (fun _ => nI 0) (fun _ => 0) ++ jRI cI 16 16 r4 (fun _ _ => nI 0))) ++ (jT cI cM g2 r2 0 (-1) (fun _ => 0) ++ jRL cL 8 8 r2 (fun _ _ => 0))) ++ (jP cI g3 0 (fun _ => 0))) ++ (jD cI cO g0 r0 (fun _ => 0) 0 (fun _ => nI 0) ++ jRN cI 8 16 r0 (fun _ _ => 0))) ++ [(b, .inr (6, [.ref (g5 0), .ref (g1 10), .ref (g4 20), .ref (g2 30), .ref (g3 40), .ref (g0 50), .int (nI 0)]))] := by
  have e : jzX cI cO cM cL (jzGG g5 g1 g4 g2 g3 g0 b) r4 r2 r0 jzV0 jzS0 = jW cI (jzGG g5 g1 g4 g2 g3 g0 b) 0 0 0 (fun _ => 0) (fun _ => 0) (fun _ => 0) (fun _ => 0) (fun _ => 0) ++ jF cI (jzGG g5 g1 g4 g2 g3 g0 b) 0 0 0 0 0 0 (fun _ => 0) (fun _ => 0) (fun _ => 0) (fun _ => nI 0) (fun _ => 0) (fun _ => 0) (fun _ => 0) (fun _ => 0) ++ jY cI cO (jzGG g5 g1 g4 g2 g3 g0 b) r4 (fun _ => nI 0) (fun _ => 0) ++ jRI cI 16 16 r4 (fun _ _ => nI 0) ++ jT cI cM (jzGG g5 g1 g4 g2 g3 g0 b) r2 0 (-1) (fun _ => 0) ++ jRL cL 8 8 r2 (fun _ _ => 0) ++ jP cI (jzGG g5 g1 g4 g2 g3 g0 b) 0 (fun _ => 0) ++ jD cI cO (jzGG g5 g1 g4 g2 g3 g0 b) r0 (fun _ => 0) 0 (fun _ => nI 0) ++ jRN cI 8 16 r0 (fun _ _ => 0) ++ jC (jzGG g5 g1 g4 g2 g3 g0 b) (nI 0) := rfl
  rw [e, jz_gW, jz_gF cI h1, jz_gY cI cO h4, jz_gT cI cM h2, jz_gP cI h3, jz_gD cI cO h0, jz_gC]
  simp only [List.append_assoc]
theorem in_X6_init_6 : ∀ w ∈ wsX60, w ∈ wsX6_init := by decide +kernel
theorem in_X6_init_5 : ∀ w ∈ wsX50, w ∈ wsX6_init := by decide +kernel
theorem in_X6_init_1 : ∀ w ∈ wsX10, w ∈ wsX6_init := by decide +kernel
theorem in_X6_init_4 : ∀ w ∈ wsX40, w ∈ wsX6_init := by decide +kernel
theorem in_X6_init_2 : ∀ w ∈ wsX20, w ∈ wsX6_init := by decide +kernel
theorem in_X6_init_3 : ∀ w ∈ wsX30, w ∈ wsX6_init := by decide +kernel
theorem in_X6_init_0 : ∀ w ∈ wsX00, w ∈ wsX6_init := by decide +kernel
set_option maxHeartbeats 2000000 in
set_option maxRecDepth 20000 in
theorem n_X6_init (l : Launch) (D : va_G) (cI cO cM cL : ClassId) (b sz : Nat) : Met l yX6_init wsX6_init ({ frames := 4, cells := 60, slots := 1024, locals := 80 } : Room) (va_Pc [.ref b] (jzN D cI cO cM cL [(b, .inr (6, [.null, .null, .null, .null, .null, .null, .int 0]))] sz)) (va_Qv (S := (Nat → Nat) × (Nat → Nat) × (Nat → Nat) × (Nat → Nat)) (fun u => u.1 60 = b) (fun u t => va_P D vwCl (jzX cI cO cM cL u.1 u.2.1 u.2.2.1 u.2.2.2 jzV0 jzS0) t.heap ∧ va_D (va_A [(b, .inr (6, [.null, .null, .null, .null, .null, .null, .int 0]))] sz) (jzX cI cO cM cL u.1 u.2.1 u.2.2.1 u.2.2.2 jzV0 jzS0)) (va_A [(b, .inr (6, [.null, .null, .null, .null, .null, .null, .int 0]))] sz)) 60 1024 (va_A [(b, .inr (6, [.null, .null, .null, .null, .null, .null, .int 0]))] sz) := by
  refine Met.ofW (cc := cX6_init) (maxL := 1) (ret := none) (by decide) rfl ?_
  intro p e s m args below meth c s₁ B hml hv
  obtain ⟨rfl, hN, rfl, hP, hK, hD0, hao, hal⟩ := hv
  have hx := B.exec
  have hb := B.bytes
  have hr := B.returns
  have hts := atoms_spec (ws := wsX6_init) B.pre
  have hown : s.vm.findClass RX6 = some m.cls := findClass_of_methodNamed B.named
  have hlocks := B.notSynchronized
  have hin : meth.name = "<init>" := (name_of_methodNamed B.named B.method).1
  have hD := hD0.self (sz := s.heap.size)
  generalize hAe : va_A [(b, .inr (6, [.null, .null, .null, .null, .null, .null, .int 0]))] s.heap.size = A at hD ⊢
  have hA : ∀ q : Nat, s.heap.size ≤ q → A q := fun q h => by rw [← hAe]; exact Or.inr h
  have hS : va_S A s.heap s.heap [] := va_S.rf
  have hl := lv_entry ([.ref b]) (n := 1) (Nat.le_of_ble_eq_true rfl)
  rw [lg_entry_eq]
  generalize (lg_sl ([.ref b]) ++ List.replicate (1 - (lg_sl ([.ref b])).length) Slot.unset).toArray = ls at hl ⊢
  have hl : lv_has ls 1 [(0, .ref b)] := hl
  refine lv_aload_n hx hb dX6_init_0 rfl (lv_at hl 0 rfl) ?_
  refine W.objInit hx hb hown (hts (.methodLink RX6 1 objectInit) (List.mem_of_getElem? (i := 1) (by decide +kernel))) (hts (.instanceMethod objectInit) (List.mem_of_getElem? (i := 2) (by decide +kernel))) (hts (.code objectInit ⟨#[0xb1]⟩ 1 none) (List.mem_of_getElem? (i := 3) rfl)) rfl (by rw [hml]; exact hl.1) rfl dX6_init_1 (Nat.le_of_ble_eq_true rfl) (Nat.le_of_ble_eq_true rfl) ?_
  refine W.eq (g2 := F0 m 4 ls []) rfl ?_
  refine lv_aload_n hx hb dX6_init_4 rfl (lv_at hl 0 rfl) ?_
  refine va_new (ci := 5) (fs := [.int 0, .int 0, .int 0, .null, .null, .null, .null, .null]) (C := RX5) (T := TX5) (N := 8) hx hb hts in_X6_init_5 tyX5 tyX5_ok hown (hts (.classLink RX6 7 RX5) (List.mem_of_getElem? (i := 4) (by decide +kernel))) (hts (.instantiable RX5 8) (List.mem_of_getElem? (i := 5) (by decide +kernel))) (hts (.initialized RX5) (List.mem_of_getElem? (i := 6) (by decide +kernel))) hK hP hD hS hA rfl (fun j hj => by rcases (show j = 0 ∨ j = 1 ∨ j = 2 ∨ j = 3 ∨ j = 4 ∨ j = 5 ∨ j = 6 ∨ j = 7 by omega) with rfl | rfl | rfl | rfl | rfl | rfl | rfl | rfl <;> rfl) (Nat.le_of_ble_eq_true rfl) (Nat.le_of_ble_eq_true rfl) dX6_init_5 (fun p5 H hP hD hS => ?_)
  refine lv_dup hx hb dX6_init_8 rfl ?_
  have hFc := jz_Fr hD hS hA
  have hPc := jz_Pr hP
  have hDc := jz_Dr hD
  refine va_callv (va_runIN (As := []) (rest := [.ref p5, .ref b]) ⟨hx, hb, hml, hown, hts⟩ (n_X5_init l D cI cO cM cL p5 H.size) ⟨va_cnB 0 hts gX6_init_X5_init_n9 rfl rfl rfl (hN.get 45 rfl) (hts (.initialized RX5) (List.mem_of_getElem? (i := 6) (by decide +kernel))) (by decide +kernel) ⟨(Nat.le_of_ble_eq_true rfl), (Nat.le_of_ble_eq_true rfl)⟩, rfl, (hts (.instanceMethod yX5_init) (List.mem_of_getElem? (i := 29) (by decide +kernel)))⟩ ⟨jzN_blind, fun V hV hW => ⟨rfl, hN.warm hW, by rw [hV], by rw [hV]; exact hPc, va_K.moved hW.alike hK, hDc.weaken (fun _ _ _ _ => trivial), jz_aoa hW.alike hao, jz_aoa hW.alike hal⟩⟩ rfl rfl hl.1 rfl (lv_room (Nat.le_of_ble_eq_true rfl)) dX6_init_9 ⟨(Nat.le_of_ble_eq_true rfl), (Nat.le_of_ble_eq_true rfl)⟩) hS (fun q _ h => hFc q h) hFc (fun u5 t9 H1 locs ht hvm hw hB hz1 hk1 hS => ?_)
  obtain ⟨hP1, hD1⟩ := hB
  rw [ht] at hP1
  obtain ⟨g5, r5⟩ := u5
  have hw5 : g5 0 = p5 := hw
  obtain ⟨hP, hD⟩ := jz_initJ hP hD hk1 hFc hP1 hD1
  generalize H1 = H at hP hS ⊢
  have hP : va_P D vwCl ([(b, .inr (6, [.null, .null, .null, .null, .null, .null, .int 0]))] ++ (jW cI g5 0 0 0 (fun _ => 0) (fun _ => 0) (fun _ => 0) (fun _ => 0) (fun _ => 0))) H := hP
  have hD : va_D A ([(b, .inr (6, [.null, .null, .null, .null, .null, .null, .int 0]))] ++ (jW cI g5 0 0 0 (fun _ => 0) (fun _ => 0) (fun _ => 0) (fun _ => 0) (fun _ => 0))) := hD
  refine va_putF (D := D) (ci := 6) (v := .ref p5) (ty := .object "Twincuts$Web") (C := RX6) (T := TX6) (N := 7) hx hb hts in_X6_init_6 tyX6 tyX6_ok nmX6 hown hK hP hD hS 0 rfl rfl 0 (by decide) (hts (.fieldLink RX6 10 "Twincuts" "web" "LTwincuts$Web;") (List.mem_of_getElem? (i := 7) (by decide +kernel))) (fun _ h9 => h9) rfl hin rfl (by decide +kernel) rfl rfl (Nat.le_of_ble_eq_true rfl) dX6_init_12 (fun H locs hP hD hS => ?_)
  have hP : va_P D vwCl ([(b, .inr (6, [.ref p5, .null, .null, .null, .null, .null, .int 0]))] ++ (jW cI g5 0 0 0 (fun _ => 0) (fun _ => 0) (fun _ => 0) (fun _ => 0) (fun _ => 0))) H := hP
  have hD : va_D A ([(b, .inr (6, [.ref p5, .null, .null, .null, .null, .null, .int 0]))] ++ (jW cI g5 0 0 0 (fun _ => 0) (fun _ => 0) (fun _ => 0) (fun _ => 0) (fun _ => 0))) := hD
  refine lv_aload_n hx hb dX6_init_15 rfl (lv_at hl 0 rfl) ?_
  refine va_new (ci := 1) (fs := [.null, .int 0, .int 0, .int 0, .int 0, .int 0, .int 0, .null, .null, .null, .null, .null, .null, .null, .null]) (C := RX1) (T := TX1) (N := 15) hx hb hts in_X6_init_1 tyX1 tyX1_ok hown (hts (.classLink RX6 16 RX1) (List.mem_of_getElem? (i := 8) (by decide +kernel))) (hts (.instantiable RX1 15) (List.mem_of_getElem? (i := 9) (by decide +kernel))) (hts (.initialized RX1) (List.mem_of_getElem? (i := 10) (by decide +kernel))) hK hP hD hS hA rfl (fun j hj => by rcases (show j = 0 ∨ j = 1 ∨ j = 2 ∨ j = 3 ∨ j = 4 ∨ j = 5 ∨ j = 6 ∨ j = 7 ∨ j = 8 ∨ j = 9 ∨ j = 10 ∨ j = 11 ∨ j = 12 ∨ j = 13 ∨ j = 14 by omega) with rfl | rfl | rfl | rfl | rfl | rfl | rfl | rfl | rfl | rfl | rfl | rfl | rfl | rfl | rfl <;> rfl) (Nat.le_of_ble_eq_true rfl) (Nat.le_of_ble_eq_true rfl) dX6_init_16 (fun p1 H hP hD hS => ?_)
  refine lv_dup hx hb dX6_init_19 rfl ?_
  refine lv_aload_n hx hb dX6_init_20 rfl (lv_at hl 0 rfl) ?_
  refine va_get (D := D) (ci := 6) (v := .ref p5) (C := RX6) (T := TX6) (N := 7) hx hb hts in_X6_init_6 hown hK hP 0 rfl rfl 0 (by decide) (hts (.fieldLink RX6 10 "Twincuts" "web" "LTwincuts$Web;") (List.mem_of_getElem? (i := 7) (by decide +kernel))) (fun _ h9 => h9) rfl dX6_init_21 ?_
  have hFc := jz_Fr hD hS hA
  have hPc := jz_Pr hP
  have hDc := jz_Dr hD
  refine va_callv (va_runI (As := [.ref p5]) (rest := [.ref p1, .ref b]) ⟨hx, hb, hml, hown, hts⟩ (n_X1_init l D cI cO cM cL p1 p5 H.size) (cwI 1 hts gX6_init_X1_init rfl rfl rfl (hts (.initialized RX1) (List.mem_of_getElem? (i := 10) (by decide +kernel))) (hts (.methodLink RX6 18 yX1_init) (List.mem_of_getElem? (i := 41) (by decide +kernel))) (hts (.instanceMethod yX1_init) (List.mem_of_getElem? (i := 42) (by decide +kernel))) rfl (by decide +kernel) ⟨(Nat.le_of_ble_eq_true rfl), (Nat.le_of_ble_eq_true rfl)⟩) ⟨jzN_blind, fun V hV hW => ⟨rfl, hN.warm hW, by rw [hV], by rw [hV]; exact hPc, va_K.moved hW.alike hK, hDc.weaken (fun _ _ _ _ => trivial), jz_aoa hW.alike hao, jz_aoa hW.alike hal⟩⟩ rfl rfl hl.1 rfl (lv_room (Nat.le_of_ble_eq_true rfl)) dX6_init_24 ⟨(Nat.le_of_ble_eq_true rfl), (Nat.le_of_ble_eq_true rfl)⟩) hS (fun q _ h => hFc q h) hFc (fun u1 t9 H1 locs ht hvm hw hB hz1 hk1 hS => ?_)
  obtain ⟨hP1, hD1⟩ := hB
  rw [ht] at hP1
  obtain ⟨g1, r1⟩ := u1
  have hw1 : g1 10 = p1 ∧ g1 0 = p5 := hw
  obtain ⟨hP, hD⟩ := jz_initJ hP hD hk1 hFc hP1 hD1
  generalize H1 = H at hP hS ⊢
  have hP : va_P D vwCl (([(b, .inr (6, [.ref p5, .null, .null, .null, .null, .null, .int 0]))] ++ (jW cI g5 0 0 0 (fun _ => 0) (fun _ => 0) (fun _ => 0) (fun _ => 0) (fun _ => 0))) ++ (jF cI g1 0 0 0 0 0 0 (fun _ => 0) (fun _ => 0) (fun _ => 0) (fun _ => nI 0) (fun _ => 0) (fun _ => 0) (fun _ => 0) (fun _ => 0))) H := hP
  have hD : va_D A (([(b, .inr (6, [.ref p5, .null, .null, .null, .null, .null, .int 0]))] ++ (jW cI g5 0 0 0 (fun _ => 0) (fun _ => 0) (fun _ => 0) (fun _ => 0) (fun _ => 0))) ++ (jF cI g1 0 0 0 0 0 0 (fun _ => 0) (fun _ => 0) (fun _ => 0) (fun _ => nI 0) (fun _ => 0) (fun _ => 0) (fun _ => 0) (fun _ => 0))) := hD
  refine va_putF (D := D) (ci := 6) (v := .ref p1) (ty := .object "Twincuts$Falls") (C := RX6) (T := TX6) (N := 7) hx hb hts in_X6_init_6 tyX6 tyX6_ok nmX6 hown hK hP hD hS 0 rfl rfl 1 (by decide) (hts (.fieldLink RX6 21 "Twincuts" "falls" "LTwincuts$Falls;") (List.mem_of_getElem? (i := 11) (by decide +kernel))) (fun _ h9 => h9) rfl hin rfl (by decide +kernel) rfl rfl (Nat.le_of_ble_eq_true rfl) dX6_init_27 (fun H locs hP hD hS => ?_)
  have hP : va_P D vwCl (([(b, .inr (6, [.ref p5, .ref p1, .null, .null, .null, .null, .int 0]))] ++ (jW cI g5 0 0 0 (fun _ => 0) (fun _ => 0) (fun _ => 0) (fun _ => 0) (fun _ => 0))) ++ (jF cI g1 0 0 0 0 0 0 (fun _ => 0) (fun _ => 0) (fun _ => 0) (fun _ => nI 0) (fun _ => 0) (fun _ => 0) (fun _ => 0) (fun _ => 0))) H := hP
  have hD : va_D A (([(b, .inr (6, [.ref p5, .ref p1, .null, .null, .null, .null, .int 0]))] ++ (jW cI g5 0 0 0 (fun _ => 0) (fun _ => 0) (fun _ => 0) (fun _ => 0) (fun _ => 0))) ++ (jF cI g1 0 0 0 0 0 0 (fun _ => 0) (fun _ => 0) (fun _ => 0) (fun _ => nI 0) (fun _ => 0) (fun _ => 0) (fun _ => 0) (fun _ => 0))) := hD
  refine lv_aload_n hx hb dX6_init_30 rfl (lv_at hl 0 rfl) ?_
  refine va_new (ci := 4) (fs := [.null, .null, .null, .null]) (C := RX4) (T := TX4) (N := 4) hx hb hts in_X6_init_4 tyX4 tyX4_ok hown (hts (.classLink RX6 25 RX4) (List.mem_of_getElem? (i := 12) (by decide +kernel))) (hts (.instantiable RX4 4) (List.mem_of_getElem? (i := 13) (by decide +kernel))) (hts (.initialized RX4) (List.mem_of_getElem? (i := 14) (by decide +kernel))) hK hP hD hS hA rfl (fun j hj => by rcases (show j = 0 ∨ j = 1 ∨ j = 2 ∨ j = 3 by omega) with rfl | rfl | rfl | rfl <;> rfl) (Nat.le_of_ble_eq_true rfl) (Nat.le_of_ble_eq_true rfl) dX6_init_31 (fun p4 H hP hD hS => ?_)
  refine lv_dup hx hb dX6_init_34 rfl ?_
  refine lv_aload_n hx hb dX6_init_35 rfl (lv_at hl 0 rfl) ?_
  refine va_get (D := D) (ci := 6) (v := .ref p5) (C := RX6) (T := TX6) (N := 7) hx hb hts in_X6_init_6 hown hK hP 0 rfl rfl 0 (by decide) (hts (.fieldLink RX6 10 "Twincuts" "web" "LTwincuts$Web;") (List.mem_of_getElem? (i := 7) (by decide +kernel))) (fun _ h9 => h9) rfl dX6_init_36 ?_
  have hFc := jz_Fr hD hS hA
  have hPc := jz_Pr hP
  have hDc := jz_Dr hD
  refine va_callv (va_runI (As := [.ref p5]) (rest := [.ref p4, .ref b]) ⟨hx, hb, hml, hown, hts⟩ (n_X4_init l D cI cO cM cL p4 p5 H.size) (cwI 1 hts gX6_init_X4_init rfl rfl rfl (hts (.initialized RX4) (List.mem_of_getElem? (i := 14) (by decide +kernel))) (hts (.methodLink RX6 27 yX4_init) (List.mem_of_getElem? (i := 60) (by decide +kernel))) (hts (.instanceMethod yX4_init) (List.mem_of_getElem? (i := 61) (by decide +kernel))) rfl (by decide +kernel) ⟨(Nat.le_of_ble_eq_true rfl), (Nat.le_of_ble_eq_true rfl)⟩) ⟨jzN_blind, fun V hV hW => ⟨rfl, hN.warm hW, by rw [hV], by rw [hV]; exact hPc, va_K.moved hW.alike hK, hDc.weaken (fun _ _ _ _ => trivial), jz_aoa hW.alike hao, jz_aoa hW.alike hal⟩⟩ rfl rfl hl.1 rfl (lv_room (Nat.le_of_ble_eq_true rfl)) dX6_init_39 ⟨(Nat.le_of_ble_eq_true rfl), (Nat.le_of_ble_eq_true rfl)⟩) hS (fun q _ h => hFc q h) hFc (fun u4 t9 H1 locs ht hvm hw hB hz1 hk1 hS => ?_)
  obtain ⟨hP1, hD1⟩ := hB
  rw [ht] at hP1
  obtain ⟨g4, r4⟩ := u4
  have hw4 : g4 20 = p4 ∧ g4 0 = p5 := hw
  obtain ⟨hP, hD⟩ := jz_initJ hP hD hk1 hFc hP1 hD1
  generalize H1 = H at hP hS ⊢
  have hP : va_P D vwCl ((([(b, .inr (6, [.ref p5, .ref p1, .null, .null, .null, .null, .int 0]))] ++ (jW cI g5 0 0 0 (fun _ => 0) (fun _ => 0) (fun _ => 0) (fun _ => 0) (fun _ => 0))) ++ (jF cI g1 0 0 0 0 0 0 (fun _ => 0) (fun _ => 0) (fun _ => 0) (fun _ => nI 0) (fun _ => 0) (fun _ => 0) (fun _ => 0) (fun _ => 0))) ++ (jY cI cO g4 r4 (fun _ => nI 0) (fun _ => 0) ++ jRI cI 16 16 r4 (fun _ _ => nI 0))) H := hP
  have hD : va_D A ((([(b, .inr (6, [.ref p5, .ref p1, .null, .null, .null, .null, .int 0]))] ++ (jW cI g5 0 0 0 (fun _ => 0) (fun _ => 0) (fun _ => 0) (fun _ => 0) (fun _ => 0))) ++ (jF cI g1 0 0 0 0 0 0 (fun _ => 0) (fun _ => 0) (fun _ => 0) (fun _ => nI 0) (fun _ => 0) (fun _ => 0) (fun _ => 0) (fun _ => 0))) ++ (jY cI cO g4 r4 (fun _ => nI 0) (fun _ => 0) ++ jRI cI 16 16 r4 (fun _ _ => nI 0))) := hD
  refine va_putF (D := D) (ci := 6) (v := .ref p4) (ty := .object "Twincuts$Ways") (C := RX6) (T := TX6) (N := 7) hx hb hts in_X6_init_6 tyX6 tyX6_ok nmX6 hown hK hP hD hS 0 rfl rfl 2 (by decide) (hts (.fieldLink RX6 28 "Twincuts" "ways" "LTwincuts$Ways;") (List.mem_of_getElem? (i := 15) (by decide +kernel))) (fun _ h9 => h9) rfl hin rfl (by decide +kernel) rfl rfl (Nat.le_of_ble_eq_true rfl) dX6_init_42 (fun H locs hP hD hS => ?_)
  have hP : va_P D vwCl ((([(b, .inr (6, [.ref p5, .ref p1, .ref p4, .null, .null, .null, .int 0]))] ++ (jW cI g5 0 0 0 (fun _ => 0) (fun _ => 0) (fun _ => 0) (fun _ => 0) (fun _ => 0))) ++ (jF cI g1 0 0 0 0 0 0 (fun _ => 0) (fun _ => 0) (fun _ => 0) (fun _ => nI 0) (fun _ => 0) (fun _ => 0) (fun _ => 0) (fun _ => 0))) ++ (jY cI cO g4 r4 (fun _ => nI 0) (fun _ => 0) ++ jRI cI 16 16 r4 (fun _ _ => nI 0))) H := hP
  have hD : va_D A ((([(b, .inr (6, [.ref p5, .ref p1, .ref p4, .null, .null, .null, .int 0]))] ++ (jW cI g5 0 0 0 (fun _ => 0) (fun _ => 0) (fun _ => 0) (fun _ => 0) (fun _ => 0))) ++ (jF cI g1 0 0 0 0 0 0 (fun _ => 0) (fun _ => 0) (fun _ => 0) (fun _ => nI 0) (fun _ => 0) (fun _ => 0) (fun _ => 0) (fun _ => 0))) ++ (jY cI cO g4 r4 (fun _ => nI 0) (fun _ => 0) ++ jRI cI 16 16 r4 (fun _ _ => nI 0))) := hD
  refine lv_aload_n hx hb dX6_init_45 rfl (lv_at hl 0 rfl) ?_
  refine va_new (ci := 2) (fs := [.null, .null, .int 0, .int 0, .null]) (C := RX2) (T := TX2) (N := 5) hx hb hts in_X6_init_2 tyX2 tyX2_ok hown (hts (.classLink RX6 32 RX2) (List.mem_of_getElem? (i := 16) (by decide +kernel))) (hts (.instantiable RX2 5) (List.mem_of_getElem? (i := 17) (by decide +kernel))) (hts (.initialized RX2) (List.mem_of_getElem? (i := 18) (by decide +kernel))) hK hP hD hS hA rfl (fun j hj => by rcases (show j = 0 ∨ j = 1 ∨ j = 2 ∨ j = 3 ∨ j = 4 by omega) with rfl | rfl | rfl | rfl | rfl <;> rfl) (Nat.le_of_ble_eq_true rfl) (Nat.le_of_ble_eq_true rfl) dX6_init_46 (fun p2 H hP hD hS => ?_)
  refine lv_dup hx hb dX6_init_49 rfl ?_
  refine lv_aload_n hx hb dX6_init_50 rfl (lv_at hl 0 rfl) ?_
  refine va_get (D := D) (ci := 6) (v := .ref p5) (C := RX6) (T := TX6) (N := 7) hx hb hts in_X6_init_6 hown hK hP 0 rfl rfl 0 (by decide) (hts (.fieldLink RX6 10 "Twincuts" "web" "LTwincuts$Web;") (List.mem_of_getElem? (i := 7) (by decide +kernel))) (fun _ h9 => h9) rfl dX6_init_51 ?_
  have hFc := jz_Fr hD hS hA
  have hPc := jz_Pr hP
  have hDc := jz_Dr hD
  refine va_callv (va_runI (As := [.ref p5]) (rest := [.ref p2, .ref b]) ⟨hx, hb, hml, hown, hts⟩ (n_X2_init l D cI cO cM cL p2 p5 H.size) (cwI 1 hts gX6_init_X2_init rfl rfl rfl (hts (.initialized RX2) (List.mem_of_getElem? (i := 18) (by decide +kernel))) (hts (.methodLink RX6 34 yX2_init) (List.mem_of_getElem? (i := 69) (by decide +kernel))) (hts (.instanceMethod yX2_init) (List.mem_of_getElem? (i := 70) (by decide +kernel))) rfl (by decide +kernel) ⟨(Nat.le_of_ble_eq_true rfl), (Nat.le_of_ble_eq_true rfl)⟩) ⟨jzN_blind, fun V hV hW => ⟨rfl, hN.warm hW, by rw [hV], by rw [hV]; exact hPc, va_K.moved hW.alike hK, hDc.weaken (fun _ _ _ _ => trivial), jz_aoa hW.alike hao, jz_aoa hW.alike hal⟩⟩ rfl rfl hl.1 rfl (lv_room (Nat.le_of_ble_eq_true rfl)) dX6_init_54 ⟨(Nat.le_of_ble_eq_true rfl), (Nat.le_of_ble_eq_true rfl)⟩) hS (fun q _ h => hFc q h) hFc (fun u2 t9 H1 locs ht hvm hw hB hz1 hk1 hS => ?_)
  obtain ⟨hP1, hD1⟩ := hB
  rw [ht] at hP1
  obtain ⟨g2, r2⟩ := u2
  have hw2 : g2 30 = p2 ∧ g2 0 = p5 := hw
  obtain ⟨hP, hD⟩ := jz_initJ hP hD hk1 hFc hP1 hD1
  generalize H1 = H at hP hS ⊢
  have hP : va_P D vwCl (((([(b, .inr (6, [.ref p5, .ref p1, .ref p4, .null, .null, .null, .int 0]))] ++ (jW cI g5 0 0 0 (fun _ => 0) (fun _ => 0) (fun _ => 0) (fun _ => 0) (fun _ => 0))) ++ (jF cI g1 0 0 0 0 0 0 (fun _ => 0) (fun _ => 0) (fun _ => 0) (fun _ => nI 0) (fun _ => 0) (fun _ => 0) (fun _ => 0) (fun _ => 0))) ++ (jY cI cO g4 r4 (fun _ => nI 0) (fun _ => 0) ++ jRI cI 16 16 r4 (fun _ _ => nI 0))) ++ (jT cI cM g2 r2 0 (-1) (fun _ => 0) ++ jRL cL 8 8 r2 (fun _ _ => 0))) H := hP
  have hD : va_D A (((([(b, .inr (6, [.ref p5, .ref p1, .ref p4, .null, .null, .null, .int 0]))] ++ (jW cI g5 0 0 0 (fun _ => 0) (fun _ => 0) (fun _ => 0) (fun _ => 0) (fun _ => 0))) ++ (jF cI g1 0 0 0 0 0 0 (fun _ => 0) (fun _ => 0) (fun _ => 0) (fun _ => nI 0) (fun _ => 0) (fun _ => 0) (fun _ => 0) (fun _ => 0))) ++ (jY cI cO g4 r4 (fun _ => nI 0) (fun _ => 0) ++ jRI cI 16 16 r4 (fun _ _ => nI 0))) ++ (jT cI cM g2 r2 0 (-1) (fun _ => 0) ++ jRL cL 8 8 r2 (fun _ _ => 0))) := hD
  refine va_putF (D := D) (ci := 6) (v := .ref p2) (ty := .object "Twincuts$Forest") (C := RX6) (T := TX6) (N := 7) hx hb hts in_X6_init_6 tyX6 tyX6_ok nmX6 hown hK hP hD hS 0 rfl rfl 3 (by decide) (hts (.fieldLink RX6 35 "Twincuts" "forest" "LTwincuts$Forest;") (List.mem_of_getElem? (i := 19) (by decide +kernel))) (fun _ h9 => h9) rfl hin rfl (by decide +kernel) rfl rfl (Nat.le_of_ble_eq_true rfl) dX6_init_57 (fun H locs hP hD hS => ?_)
  have hP : va_P D vwCl (((([(b, .inr (6, [.ref p5, .ref p1, .ref p4, .ref p2, .null, .null, .int 0]))] ++ (jW cI g5 0 0 0 (fun _ => 0) (fun _ => 0) (fun _ => 0) (fun _ => 0) (fun _ => 0))) ++ (jF cI g1 0 0 0 0 0 0 (fun _ => 0) (fun _ => 0) (fun _ => 0) (fun _ => nI 0) (fun _ => 0) (fun _ => 0) (fun _ => 0) (fun _ => 0))) ++ (jY cI cO g4 r4 (fun _ => nI 0) (fun _ => 0) ++ jRI cI 16 16 r4 (fun _ _ => nI 0))) ++ (jT cI cM g2 r2 0 (-1) (fun _ => 0) ++ jRL cL 8 8 r2 (fun _ _ => 0))) H := hP
  have hD : va_D A (((([(b, .inr (6, [.ref p5, .ref p1, .ref p4, .ref p2, .null, .null, .int 0]))] ++ (jW cI g5 0 0 0 (fun _ => 0) (fun _ => 0) (fun _ => 0) (fun _ => 0) (fun _ => 0))) ++ (jF cI g1 0 0 0 0 0 0 (fun _ => 0) (fun _ => 0) (fun _ => 0) (fun _ => nI 0) (fun _ => 0) (fun _ => 0) (fun _ => 0) (fun _ => 0))) ++ (jY cI cO g4 r4 (fun _ => nI 0) (fun _ => 0) ++ jRI cI 16 16 r4 (fun _ _ => nI 0))) ++ (jT cI cM g2 r2 0 (-1) (fun _ => 0) ++ jRL cL 8 8 r2 (fun _ _ => 0))) := hD
  refine lv_aload_n hx hb dX6_init_60 rfl (lv_at hl 0 rfl) ?_
  refine va_new (ci := 3) (fs := [.null, .int 0, .null]) (C := RX3) (T := TX3) (N := 3) hx hb hts in_X6_init_3 tyX3 tyX3_ok hown (hts (.classLink RX6 39 RX3) (List.mem_of_getElem? (i := 20) (by decide +kernel))) (hts (.instantiable RX3 3) (List.mem_of_getElem? (i := 21) (by decide +kernel))) (hts (.initialized RX3) (List.mem_of_getElem? (i := 22) (by decide +kernel))) hK hP hD hS hA rfl (fun j hj => by rcases (show j = 0 ∨ j = 1 ∨ j = 2 by omega) with rfl | rfl | rfl <;> rfl) (Nat.le_of_ble_eq_true rfl) (Nat.le_of_ble_eq_true rfl) dX6_init_61 (fun p3 H hP hD hS => ?_)
  refine lv_dup hx hb dX6_init_64 rfl ?_
  refine lv_aload_n hx hb dX6_init_65 rfl (lv_at hl 0 rfl) ?_
  refine va_get (D := D) (ci := 6) (v := .ref p5) (C := RX6) (T := TX6) (N := 7) hx hb hts in_X6_init_6 hown hK hP 0 rfl rfl 0 (by decide) (hts (.fieldLink RX6 10 "Twincuts" "web" "LTwincuts$Web;") (List.mem_of_getElem? (i := 7) (by decide +kernel))) (fun _ h9 => h9) rfl dX6_init_66 ?_
  have hFc := jz_Fr hD hS hA
  have hPc := jz_Pr hP
  have hDc := jz_Dr hD
  refine va_callv (va_runI (As := [.ref p5]) (rest := [.ref p3, .ref b]) ⟨hx, hb, hml, hown, hts⟩ (n_X3_init l D cI cO cM cL p3 p5 H.size) (cwI 1 hts gX6_init_X3_init rfl rfl rfl (hts (.initialized RX3) (List.mem_of_getElem? (i := 22) (by decide +kernel))) (hts (.methodLink RX6 41 yX3_init) (List.mem_of_getElem? (i := 80) (by decide +kernel))) (hts (.instanceMethod yX3_init) (List.mem_of_getElem? (i := 81) (by decide +kernel))) rfl (by decide +kernel) ⟨(Nat.le_of_ble_eq_true rfl), (Nat.le_of_ble_eq_true rfl)⟩) ⟨jzN_blind, fun V hV hW => ⟨rfl, hN.warm hW, by rw [hV], by rw [hV]; exact hPc, va_K.moved hW.alike hK, hDc.weaken (fun _ _ _ _ => trivial), jz_aoa hW.alike hao, jz_aoa hW.alike hal⟩⟩ rfl rfl hl.1 rfl (lv_room (Nat.le_of_ble_eq_true rfl)) dX6_init_69 ⟨(Nat.le_of_ble_eq_true rfl), (Nat.le_of_ble_eq_true rfl)⟩) hS (fun q _ h => hFc q h) hFc (fun u3 t9 H1 locs ht hvm hw hB hz1 hk1 hS => ?_)
  obtain ⟨hP1, hD1⟩ := hB
  rw [ht] at hP1
  obtain ⟨g3, r3⟩ := u3
  have hw3 : g3 40 = p3 ∧ g3 0 = p5 := hw
  obtain ⟨hP, hD⟩ := jz_initJ hP hD hk1 hFc hP1 hD1
  generalize H1 = H at hP hS ⊢
  have hP : va_P D vwCl ((((([(b, .inr (6, [.ref p5, .ref p1, .ref p4, .ref p2, .null, .null, .int 0]))] ++ (jW cI g5 0 0 0 (fun _ => 0) (fun _ => 0) (fun _ => 0) (fun _ => 0) (fun _ => 0))) ++ (jF cI g1 0 0 0 0 0 0 (fun _ => 0) (fun _ => 0) (fun _ => 0) (fun _ => nI 0) (fun _ => 0) (fun _ => 0) (fun _ => 0) (fun _ => 0))) ++ (jY cI cO g4 r4 (fun _ => nI 0) (fun _ => 0) ++ jRI cI 16 16 r4 (fun _ _ => nI 0))) ++ (jT cI cM g2 r2 0 (-1) (fun _ => 0) ++ jRL cL 8 8 r2 (fun _ _ => 0))) ++ (jP cI g3 0 (fun _ => 0))) H := hP
  have hD : va_D A ((((([(b, .inr (6, [.ref p5, .ref p1, .ref p4, .ref p2, .null, .null, .int 0]))] ++ (jW cI g5 0 0 0 (fun _ => 0) (fun _ => 0) (fun _ => 0) (fun _ => 0) (fun _ => 0))) ++ (jF cI g1 0 0 0 0 0 0 (fun _ => 0) (fun _ => 0) (fun _ => 0) (fun _ => nI 0) (fun _ => 0) (fun _ => 0) (fun _ => 0) (fun _ => 0))) ++ (jY cI cO g4 r4 (fun _ => nI 0) (fun _ => 0) ++ jRI cI 16 16 r4 (fun _ _ => nI 0))) ++ (jT cI cM g2 r2 0 (-1) (fun _ => 0) ++ jRL cL 8 8 r2 (fun _ _ => 0))) ++ (jP cI g3 0 (fun _ => 0))) := hD
  refine va_putF (D := D) (ci := 6) (v := .ref p3) (ty := .object "Twincuts$Palette") (C := RX6) (T := TX6) (N := 7) hx hb hts in_X6_init_6 tyX6 tyX6_ok nmX6 hown hK hP hD hS 0 rfl rfl 4 (by decide) (hts (.fieldLink RX6 42 "Twincuts" "palette" "LTwincuts$Palette;") (List.mem_of_getElem? (i := 23) (by decide +kernel))) (fun _ h9 => h9) rfl hin rfl (by decide +kernel) rfl rfl (Nat.le_of_ble_eq_true rfl) dX6_init_72 (fun H locs hP hD hS => ?_)
  have hP : va_P D vwCl ((((([(b, .inr (6, [.ref p5, .ref p1, .ref p4, .ref p2, .ref p3, .null, .int 0]))] ++ (jW cI g5 0 0 0 (fun _ => 0) (fun _ => 0) (fun _ => 0) (fun _ => 0) (fun _ => 0))) ++ (jF cI g1 0 0 0 0 0 0 (fun _ => 0) (fun _ => 0) (fun _ => 0) (fun _ => nI 0) (fun _ => 0) (fun _ => 0) (fun _ => 0) (fun _ => 0))) ++ (jY cI cO g4 r4 (fun _ => nI 0) (fun _ => 0) ++ jRI cI 16 16 r4 (fun _ _ => nI 0))) ++ (jT cI cM g2 r2 0 (-1) (fun _ => 0) ++ jRL cL 8 8 r2 (fun _ _ => 0))) ++ (jP cI g3 0 (fun _ => 0))) H := hP
  have hD : va_D A ((((([(b, .inr (6, [.ref p5, .ref p1, .ref p4, .ref p2, .ref p3, .null, .int 0]))] ++ (jW cI g5 0 0 0 (fun _ => 0) (fun _ => 0) (fun _ => 0) (fun _ => 0) (fun _ => 0))) ++ (jF cI g1 0 0 0 0 0 0 (fun _ => 0) (fun _ => 0) (fun _ => 0) (fun _ => nI 0) (fun _ => 0) (fun _ => 0) (fun _ => 0) (fun _ => 0))) ++ (jY cI cO g4 r4 (fun _ => nI 0) (fun _ => 0) ++ jRI cI 16 16 r4 (fun _ _ => nI 0))) ++ (jT cI cM g2 r2 0 (-1) (fun _ => 0) ++ jRL cL 8 8 r2 (fun _ _ => 0))) ++ (jP cI g3 0 (fun _ => 0))) := hD
  refine lv_aload_n hx hb dX6_init_75 rfl (lv_at hl 0 rfl) ?_
  refine va_new (ci := 0) (fs := [.null, .null, .null, .int 0, .null]) (C := RX0) (T := TX0) (N := 5) hx hb hts in_X6_init_0 tyX0 tyX0_ok hown (hts (.classLink RX6 46 RX0) (List.mem_of_getElem? (i := 24) (by decide +kernel))) (hts (.instantiable RX0 5) (List.mem_of_getElem? (i := 25) (by decide +kernel))) (hts (.initialized RX0) (List.mem_of_getElem? (i := 26) (by decide +kernel))) hK hP hD hS hA rfl (fun j hj => by rcases (show j = 0 ∨ j = 1 ∨ j = 2 ∨ j = 3 ∨ j = 4 by omega) with rfl | rfl | rfl | rfl | rfl <;> rfl) (Nat.le_of_ble_eq_true rfl) (Nat.le_of_ble_eq_true rfl) dX6_init_76 (fun p0 H hP hD hS => ?_)
  refine lv_dup hx hb dX6_init_79 rfl ?_
  refine lv_aload_n hx hb dX6_init_80 rfl (lv_at hl 0 rfl) ?_
  refine va_get (D := D) (ci := 6) (v := .ref p5) (C := RX6) (T := TX6) (N := 7) hx hb hts in_X6_init_6 hown hK hP 0 rfl rfl 0 (by decide) (hts (.fieldLink RX6 10 "Twincuts" "web" "LTwincuts$Web;") (List.mem_of_getElem? (i := 7) (by decide +kernel))) (fun _ h9 => h9) rfl dX6_init_81 ?_
  have hFc := jz_Fr hD hS hA
  have hPc := jz_Pr hP
  have hDc := jz_Dr hD
  refine va_callv (va_runI (As := [.ref p5]) (rest := [.ref p0, .ref b]) ⟨hx, hb, hml, hown, hts⟩ (n_X0_init l D cI cO cM cL p0 p5 H.size) (cwI 1 hts gX6_init_X0_init rfl rfl rfl (hts (.initialized RX0) (List.mem_of_getElem? (i := 26) (by decide +kernel))) (hts (.methodLink RX6 48 yX0_init) (List.mem_of_getElem? (i := 87) (by decide +kernel))) (hts (.instanceMethod yX0_init) (List.mem_of_getElem? (i := 88) (by decide +kernel))) rfl (by decide +kernel) ⟨(Nat.le_of_ble_eq_true rfl), (Nat.le_of_ble_eq_true rfl)⟩) ⟨jzN_blind, fun V hV hW => ⟨rfl, hN.warm hW, by rw [hV], by rw [hV]; exact hPc, va_K.moved hW.alike hK, hDc.weaken (fun _ _ _ _ => trivial), jz_aoa hW.alike hao, jz_aoa hW.alike hal⟩⟩ rfl rfl hl.1 rfl (lv_room (Nat.le_of_ble_eq_true rfl)) dX6_init_84 ⟨(Nat.le_of_ble_eq_true rfl), (Nat.le_of_ble_eq_true rfl)⟩) hS (fun q _ h => hFc q h) hFc (fun u0 t9 H1 locs ht hvm hw hB hz1 hk1 hS => ?_)
  obtain ⟨hP1, hD1⟩ := hB
  rw [ht] at hP1
  obtain ⟨g0, r0⟩ := u0
  have hw0 : g0 50 = p0 ∧ g0 0 = p5 := hw
  obtain ⟨hP, hD⟩ := jz_initJ hP hD hk1 hFc hP1 hD1
  generalize H1 = H at hP hS ⊢
  have hP : va_P D vwCl (((((([(b, .inr (6, [.ref p5, .ref p1, .ref p4, .ref p2, .ref p3, .null, .int 0]))] ++ (jW cI g5 0 0 0 (fun _ => 0) (fun _ => 0) (fun _ => 0) (fun _ => 0) (fun _ => 0))) ++ (jF cI g1 0 0 0 0 0 0 (fun _ => 0) (fun _ => 0) (fun _ => 0) (fun _ => nI 0) (fun _ => 0) (fun _ => 0) (fun _ => 0) (fun _ => 0))) ++ (jY cI cO g4 r4 (fun _ => nI 0) (fun _ => 0) ++ jRI cI 16 16 r4 (fun _ _ => nI 0))) ++ (jT cI cM g2 r2 0 (-1) (fun _ => 0) ++ jRL cL 8 8 r2 (fun _ _ => 0))) ++ (jP cI g3 0 (fun _ => 0))) ++ (jD cI cO g0 r0 (fun _ => 0) 0 (fun _ => nI 0) ++ jRN cI 8 16 r0 (fun _ _ => 0))) H := hP
  have hD : va_D A (((((([(b, .inr (6, [.ref p5, .ref p1, .ref p4, .ref p2, .ref p3, .null, .int 0]))] ++ (jW cI g5 0 0 0 (fun _ => 0) (fun _ => 0) (fun _ => 0) (fun _ => 0) (fun _ => 0))) ++ (jF cI g1 0 0 0 0 0 0 (fun _ => 0) (fun _ => 0) (fun _ => 0) (fun _ => nI 0) (fun _ => 0) (fun _ => 0) (fun _ => 0) (fun _ => 0))) ++ (jY cI cO g4 r4 (fun _ => nI 0) (fun _ => 0) ++ jRI cI 16 16 r4 (fun _ _ => nI 0))) ++ (jT cI cM g2 r2 0 (-1) (fun _ => 0) ++ jRL cL 8 8 r2 (fun _ _ => 0))) ++ (jP cI g3 0 (fun _ => 0))) ++ (jD cI cO g0 r0 (fun _ => 0) 0 (fun _ => nI 0) ++ jRN cI 8 16 r0 (fun _ _ => 0))) := hD
  refine va_putF (D := D) (ci := 6) (v := .ref p0) (ty := .object "Twincuts$Drawing") (C := RX6) (T := TX6) (N := 7) hx hb hts in_X6_init_6 tyX6 tyX6_ok nmX6 hown hK hP hD hS 0 rfl rfl 5 (by decide) (hts (.fieldLink RX6 49 "Twincuts" "drawing" "LTwincuts$Drawing;") (List.mem_of_getElem? (i := 27) (by decide +kernel))) (fun _ h9 => h9) rfl hin rfl (by decide +kernel) rfl rfl (Nat.le_of_ble_eq_true rfl) dX6_init_87 (fun H locs hP hD hS => ?_)
  have hP : va_P D vwCl (((((([(b, .inr (6, [.ref p5, .ref p1, .ref p4, .ref p2, .ref p3, .ref p0, .int 0]))] ++ (jW cI g5 0 0 0 (fun _ => 0) (fun _ => 0) (fun _ => 0) (fun _ => 0) (fun _ => 0))) ++ (jF cI g1 0 0 0 0 0 0 (fun _ => 0) (fun _ => 0) (fun _ => 0) (fun _ => nI 0) (fun _ => 0) (fun _ => 0) (fun _ => 0) (fun _ => 0))) ++ (jY cI cO g4 r4 (fun _ => nI 0) (fun _ => 0) ++ jRI cI 16 16 r4 (fun _ _ => nI 0))) ++ (jT cI cM g2 r2 0 (-1) (fun _ => 0) ++ jRL cL 8 8 r2 (fun _ _ => 0))) ++ (jP cI g3 0 (fun _ => 0))) ++ (jD cI cO g0 r0 (fun _ => 0) 0 (fun _ => nI 0) ++ jRN cI 8 16 r0 (fun _ _ => 0))) H := hP
  have hD : va_D A (((((([(b, .inr (6, [.ref p5, .ref p1, .ref p4, .ref p2, .ref p3, .ref p0, .int 0]))] ++ (jW cI g5 0 0 0 (fun _ => 0) (fun _ => 0) (fun _ => 0) (fun _ => 0) (fun _ => 0))) ++ (jF cI g1 0 0 0 0 0 0 (fun _ => 0) (fun _ => 0) (fun _ => 0) (fun _ => nI 0) (fun _ => 0) (fun _ => 0) (fun _ => 0) (fun _ => 0))) ++ (jY cI cO g4 r4 (fun _ => nI 0) (fun _ => 0) ++ jRI cI 16 16 r4 (fun _ _ => nI 0))) ++ (jT cI cM g2 r2 0 (-1) (fun _ => 0) ++ jRL cL 8 8 r2 (fun _ _ => 0))) ++ (jP cI g3 0 (fun _ => 0))) ++ (jD cI cO g0 r0 (fun _ => 0) 0 (fun _ => nI 0) ++ jRN cI 8 16 r0 (fun _ _ => 0))) := hD
  refine lv_aload_n hx hb dX6_init_90 rfl (lv_at hl 0 rfl) ?_
  refine lv_iconst (v := nI 0) hx hb dX6_init_91 (by decide) ?_
  refine va_put (D := D) (ci := 6) (v := .int (nI 0)) (ty := .int) (C := RX6) (T := TX6) (N := 7) hx hb hts in_X6_init_6 tyX6 tyX6_ok nmX6 hown hK hP hD hS 0 rfl rfl 6 (by decide) (hts (.fieldLink RX6 53 "Twincuts" "refused" "I") (List.mem_of_getElem? (i := 28) (by decide +kernel))) (fun _ h9 => h9) rfl  (by decide +kernel) rfl rfl (Nat.le_of_ble_eq_true rfl) dX6_init_92 (fun H locs hP hD hS => ?_)
  have hP : va_P D vwCl (((((([(b, .inr (6, [.ref p5, .ref p1, .ref p4, .ref p2, .ref p3, .ref p0, .int (nI 0)]))] ++ (jW cI g5 0 0 0 (fun _ => 0) (fun _ => 0) (fun _ => 0) (fun _ => 0) (fun _ => 0))) ++ (jF cI g1 0 0 0 0 0 0 (fun _ => 0) (fun _ => 0) (fun _ => 0) (fun _ => nI 0) (fun _ => 0) (fun _ => 0) (fun _ => 0) (fun _ => 0))) ++ (jY cI cO g4 r4 (fun _ => nI 0) (fun _ => 0) ++ jRI cI 16 16 r4 (fun _ _ => nI 0))) ++ (jT cI cM g2 r2 0 (-1) (fun _ => 0) ++ jRL cL 8 8 r2 (fun _ _ => 0))) ++ (jP cI g3 0 (fun _ => 0))) ++ (jD cI cO g0 r0 (fun _ => 0) 0 (fun _ => nI 0) ++ jRN cI 8 16 r0 (fun _ _ => 0))) H := hP
  have hD : va_D A (((((([(b, .inr (6, [.ref p5, .ref p1, .ref p4, .ref p2, .ref p3, .ref p0, .int (nI 0)]))] ++ (jW cI g5 0 0 0 (fun _ => 0) (fun _ => 0) (fun _ => 0) (fun _ => 0) (fun _ => 0))) ++ (jF cI g1 0 0 0 0 0 0 (fun _ => 0) (fun _ => 0) (fun _ => 0) (fun _ => nI 0) (fun _ => 0) (fun _ => 0) (fun _ => 0) (fun _ => 0))) ++ (jY cI cO g4 r4 (fun _ => nI 0) (fun _ => 0) ++ jRI cI 16 16 r4 (fun _ _ => nI 0))) ++ (jT cI cM g2 r2 0 (-1) (fun _ => 0) ++ jRL cL 8 8 r2 (fun _ _ => 0))) ++ (jP cI g3 0 (fun _ => 0))) ++ (jD cI cO g0 r0 (fun _ => 0) 0 (fun _ => nI 0) ++ jRN cI 8 16 r0 (fun _ _ => 0))) := hD
  subst hw5
  obtain ⟨hw1, hz1⟩ := hw1
  subst hw1
  obtain ⟨hw4, hz4⟩ := hw4
  subst hw4
  obtain ⟨hw2, hz2⟩ := hw2
  subst hw2
  obtain ⟨hw3, hz3⟩ := hw3
  subst hw3
  obtain ⟨hw0, hz0⟩ := hw0
  subst hw0
  have hfr := jz_fresh cI cO cM cL g5 g1 g4 g2 g3 g0 r4 r2 r0 b hz1.symm hz4.symm hz2.symm hz3.symm hz0.symm
  have hpm : List.Perm (jzX cI cO cM cL (jzGG g5 g1 g4 g2 g3 g0 b) r4 r2 r0 jzV0 jzS0) (((((([(b, .inr (6, [.ref (g5 0), .ref (g1 10), .ref (g4 20), .ref (g2 30), .ref (g3 40), .ref (g0 50), .int (nI 0)]))] ++ (jW cI g5 0 0 0 (fun _ => 0) (fun _ => 0) (fun _ => 0) (fun _ => 0) (fun _ => 0))) ++ (jF cI g1 0 0 0 0 0 0 (fun _ => 0) (fun _ => 0) (fun _ => 0) (fun _ => nI 0) (fun _ => 0) (fun _ => 0) (fun _ => 0) (fun _ => 0))) ++ (jY cI cO g4 r4 (fun _ => nI 0) (fun _ => 0) ++ jRI cI 16 16 r4 (fun _ _ => nI 0))) ++ (jT cI cM g2 r2 0 (-1) (fun _ => 0) ++ jRL cL 8 8 r2 (fun _ _ => 0))) ++ (jP cI g3 0 (fun _ => 0))) ++ (jD cI cO g0 r0 (fun _ => 0) 0 (fun _ => nI 0) ++ jRN cI 8 16 r0 (fun _ _ => 0))) := by
    rw [hfr]
    have h0 : List.Perm (((((((jW cI g5 0 0 0 (fun _ => 0) (fun _ => 0) (fun _ => 0) (fun _ => 0) (fun _ => 0)) ++ (jF cI g1 0 0 0 0 0 0 (fun _ => 0) (fun _ => 0) (fun _ => 0) (fun _ => nI 0) (fun _ => 0) (fun _ => 0) (fun _ => 0) (fun _ => 0))) ++ (jY cI cO g4 r4 (fun _ => nI 0) (fun _ => 0) ++ jRI cI 16 16 r4 (fun _ _ => nI 0))) ++ (jT cI cM g2 r2 0 (-1) (fun _ => 0) ++ jRL cL 8 8 r2 (fun _ _ => 0))) ++ (jP cI g3 0 (fun _ => 0))) ++ (jD cI cO g0 r0 (fun _ => 0) 0 (fun _ => nI 0) ++ jRN cI 8 16 r0 (fun _ _ => 0))) ++ [(b, .inr (6, [.ref (g5 0), .ref (g1 10), .ref (g4 20), .ref (g2 30), .ref (g3 40), .ref (g0 50), .int (nI 0)]))]) ([(b, .inr (6, [.ref (g5 0), .ref (g1 10), .ref (g4 20), .ref (g2 30), .ref (g3 40), .ref (g0 50), .int (nI 0)]))] ++ ((((((jW cI g5 0 0 0 (fun _ => 0) (fun _ => 0) (fun _ => 0) (fun _ => 0) (fun _ => 0)) ++ (jF cI g1 0 0 0 0 0 0 (fun _ => 0) (fun _ => 0) (fun _ => 0) (fun _ => nI 0) (fun _ => 0) (fun _ => 0) (fun _ => 0) (fun _ => 0))) ++ (jY cI cO g4 r4 (fun _ => nI 0) (fun _ => 0) ++ jRI cI 16 16 r4 (fun _ _ => nI 0))) ++ (jT cI cM g2 r2 0 (-1) (fun _ => 0) ++ jRL cL 8 8 r2 (fun _ _ => 0))) ++ (jP cI g3 0 (fun _ => 0))) ++ (jD cI cO g0 r0 (fun _ => 0) 0 (fun _ => nI 0) ++ jRN cI 8 16 r0 (fun _ _ => 0)))) := List.perm_append_comm
    simp only [List.append_assoc] at h0 ⊢
    exact h0
  have hP := jz_permP hpm hP
  have hD := jz_permD hpm hD
  refine W.widen (k := 60) (n := 1024) (Nat.le_of_ble_eq_true rfl) (Nat.le_of_ble_eq_true rfl) ?_
  exact W.vret hx hb hr (fun t ht hW => ⟨⟨(jzGG g5 g1 g4 g2 g3 g0 b, r4, r2, r0), rfl, rfl, by rw [ht]; exact hP, hD⟩, hS.F ht⟩) hS.2.2 dX6_init_95
set_option maxHeartbeats 400000 in
set_option maxRecDepth 100000 in
theorem z_X6_point0 (l : Launch) (D : va_G) (cI cO cM cL : ClassId) (g ro rt rd : Nat → Nat) (v : jZ) (t : jS) (sz : Nat) (hB0 : jzB v) (ht : jSok t) (hP7 : zP v < 8) : jzCi (U := jZ × jS) l yX6_point wsX6_point ({ frames := 13, cells := 0, slots := 0, locals := 312 } : Room) D (jzT cI cO cM cL) (jzX cI cO cM cL g ro rt rd v t) [.ref (g 60)] sz (fun u => jzX cI cO cM cL g ro rt rd u.1 u.2) (fun r u => jSok u.2 ∧ jzI u.1 ∧ zP u.1 = zP v + 1 ∧ zn u.1 = zn v) 0 0 := by
  obtain ⟨hw, hla0, hox, hpa, hps, hfi, hjo, hcl⟩ := id hB0
  have h := c_X6_point l D cI cO cM g (zP v) (zn v) (zst v) (zsm v) (zgr v) (zco v) (zen v) (zla v) (zfp v) (zfb v) (zfc v) (zfk v) (zfq v) (zft v) (zpa v) (zps v) (zfi v) (zbl v) (zsp v) (zgp v) (zsw v) (zgw v) rt (zcs v) (zct v) (zjo v) (zpk v) (zcl v) rd (zle v) (zwk v) (zfa v) (zod v) (zrf v) sz hw hla0 hox hpa hps hfi hjo hcl hP7
  refine jz_blkI (jzLearn (jzPt v), t) [(true, jW cI g (zP v) (zn v) (zst v) (zsm v) (zgr v) (zco v) (zen v) (zla v), jW cI g (zP (jzLearn (jzPt v))) (zn (jzLearn (jzPt v))) (zst (jzLearn (jzPt v))) (zsm (jzLearn (jzPt v))) (zgr (jzLearn (jzPt v))) (zco (jzLearn (jzPt v))) (zen (jzLearn (jzPt v))) (zla (jzLearn (jzPt v)))), (true, jF cI g (zfp v) (zfb v) (zfc v) (zfk v) (zfq v) (zft v) (zpa v) (zps v) (zfi v) (zbl v) (zsp v) (zgp v) (zsw v) (zgw v), jF cI g (zfp (jzLearn (jzPt v))) (zfb (jzLearn (jzPt v))) (zfc (jzLearn (jzPt v))) (zfk (jzLearn (jzPt v))) (zfq (jzLearn (jzPt v))) (zft (jzLearn (jzPt v))) (zpa (jzLearn (jzPt v))) (zps (jzLearn (jzPt v))) (zfi (jzLearn (jzPt v))) (zbl (jzLearn (jzPt v))) (zsp (jzLearn (jzPt v))) (zgp (jzLearn (jzPt v))) (zsw (jzLearn (jzPt v))) (zgw (jzLearn (jzPt v)))), (false, jY cI cO g ro (yca t) (yqu t), jY cI cO g ro (yca t) (yqu t)), (false, jRI cI 16 16 ro (yrm t), jRI cI 16 16 ro (yrm t)), (true, jT cI cM g rt (zcs v) (zct v) (zjo v), jT cI cM g rt (zcs (jzLearn (jzPt v))) (zct (jzLearn (jzPt v))) (zjo (jzLearn (jzPt v)))), (false, jRL cL 8 8 rt (ytb t), jRL cL 8 8 rt (ytb t)), (true, jP cI g (zpk v) (zcl v), jP cI g (zpk (jzLearn (jzPt v))) (zcl (jzLearn (jzPt v)))), (true, jD cI cO g rd (zle v) (zwk v) (zfa v), jD cI cO g rd (zle (jzLearn (jzPt v))) (zwk (jzLearn (jzPt v))) (zfa (jzLearn (jzPt v)))), (true, jRN cI 8 16 rd (zod v), jRN cI 8 16 rd (zod (jzLearn (jzPt v)))), (true, jC g (zrf v), jC g (zrf (jzLearn (jzPt v))))] h ?_ ?_ ?_ ?_ ?_ (fun s h => h.sub (tys' := [(cI, .int), (cO, .array .int), (cM, .array .long)]) [0, 1, 2] rfl) (fun r hr => ⟨ht, jzI_learn (jzB_point hB0 hP7), rfl, rfl⟩)
  · simp only [jzX, jzOl, List.append_assoc, List.append_nil]
  · simp only [jzSo, List.append_assoc, List.append_nil]
  · (simp only [jzSn, List.append_assoc, List.append_nil]) <;> rfl
  · show jzX cI cO cM cL g ro rt rd (jzLearn (jzPt v)) t = _
    simp only [jzX, jzNw, List.append_assoc, List.append_nil]
  · (repeat (first | exact trivial | refine And.intro rfl ?_))

