set_option maxRecDepth 20000 in
theorem in_X2_countTrees_2 : ∀ w ∈ wsX20, w ∈ wsX2_countTrees := by decide +kernel
set_option maxRecDepth 20000 in
theorem in_X2_countTrees_5 : ∀ w ∈ wsX50, w ∈ wsX2_countTrees := by decide +kernel
set_option maxHeartbeats 4000000 in
set_option maxRecDepth 100000 in
/-- countTrees() -/
theorem c_X2_countTrees (l : Launch) (D : va_G) (cI : ClassId) (cM : ClassId) (cL : ClassId) (g : Nat → Nat) (P n st : Nat) (sm gr co en la : Nat → Nat) (rt : Nat → Nat) (cs : Nat) (ct : Int32) (jo : Nat → Nat) (tb : Nat → Nat → Int64) (sz : Nat) (hw : jmWF P n st sm gr co en la)  : jxWl l yX2_countTrees wsX2_countTrees ({ frames := 2, cells := 0, slots := 0, locals := 44 } : Room) D [(cI, .int), (cM, .array .long), (cL, .long)] (jW cI g P n st sm gr co en la ++ jT cI cM g rt cs ct jo ++ jRL cL 8 8 rt tb) [.ref (g 30)] sz (fun r => r = (jmTrees sm gr P n st).1) (jW cI g P n st sm gr co en la ++ jT cI cM g rt cs ct jo ++ jRL cL 8 8 rt ((jmTrees sm gr P n st).2)) := by
  refine jxw_enterL (by decide) rfl (Nat.le_of_ble_eq_true rfl) ?_
  intro p e s m args below meth c Q A ls hx hb hml hts hown hN hP hK hD hA hl hQ
  have hD0 := hD
  obtain ⟨H, hH⟩ : ∃ h, h = s.heap := ⟨_, rfl⟩
  have hS : va_S A s.heap H [] := by rw [hH]; exact va_S.rf
  rw [← hH] at hP ⊢
  obtain ⟨locs, hlocs⟩ : ∃ z : List Loc, z = [] := ⟨_, rfl⟩
  rw [← hlocs] at hS ⊢
  have hown : s.vm.findClass RX2 = some m.cls := hown
  have hl : lv_has ls 1 [(0, .ref (g 30))] := hl
  have hP8 : P ≤ 8 := hw.1
  have hn16 : n ≤ 16 := hw.2.1
  have hst : st < 65536 := jmWF_st hw
  have hen : ∀ j, j < n → en j < 256 := jmWF_en hw
  have hla : ∀ q, q < P → la q < 65536 := jmWF_la hw
  have hgr : ∀ j, j < n → sm j < 8 ∧ gr j < 8 := jmWF_gr hw
  have hco : ∀ j, j < n → co j < 21 := jmWF_co hw
  refine lv_aload_n hx hb dX2_countTrees_0 rfl (lv_at hl 0 rfl) ?_
  refine jxw_callV (X := jW cI g P n st sm gr co en la ++ jT cI cM g rt cs ct jo ++ jRL cL 8 8 rt tb) (X' := jW cI g P n st sm gr co en la ++ jT cI cM g rt cs ct jo ++ jRL cL 8 8 rt (jmFT sm gr st n)) (wc := jW cI g P n st sm gr co en la ++ jT cI cM g rt cs ct jo ++ jRL cL 8 8 rt tb) (wc' := jW cI g P n st sm gr co en la ++ jT cI cM g rt cs ct jo ++ jRL cL 8 8 rt (jmFT sm gr st n)) (wr := []) (N := 17) (As := []) (rest := []) ⟨hx, hb, hml, hown, hts⟩ (c_X2_fillTable l D cI cM cL g P n st sm gr co en la rt cs ct jo tb H.size hw) (cwV 0 hts gX2_countTrees_X2_fillTable rfl rfl rfl (by decide +kernel) ⟨Nat.le_of_ble_eq_true rfl, Nat.le_of_ble_eq_true rfl⟩) hN hP hD (hK.sub (tys' := [(cI, .int), (cM, .array .long), (cL, .long)]) [0, 1, 2] rfl) hS hA [0, 1, 2, 3, 4, 5, 6, 7, 8, 9, 10, 11, 12, 13, 14, 15, 16] [] rfl rfl rfl rfl rfl rfl (by decide) (by decide) 6 2 rfl rfl rfl (hK.sub (tys' := [(cI, .int), (cM, .array .long), (cL, .long)]) [0, 1, 2] rfl) rfl hl.1 rfl (Nat.le_of_ble_eq_true rfl) dX2_countTrees_1 ⟨Nat.zero_le _, Nat.zero_le _⟩ (fun H locs hP hS => ?_)
  have hD : va_D A (jW cI g P n st sm gr co en la ++ jT cI cM g rt cs ct jo ++ jRL cL 8 8 rt (jmFT sm gr st n)) := jxD hD0 rfl
  refine lv_aload_n hx hb dX2_countTrees_4 rfl (lv_at hl 0 rfl) ?_
  refine jxw_callVl (X := jW cI g P n st sm gr co en la ++ jT cI cM g rt cs ct jo ++ jRL cL 8 8 rt (jmFT sm gr st n)) (X' := jW cI g P n st sm gr co en la ++ jT cI cM g rt cs ct jo ++ jRL cL 8 8 rt ((jmCnt P (jmFT sm gr st n)).2)) (wc := jW cI g P n st sm gr co en la ++ jT cI cM g rt cs ct jo ++ jRL cL 8 8 rt (jmFT sm gr st n)) (wc' := jW cI g P n st sm gr co en la ++ jT cI cM g rt cs ct jo ++ jRL cL 8 8 rt ((jmCnt P (jmFT sm gr st n)).2)) (wr := []) (N := 17) (As := []) (rest := []) ⟨hx, hb, hml, hown, hts⟩ (c_X2_countByTable l D cI cM cL g P n st sm gr co en la rt cs ct jo (jmFT sm gr st n) H.size hw) (cwV 0 hts gX2_countTrees_X2_countByTable rfl rfl rfl (by decide +kernel) ⟨Nat.le_of_ble_eq_true rfl, Nat.le_of_ble_eq_true rfl⟩) hN hP hD (hK.sub (tys' := [(cI, .int), (cM, .array .long), (cL, .long)]) [0, 1, 2] rfl) hS hA [0, 1, 2, 3, 4, 5, 6, 7, 8, 9, 10, 11, 12, 13, 14, 15, 16] [] rfl rfl rfl rfl rfl rfl (by decide) (by decide) 6 2 rfl rfl rfl (hK.sub (tys' := [(cI, .int), (cM, .array .long), (cL, .long)]) [0, 1, 2] rfl) rfl hl.1 rfl (Nat.le_of_ble_eq_true rfl) dX2_countTrees_5 ⟨Nat.zero_le _, Nat.zero_le _⟩ (fun r H locs hr hP hS => ?_)
  have hD : va_D A (jW cI g P n st sm gr co en la ++ jT cI cM g rt cs ct jo ++ jRL cL 8 8 rt ((jmCnt P (jmFT sm gr st n)).2)) := jxD hD0 rfl
  subst hr
  have ev_1 : (jmCnt P (jmFT sm gr st n)).2 = (jmTrees sm gr P n st).2 := by rfl
  exact hQ ((jmCnt P (jmFT sm gr st n)).1) H locs _ _ dX2_countTrees_8 rfl (by rw [← ev_1]; exact hP) hS
