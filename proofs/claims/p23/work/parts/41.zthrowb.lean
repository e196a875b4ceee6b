/-! own rows: the calls of Twincuts that throw -/
theorem jz_XC {D : va_G} {cls : String} {X : va_W} {A : Nat → Prop} {s t : State} {H : Heap} {locs : List Loc} (hP : va_P D vwCl X H) (hS : va_S A s.heap H locs) (h1 : H.size ≤ t.heap.size) (h2 : ∀ q : Nat, q < H.size → t.heap[q]? = H[q]?) : jzXC D cls X A cls s t :=
  ⟨(), trivial, ⟨rfl, hP.kept (fun k q hk => h2 q.1 (hP k q hk).lt)⟩, Nat.le_trans hS.1 h1, fun q a b => (h2 q (Nat.lt_of_lt_of_le a hS.1)).trans (hS.2.1 q a b)⟩
section JZVV
variable {p : Program} {l : Launch} {e : Env} {R : Room} {s : State} {m : MethodId} {args : Array Value} {below : List Frame} {meth : Method} {c : Code} {H H0 : Heap} {locs : List Loc} {cells slots : Nat} {Q : State → Prop} {A0 : Nat → Prop}
variable {cc bytes : ByteArray} {pc nL maxL index n : Nat} {ls : Array Slot} {rest st0 As : List Value} {Ts wy : List Cond} {own : String} {y : MethodName} {ret : Option FieldType} {rm : Room} {D : va_G} {cI cO cM cL : ClassId} {g ro rt rd : Nat → Nat} {v : jZ} {t : jS}
theorem jz_pureVv (S : CallFix p m c cc nL s args Ts own) (hM : jzCv (U := Unit) l y wy rm D (jzT cI cO cM cL) (jzX cI cO cM cL g ro rt rd v t) (.ref (g 60) :: As) H.size (fun _ => jzX cI cO cM cL g ro rt rd v t) (fun _ => True) 0 0) (cw : CallW R s args own RX6 index y bytes maxL ret wy rm 0 0 n) (hN : jxNW s) (hP : va_P D vwCl (jzX cI cO cM cL g ro rt rd v t) H) (hD : va_D A0 (jzX cI cO cM cL g ro rt rd v t)) (hK : va_K D vwCl (jzT cI cO cM cL) s) (hS : va_S A0 H0 H locs) (hA : ∀ q, H0.size ≤ q → A0 q)
    (hn : As.length = n) (hsize : ls.size = nL) (hstack : st0 = As.reverse ++ .ref (g 60) :: rest) (hW : (rest.map fun v => v.category).sum ≤ 8) (hdg : decode cc pc = .ok (.invokevirtual index, 3)) (hf : cells ≤ R.cells ∧ slots ≤ R.slots)
    (kk : ∀ (H1 : Heap) (locs1 : List Loc), va_P D vwCl (jzX cI cO cM cL g ro rt rd v t) H1 → va_S A0 H0 H1 locs1 → W p l e R s m args below meth c H1 locs1 cells slots Q (F0 m (pc + 3) ls rest)) : W p l e R s m args below meth c H locs cells slots Q (F0 m pc ls st0) := by
  have hF := jz_free hD hS hA
  refine va_callv (va_runV S hM cw ⟨jxM_blind, va_recv hK hP (q0 := 60) (ci := 6) rfl rfl, fun V hV hW' => ⟨rfl, hN.warm hW', by rw [hV], by rw [hV]; exact hP, va_K.moved hW'.alike hK, hD.weaken (fun _ _ _ _ => trivial)⟩⟩ rfl hn hsize hstack (lv_room hW) hdg hf) hS (fun q _ h => hF q h) hF (fun u t9 H1 locs1 ht hvm hw hB hz1 hk1 hS1 => ?_)
  have hB : va_P D vwCl (jzX cI cO cM cL g ro rt rd v t) t9.heap := hB
  rw [ht] at hB
  exact kk H1 locs1 hB hS1
end JZVV
theorem z_none {l : Launch} {y : MethodName} {wy : List Cond} {rm : Room} {D : va_G} {tys : List (ClassId × FieldType)} {X : va_W} {av : List Value} {sz : Nat} (hM : jxWv l y wy rm D [] [] av sz []) : jzCv (U := Unit) l y wy rm D tys X av sz (fun _ => X) (fun _ => True) 0 0 :=
  jz_blkV [(false, X, X)] hM (List.append_nil X).symm rfl rfl (List.append_nil X).symm ⟨rfl, trivial⟩ (fun s h => h.sub [] rfl)

set_option maxHeartbeats 400000 in
theorem z_X6_demandPoint (l : Launch) (D : va_G) (cI cO cM cL : ClassId) (g ro rt rd : Nat → Nat) (v : jZ) (t : jS) (sz : Nat) (hI : jzI v) (q : Nat) (hq : q < zP v) : jzCv (U := Unit) l yX6_demandPoint wsX6_demandPoint ({ frames := 0, cells := 0, slots := 0, locals := 0 } : Room) D (jzT cI cO cM cL) (jzX cI cO cM cL g ro rt rd v t) [.ref (g 60), .int (nI q)] sz (fun _ => jzX cI cO cM cL g ro rt rd v t) (fun _ => True) 0 0 := by
  have h := c_X6_demandPoint l D cI g (zP v) (zn v) (zst v) (zsm v) (zgr v) (zco v) (zen v) (zla v) (zrf v) sz hI.1.1 q hq
  refine jz_blkV [(true, jW cI g (zP v) (zn v) (zst v) (zsm v) (zgr v) (zco v) (zen v) (zla v), jW cI g (zP v) (zn v) (zst v) (zsm v) (zgr v) (zco v) (zen v) (zla v)), (false, jF cI g (zfp v) (zfb v) (zfc v) (zfk v) (zfq v) (zft v) (zpa v) (zps v) (zfi v) (zbl v) (zsp v) (zgp v) (zsw v) (zgw v), jF cI g (zfp v) (zfb v) (zfc v) (zfk v) (zfq v) (zft v) (zpa v) (zps v) (zfi v) (zbl v) (zsp v) (zgp v) (zsw v) (zgw v)), (false, jY cI cO g ro (yca t) (yqu t), jY cI cO g ro (yca t) (yqu t)), (false, jRI cI 16 16 ro (yrm t), jRI cI 16 16 ro (yrm t)), (false, jT cI cM g rt (zcs v) (zct v) (zjo v), jT cI cM g rt (zcs v) (zct v) (zjo v)), (false, jRL cL 8 8 rt (ytb t), jRL cL 8 8 rt (ytb t)), (false, jP cI g (zpk v) (zcl v), jP cI g (zpk v) (zcl v)), (false, jD cI cO g rd (zle v) (zwk v) (zfa v), jD cI cO g rd (zle v) (zwk v) (zfa v)), (false, jRN cI 8 16 rd (zod v), jRN cI 8 16 rd (zod v)), (true, jC g (zrf v), jC g (zrf v))] h ?_ ?_ ?_ ?_ ?_ (fun s h => h.sub (tys' := [(cI, .int)]) [0] rfl)
  · simp only [jzX, jzOl, List.append_assoc, List.append_nil]
  · simp only [jzSo, List.append_assoc, List.append_nil]
  · simp only [jzSn, List.append_assoc, List.append_nil]
  · simp only [jzX, jzNw, List.append_assoc, List.append_nil]
  · (repeat (first | exact trivial | refine And.intro rfl ?_))

set_option maxHeartbeats 400000 in
theorem z_X6_demandLine (l : Launch) (D : va_G) (cI cO cM cL : ClassId) (g ro rt rd : Nat → Nat) (v : jZ) (t : jS) (sz : Nat) (hI : jzI v) (i : Nat) (hi : i < zn v) : jzCv (U := Unit) l yX6_demandLine wsX6_demandLine ({ frames := 0, cells := 0, slots := 0, locals := 0 } : Room) D (jzT cI cO cM cL) (jzX cI cO cM cL g ro rt rd v t) [.ref (g 60), .int (nI i)] sz (fun _ => jzX cI cO cM cL g ro rt rd v t) (fun _ => True) 0 0 := by
  have h := c_X6_demandLine l D cI g (zP v) (zn v) (zst v) (zsm v) (zgr v) (zco v) (zen v) (zla v) (zrf v) sz hI.1.1 i hi
  refine jz_blkV [(true, jW cI g (zP v) (zn v) (zst v) (zsm v) (zgr v) (zco v) (zen v) (zla v), jW cI g (zP v) (zn v) (zst v) (zsm v) (zgr v) (zco v) (zen v) (zla v)), (false, jF cI g (zfp v) (zfb v) (zfc v) (zfk v) (zfq v) (zft v) (zpa v) (zps v) (zfi v) (zbl v) (zsp v) (zgp v) (zsw v) (zgw v), jF cI g (zfp v) (zfb v) (zfc v) (zfk v) (zfq v) (zft v) (zpa v) (zps v) (zfi v) (zbl v) (zsp v) (zgp v) (zsw v) (zgw v)), (false, jY cI cO g ro (yca t) (yqu t), jY cI cO g ro (yca t) (yqu t)), (false, jRI cI 16 16 ro (yrm t), jRI cI 16 16 ro (yrm t)), (false, jT cI cM g rt (zcs v) (zct v) (zjo v), jT cI cM g rt (zcs v) (zct v) (zjo v)), (false, jRL cL 8 8 rt (ytb t), jRL cL 8 8 rt (ytb t)), (false, jP cI g (zpk v) (zcl v), jP cI g (zpk v) (zcl v)), (false, jD cI cO g rd (zle v) (zwk v) (zfa v), jD cI cO g rd (zle v) (zwk v) (zfa v)), (false, jRN cI 8 16 rd (zod v), jRN cI 8 16 rd (zod v)), (true, jC g (zrf v), jC g (zrf v))] h ?_ ?_ ?_ ?_ ?_ (fun s h => h.sub (tys' := [(cI, .int)]) [0] rfl)
  · simp only [jzX, jzOl, List.append_assoc, List.append_nil]
  · simp only [jzSo, List.append_assoc, List.append_nil]
  · simp only [jzSn, List.append_assoc, List.append_nil]
  · simp only [jzX, jzNw, List.append_assoc, List.append_nil]
  · (repeat (first | exact trivial | refine And.intro rfl ?_))

set_option maxHeartbeats 400000 in
set_option maxRecDepth 20000 in
theorem x_X6_point (l : Launch) (hfl : l.stackTraces = false) (D : va_G) (cI cO cM cL : ClassId) (g ro rt rd : Nat → Nat) (v : jZ) (t : jS) (sz : Nat) (hI : jzI v) (ht : jSok t) (h8 : zP v = 8) : jzCx l yX6_point wsX6_point ({ frames := 6, cells := 1, slots := 6, locals := 100 } : Room) D (jzT cI cO cM cL) (jzX cI cO cM cL g ro rt rd v t) [.ref (g 60)] sz "java/lang/IllegalStateException" := by
  refine jz_enterT (by decide) rfl (Nat.le_of_ble_eq_true rfl) ?_
  intro p e s m args below meth c A ls hx hb hml htab hlocks hts hown hN hP hK hD hA hTh hl
  have hD0 := hD
  obtain ⟨⟨sa1, hs1⟩, ⟨sa2, hs2⟩, ⟨sa3, hs3⟩, hTB, hnc, hU9, hN9⟩ := id hTh
  obtain ⟨H, hH⟩ : ∃ h, h = s.heap := ⟨_, rfl⟩
  have hS : va_S A s.heap H [] := by rw [hH]; exact va_S.rf
  rw [← hH] at hP
  show W p l e _ s m args below meth c s.heap [] 0 0 _ _
  rw [← hH]
  obtain ⟨locs, hlocs⟩ : ∃ z : List Loc, z = [] := ⟨_, rfl⟩
  rw [← hlocs] at hS
  rw [show ([] : List Loc) = locs from hlocs.symm]
  have hown : s.vm.findClass RX6 = some m.cls := hown
  have hl : lv_has ls 2 [(0, .ref (g 60))] := hl
  obtain ⟨hb1_v, hb2_v⟩ := jzI_b hI
  refine lv_aload_n hx hb dX6_point_0 rfl (lv_at hl 0 rfl) ?_
  refine va_get (D := D) (ci := 6) (v := .ref (g 0)) (C := RX6) (T := TX6) (N := 7) hx hb hts in_X6_point_6 hown hK hP 60 rfl rfl 0 (by decide) (hts (.fieldLink RX6 10 "Twincuts" "web" "LTwincuts$Web;") (List.mem_of_getElem? (i := 3) (by decide +kernel))) (fun _ h9 => h9) rfl dX6_point_1 ?_
  refine va_getN (D := D) (ci := 5) (v := .int (nI (zP v))) (C := RX5) (T := TX5) (N := 8) hx hb hts in_X6_point_5 hown hK hP 0 rfl rfl 0 (by decide) (hN.use 0 rfl) (fun _ h9 => h9) rfl dX6_point_4 ?_
  refine lv_bipush (v := nI 8) hx hb dX6_point_7 (by decide) ?_
  refine lv_icmp_lt (tgt := 22) hx hb dX6_point_9 (by decide) (fun c => absurd c (nI_nlt (by omega) (by omega))) (fun c => ?_)
  exact vx_throwS (names := ["java/lang/RuntimeException", "java/lang/Exception"]) hx hb hfl hown (by decide +kernel) (by decide +kernel) (hts (.classLink RX6 60 "java/lang/IllegalStateException") (List.mem_of_getElem? (i := 1) (by decide +kernel))) (hts (.initialized "java/lang/IllegalStateException") (List.mem_of_getElem? (i := 2) (by decide +kernel))) hs1 (jz_hat1 (fun w hw => hts w (List.mem_cons_of_mem _ (List.mem_append_right _ hw))) hTB) jz_ot1 hU9 hN9 hS (by rw [hml]; exact hl.1) dX6_point_12 dX6_point_15 dX6_point_16 dX6_point_18 dX6_point_21 (fun x hx9 => (htab x hx9).elim) (by decide) (Nat.le_of_ble_eq_true rfl) (Nat.le_of_ble_eq_true rfl) (Nat.le_of_ble_eq_true rfl) hlocks (fun t9 _ h1 h2 => jz_XC hP hS h1 h2) hS.2.2 (Nat.le_of_ble_eq_true rfl) (Nat.le_of_ble_eq_true rfl)

set_option maxHeartbeats 400000 in
set_option maxRecDepth 20000 in
theorem x_X6_line (l : Launch) (hfl : l.stackTraces = false) (D : va_G) (cI cO cM cL : ClassId) (g ro rt rd : Nat → Nat) (v : jZ) (t : jS) (sz : Nat) (hI : jzI v) (ht : jSok t) (a o x : Nat) (hn16 : zn v = 16) (ha : a < zP v) (ho : o < zP v) (hao : a ≠ o) (hx1 : 1 ≤ x) (hx20 : x ≤ 20) : jzCx l yX6_line wsX6_line ({ frames := 6, cells := 1, slots := 6, locals := 100 } : Room) D (jzT cI cO cM cL) (jzX cI cO cM cL g ro rt rd v t) [.ref (g 60), .int (nI a), .int (nI o), .int (nI x)] sz "java/lang/IllegalStateException" := by
  refine jz_enterT (by decide) rfl (Nat.le_of_ble_eq_true rfl) ?_
  intro p e s m args below meth c A ls hx hb hml htab hlocks hts hown hN hP hK hD hA hTh hl
  have hD0 := hD
  obtain ⟨⟨sa1, hs1⟩, ⟨sa2, hs2⟩, ⟨sa3, hs3⟩, hTB, hnc, hU9, hN9⟩ := id hTh
  obtain ⟨H, hH⟩ : ∃ h, h = s.heap := ⟨_, rfl⟩
  have hS : va_S A s.heap H [] := by rw [hH]; exact va_S.rf
  rw [← hH] at hP
  show W p l e _ s m args below meth c s.heap [] 0 0 _ _
  rw [← hH]
  obtain ⟨locs, hlocs⟩ : ∃ z : List Loc, z = [] := ⟨_, rfl⟩
  rw [← hlocs] at hS
  rw [show ([] : List Loc) = locs from hlocs.symm]
  have hown : s.vm.findClass RX6 = some m.cls := hown
  have hl : lv_has ls 5 [(0, .ref (g 60)), (1, .int (nI a)), (2, .int (nI o)), (3, .int (nI x))] := hl
  obtain ⟨hb1_v, hb2_v⟩ := jzI_b hI
  refine lv_aload_n hx hb dX6_line_0 rfl (lv_at hl 0 rfl) ?_
  refine lv_iload_n hx hb dX6_line_1 rfl (lv_at hl 1 rfl) ?_
  refine jz_pureVv (v := v) (t := t) (As := [.int (nI a)]) (rest := []) ⟨hx, hb, hml, hown, hts⟩ (z_X6_demandPoint l D cI cO cM cL g ro rt rd v t _ (by assumption) a (by omega)) (cwV 1 hts gX6_line_X6_demandPoint rfl rfl rfl (by decide +kernel) ⟨Nat.le_of_ble_eq_true rfl, Nat.le_of_ble_eq_true rfl⟩) hN hP hD hK hS hA rfl hl.1 rfl (Nat.le_of_ble_eq_true rfl) dX6_line_2 ⟨Nat.zero_le _, Nat.zero_le _⟩ (fun H locs hP hS => ?_)
  refine lv_aload_n hx hb dX6_line_5 rfl (lv_at hl 0 rfl) ?_
  refine lv_iload_n hx hb dX6_line_6 rfl (lv_at hl 2 rfl) ?_
  refine jz_pureVv (v := v) (t := t) (As := [.int (nI o)]) (rest := []) ⟨hx, hb, hml, hown, hts⟩ (z_X6_demandPoint l D cI cO cM cL g ro rt rd v t _ (by assumption) o (by omega)) (cwV 1 hts gX6_line_X6_demandPoint rfl rfl rfl (by decide +kernel) ⟨Nat.le_of_ble_eq_true rfl, Nat.le_of_ble_eq_true rfl⟩) hN hP hD hK hS hA rfl hl.1 rfl (Nat.le_of_ble_eq_true rfl) dX6_line_7 ⟨Nat.zero_le _, Nat.zero_le _⟩ (fun H locs hP hS => ?_)
  refine lv_iload_n hx hb dX6_line_10 rfl (lv_at hl 1 rfl) ?_
  refine lv_iload_n hx hb dX6_line_11 rfl (lv_at hl 2 rfl) ?_
  refine jz_callSv (mc := 0) (ms := 0) (As := [.int (nI a), .int (nI o)]) (rest := []) ⟨hx, hb, hml, hown, hts⟩ (z_none (X := jzX cI cO cM cL g ro rt rd v t) (tys := jzT cI cO cM cL) (c_X6_demandUnlike l D g H.size a o (by omega) (by omega) (by omega))) (va_cwS 2 hts gX6_line_X6_demandUnlike rfl rfl rfl (by decide +kernel) ⟨Nat.le_of_ble_eq_true rfl, Nat.le_of_ble_eq_true rfl⟩) hN hP hD hK hS hA rfl hl.1 rfl (Nat.le_of_ble_eq_true rfl) dX6_line_12 ⟨Nat.zero_le _, Nat.zero_le _⟩ (fun _ H locs _ hP hS => ?_)
  refine lv_iload_n hx hb dX6_line_15 rfl (lv_at hl 3 rfl) ?_
  refine jz_callSv (mc := 0) (ms := 0) (As := [.int (nI x)]) (rest := []) ⟨hx, hb, hml, hown, hts⟩ (z_none (X := jzX cI cO cM cL g ro rt rd v t) (tys := jzT cI cO cM cL) (c_X6_demandCost l D g H.size x (by omega) (by omega))) (va_cwS 1 hts gX6_line_X6_demandCost rfl rfl rfl (by decide +kernel) ⟨Nat.le_of_ble_eq_true rfl, Nat.le_of_ble_eq_true rfl⟩) hN hP hD hK hS hA rfl hl.1 rfl (Nat.le_of_ble_eq_true rfl) dX6_line_16 ⟨Nat.zero_le _, Nat.zero_le _⟩ (fun _ H locs _ hP hS => ?_)
  refine lv_aload_n hx hb dX6_line_19 rfl (lv_at hl 0 rfl) ?_
  refine va_get (D := D) (ci := 6) (v := .ref (g 0)) (C := RX6) (T := TX6) (N := 7) hx hb hts in_X6_line_6 hown hK hP 60 rfl rfl 0 (by decide) (hts (.fieldLink RX6 10 "Twincuts" "web" "LTwincuts$Web;") (List.mem_of_getElem? (i := 3) (by decide +kernel))) (fun _ h9 => h9) rfl dX6_line_20 ?_
  refine va_getN (D := D) (ci := 5) (v := .int (nI (zn v))) (C := RX5) (T := TX5) (N := 8) hx hb hts in_X6_line_5 hown hK hP 0 rfl rfl 1 (by decide) (hN.use 8 rfl) (fun _ h9 => h9) rfl dX6_line_23 ?_
  refine lv_bipush (v := nI 16) hx hb dX6_line_26 (by decide) ?_
  refine lv_icmp_lt (tgt := 41) hx hb dX6_line_28 (by decide) (fun c => absurd c (nI_nlt (by omega) (by omega))) (fun c => ?_)
  exact vx_throwS (names := ["java/lang/RuntimeException", "java/lang/Exception"]) hx hb hfl hown (by decide +kernel) (by decide +kernel) (hts (.classLink RX6 60 "java/lang/IllegalStateException") (List.mem_of_getElem? (i := 1) (by decide +kernel))) (hts (.initialized "java/lang/IllegalStateException") (List.mem_of_getElem? (i := 2) (by decide +kernel))) hs2 (jz_hat1 (fun w hw => hts w (List.mem_cons_of_mem _ (List.mem_append_left _ (List.mem_append_left _ (List.mem_append_right _ hw))))) hTB) jz_ot1 hU9 hN9 hS (by rw [hml]; exact hl.1) dX6_line_31 dX6_line_34 dX6_line_35 dX6_line_37 dX6_line_40 (fun x hx9 => (htab x hx9).elim) (by decide) (Nat.le_of_ble_eq_true rfl) (Nat.le_of_ble_eq_true rfl) (Nat.le_of_ble_eq_true rfl) hlocks (fun t9 _ h1 h2 => jz_XC hP hS h1 h2) hS.2.2 (Nat.le_of_ble_eq_true rfl) (Nat.le_of_ble_eq_true rfl)

set_option maxHeartbeats 400000 in
set_option maxRecDepth 20000 in
theorem x_X6_demandLine (l : Launch) (hfl : l.stackTraces = false) (D : va_G) (cI cO cM cL : ClassId) (g ro rt rd : Nat → Nat) (v : jZ) (t : jS) (sz : Nat) (hI : jzI v) (ht : jSok t) (i : Nat) (hi : i < 2 ^ 31) (hn0 : zn v ≤ i) : jzCx l yX6_demandLine wsX6_demandLine ({ frames := 6, cells := 1, slots := 6, locals := 100 } : Room) D (jzT cI cO cM cL) (jzX cI cO cM cL g ro rt rd v t) [.ref (g 60), .int (nI i)] sz "java/lang/IndexOutOfBoundsException" := by
  refine jz_enterT (by decide) rfl (Nat.le_of_ble_eq_true rfl) ?_
  intro p e s m args below meth c A ls hx hb hml htab hlocks hts hown hN hP hK hD hA hTh hl
  have hD0 := hD
  obtain ⟨⟨sa1, hs1⟩, ⟨sa2, hs2⟩, ⟨sa3, hs3⟩, hTB, hnc, hU9, hN9⟩ := id hTh
  obtain ⟨H, hH⟩ : ∃ h, h = s.heap := ⟨_, rfl⟩
  have hS : va_S A s.heap H [] := by rw [hH]; exact va_S.rf
  rw [← hH] at hP
  show W p l e _ s m args below meth c s.heap [] 0 0 _ _
  rw [← hH]
  obtain ⟨locs, hlocs⟩ : ∃ z : List Loc, z = [] := ⟨_, rfl⟩
  rw [← hlocs] at hS
  rw [show ([] : List Loc) = locs from hlocs.symm]
  have hown : s.vm.findClass RX6 = some m.cls := hown
  have hl : lv_has ls 2 [(0, .ref (g 60)), (1, .int (nI i))] := hl
  obtain ⟨hb1_v, hb2_v⟩ := jzI_b hI
  refine lv_iload_n hx hb dX6_demandLine_0 rfl (lv_at hl 1 rfl) ?_
  refine lv_if_lt (tgt := 15) hx hb dX6_demandLine_1 (by decide) (fun c => absurd c (nI_pos (by omega))) (fun _ => ?_)
  refine lv_iload_n hx hb dX6_demandLine_4 rfl (lv_at hl 1 rfl) ?_
  refine lv_aload_n hx hb dX6_demandLine_5 rfl (lv_at hl 0 rfl) ?_
  refine va_get (D := D) (ci := 6) (v := .ref (g 0)) (C := RX6) (T := TX6) (N := 7) hx hb hts in_X6_demandLine_6 hown hK hP 60 rfl rfl 0 (by decide) (hts (.fieldLink RX6 10 "Twincuts" "web" "LTwincuts$Web;") (List.mem_of_getElem? (i := 3) (by decide +kernel))) (fun _ h9 => h9) rfl dX6_demandLine_6 ?_
  refine va_getN (D := D) (ci := 5) (v := .int (nI (zn v))) (C := RX5) (T := TX5) (N := 8) hx hb hts in_X6_demandLine_5 hown hK hP 0 rfl rfl 1 (by decide) (hN.use 8 rfl) (fun _ h9 => h9) rfl dX6_demandLine_9 ?_
  refine lv_icmp_lt (tgt := 26) hx hb dX6_demandLine_12 (by decide) (fun c => absurd c (nI_nlt (by omega) (by omega))) (fun c => ?_)
  exact vx_throwSW (names := ["java/lang/RuntimeException", "java/lang/Exception"]) hx hb hfl hown (by decide +kernel) (by decide +kernel) (hts (.classLink RX6 330 "java/lang/IndexOutOfBoundsException") (List.mem_of_getElem? (i := 1) (by decide +kernel))) (hts (.initialized "java/lang/IndexOutOfBoundsException") (List.mem_of_getElem? (i := 2) (by decide +kernel))) hs3 (jz_hat2 (fun w hw => hts w (List.mem_cons_of_mem _ (List.mem_append_right _ hw))) hTB) jz_ot2 hU9 hN9 hS (by rw [hml]; exact hl.1) dX6_demandLine_15 dX6_demandLine_18 dX6_demandLine_19 dX6_demandLine_22 dX6_demandLine_25 (fun x hx9 => (htab x hx9).elim) (by decide) (Nat.le_of_ble_eq_true rfl) (Nat.le_of_ble_eq_true rfl) (Nat.le_of_ble_eq_true rfl) hlocks (fun t9 _ h1 h2 => jz_XC hP hS h1 h2) hS.2.2 (Nat.le_of_ble_eq_true rfl) (Nat.le_of_ble_eq_true rfl)

set_option maxHeartbeats 400000 in
set_option maxRecDepth 20000 in
theorem x_X6_cut (l : Launch) (hfl : l.stackTraces = false) (D : va_G) (cI cO cM cL : ClassId) (g ro rt rd : Nat → Nat) (v : jZ) (t : jS) (sz : Nat) (hI : jzI v) (ht : jSok t) (i : Nat) (is9 : Bool) (hi : i < 2 ^ 31) (hn0 : zn v ≤ i) : jzCx l yX6_cut wsX6_cut ({ frames := 8, cells := 1, slots := 6, locals := 160 } : Room) D (jzT cI cO cM cL) (jzX cI cO cM cL g ro rt rd v t) [.ref (g 60), .int (nI i), .int (nI (jB is9))] sz "java/lang/IndexOutOfBoundsException" := by
  refine jz_enterT (by decide) rfl (Nat.le_of_ble_eq_true rfl) ?_
  intro p e s m args below meth c A ls hx hb hml htab hlocks hts hown hN hP hK hD hA hTh hl
  have hD0 := hD
  obtain ⟨⟨sa1, hs1⟩, ⟨sa2, hs2⟩, ⟨sa3, hs3⟩, hTB, hnc, hU9, hN9⟩ := id hTh
  obtain ⟨H, hH⟩ : ∃ h, h = s.heap := ⟨_, rfl⟩
  have hS : va_S A s.heap H [] := by rw [hH]; exact va_S.rf
  rw [← hH] at hP
  show W p l e _ s m args below meth c s.heap [] 0 0 _ _
  rw [← hH]
  obtain ⟨locs, hlocs⟩ : ∃ z : List Loc, z = [] := ⟨_, rfl⟩
  rw [← hlocs] at hS
  rw [show ([] : List Loc) = locs from hlocs.symm]
  have hown : s.vm.findClass RX6 = some m.cls := hown
  have hl : lv_has ls 3 [(0, .ref (g 60)), (1, .int (nI i)), (2, .int (nI (jB is9)))] := hl
  obtain ⟨hb1_v, hb2_v⟩ := jzI_b hI
  refine lv_aload_n hx hb dX6_cut_0 rfl (lv_at hl 0 rfl) ?_
  refine lv_iload_n hx hb dX6_cut_1 rfl (lv_at hl 1 rfl) ?_
  refine jz_throwV (cls := "java/lang/IndexOutOfBoundsException") (As := [.int (nI i)]) (rest := []) ⟨hx, hb, hml, hown, hts⟩ (x_X6_demandLine l hfl D cI cO cM cL g ro rt rd v t _ hI ht i hi hn0) (cwV 1 hts gX6_cut_X6_demandLine rfl rfl rfl (by decide +kernel) ⟨Nat.le_of_ble_eq_true rfl, Nat.le_of_ble_eq_true rfl⟩) hN hP hD hK hS hA hTh 60 6 rfl rfl rfl rfl hl.1 rfl (Nat.le_of_ble_eq_true rfl) dX6_cut_2 ⟨Nat.le_of_ble_eq_true rfl, Nat.le_of_ble_eq_true rfl⟩ (fun ce q9 H locs hP hS hce hcv hcl => ?_)
  exact vx_out (fun x hx9 => (htab x hx9).elim) hlocks hce hcv hcl (fun t9 h9 _ => jz_XC hP hS (by rw [h9]; exact Nat.le_refl _) (fun q _ => by rw [h9])) hS.2.2 (Nat.le_of_ble_eq_true rfl) (Nat.le_of_ble_eq_true rfl)

set_option maxHeartbeats 400000 in
set_option maxRecDepth 20000 in
theorem x_X6_price (l : Launch) (hfl : l.stackTraces = false) (D : va_G) (cI cO cM cL : ClassId) (g ro rt rd : Nat → Nat) (v : jZ) (t : jS) (sz : Nat) (hI : jzI v) (ht : jSok t) (i x : Nat) (hi : i < 2 ^ 31) (hn0 : zn v ≤ i) : jzCx l yX6_price wsX6_price ({ frames := 8, cells := 1, slots := 6, locals := 160 } : Room) D (jzT cI cO cM cL) (jzX cI cO cM cL g ro rt rd v t) [.ref (g 60), .int (nI i), .int (nI x)] sz "java/lang/IndexOutOfBoundsException" := by
  refine jz_enterT (by decide) rfl (Nat.le_of_ble_eq_true rfl) ?_
  intro p e s m args below meth c A ls hx hb hml htab hlocks hts hown hN hP hK hD hA hTh hl
  have hD0 := hD
  obtain ⟨⟨sa1, hs1⟩, ⟨sa2, hs2⟩, ⟨sa3, hs3⟩, hTB, hnc, hU9, hN9⟩ := id hTh
  obtain ⟨H, hH⟩ : ∃ h, h = s.heap := ⟨_, rfl⟩
  have hS : va_S A s.heap H [] := by rw [hH]; exact va_S.rf
  rw [← hH] at hP
  show W p l e _ s m args below meth c s.heap [] 0 0 _ _
  rw [← hH]
  obtain ⟨locs, hlocs⟩ : ∃ z : List Loc, z = [] := ⟨_, rfl⟩
  rw [← hlocs] at hS
  rw [show ([] : List Loc) = locs from hlocs.symm]
  have hown : s.vm.findClass RX6 = some m.cls := hown
  have hl : lv_has ls 4 [(0, .ref (g 60)), (1, .int (nI i)), (2, .int (nI x))] := hl
  obtain ⟨hb1_v, hb2_v⟩ := jzI_b hI
  refine lv_aload_n hx hb dX6_price_0 rfl (lv_at hl 0 rfl) ?_
  refine lv_iload_n hx hb dX6_price_1 rfl (lv_at hl 1 rfl) ?_
  refine jz_throwV (cls := "java/lang/IndexOutOfBoundsException") (As := [.int (nI i)]) (rest := []) ⟨hx, hb, hml, hown, hts⟩ (x_X6_demandLine l hfl D cI cO cM cL g ro rt rd v t _ hI ht i hi hn0) (cwV 1 hts gX6_price_X6_demandLine rfl rfl rfl (by decide +kernel) ⟨Nat.le_of_ble_eq_true rfl, Nat.le_of_ble_eq_true rfl⟩) hN hP hD hK hS hA hTh 60 6 rfl rfl rfl rfl hl.1 rfl (Nat.le_of_ble_eq_true rfl) dX6_price_2 ⟨Nat.le_of_ble_eq_true rfl, Nat.le_of_ble_eq_true rfl⟩ (fun ce q9 H locs hP hS hce hcv hcl => ?_)
  exact vx_out (fun x hx9 => (htab x hx9).elim) hlocks hce hcv hcl (fun t9 h9 _ => jz_XC hP hS (by rw [h9]; exact Nat.le_refl _) (fun q _ => by rw [h9])) hS.2.2 (Nat.le_of_ble_eq_true rfl) (Nat.le_of_ble_eq_true rfl)
