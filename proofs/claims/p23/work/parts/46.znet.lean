/-! own rows: the law's net: a fresh network by cells of the script -/
section JZW
variable {p : Program} {l : Launch} {e : Env} {R : Room} {s : State} {m : MethodId} {args : Array Value} {below : List Frame} {meth : Method} {c : Code} {H H0 : Heap} {locs : List Loc} {cells slots : Nat} {Q : State → Prop} {A0 : Nat → Prop}
variable {cc bytes : ByteArray} {pc nL maxL index n : Nat} {ls : Array Slot} {rest st0 As : List Value} {Ts wy : List Cond} {own : String} {y : MethodName} {ret : Option FieldType} {rm : Room} {D : va_G} {cI cO cM cL : ClassId} {g ro rt rd : Nat → Nat} {v : jZ} {t : jS} {pz : jZ → Prop}
theorem jz_mutSw (S : CallFix p m c cc nL s args Ts own) (hM : jzCv (U := jZ × jS) l y wy rm D (jzT cI cO cM cL) (jzX cI cO cM cL g ro rt rd v t) As H.size (fun u => jzX cI cO cM cL g ro rt rd u.1 u.2) (fun u => jSok u.2 ∧ jzI u.1 ∧ pz u.1) 0 0) (cw : CallB R s args own index y bytes maxL ret wy rm 0 0 n ∧ (Cond.static y).before args s = true) (hN : jxNW s) (hP : va_P D vwCl (jzX cI cO cM cL g ro rt rd v t) H) (hD : va_D A0 (jzX cI cO cM cL g ro rt rd v t)) (hK : va_K D vwCl (jzT cI cO cM cL) s) (hS : va_S A0 H0 H locs) (hA : ∀ q, H0.size ≤ q → A0 q)
    (hn : As.length = n) (hsize : ls.size = nL) (hstack : st0 = As.reverse ++ rest) (hW : (rest.map fun v => v.category).sum ≤ 8) (hdg : decode cc pc = .ok (.invokestatic index, 3)) (hf : cells ≤ R.cells ∧ slots ≤ R.slots)
    (kk : ∀ (v1 : jZ) (t1 : jS) (H1 : Heap) (locs1 : List Loc), jSok t1 → jzI v1 → pz v1 → va_P D vwCl (jzX cI cO cM cL g ro rt rd v1 t1) H1 → va_D A0 (jzX cI cO cM cL g ro rt rd v1 t1) → va_S A0 H0 H1 locs1 → W p l e R s m args below meth c H1 locs1 cells slots Q (F0 m (pc + 3) ls rest)) : W p l e R s m args below meth c H locs cells slots Q (F0 m pc ls st0) := by
  refine jz_callSv (mc := 0) (ms := 0) S hM cw hN hP hD hK hS hA hn hsize hstack hW hdg hf (fun u H1 locs1 hp hP1 hS1 => ?_)
  obtain ⟨v1, t1⟩ := u
  obtain ⟨ht, hI, h3⟩ := hp
  exact kk v1 t1 H1 locs1 ht hI h3 hP1 (jzD_any hD) hS1
end JZW
theorem jzI_B {v : jZ} (h : jzI v) : jzB v := h.1

set_option maxHeartbeats 400000 in
set_option maxRecDepth 20000 in
theorem z_L_add2 (l : Launch) (D : va_G) (cI cO cM cL : ClassId) (g ro rt rd : Nat → Nat) (v : jZ) (t : jS) (sz : Nat) (hI : jzI v) (ht : jSok t) (h2 : 2 ≤ zP v) (x : Int32) : jzCv (U := jZ × jS) l yL_add wsL_add ({ frames := 14, cells := 0, slots := 0, locals := 340 } : Room) D (jzT cI cO cM cL) (jzX cI cO cM cL g ro rt rd v t) [.ref (g 60), .int x] sz (fun u => jzX cI cO cM cL g ro rt rd u.1 u.2) (fun u => jSok u.2 ∧ jzI u.1 ∧ (zP u.1 = zP v ∧ (zn v < 16 → zn u.1 = zn v + 1))) 0 0 := by
  refine jz_enterV (by decide) rfl (Nat.le_of_ble_eq_true rfl) ?_
  intro p e s m args below meth c Q A ls hx hb hml hts hown hN hP hK hD hA hl hQ
  have hD0 := hD
  obtain ⟨H, hH⟩ : ∃ h, h = s.heap := ⟨_, rfl⟩
  have hS : va_S A s.heap H [] := by rw [hH]; exact va_S.rf
  rw [← hH] at hP ⊢
  obtain ⟨locs, hlocs⟩ : ∃ z : List Loc, z = [] := ⟨_, rfl⟩
  rw [← hlocs] at hS ⊢
  have hown : s.vm.findClass RL = some m.cls := hown
  have hl : lv_has ls 4 [(0, .ref (g 60)), (1, .int x)] := hl
  obtain ⟨hb1_v, hb2_v⟩ := jzI_b hI
  refine lv_iload_n hx hb dL_add_0 rfl (lv_at hl 1 rfl) ?_
  refine lv_aload_n hx hb dL_add_1 rfl (lv_at hl 0 rfl) ?_
  refine lv_iconst (v := nI 0) hx hb dL_add_2 (by decide) ?_
  refine jz_askVi (v := v) (t := t) (As := [.int (nI 0)]) (rest := [.int x]) ⟨hx, hb, hml, hown, hts⟩ (z_X6_net l D cI cO cM cL g ro rt rd v t _ (by assumption) (by assumption) 0 (by decide)) (cwV 1 hts gL_add_X6_net rfl rfl rfl (by decide +kernel) ⟨Nat.le_of_ble_eq_true rfl, Nat.le_of_ble_eq_true rfl⟩) hN hP hD hK hS hA rfl hl.1 rfl (Nat.le_of_ble_eq_true rfl) dL_add_3 ⟨Nat.zero_le _, Nat.zero_le _⟩ (fun t_1 H locs ht_t_1 hP hD hS => ?_)
  refine jx_val (z := (nI (zP v))) rfl ?_
  refine jz_pureSi (X := jzX cI cO cM cL g ro rt rd v t_1) (As := [.int x, .int (nI (zP v))]) (rest := []) ⟨hx, hb, hml, hown, hts⟩ (z_L_below l D (jzT cI cO cM cL) (jzX cI cO cM cL g ro rt rd v t_1) _ x (zP v) (by omega) (by omega)) (va_cwS 2 hts gL_add_L_below rfl rfl rfl (by decide +kernel) ⟨Nat.le_of_ble_eq_true rfl, Nat.le_of_ble_eq_true rfl⟩) hN hP hD hK hS hA rfl hl.1 rfl (Nat.le_of_ble_eq_true rfl) dL_add_6 ⟨Nat.zero_le _, Nat.zero_le _⟩ (fun r H locs hr hP hS => ?_)
  obtain ⟨k_2, hk_2, ek_2, rfl⟩ := hr
  refine lv_istore_n (lv' := [(2, .int (nI k_2)), (0, .ref (g 60)), (1, .int x)]) hx hb dL_add_9 rfl hl (by decide) rfl (fun ls hl => ?_)
  refine lv_iload_n hx hb dL_add_10 rfl (lv_at hl 0 rfl) ?_
  refine lv_iconst (v := nI 1) hx hb dL_add_11 (by decide) ?_
  refine lv_iadd hx hb dL_add_12 ?_
  refine jx_val (z := (nI (k_2 + 1))) (nI_add _ _) ?_
  refine lv_iload_n hx hb dL_add_13 rfl (lv_at hl 2 rfl) ?_
  refine lv_iconst (v := nI 4) hx hb dL_add_14 (by decide) ?_
  refine lv_ishr hx hb dL_add_15 ?_
  refine lv_aload_n hx hb dL_add_16 rfl (lv_at hl 1 rfl) ?_
  refine lv_iconst (v := nI 0) hx hb dL_add_17 (by decide) ?_
  refine jz_askVi (v := v) (t := t_1) (As := [.int (nI 0)]) (rest := [.int (x >>> ((nI 4) &&& 31)), .int (nI (k_2 + 1))]) ⟨hx, hb, hml, hown, hts⟩ (z_X6_net l D cI cO cM cL g ro rt rd v t_1 _ (by assumption) (by assumption) 0 (by decide)) (cwV 1 hts gL_add_X6_net rfl rfl rfl (by decide +kernel) ⟨Nat.le_of_ble_eq_true rfl, Nat.le_of_ble_eq_true rfl⟩) hN hP hD hK hS hA rfl hl.1 rfl (Nat.le_of_ble_eq_true rfl) dL_add_18 ⟨Nat.zero_le _, Nat.zero_le _⟩ (fun t_3 H locs ht_t_3 hP hD hS => ?_)
  refine jx_val (z := (nI (zP v))) rfl ?_
  refine lv_iconst (v := nI 1) hx hb dL_add_21 (by decide) ?_
  refine lv_isub hx hb dL_add_22 ?_
  refine jx_val (z := (nI ((zP v) - 1))) (pk_sub (by omega)) ?_
  refine jz_pureSi (X := jzX cI cO cM cL g ro rt rd v t_3) (As := [.int (x >>> ((nI 4) &&& 31)), .int (nI ((zP v) - 1))]) (rest := [.int (nI (k_2 + 1))]) ⟨hx, hb, hml, hown, hts⟩ (z_L_below l D (jzT cI cO cM cL) (jzX cI cO cM cL g ro rt rd v t_3) _ (x >>> ((nI 4) &&& 31)) ((zP v) - 1) (by omega) (by omega)) (va_cwS 2 hts gL_add_L_below rfl rfl rfl (by decide +kernel) ⟨Nat.le_of_ble_eq_true rfl, Nat.le_of_ble_eq_true rfl⟩) hN hP hD hK hS hA rfl hl.1 rfl (Nat.le_of_ble_eq_true rfl) dL_add_23 ⟨Nat.zero_le _, Nat.zero_le _⟩ (fun r H locs hr hP hS => ?_)
  obtain ⟨k_4, hk_4, ek_4, rfl⟩ := hr
  refine lv_iadd hx hb dL_add_26 ?_
  refine jx_val (z := (nI (k_2 + 1 + k_4))) (nI_add _ _) ?_
  refine lv_aload_n hx hb dL_add_27 rfl (lv_at hl 1 rfl) ?_
  refine lv_iconst (v := nI 0) hx hb dL_add_28 (by decide) ?_
  refine jz_askVi (v := v) (t := t_3) (As := [.int (nI 0)]) (rest := [.int (nI (k_2 + 1 + k_4))]) ⟨hx, hb, hml, hown, hts⟩ (z_X6_net l D cI cO cM cL g ro rt rd v t_3 _ (by assumption) (by assumption) 0 (by decide)) (cwV 1 hts gL_add_X6_net rfl rfl rfl (by decide +kernel) ⟨Nat.le_of_ble_eq_true rfl, Nat.le_of_ble_eq_true rfl⟩) hN hP hD hK hS hA rfl hl.1 rfl (Nat.le_of_ble_eq_true rfl) dL_add_29 ⟨Nat.zero_le _, Nat.zero_le _⟩ (fun t_5 H locs ht_t_5 hP hD hS => ?_)
  refine jx_val (z := (nI (zP v))) rfl ?_
  refine lv_irem hx hb dL_add_32 (nI_ne0 (by omega) (by omega)) ?_
  refine jx_val (z := (nI ((k_2 + 1 + k_4) % (zP v)))) (pk_rem (by omega) (by omega) (by omega)) ?_
  obtain ⟨o9, eo9⟩ : ∃ y : Nat, y = (k_2 + 1 + k_4) % (zP v) := ⟨_, rfl⟩
  rw [← eo9]
  refine lv_istore_n (lv' := [(3, .int (nI o9)), (2, .int (nI k_2)), (0, .ref (g 60)), (1, .int x)]) hx hb dL_add_33 rfl hl (by decide) rfl (fun ls hl => ?_)
  have ho9 := jz_other (P := zP v) (one := k_2) (k := k_4) hk_2 hk_4
  rw [← eo9] at ho9
  obtain ⟨ho91, ho92⟩ := ho9
  refine lv_aload_n hx hb dL_add_34 rfl (lv_at hl 2 rfl) ?_
  refine lv_iconst (v := nI 1) hx hb dL_add_35 (by decide) ?_
  refine jz_askVi (v := v) (t := t_5) (As := [.int (nI 1)]) (rest := []) ⟨hx, hb, hml, hown, hts⟩ (z_X6_net l D cI cO cM cL g ro rt rd v t_5 _ (by assumption) (by assumption) 1 (by decide)) (cwV 1 hts gL_add_X6_net rfl rfl rfl (by decide +kernel) ⟨Nat.le_of_ble_eq_true rfl, Nat.le_of_ble_eq_true rfl⟩) hN hP hD hK hS hA rfl hl.1 rfl (Nat.le_of_ble_eq_true rfl) dL_add_36 ⟨Nat.zero_le _, Nat.zero_le _⟩ (fun t_6 H locs ht_t_6 hP hD hS => ?_)
  refine jx_val (z := (nI (zn v))) rfl ?_
  refine lv_bipush (v := nI 16) hx hb dL_add_39 (by decide) ?_
  refine lv_icmp_ge (tgt := 61) hx hb dL_add_41 (by decide) (fun c41 => ?_) (fun c41 => ?_)
  · have c41 : 16 ≤ zn v := jx_le (by decide) (by omega) c41
    exact hQ (v, t_6) H locs _ _ dL_add_61 (show jSok t_6 ∧ jzI v ∧ (zP v = zP v ∧ (zn v < 16 → zn v = zn v + 1)) from ⟨by assumption, by assumption, by omega, fun h9 => by omega⟩) hP hS
  · have c41 : zn v < 16 := jx_nle (by decide) (by omega) c41
    refine lv_aload_n hx hb dL_add_44 rfl (lv_at hl 2 rfl) ?_
    refine lv_iload_n hx hb dL_add_45 rfl (lv_at hl 1 rfl) ?_
    refine lv_iload_n hx hb dL_add_46 rfl (lv_at hl 0 rfl) ?_
    refine lv_iconst (v := nI 1) hx hb dL_add_47 (by decide) ?_
    refine lv_iload_n hx hb dL_add_48 rfl (lv_at hl 3 rfl) ?_
    refine lv_iconst (v := nI 3) hx hb dL_add_49 (by decide) ?_
    refine lv_ishr hx hb dL_add_50 ?_
    refine lv_bipush (v := nI 20) hx hb dL_add_51 (by decide) ?_
    refine jz_pureSi (X := jzX cI cO cM cL g ro rt rd v t_6) (As := [.int (x >>> ((nI 3) &&& 31)), .int (nI 20)]) (rest := [.int (nI 1), .int (nI o9), .int (nI k_2), .ref (g 60)]) ⟨hx, hb, hml, hown, hts⟩ (z_L_below l D (jzT cI cO cM cL) (jzX cI cO cM cL g ro rt rd v t_6) _ (x >>> ((nI 3) &&& 31)) 20 (by omega) (by omega)) (va_cwS 2 hts gL_add_L_below rfl rfl rfl (by decide +kernel) ⟨Nat.le_of_ble_eq_true rfl, Nat.le_of_ble_eq_true rfl⟩) hN hP hD hK hS hA rfl hl.1 rfl (Nat.le_of_ble_eq_true rfl) dL_add_53 ⟨Nat.zero_le _, Nat.zero_le _⟩ (fun r H locs hr hP hS => ?_)
    obtain ⟨k_7, hk_7, ek_7, rfl⟩ := hr
    refine lv_iadd hx hb dL_add_56 ?_
    refine jx_val (z := (nI (1 + k_7))) (nI_add _ _) ?_
    refine jz_mutVi (v := v) (t := t_6) (As := [.int (nI k_2), .int (nI o9), .int (nI (1 + k_7))]) (rest := []) ⟨hx, hb, hml, hown, hts⟩ (z_X6_line l D cI cO cM cL g ro rt rd v t_6 _ (by assumption) (by assumption) k_2 o9 (1 + k_7) (by omega) (by omega) (by omega) (by omega) (by omega) (by omega)) (cwV 3 hts gL_add_X6_line rfl rfl rfl (by decide +kernel) ⟨Nat.le_of_ble_eq_true rfl, Nat.le_of_ble_eq_true rfl⟩) hN hP hD hK hS hA rfl hl.1 rfl (Nat.le_of_ble_eq_true rfl) dL_add_57 ⟨Nat.zero_le _, Nat.zero_le _⟩ (fun r_8 v_8 t_8 H locs ht_v_8 hI_v_8 hzP_v_8 hzn_v_8 hP hD hS => ?_)
    obtain ⟨hb1_v_8, hb2_v_8⟩ := jzI_b (v := v_8) (by assumption)
    refine lv_pop hx hb dL_add_60 rfl ?_
    exact hQ (v_8, t_8) H locs _ _ dL_add_61 (show jSok t_8 ∧ jzI v_8 ∧ (zP v_8 = zP v ∧ (zn v < 16 → zn v_8 = zn v + 1)) from ⟨by assumption, by assumption, by omega, fun h9 => by omega⟩) hP hS

def jzNs (D : va_G) (cI cO cM cL : ClassId) (sz sb : Nat) (U : State) : Prop := jzN D cI cO cM cL [] sz U ∧ ∃ (L : Nat) (xs : Nat → Int32), L < 2 ^ 31 ∧ va_X sb L xs U U.heap
theorem jzNs_blind {D : va_G} {cI cO cM cL : ClassId} {sz sb : Nat} {av : List Value} : FrameBlind (va_Pc av (jzNs D cI cO cM cL sz sb)) := by
  intro a U g mk h
  obtain ⟨q0, ⟨q1, q2, q3, q4, q5, q6, q7⟩, L, xs, hL, q8⟩ := h
  exact ⟨q0, ⟨q1.same rfl, q2, q3, va_K.moved (u := U) (U := U.calling g mk a) (Vm.Alike.refl U.vm) q4, q5, jz_aoa (s := U) (U := U.calling g mk a) (Vm.Alike.refl U.vm) q6, jz_aoa (s := U) (U := U.calling g mk a) (Vm.Alike.refl U.vm) q7⟩, L, xs, hL, va_X.moved (u := U) (U := U.calling g mk a) (Vm.Alike.refl U.vm) q8⟩
theorem in_L_net_6 : ∀ w ∈ wsX60, w ∈ wsL_net := by decide +kernel
set_option maxHeartbeats 2000000 in
set_option maxRecDepth 20000 in
theorem z_L_net (l : Launch) (D : va_G) (cI cO cM cL : ClassId) (sb sz : Nat) : Met l yL_net wsL_net ({ frames := 16, cells := 61, slots := 1031, locals := 420 } : Room) (va_Pc [.ref sb] (jzNs D cI cO cM cL sz sb)) (va_Qr (S := ((Nat → Nat) × (Nat → Nat) × (Nat → Nat) × (Nat → Nat)) × jZ × jS) (fun u => jSok u.2.2 ∧ jzI u.2.1 ∧ 2 ≤ zP u.2.1) (fun u a t => u.1.1 60 = a ∧ va_P D vwCl (jzX cI cO cM cL u.1.1 u.1.2.1 u.1.2.2.1 u.1.2.2.2 u.2.1 u.2.2) t.heap ∧ va_D (va_A [] sz) (jzX cI cO cM cL u.1.1 u.1.2.1 u.1.2.2.1 u.1.2.2.2 u.2.1 u.2.2)) (va_A [] sz)) 61 1031 (va_A [] sz) := by
  refine Met.ofW (cc := cL_net) (maxL := 5) (ret := some (.object "Twincuts")) (by decide) rfl ?_
  intro p e s m args below meth c s₁ B hml hv
  obtain ⟨rfl, ⟨hN, rfl, hP, hK, hD0, hao, hal⟩, L, xs, hxL, hxX⟩ := hv
  have hx := B.exec
  have hb := B.bytes
  have hr := B.returns
  have hts := atoms_spec (ws := wsL_net) B.pre
  have hown : s.vm.findClass RL = some m.cls := findClass_of_methodNamed B.named
  have hlocks := B.notSynchronized
  have hD := hD0.self (sz := s.heap.size)
  have hxb1 : sb < s.heap.size := by
    obtain ⟨scr, h1, -⟩ := hxX
    exact (Array.getElem?_eq_some_iff.mp h1).1
  have hxb2 : ¬ va_A [] s.heap.size sb := by
    rintro (⟨k, e9, h⟩ | h)
    · simp at h
    · omega
  generalize hAe : va_A [] s.heap.size = A at hD hxb2 ⊢
  have hA : ∀ q : Nat, s.heap.size ≤ q → A q := fun q h => by rw [← hAe]; exact Or.inr h
  have hS : va_S A s.heap s.heap [] := va_S.rf
  have hl := lv_entry ([.ref sb]) (n := 5) (Nat.le_of_ble_eq_true rfl)
  rw [lg_entry_eq]
  generalize (lg_sl ([.ref sb]) ++ List.replicate (5 - (lg_sl ([.ref sb])).length) Slot.unset).toArray = ls at hl ⊢
  have hl : lv_has ls 5 [(0, .ref sb)] := hl
  obtain ⟨Q, hQ⟩ : ∃ q : State → Prop, q = MQ below (va_Qr (S := ((Nat → Nat) × (Nat → Nat) × (Nat → Nat) × (Nat → Nat)) × jZ × jS) (fun u => jSok u.2.2 ∧ jzI u.2.1 ∧ 2 ≤ zP u.2.1) (fun u a t => u.1.1 60 = a ∧ va_P D vwCl (jzX cI cO cM cL u.1.1 u.1.2.1 u.1.2.2.1 u.1.2.2.2 u.2.1 u.2.2) t.heap ∧ va_D A (jzX cI cO cM cL u.1.1 u.1.2.1 u.1.2.2.1 u.1.2.2.2 u.2.1 u.2.2)) A) [Value.ref sb].toArray s 61 1031 A := ⟨_, rfl⟩
  show W p l e _ s m [Value.ref sb].toArray below meth c s.heap [] 0 0 (MQ below (va_Qr (S := ((Nat → Nat) × (Nat → Nat) × (Nat → Nat) × (Nat → Nat)) × jZ × jS) (fun u => jSok u.2.2 ∧ jzI u.2.1 ∧ 2 ≤ zP u.2.1) (fun u a t => u.1.1 60 = a ∧ va_P D vwCl (jzX cI cO cM cL u.1.1 u.1.2.1 u.1.2.2.1 u.1.2.2.2 u.2.1 u.2.2) t.heap ∧ va_D A (jzX cI cO cM cL u.1.1 u.1.2.1 u.1.2.2.1 u.1.2.2.2 u.2.1 u.2.2)) A) [Value.ref sb].toArray s 61 1031 A) _
  rw [← hQ]
  refine va_new (ci := 6) (fs := [.null, .null, .null, .null, .null, .null, .int 0]) (C := RX6) (T := TX6) (N := 7) hx hb hts in_L_net_6 tyX6 tyX6_ok hown (hts (.classLink RL 9 RX6) (List.mem_of_getElem? (i := 1) (by decide +kernel))) (hts (.instantiable RX6 7) (List.mem_of_getElem? (i := 2) (by decide +kernel))) (hts (.initialized RX6) (List.mem_of_getElem? (i := 3) (by decide +kernel))) hK hP hD hS hA rfl (fun j hj => by rcases (show j = 0 ∨ j = 1 ∨ j = 2 ∨ j = 3 ∨ j = 4 ∨ j = 5 ∨ j = 6 by omega) with rfl | rfl | rfl | rfl | rfl | rfl | rfl <;> rfl) (Nat.le_of_ble_eq_true rfl) (Nat.le_of_ble_eq_true rfl) dL_net_0 (fun q6 H hP hD hS => ?_)
  refine lv_dup hx hb dL_net_3 rfl ?_
  have hFc := jz_Fr hD hS hA
  have hPc := jz_Pr hP
  have hDc := jz_Dr hD
  refine va_callv (va_runI (As := []) (rest := [.ref q6]) ⟨hx, hb, hml, hown, hts⟩ (n_X6_init l D cI cO cM cL q6 H.size) (cwI 0 hts gL_net_X6_init rfl rfl rfl (hts (.initialized RX6) (List.mem_of_getElem? (i := 3) (by decide +kernel))) (hts (.methodLink RL 11 yX6_init) (List.mem_of_getElem? (i := 4) (by decide +kernel))) (hts (.instanceMethod yX6_init) (List.mem_of_getElem? (i := 5) (by decide +kernel))) rfl (by decide +kernel) ⟨(Nat.le_of_ble_eq_true rfl), (Nat.le_of_ble_eq_true rfl)⟩) ⟨jzN_blind, fun V hV hW => ⟨rfl, hN.warm hW, by rw [hV], by rw [hV]; exact hPc, va_K.moved hW.alike hK, hDc.weaken (fun _ _ _ _ => trivial), jz_aoa hW.alike hao, jz_aoa hW.alike hal⟩⟩ rfl rfl hl.1 rfl (lv_room (Nat.le_of_ble_eq_true rfl)) dL_net_4 ⟨(Nat.le_of_ble_eq_true rfl), (Nat.le_of_ble_eq_true rfl)⟩) hS (fun q _ h => hFc q h) hFc (fun u9 t9 H1 locs ht hvm hw hB hz1 hk1 hS => ?_)
  obtain ⟨hP1, hD1⟩ := hB
  rw [ht] at hP1
  obtain ⟨g, ro, rt, rd⟩ := u9
  have hw : g 60 = q6 := hw
  subst hw
  obtain ⟨hP, hD⟩ := jz_initJ hP hD hk1 hFc hP1 hD1
  generalize H1 = H at hP hS ⊢
  have hP : va_P D vwCl (jzX cI cO cM cL g ro rt rd jzV0 jzS0) H := hP
  have hD : va_D A (jzX cI cO cM cL g ro rt rd jzV0 jzS0) := hD
  have hD0 := hD
  refine W.widen (k := 61) (n := 1031) (Nat.le_of_ble_eq_true rfl) (Nat.le_of_ble_eq_true rfl) ?_
  have hb1_jzV0 : zP jzV0 = 0 := rfl
  refine lv_astore_n (lv' := [(1, .ref (g 60)), (0, .ref sb)]) hx hb dL_net_7 rfl hl (by decide) rfl (fun ls hl => ?_)
  refine lv_iconst (v := nI 2) hx hb dL_net_8 (by decide) ?_
  refine lv_aload_n hx hb dL_net_9 rfl (lv_at hl 1 rfl) ?_
  refine lv_iconst (v := nI 0) hx hb dL_net_10 (by decide) ?_
  refine jz_cellSi (X := jzX cI cO cM cL g ro rt rd jzV0 jzS0) (As := [.ref sb, .int (nI 0)]) (rest := [.int (nI 2)]) ⟨hx, hb, hml, hown, hts⟩ (z_L_cell l D (jzT cI cO cM cL) (jzX cI cO cM cL g ro rt rd jzV0 jzS0) _ sb 0 (by omega)) (va_cwS 2 hts gL_net_L_cell rfl rfl rfl (by decide +kernel) ⟨Nat.le_of_ble_eq_true rfl, Nat.le_of_ble_eq_true rfl⟩) hN hP hD hK hS hA hxL hxX hxb1 hxb2 rfl hl.1 rfl (Nat.le_of_ble_eq_true rfl) dL_net_11 ⟨Nat.le_of_ble_eq_true rfl, Nat.le_of_ble_eq_true rfl⟩ (fun x_1 H locs hP hS => ?_)
  refine lv_bipush (v := nI 7) hx hb dL_net_14 (by decide) ?_
  refine jz_pureSi (X := jzX cI cO cM cL g ro rt rd jzV0 jzS0) (As := [.int x_1, .int (nI 7)]) (rest := [.int (nI 2)]) ⟨hx, hb, hml, hown, hts⟩ (z_L_below l D (jzT cI cO cM cL) (jzX cI cO cM cL g ro rt rd jzV0 jzS0) _ x_1 7 (by omega) (by omega)) (va_cwS 2 hts gL_net_L_below rfl rfl rfl (by decide +kernel) ⟨Nat.le_of_ble_eq_true rfl, Nat.le_of_ble_eq_true rfl⟩) hN hP hD hK hS hA rfl hl.1 rfl (Nat.le_of_ble_eq_true rfl) dL_net_16 ⟨Nat.le_of_ble_eq_true rfl, Nat.le_of_ble_eq_true rfl⟩ (fun r H locs hr hP hS => ?_)
  obtain ⟨k_2, hk_2, ek_2, rfl⟩ := hr
  refine lv_iadd hx hb dL_net_19 ?_
  refine jx_val (z := (nI (2 + k_2))) (nI_add _ _) ?_
  obtain ⟨pts, epts⟩ : ∃ y : Nat, y = 2 + k_2 := ⟨_, rfl⟩
  rw [← epts]
  refine lv_istore_n (lv' := [(2, .int (nI pts)), (1, .ref (g 60)), (0, .ref sb)]) hx hb dL_net_20 rfl hl (by decide) rfl (fun ls hl => ?_)
  refine lv_iconst (v := nI 0) hx hb dL_net_21 (by decide) ?_
  refine lv_istore_n (lv' := [(3, .int (nI 0)), (2, .int (nI pts)), (1, .ref (g 60)), (0, .ref sb)]) hx hb dL_net_22 rfl hl (by decide) rfl (fun ls hl => ?_)
  have L23 : ∀ (k : Nat) (v1 : jZ) (t1 : jS) (kk : Nat) (hB_v1 : jzB v1) (hIp : 0 < zP v1 → jzI v1) (ht_t1 : jSok t1) (hzp1 : zP v1 = kk) (hzn1 : zn v1 = 0) (hkk : kk ≤ pts), pts - kk < k → ∀ (H : Heap) (locs : List Loc), va_P D vwCl (jzX cI cO cM cL g ro rt rd v1 t1) H → va_S A s.heap H locs → ∀ ls : Array Slot, lv_has ls 5 [(0, .ref sb), (1, .ref (g 60)), (2, .int (nI pts)), (3, .int (nI kk))] → W p l e ({ frames := 16, cells := 61, slots := 1031, locals := 420 } : Room) s m #[Value.ref sb] below meth c H locs 61 1031 Q (F0 m 23 ls []) := by
    intro k
    induction k with
    | zero => intro v1 t1 kk hB_v1 hIp ht_t1 hzp1 hzn1 hkk hk; exact absurd hk (Nat.not_lt_zero _)
    | succ k ih23 =>
      intro v1 t1 kk hB_v1 hIp ht_t1 hzp1 hzn1 hkk hk H locs hP hS ls hl
      have hD : va_D A (jzX cI cO cM cL g ro rt rd v1 t1) := jzD_any hD0
      have hb1_v1 : zP v1 ≤ 8 := hB_v1.1.1
      refine lv_iload_n hx hb dL_net_23 rfl (lv_at hl 3 rfl) ?_
      refine lv_iload_n hx hb dL_net_24 rfl (lv_at hl 2 rfl) ?_
      refine lv_icmp_ge (tgt := 39) hx hb dL_net_25 (by decide) (fun c25 => ?_) (fun c25 => ?_)
      · have c25 : pts ≤ kk := jx_le (by omega) (by omega) c25
        have hI_v1 := hIp (by omega)
        refine lv_aload_n hx hb dL_net_39 rfl (lv_at hl 0 rfl) ?_
        refine lv_iconst (v := nI 1) hx hb dL_net_40 (by decide) ?_
        refine jz_cellSi (X := jzX cI cO cM cL g ro rt rd v1 t1) (As := [.ref sb, .int (nI 1)]) (rest := []) ⟨hx, hb, hml, hown, hts⟩ (z_L_cell l D (jzT cI cO cM cL) (jzX cI cO cM cL g ro rt rd v1 t1) _ sb 1 (by omega)) (va_cwS 2 hts gL_net_L_cell rfl rfl rfl (by decide +kernel) ⟨Nat.le_of_ble_eq_true rfl, Nat.le_of_ble_eq_true rfl⟩) hN hP hD hK hS hA hxL hxX hxb1 hxb2 rfl hl.1 rfl (Nat.le_of_ble_eq_true rfl) dL_net_41 ⟨Nat.le_of_ble_eq_true rfl, Nat.le_of_ble_eq_true rfl⟩ (fun x_3 H locs hP hS => ?_)
        refine lv_bipush (v := nI 17) hx hb dL_net_44 (by decide) ?_
        refine jz_pureSi (X := jzX cI cO cM cL g ro rt rd v1 t1) (As := [.int x_3, .int (nI 17)]) (rest := []) ⟨hx, hb, hml, hown, hts⟩ (z_L_below l D (jzT cI cO cM cL) (jzX cI cO cM cL g ro rt rd v1 t1) _ x_3 17 (by omega) (by omega)) (va_cwS 2 hts gL_net_L_below rfl rfl rfl (by decide +kernel) ⟨Nat.le_of_ble_eq_true rfl, Nat.le_of_ble_eq_true rfl⟩) hN hP hD hK hS hA rfl hl.1 rfl (Nat.le_of_ble_eq_true rfl) dL_net_46 ⟨Nat.le_of_ble_eq_true rfl, Nat.le_of_ble_eq_true rfl⟩ (fun r H locs hr hP hS => ?_)
        obtain ⟨k_4, hk_4, ek_4, rfl⟩ := hr
        obtain ⟨lns, elns⟩ : ∃ y : Nat, y = k_4 := ⟨_, rfl⟩
        rw [← elns]
        refine lv_istore_n (lv' := [(3, .int (nI lns)), (0, .ref sb), (1, .ref (g 60)), (2, .int (nI pts))]) hx hb dL_net_49 rfl hl (by decide) rfl (fun ls hl => ?_)
        refine lv_iconst (v := nI 0) hx hb dL_net_50 (by decide) ?_
        refine lv_istore (lv' := [(4, .int (nI 0)), (3, .int (nI lns)), (0, .ref sb), (1, .ref (g 60)), (2, .int (nI pts))]) hx hb dL_net_51 hl (by decide) rfl (fun ls hl => ?_)
        have L53 : ∀ (k : Nat) (v2 : jZ) (t2 : jS) (k2 : Nat) (hI_v2 : jzI v2) (ht_t2 : jSok t2) (hzp2 : 2 ≤ zP v2) (hzn2 : zn v2 = k2) (hk2 : k2 ≤ lns), lns - k2 < k → ∀ (H : Heap) (locs : List Loc), va_P D vwCl (jzX cI cO cM cL g ro rt rd v2 t2) H → va_S A s.heap H locs → ∀ ls : Array Slot, lv_has ls 5 [(0, .ref sb), (1, .ref (g 60)), (3, .int (nI lns)), (4, .int (nI k2))] → W p l e ({ frames := 16, cells := 61, slots := 1031, locals := 420 } : Room) s m #[Value.ref sb] below meth c H locs 61 1031 Q (F0 m 53 ls []) := by
          intro k
          induction k with
          | zero => intro v2 t2 k2 hI_v2 ht_t2 hzp2 hzn2 hk2 hk; exact absurd hk (Nat.not_lt_zero _)
          | succ k ih53 =>
            intro v2 t2 k2 hI_v2 ht_t2 hzp2 hzn2 hk2 hk H locs hP hS ls hl
            have hD : va_D A (jzX cI cO cM cL g ro rt rd v2 t2) := jzD_any hD0
            obtain ⟨hb1_v2, hb2_v2⟩ := jzI_b hI_v2
            refine lv_iload hx hb dL_net_53 (lv_at hl 3 rfl) ?_
            refine lv_iload_n hx hb dL_net_55 rfl (lv_at hl 2 rfl) ?_
            refine lv_icmp_ge (tgt := 89) hx hb dL_net_56 (by decide) (fun c56 => ?_) (fun c56 => ?_)
            · have c56 : lns ≤ k2 := jx_le (by omega) (by omega) c56
              refine lv_iconst (v := nI 0) hx hb dL_net_89 (by decide) ?_
              refine lv_istore (lv' := [(4, .int (nI 0)), (0, .ref sb), (1, .ref (g 60)), (3, .int (nI lns))]) hx hb dL_net_90 hl (by decide) rfl (fun ls hl => ?_)
              have L92 : ∀ (k : Nat) (v3 : jZ) (t3 : jS) (k3 : Nat) (hI_v3 : jzI v3) (ht_t3 : jSok t3) (hzp3 : 2 ≤ zP v3) (hzn3 : zn v3 = lns) (hk3 : k3 ≤ lns), lns - k3 < k → ∀ (H : Heap) (locs : List Loc), va_P D vwCl (jzX cI cO cM cL g ro rt rd v3 t3) H → va_S A s.heap H locs → ∀ ls : Array Slot, lv_has ls 5 [(0, .ref sb), (1, .ref (g 60)), (3, .int (nI lns)), (4, .int (nI k3))] → W p l e ({ frames := 16, cells := 61, slots := 1031, locals := 420 } : Room) s m #[Value.ref sb] below meth c H locs 61 1031 Q (F0 m 92 ls []) := by
                intro k
                induction k with
                | zero => intro v3 t3 k3 hI_v3 ht_t3 hzp3 hzn3 hk3 hk; exact absurd hk (Nat.not_lt_zero _)
                | succ k ih92 =>
                  intro v3 t3 k3 hI_v3 ht_t3 hzp3 hzn3 hk3 hk H locs hP hS ls hl
                  have hD : va_D A (jzX cI cO cM cL g ro rt rd v3 t3) := jzD_any hD0
                  obtain ⟨hb1_v3, hb2_v3⟩ := jzI_b hI_v3
                  refine lv_iload hx hb dL_net_92 (lv_at hl 3 rfl) ?_
                  refine lv_iload_n hx hb dL_net_94 rfl (lv_at hl 2 rfl) ?_
                  refine lv_icmp_ge (tgt := 129) hx hb dL_net_95 (by decide) (fun c95 => ?_) (fun c95 => ?_)
                  · have c95 : lns ≤ k3 := jx_le (by omega) (by omega) c95
                    refine lv_iconst (v := nI 0) hx hb dL_net_129 (by decide) ?_
                    refine lv_istore (lv' := [(4, .int (nI 0)), (0, .ref sb), (1, .ref (g 60)), (3, .int (nI lns))]) hx hb dL_net_130 hl (by decide) rfl (fun ls hl => ?_)
                    have L132 : ∀ (k : Nat) (v4 : jZ) (t4 : jS) (k4 : Nat) (hI_v4 : jzI v4) (ht_t4 : jSok t4) (hzp4 : 2 ≤ zP v4) (hk4 : k4 ≤ 6), 6 - k4 < k → ∀ (H : Heap) (locs : List Loc), va_P D vwCl (jzX cI cO cM cL g ro rt rd v4 t4) H → va_S A s.heap H locs → ∀ ls : Array Slot, lv_has ls 5 [(0, .ref sb), (1, .ref (g 60)), (4, .int (nI k4))] → W p l e ({ frames := 16, cells := 61, slots := 1031, locals := 420 } : Room) s m #[Value.ref sb] below meth c H locs 61 1031 Q (F0 m 132 ls []) := by
                      intro k
                      induction k with
                      | zero => intro v4 t4 k4 hI_v4 ht_t4 hzp4 hk4 hk; exact absurd hk (Nat.not_lt_zero _)
                      | succ k ih132 =>
                        intro v4 t4 k4 hI_v4 ht_t4 hzp4 hk4 hk H locs hP hS ls hl
                        have hD : va_D A (jzX cI cO cM cL g ro rt rd v4 t4) := jzD_any hD0
                        obtain ⟨hb1_v4, hb2_v4⟩ := jzI_b hI_v4
                        refine lv_iload hx hb dL_net_132 (lv_at hl 2 rfl) ?_
                        refine lv_bipush (v := nI 6) hx hb dL_net_134 (by decide) ?_
                        refine lv_icmp_ge (tgt := 160) hx hb dL_net_136 (by decide) (fun c136 => ?_) (fun c136 => ?_)
                        · have c136 : 6 ≤ k4 := jx_le (by decide) (by omega) c136
                          refine lv_aload_n hx hb dL_net_160 rfl (lv_at hl 1 rfl) ?_
                          rw [hQ]
                          exact W.aret (v := .ref (g 60)) hx hb hr (Or.inl ⟨_, rfl⟩) (Or.inr ⟨_, rfl⟩) (fun t9 ht9 hW9 => ⟨⟨((g, ro, rt, rd), v4, t4), g 60, rfl, ⟨by assumption, by assumption, by omega⟩, rfl, by rw [ht9]; exact hP, hD⟩, hS.F ht9⟩) hS.2.2 dL_net_161
                        · have c136 : k4 < 6 := jx_nle (by decide) (by omega) c136
                          refine lv_aload_n hx hb dL_net_139 rfl (lv_at hl 1 rfl) ?_
                          refine lv_aload_n hx hb dL_net_140 rfl (lv_at hl 0 rfl) ?_
                          refine lv_bipush (v := nI 15) hx hb dL_net_141 (by decide) ?_
                          refine jz_cellSi (X := jzX cI cO cM cL g ro rt rd v4 t4) (As := [.ref sb, .int (nI 15)]) (rest := [.ref (g 60)]) ⟨hx, hb, hml, hown, hts⟩ (z_L_cell l D (jzT cI cO cM cL) (jzX cI cO cM cL g ro rt rd v4 t4) _ sb 15 (by omega)) (va_cwS 2 hts gL_net_L_cell rfl rfl rfl (by decide +kernel) ⟨Nat.le_of_ble_eq_true rfl, Nat.le_of_ble_eq_true rfl⟩) hN hP hD hK hS hA hxL hxX hxb1 hxb2 rfl hl.1 rfl (Nat.le_of_ble_eq_true rfl) dL_net_143 ⟨Nat.le_of_ble_eq_true rfl, Nat.le_of_ble_eq_true rfl⟩ (fun x_5 H locs hP hS => ?_)
                          refine lv_iconst (v := nI 4) hx hb dL_net_146 (by decide) ?_
                          refine lv_iload hx hb dL_net_147 (lv_at hl 2 rfl) ?_
                          refine lv_imul hx hb dL_net_149 ?_
                          refine jx_val (z := (nI (4 * k4))) (pk_mul _ _) ?_
                          refine lv_ishr hx hb dL_net_150 ?_
                          refine jz_mutSv (v := v4) (t := t4) (As := [.ref (g 60), .int (x_5 >>> ((nI (4 * k4)) &&& 31))]) (rest := []) ⟨hx, hb, hml, hown, hts⟩ (z_L_turned l D cI cO cM cL g ro rt rd v4 t4 _ (by assumption) (by assumption) (by omega) (x_5 >>> ((nI (4 * k4)) &&& 31))) (va_cwS 2 hts gL_net_L_turned rfl rfl rfl (by decide +kernel) ⟨Nat.le_of_ble_eq_true rfl, Nat.le_of_ble_eq_true rfl⟩) hN hP hD hK hS hA rfl hl.1 rfl (Nat.le_of_ble_eq_true rfl) dL_net_151 ⟨Nat.le_of_ble_eq_true rfl, Nat.le_of_ble_eq_true rfl⟩ (fun v_6 t_6 H locs ht_v_6 hI_v_6 hzP_v_6 hP hD hS => ?_)
                          obtain ⟨hb1_v_6, hb2_v_6⟩ := jzI_b (v := v_6) (by assumption)
                          refine lv_iinc (v := nI (k4 + 1)) (lv' := [(4, .int (nI (k4 + 1))), (0, .ref sb), (1, .ref (g 60))]) hx hb dL_net_154 hl (k := 2) rfl (jx_inc _) (by decide) rfl (fun ls hl => ?_)
                          refine lv_goto (tgt := 132) hx hb dL_net_157 (by decide) ?_
                          exact ih132 v_6 t_6 (k4 + 1) (by assumption) (by assumption) (by omega) (by omega) (by omega) H locs hP hS ls (lv_sub hl [1, 2, 0] rfl)
                    exact L132 ((6 - 0) + 1) v3 t3 0 (by assumption) (by assumption) (by omega) (by omega) (Nat.lt_succ_self _) H locs hP hS ls (lv_sub hl [1, 2, 0] rfl)
                  · have c95 : k3 < lns := jx_nle (by omega) (by omega) c95
                    refine lv_aload_n hx hb dL_net_98 rfl (lv_at hl 0 rfl) ?_
                    refine lv_bipush (v := nI 14) hx hb dL_net_99 (by decide) ?_
                    refine jz_cellSi (X := jzX cI cO cM cL g ro rt rd v3 t3) (As := [.ref sb, .int (nI 14)]) (rest := []) ⟨hx, hb, hml, hown, hts⟩ (z_L_cell l D (jzT cI cO cM cL) (jzX cI cO cM cL g ro rt rd v3 t3) _ sb 14 (by omega)) (va_cwS 2 hts gL_net_L_cell rfl rfl rfl (by decide +kernel) ⟨Nat.le_of_ble_eq_true rfl, Nat.le_of_ble_eq_true rfl⟩) hN hP hD hK hS hA hxL hxX hxb1 hxb2 rfl hl.1 rfl (Nat.le_of_ble_eq_true rfl) dL_net_101 ⟨Nat.le_of_ble_eq_true rfl, Nat.le_of_ble_eq_true rfl⟩ (fun x_7 H locs hP hS => ?_)
                    refine lv_iload hx hb dL_net_104 (lv_at hl 3 rfl) ?_
                    refine lv_ishr hx hb dL_net_106 ?_
                    refine lv_bipush (v := nI 6) hx hb dL_net_107 (by decide) ?_
                    refine jz_pureSi (X := jzX cI cO cM cL g ro rt rd v3 t3) (As := [.int (x_7 >>> ((nI k3) &&& 31)), .int (nI 6)]) (rest := []) ⟨hx, hb, hml, hown, hts⟩ (z_L_below l D (jzT cI cO cM cL) (jzX cI cO cM cL g ro rt rd v3 t3) _ (x_7 >>> ((nI k3) &&& 31)) 6 (by omega) (by omega)) (va_cwS 2 hts gL_net_L_below rfl rfl rfl (by decide +kernel) ⟨Nat.le_of_ble_eq_true rfl, Nat.le_of_ble_eq_true rfl⟩) hN hP hD hK hS hA rfl hl.1 rfl (Nat.le_of_ble_eq_true rfl) dL_net_109 ⟨Nat.le_of_ble_eq_true rfl, Nat.le_of_ble_eq_true rfl⟩ (fun r H locs hr hP hS => ?_)
                    obtain ⟨k_8, hk_8, ek_8, rfl⟩ := hr
                    refine lv_if_ne (tgt := 123) hx hb dL_net_112 (by decide) (fun c112 => ?_) (fun c112 => ?_)
                    · have c112 : k_8 ≠ 0 := jx_nz c112
                      refine lv_iinc (v := nI (k3 + 1)) (lv' := [(4, .int (nI (k3 + 1))), (0, .ref sb), (1, .ref (g 60)), (3, .int (nI lns))]) hx hb dL_net_123 hl (k := 3) rfl (jx_inc _) (by decide) rfl (fun ls hl => ?_)
                      refine lv_goto (tgt := 92) hx hb dL_net_126 (by decide) ?_
                      exact ih92 v3 t3 (k3 + 1) (by assumption) (by assumption) (by omega) (by omega) (by omega) (by omega) H locs hP hS ls (lv_sub hl [1, 2, 3, 0] rfl)
                    · have c112 : k_8 = 0 := jx_z (by omega) c112
                      refine lv_aload_n hx hb dL_net_115 rfl (lv_at hl 1 rfl) ?_
                      refine lv_iload hx hb dL_net_116 (lv_at hl 3 rfl) ?_
                      refine lv_iconst (v := nI 1) hx hb dL_net_118 (by decide) ?_
                      refine jz_mutVi (v := v3) (t := t3) (As := [.int (nI k3), .int (nI 1)]) (rest := []) ⟨hx, hb, hml, hown, hts⟩ (z_X6_cut l D cI cO cM cL g ro rt rd v3 t3 _ (by assumption) (by assumption) k3 true (by omega)) (cwV 2 hts gL_net_X6_cut rfl rfl rfl (by decide +kernel) ⟨Nat.le_of_ble_eq_true rfl, Nat.le_of_ble_eq_true rfl⟩) hN hP hD hK hS hA rfl hl.1 rfl (Nat.le_of_ble_eq_true rfl) dL_net_119 ⟨Nat.le_of_ble_eq_true rfl, Nat.le_of_ble_eq_true rfl⟩ (fun r_9 v_9 t_9 H locs ht_v_9 hI_v_9 hzP_v_9 hzn_v_9 hP hD hS => ?_)
                      obtain ⟨hb1_v_9, hb2_v_9⟩ := jzI_b (v := v_9) (by assumption)
                      refine lv_pop hx hb dL_net_122 rfl ?_
                      refine lv_iinc (v := nI (k3 + 1)) (lv' := [(4, .int (nI (k3 + 1))), (0, .ref sb), (1, .ref (g 60)), (3, .int (nI lns))]) hx hb dL_net_123 hl (k := 3) rfl (jx_inc _) (by decide) rfl (fun ls hl => ?_)
                      refine lv_goto (tgt := 92) hx hb dL_net_126 (by decide) ?_
                      exact ih92 v_9 t_9 (k3 + 1) (by assumption) (by assumption) (by omega) (by omega) (by omega) (by omega) H locs hP hS ls (lv_sub hl [1, 2, 3, 0] rfl)
              exact L92 ((lns - 0) + 1) v2 t2 0 (by assumption) (by assumption) (by omega) (by omega) (by omega) (Nat.lt_succ_self _) H locs hP hS ls (lv_sub hl [1, 2, 3, 0] rfl)
            · have c56 : k2 < lns := jx_nle (by omega) (by omega) c56
              refine lv_aload_n hx hb dL_net_59 rfl (lv_at hl 1 rfl) ?_
              refine lv_aload_n hx hb dL_net_60 rfl (lv_at hl 0 rfl) ?_
              refine lv_iconst (v := nI 2) hx hb dL_net_61 (by decide) ?_
              refine lv_iload hx hb dL_net_62 (lv_at hl 3 rfl) ?_
              refine lv_bipush (v := nI 12) hx hb dL_net_64 (by decide) ?_
              refine lv_irem hx hb dL_net_66 (by decide) ?_
              refine jx_val (z := (nI (k2 % 12))) (pk_rem (by omega) (by decide) (by decide)) ?_
              refine lv_iadd hx hb dL_net_67 ?_
              refine jx_val (z := (nI (2 + (k2 % 12)))) (nI_add _ _) ?_
              refine jz_cellSi (X := jzX cI cO cM cL g ro rt rd v2 t2) (As := [.ref sb, .int (nI (2 + (k2 % 12)))]) (rest := [.ref (g 60)]) ⟨hx, hb, hml, hown, hts⟩ (z_L_cell l D (jzT cI cO cM cL) (jzX cI cO cM cL g ro rt rd v2 t2) _ sb (2 + (k2 % 12)) (by omega)) (va_cwS 2 hts gL_net_L_cell rfl rfl rfl (by decide +kernel) ⟨Nat.le_of_ble_eq_true rfl, Nat.le_of_ble_eq_true rfl⟩) hN hP hD hK hS hA hxL hxX hxb1 hxb2 rfl hl.1 rfl (Nat.le_of_ble_eq_true rfl) dL_net_68 ⟨Nat.le_of_ble_eq_true rfl, Nat.le_of_ble_eq_true rfl⟩ (fun x_10 H locs hP hS => ?_)
              refine lv_iload hx hb dL_net_71 (lv_at hl 3 rfl) ?_
              refine lv_bipush (v := nI 12) hx hb dL_net_73 (by decide) ?_
              refine lv_idiv hx hb dL_net_75 (by decide) ?_
              refine jx_val (z := (nI (k2 / 12))) (pk_div (by omega) (by decide) (by decide)) ?_
              refine lv_bipush (v := nI 7) hx hb dL_net_76 (by decide) ?_
              refine lv_imul hx hb dL_net_78 ?_
              refine jx_val (z := (nI ((k2 / 12) * 7))) (pk_mul _ _) ?_
              refine lv_ishr hx hb dL_net_79 ?_
              refine jz_mutSw (v := v2) (t := t2) (pz := fun w9 => zP w9 = zP v2 ∧ (zn v2 < 16 → zn w9 = zn v2 + 1)) (As := [.ref (g 60), .int (x_10 >>> ((nI ((k2 / 12) * 7)) &&& 31))]) (rest := []) ⟨hx, hb, hml, hown, hts⟩ (z_L_add2 l D cI cO cM cL g ro rt rd v2 t2 _ (by assumption) (by assumption) (by omega) (x_10 >>> ((nI ((k2 / 12) * 7)) &&& 31))) (va_cwS 2 hts gL_net_L_add rfl rfl rfl (by decide +kernel) ⟨Nat.le_of_ble_eq_true rfl, Nat.le_of_ble_eq_true rfl⟩) hN hP hD hK hS hA rfl hl.1 rfl (Nat.le_of_ble_eq_true rfl) dL_net_80 ⟨Nat.le_of_ble_eq_true rfl, Nat.le_of_ble_eq_true rfl⟩ (fun v_11 t_11 H locs ht_v_11 hI_v_11 hz_v_11 hP hD hS => ?_)
              obtain ⟨hb1_v_11, hb2_v_11⟩ := jzI_b (v := v_11) (by assumption)
              obtain ⟨hzP_v_11, hzn_v_11⟩ := hz_v_11
              refine lv_iinc (v := nI (k2 + 1)) (lv' := [(4, .int (nI (k2 + 1))), (0, .ref sb), (1, .ref (g 60)), (3, .int (nI lns))]) hx hb dL_net_83 hl (k := 3) rfl (jx_inc _) (by decide) rfl (fun ls hl => ?_)
              refine lv_goto (tgt := 53) hx hb dL_net_86 (by decide) ?_
              exact ih53 v_11 t_11 (k2 + 1) (by assumption) (by assumption) (by omega) (by omega) (by omega) (by omega) H locs hP hS ls (lv_sub hl [1, 2, 3, 0] rfl)
        exact L53 ((lns - 0) + 1) v1 t1 0 (by assumption) (by assumption) (by omega) (by omega) (by omega) (Nat.lt_succ_self _) H locs hP hS ls (lv_sub hl [2, 3, 1, 0] rfl)
      · have c25 : kk < pts := jx_nle (by omega) (by omega) c25
        refine lv_aload_n hx hb dL_net_28 rfl (lv_at hl 1 rfl) ?_
        refine jz_mutVi (v := v1) (t := t1) (As := []) (rest := []) ⟨hx, hb, hml, hown, hts⟩ (z_X6_point0 l D cI cO cM cL g ro rt rd v1 t1 _ (by assumption) (by assumption) (by omega)) (cwV 0 hts gL_net_X6_point rfl rfl rfl (by decide +kernel) ⟨Nat.le_of_ble_eq_true rfl, Nat.le_of_ble_eq_true rfl⟩) hN hP hD hK hS hA rfl hl.1 rfl (Nat.le_of_ble_eq_true rfl) dL_net_29 ⟨Nat.le_of_ble_eq_true rfl, Nat.le_of_ble_eq_true rfl⟩ (fun r_12 v_12 t_12 H locs ht_v_12 hI_v_12 hzP_v_12 hzn_v_12 hP hD hS => ?_)
        obtain ⟨hb1_v_12, hb2_v_12⟩ := jzI_b (v := v_12) (by assumption)
        refine lv_pop hx hb dL_net_32 rfl ?_
        refine lv_iinc (v := nI (kk + 1)) (lv' := [(3, .int (nI (kk + 1))), (0, .ref sb), (1, .ref (g 60)), (2, .int (nI pts))]) hx hb dL_net_33 hl (k := 3) rfl (jx_inc _) (by decide) rfl (fun ls hl => ?_)
        refine lv_goto (tgt := 23) hx hb dL_net_36 (by decide) ?_
        exact ih23 v_12 t_12 (kk + 1) (jzI_B (by assumption)) (fun _ => by assumption) (by assumption) (by omega) (by omega) (by omega) (by omega) H locs hP hS ls (lv_sub hl [1, 2, 3, 0] rfl)
  exact L23 ((pts - 0) + 1) jzV0 jzS0 0 jzB_0 (fun h => absurd h (Nat.lt_irrefl 0)) jzS0_ok rfl rfl (by omega) (Nat.lt_succ_self _) H locs hP hS ls (lv_sub hl [3, 2, 1, 0] rfl)
