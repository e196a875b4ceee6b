/-! own rows: the law's add and turned, over the whole world -/
set_option maxHeartbeats 400000 in
set_option maxRecDepth 20000 in
theorem z_L_add (l : Launch) (D : va_G) (cI cO cM cL : ClassId) (g ro rt rd : Nat → Nat) (v : jZ) (t : jS) (sz : Nat) (hI : jzI v) (ht : jSok t) (h2 : 2 ≤ zP v) (x : Int32) : jzCv (U := jZ × jS) l yL_add wsL_add ({ frames := 14, cells := 0, slots := 0, locals := 340 } : Room) D (jzT cI cO cM cL) (jzX cI cO cM cL g ro rt rd v t) [.ref (g 60), .int x] sz (fun u => jzX cI cO cM cL g ro rt rd u.1 u.2) (fun u => jSok u.2 ∧ jzI u.1 ∧ zP u.1 = zP v) 0 0 := by
  refine jz_enterV (by decide) rfl (Nat.le_of_ble_eq_true rfl) ?_
  intro p e s m args below meth c Q A ls hx hb hml hts hown hN hP hK hD hA hl hQ
  have hD0 := hD
  obtain ⟨H, hH⟩ : ∃ h, h = s.heap := ⟨_, rfl⟩
  have hS : va_S A s.heap H [] := by rw [hH]; exact va_S.rf
  rw [← hH] at hP ⊢
  obtain ⟨locs, hlocs⟩ : ∃ z : List Loc, z = [] := ⟨_, rfl⟩
  rw [← hlocs] at hS ⊢
  have hown : s.vm.findClass RL = some m.cls := hown
  have hl : lv_has ls 4 [(0, .ref (g 60)), (1, .int x)] := hl
  obtain ⟨hb1_v, hb2_v⟩ := jzI_b hI
  refine lv_iload_n hx hb dL_add_0 rfl (lv_at hl 1 rfl) ?_
  refine lv_aload_n hx hb dL_add_1 rfl (lv_at hl 0 rfl) ?_
  refine lv_iconst (v := nI 0) hx hb dL_add_2 (by decide) ?_
  refine jz_askVi (v := v) (t := t) (As := [.int (nI 0)]) (rest := [.int x]) ⟨hx, hb, hml, hown, hts⟩ (z_X6_net l D cI cO cM cL g ro rt rd v t _ (by assumption) (by assumption) 0 (by decide)) (cwV 1 hts gL_add_X6_net rfl rfl rfl (by decide +kernel) ⟨Nat.le_of_ble_eq_true rfl, Nat.le_of_ble_eq_true rfl⟩) hN hP hD hK hS hA rfl hl.1 rfl (Nat.le_of_ble_eq_true rfl) dL_add_3 ⟨Nat.zero_le _, Nat.zero_le _⟩ (fun t_1 H locs ht_t_1 hP hD hS => ?_)
  refine jx_val (z := (nI (zP v))) rfl ?_
  refine jz_pureSi (X := jzX cI cO cM cL g ro rt rd v t_1) (As := [.int x, .int (nI (zP v))]) (rest := []) ⟨hx, hb, hml, hown, hts⟩ (z_L_below l D (jzT cI cO cM cL) (jzX cI cO cM cL g ro rt rd v t_1) _ x (zP v) (by omega) (by omega)) (va_cwS 2 hts gL_add_L_below rfl rfl rfl (by decide +kernel) ⟨Nat.le_of_ble_eq_true rfl, Nat.le_of_ble_eq_true rfl⟩) hN hP hD hK hS hA rfl hl.1 rfl (Nat.le_of_ble_eq_true rfl) dL_add_6 ⟨Nat.zero_le _, Nat.zero_le _⟩ (fun r H locs hr hP hS => ?_)
  obtain ⟨k_2, hk_2, ek_2, rfl⟩ := hr
  refine lv_istore_n (lv' := [(2, .int (nI k_2)), (0, .ref (g 60)), (1, .int x)]) hx hb dL_add_9 rfl hl (by decide) rfl (fun ls hl => ?_)
  refine lv_iload_n hx hb dL_add_10 rfl (lv_at hl 0 rfl) ?_
  refine lv_iconst (v := nI 1) hx hb dL_add_11 (by decide) ?_
  refine lv_iadd hx hb dL_add_12 ?_
  refine jx_val (z := (nI (k_2 + 1))) (nI_add _ _) ?_
  refine lv_iload_n hx hb dL_add_13 rfl (lv_at hl 2 rfl) ?_
  refine lv_iconst (v := nI 4) hx hb dL_add_14 (by decide) ?_
  refine lv_ishr hx hb dL_add_15 ?_
  refine lv_aload_n hx hb dL_add_16 rfl (lv_at hl 1 rfl) ?_
  refine lv_iconst (v := nI 0) hx hb dL_add_17 (by decide) ?_
  refine jz_askVi (v := v) (t := t_1) (As := [.int (nI 0)]) (rest := [.int (x >>> ((nI 4) &&& 31)), .int (nI (k_2 + 1))]) ⟨hx, hb, hml, hown, hts⟩ (z_X6_net l D cI cO cM cL g ro rt rd v t_1 _ (by assumption) (by assumption) 0 (by decide)) (cwV 1 hts gL_add_X6_net rfl rfl rfl (by decide +kernel) ⟨Nat.le_of_ble_eq_true rfl, Nat.le_of_ble_eq_true rfl⟩) hN hP hD hK hS hA rfl hl.1 rfl (Nat.le_of_ble_eq_true rfl) dL_add_18 ⟨Nat.zero_le _, Nat.zero_le _⟩ (fun t_3 H locs ht_t_3 hP hD hS => ?_)
  refine jx_val (z := (nI (zP v))) rfl ?_
  refine lv_iconst (v := nI 1) hx hb dL_add_21 (by decide) ?_
  refine lv_isub hx hb dL_add_22 ?_
  refine jx_val (z := (nI ((zP v) - 1))) (pk_sub (by omega)) ?_
  refine jz_pureSi (X := jzX cI cO cM cL g ro rt rd v t_3) (As := [.int (x >>> ((nI 4) &&& 31)), .int (nI ((zP v) - 1))]) (rest := [.int (nI (k_2 + 1))]) ⟨hx, hb, hml, hown, hts⟩ (z_L_below l D (jzT cI cO cM cL) (jzX cI cO cM cL g ro rt rd v t_3) _ (x >>> ((nI 4) &&& 31)) ((zP v) - 1) (by omega) (by omega)) (va_cwS 2 hts gL_add_L_below rfl rfl rfl (by decide +kernel) ⟨Nat.le_of_ble_eq_true rfl, Nat.le_of_ble_eq_true rfl⟩) hN hP hD hK hS hA rfl hl.1 rfl (Nat.le_of_ble_eq_true rfl) dL_add_23 ⟨Nat.zero_le _, Nat.zero_le _⟩ (fun r H locs hr hP hS => ?_)
  obtain ⟨k_4, hk_4, ek_4, rfl⟩ := hr
  refine lv_iadd hx hb dL_add_26 ?_
  refine jx_val (z := (nI (k_2 + 1 + k_4))) (nI_add _ _) ?_
  refine lv_aload_n hx hb dL_add_27 rfl (lv_at hl 1 rfl) ?_
  refine lv_iconst (v := nI 0) hx hb dL_add_28 (by decide) ?_
  refine jz_askVi (v := v) (t := t_3) (As := [.int (nI 0)]) (rest := [.int (nI (k_2 + 1 + k_4))]) ⟨hx, hb, hml, hown, hts⟩ (z_X6_net l D cI cO cM cL g ro rt rd v t_3 _ (by assumption) (by assumption) 0 (by decide)) (cwV 1 hts gL_add_X6_net rfl rfl rfl (by decide +kernel) ⟨Nat.le_of_ble_eq_true rfl, Nat.le_of_ble_eq_true rfl⟩) hN hP hD hK hS hA rfl hl.1 rfl (Nat.le_of_ble_eq_true rfl) dL_add_29 ⟨Nat.zero_le _, Nat.zero_le _⟩ (fun t_5 H locs ht_t_5 hP hD hS => ?_)
  refine jx_val (z := (nI (zP v))) rfl ?_
  refine lv_irem hx hb dL_add_32 (nI_ne0 (by omega) (by omega)) ?_
  refine jx_val (z := (nI ((k_2 + 1 + k_4) % (zP v)))) (pk_rem (by omega) (by omega) (by omega)) ?_
  obtain ⟨o9, eo9⟩ : ∃ y : Nat, y = (k_2 + 1 + k_4) % (zP v) := ⟨_, rfl⟩
  rw [← eo9]
  refine lv_istore_n (lv' := [(3, .int (nI o9)), (2, .int (nI k_2)), (0, .ref (g 60)), (1, .int x)]) hx hb dL_add_33 rfl hl (by decide) rfl (fun ls hl => ?_)
  have ho9 := jz_other (P := zP v) (one := k_2) (k := k_4) hk_2 hk_4
  rw [← eo9] at ho9
  obtain ⟨ho91, ho92⟩ := ho9
  refine lv_aload_n hx hb dL_add_34 rfl (lv_at hl 2 rfl) ?_
  refine lv_iconst (v := nI 1) hx hb dL_add_35 (by decide) ?_
  refine jz_askVi (v := v) (t := t_5) (As := [.int (nI 1)]) (rest := []) ⟨hx, hb, hml, hown, hts⟩ (z_X6_net l D cI cO cM cL g ro rt rd v t_5 _ (by assumption) (by assumption) 1 (by decide)) (cwV 1 hts gL_add_X6_net rfl rfl rfl (by decide +kernel) ⟨Nat.le_of_ble_eq_true rfl, Nat.le_of_ble_eq_true rfl⟩) hN hP hD hK hS hA rfl hl.1 rfl (Nat.le_of_ble_eq_true rfl) dL_add_36 ⟨Nat.zero_le _, Nat.zero_le _⟩ (fun t_6 H locs ht_t_6 hP hD hS => ?_)
  refine jx_val (z := (nI (zn v))) rfl ?_
  refine lv_bipush (v := nI 16) hx hb dL_add_39 (by decide) ?_
  refine lv_icmp_ge (tgt := 61) hx hb dL_add_41 (by decide) (fun c41 => ?_) (fun c41 => ?_)
  · have c41 : 16 ≤ zn v := jx_le (by decide) (by omega) c41
    exact hQ (v, t_6) H locs _ _ dL_add_61 (show jSok t_6 ∧ jzI v ∧ zP v = zP v from ⟨by assumption, by assumption, by omega⟩) hP hS
  · have c41 : zn v < 16 := jx_nle (by decide) (by omega) c41
    refine lv_aload_n hx hb dL_add_44 rfl (lv_at hl 2 rfl) ?_
    refine lv_iload_n hx hb dL_add_45 rfl (lv_at hl 1 rfl) ?_
    refine lv_iload_n hx hb dL_add_46 rfl (lv_at hl 0 rfl) ?_
    refine lv_iconst (v := nI 1) hx hb dL_add_47 (by decide) ?_
    refine lv_iload_n hx hb dL_add_48 rfl (lv_at hl 3 rfl) ?_
    refine lv_iconst (v := nI 3) hx hb dL_add_49 (by decide) ?_
    refine lv_ishr hx hb dL_add_50 ?_
    refine lv_bipush (v := nI 20) hx hb dL_add_51 (by decide) ?_
    refine jz_pureSi (X := jzX cI cO cM cL g ro rt rd v t_6) (As := [.int (x >>> ((nI 3) &&& 31)), .int (nI 20)]) (rest := [.int (nI 1), .int (nI o9), .int (nI k_2), .ref (g 60)]) ⟨hx, hb, hml, hown, hts⟩ (z_L_below l D (jzT cI cO cM cL) (jzX cI cO cM cL g ro rt rd v t_6) _ (x >>> ((nI 3) &&& 31)) 20 (by omega) (by omega)) (va_cwS 2 hts gL_add_L_below rfl rfl rfl (by decide +kernel) ⟨Nat.le_of_ble_eq_true rfl, Nat.le_of_ble_eq_true rfl⟩) hN hP hD hK hS hA rfl hl.1 rfl (Nat.le_of_ble_eq_true rfl) dL_add_53 ⟨Nat.zero_le _, Nat.zero_le _⟩ (fun r H locs hr hP hS => ?_)
    obtain ⟨k_7, hk_7, ek_7, rfl⟩ := hr
    refine lv_iadd hx hb dL_add_56 ?_
    refine jx_val (z := (nI (1 + k_7))) (nI_add _ _) ?_
    refine jz_mutVi (v := v) (t := t_6) (As := [.int (nI k_2), .int (nI o9), .int (nI (1 + k_7))]) (rest := []) ⟨hx, hb, hml, hown, hts⟩ (z_X6_line l D cI cO cM cL g ro rt rd v t_6 _ (by assumption) (by assumption) k_2 o9 (1 + k_7) (by omega) (by omega) (by omega) (by omega) (by omega) (by omega)) (cwV 3 hts gL_add_X6_line rfl rfl rfl (by decide +kernel) ⟨Nat.le_of_ble_eq_true rfl, Nat.le_of_ble_eq_true rfl⟩) hN hP hD hK hS hA rfl hl.1 rfl (Nat.le_of_ble_eq_true rfl) dL_add_57 ⟨Nat.zero_le _, Nat.zero_le _⟩ (fun r_8 v_8 t_8 H locs ht_v_8 hI_v_8 hzP_v_8 hzn_v_8 hP hD hS => ?_)
    obtain ⟨hb1_v_8, hb2_v_8⟩ := jzI_b (v := v_8) (by assumption)
    refine lv_pop hx hb dL_add_60 rfl ?_
    exact hQ (v_8, t_8) H locs _ _ dL_add_61 (show jSok t_8 ∧ jzI v_8 ∧ zP v_8 = zP v from ⟨by assumption, by assumption, by omega⟩) hP hS

set_option maxHeartbeats 400000 in
set_option maxRecDepth 20000 in
theorem z_L_turned (l : Launch) (D : va_G) (cI cO cM cL : ClassId) (g ro rt rd : Nat → Nat) (v : jZ) (t : jS) (sz : Nat) (hI : jzI v) (ht : jSok t) (h1 : 1 ≤ zP v) (x : Int32) : jzCv (U := jZ × jS) l yL_turned wsL_turned ({ frames := 6, cells := 0, slots := 0, locals := 140 } : Room) D (jzT cI cO cM cL) (jzX cI cO cM cL g ro rt rd v t) [.ref (g 60), .int x] sz (fun u => jzX cI cO cM cL g ro rt rd u.1 u.2) (fun u => jSok u.2 ∧ jzI u.1 ∧ zP u.1 = zP v) 0 0 := by
  refine jz_enterV (by decide) rfl (Nat.le_of_ble_eq_true rfl) ?_
  intro p e s m args below meth c Q A ls hx hb hml hts hown hN hP hK hD hA hl hQ
  have hD0 := hD
  obtain ⟨H, hH⟩ : ∃ h, h = s.heap := ⟨_, rfl⟩
  have hS : va_S A s.heap H [] := by rw [hH]; exact va_S.rf
  rw [← hH] at hP ⊢
  obtain ⟨locs, hlocs⟩ : ∃ z : List Loc, z = [] := ⟨_, rfl⟩
  rw [← hlocs] at hS ⊢
  have hown : s.vm.findClass RL = some m.cls := hown
  have hl : lv_has ls 3 [(0, .ref (g 60)), (1, .int x)] := hl
  obtain ⟨hb1_v, hb2_v⟩ := jzI_b hI
  refine lv_iload_n hx hb dL_turned_0 rfl (lv_at hl 1 rfl) ?_
  refine lv_aload_n hx hb dL_turned_1 rfl (lv_at hl 0 rfl) ?_
  refine lv_iconst (v := nI 0) hx hb dL_turned_2 (by decide) ?_
  refine jz_askVi (v := v) (t := t) (As := [.int (nI 0)]) (rest := [.int x]) ⟨hx, hb, hml, hown, hts⟩ (z_X6_net l D cI cO cM cL g ro rt rd v t _ (by assumption) (by assumption) 0 (by decide)) (cwV 1 hts gL_turned_X6_net rfl rfl rfl (by decide +kernel) ⟨Nat.le_of_ble_eq_true rfl, Nat.le_of_ble_eq_true rfl⟩) hN hP hD hK hS hA rfl hl.1 rfl (Nat.le_of_ble_eq_true rfl) dL_turned_3 ⟨Nat.zero_le _, Nat.zero_le _⟩ (fun t_1 H locs ht_t_1 hP hD hS => ?_)
  refine jx_val (z := (nI (zP v))) rfl ?_
  refine jz_pureSi (X := jzX cI cO cM cL g ro rt rd v t_1) (As := [.int x, .int (nI (zP v))]) (rest := []) ⟨hx, hb, hml, hown, hts⟩ (z_L_below l D (jzT cI cO cM cL) (jzX cI cO cM cL g ro rt rd v t_1) _ x (zP v) (by omega) (by omega)) (va_cwS 2 hts gL_turned_L_below rfl rfl rfl (by decide +kernel) ⟨Nat.le_of_ble_eq_true rfl, Nat.le_of_ble_eq_true rfl⟩) hN hP hD hK hS hA rfl hl.1 rfl (Nat.le_of_ble_eq_true rfl) dL_turned_6 ⟨Nat.zero_le _, Nat.zero_le _⟩ (fun r H locs hr hP hS => ?_)
  obtain ⟨k_2, hk_2, ek_2, rfl⟩ := hr
  refine lv_istore_n (lv' := [(2, .int (nI k_2)), (0, .ref (g 60)), (1, .int x)]) hx hb dL_turned_9 rfl hl (by decide) rfl (fun ls hl => ?_)
  have hle9 := jz_le hI hk_2
  refine lv_aload_n hx hb dL_turned_10 rfl (lv_at hl 1 rfl) ?_
  refine lv_iload_n hx hb dL_turned_11 rfl (lv_at hl 0 rfl) ?_
  refine lv_bipush (v := nI 6) hx hb dL_turned_12 (by decide) ?_
  refine jz_askVi (v := v) (t := t_1) (As := [.int (nI k_2), .int (nI 6)]) (rest := []) ⟨hx, hb, hml, hown, hts⟩ (z_X6_ofPoint l D cI cO cM cL g ro rt rd v t_1 _ (by assumption) (by assumption) k_2 (by omega) 6 (by decide)) (cwV 2 hts gL_turned_X6_ofPoint rfl rfl rfl (by decide +kernel) ⟨Nat.le_of_ble_eq_true rfl, Nat.le_of_ble_eq_true rfl⟩) hN hP hD hK hS hA rfl hl.1 rfl (Nat.le_of_ble_eq_true rfl) dL_turned_14 ⟨Nat.zero_le _, Nat.zero_le _⟩ (fun t_3 H locs ht_t_3 hP hD hS => ?_)
  refine jx_val (z := (nI (zle v k_2))) rfl ?_
  refine lv_if_le (tgt := 39) hx hb dL_turned_17 (by decide) (fun c17 => ?_) (fun c17 => ?_)
  · have c17 : zle v k_2 = 0 := by have := jx_le (a := zle v k_2) (b := 0) (by omega) (by decide) (by rw [nI_0]; exact c17); omega
    exact hQ (v, t_3) H locs _ _ dL_turned_39 (show jSok t_3 ∧ jzI v ∧ zP v = zP v from ⟨by assumption, by assumption, by omega⟩) hP hS
  · have c17 : 0 < zle v k_2 := by have := jx_nle (a := zle v k_2) (b := 0) (by omega) (by decide) (by rw [nI_0]; exact c17); omega
    refine lv_aload_n hx hb dL_turned_20 rfl (lv_at hl 1 rfl) ?_
    refine lv_iload_n hx hb dL_turned_21 rfl (lv_at hl 0 rfl) ?_
    refine lv_iload_n hx hb dL_turned_22 rfl (lv_at hl 2 rfl) ?_
    refine lv_iconst (v := nI 3) hx hb dL_turned_23 (by decide) ?_
    refine lv_ishr hx hb dL_turned_24 ?_
    refine lv_aload_n hx hb dL_turned_25 rfl (lv_at hl 1 rfl) ?_
    refine lv_iload_n hx hb dL_turned_26 rfl (lv_at hl 0 rfl) ?_
    refine lv_bipush (v := nI 6) hx hb dL_turned_27 (by decide) ?_
    refine jz_askVi (v := v) (t := t_3) (As := [.int (nI k_2), .int (nI 6)]) (rest := [.int (x >>> ((nI 3) &&& 31)), .int (nI k_2), .ref (g 60)]) ⟨hx, hb, hml, hown, hts⟩ (z_X6_ofPoint l D cI cO cM cL g ro rt rd v t_3 _ (by assumption) (by assumption) k_2 (by omega) 6 (by decide)) (cwV 2 hts gL_turned_X6_ofPoint rfl rfl rfl (by decide +kernel) ⟨Nat.le_of_ble_eq_true rfl, Nat.le_of_ble_eq_true rfl⟩) hN hP hD hK hS hA rfl hl.1 rfl (Nat.le_of_ble_eq_true rfl) dL_turned_29 ⟨Nat.zero_le _, Nat.zero_le _⟩ (fun t_4 H locs ht_t_4 hP hD hS => ?_)
    refine jx_val (z := (nI (zle v k_2))) rfl ?_
    refine jz_pureSi (X := jzX cI cO cM cL g ro rt rd v t_4) (As := [.int (x >>> ((nI 3) &&& 31)), .int (nI (zle v k_2))]) (rest := [.int (nI k_2), .ref (g 60)]) ⟨hx, hb, hml, hown, hts⟩ (z_L_below l D (jzT cI cO cM cL) (jzX cI cO cM cL g ro rt rd v t_4) _ (x >>> ((nI 3) &&& 31)) (zle v k_2) (by omega) (by omega)) (va_cwS 2 hts gL_turned_L_below rfl rfl rfl (by decide +kernel) ⟨Nat.le_of_ble_eq_true rfl, Nat.le_of_ble_eq_true rfl⟩) hN hP hD hK hS hA rfl hl.1 rfl (Nat.le_of_ble_eq_true rfl) dL_turned_32 ⟨Nat.zero_le _, Nat.zero_le _⟩ (fun r H locs hr hP hS => ?_)
    obtain ⟨k_5, hk_5, ek_5, rfl⟩ := hr
    refine jz_mutVi (v := v) (t := t_4) (As := [.int (nI k_2), .int (nI k_5)]) (rest := []) ⟨hx, hb, hml, hown, hts⟩ (z_X6_turn l D cI cO cM cL g ro rt rd v t_4 _ (by assumption) (by assumption) k_2 k_5 (by omega) (by omega)) (cwV 2 hts gL_turned_X6_turn rfl rfl rfl (by decide +kernel) ⟨Nat.le_of_ble_eq_true rfl, Nat.le_of_ble_eq_true rfl⟩) hN hP hD hK hS hA rfl hl.1 rfl (Nat.le_of_ble_eq_true rfl) dL_turned_35 ⟨Nat.zero_le _, Nat.zero_le _⟩ (fun r_6 v_6 t_6 H locs ht_v_6 hI_v_6 hzP_v_6 hzn_v_6 hP hD hS => ?_)
    obtain ⟨hb1_v_6, hb2_v_6⟩ := jzI_b (v := v_6) (by assumption)
    refine lv_pop hx hb dL_turned_38 rfl ?_
    exact hQ (v_6, t_6) H locs _ _ dL_turned_39 (show jSok t_6 ∧ jzI v_6 ∧ zP v_6 = zP v from ⟨by assumption, by assumption, by omega⟩) hP hS
