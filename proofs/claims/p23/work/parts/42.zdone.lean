/-! own rows: the law's isDone: what it lets, what it catches -/
abbrev jzCd {U : Type} (l : Launch) (y : MethodName) (wy : List Cond) (rm : Room) (D : va_G) (tys : List (ClassId × FieldType)) (X : va_W) (av : List Value) (sz : Nat) (XX : U → va_W) (post : Int32 → U → Prop) : Prop :=
  Met l y wy rm (va_Pc av (jzMt D tys X sz)) (va_Qi (S := U) post (fun u t => va_P D vwCl (XX u) t.heap) (va_A X sz)) 1 6 (va_A X sz)
section JZEC
variable {l : Launch} {y : MethodName} {wy wr : List Cond} {rm : Room} {D : va_G} {tys : List (ClassId × FieldType)} {X : va_W} {av : List Value} {sz : Nat} {cc : ByteArray} {maxL : Nat} {U : Type} {XX : U → va_W} {post : Int32 → U → Prop} {hh : List (Nat × Nat × Nat × Nat)}
theorem jz_enterC (hy : plainName y.cls = true) (hw : wy = Cond.codeWith y cc maxL (some .boolean) hh :: wr) (hn : (lg_sl av).length ≤ maxL)
    (body : ∀ (p : Program) (e : Env) (s : State) (m : MethodId) (args : Array Value) (below : List Frame) (meth : Method) (c : Code) (Q : State → Prop) (A : Nat → Prop) (ls : Array Slot), p.tables.exec = Jvm.exec → c.code = cc → c.maxLocals = maxL → c.exceptionTable.toList = tableOf hh → (∀ w ∈ wy, w.before args s = true) → s.vm.findClass y.cls = some m.cls → jxNW s → va_P D vwCl X s.heap → va_K D vwCl tys s → va_D A X → (∀ q, s.heap.size ≤ q → A q) → jzTh A s s.heap → lv_has ls maxL (lv_args 0 av) →
      (∀ (v : Bool) (u : U) (H : Heap) (locs : List Loc) (pc : Nat) (ls : Array Slot), decode cc pc = .ok (.ireturn, 1) → post (nI (jB v)) u → va_P D vwCl (XX u) H → va_S A s.heap H locs → W p l e rm s m args below meth c H locs 1 6 Q (F0 m pc ls [.int (nI (jB v))])) → W p l e rm s m args below meth c s.heap [] 0 0 Q (F0 m 0 ls [])) : jzCd l y wy rm D tys X av sz XX post := by
  refine jz_ofWH (cc := cc) (maxL := maxL) (ret := some .boolean) hy hw ?_
  intro p e s m args below meth c s₁ B hml hv
  obtain ⟨rfl, ⟨hN, rfl, hP, hK, hD⟩, hTh⟩ := hv
  have hlocks := B.notSynchronized
  have hr := B.returns
  have hts := atoms_spec (ws := wy) B.pre
  rw [lg_entry_eq]
  exact body p e s m _ below meth c _ (va_A X s.heap.size) _ B.exec B.bytes hml (vx_table (x := y) (ret' := some .boolean) (bytes := cc) (maxL' := maxL) B (hts _ (by rw [hw]; exact List.mem_cons_self))) hts (findClass_of_methodNamed B.named) hN hP hK hD.self (fun q h => Or.inr h) hTh (lv_entry av hn)
    (fun v u H locs pc ls hd hp hP' hS => W.zret (v := nI (jB v)) B.exec B.bytes hr (by cases v <;> rfl) (fun t ht _ => ⟨⟨_, u, rfl, hp, by show va_P D vwCl (XX u) t.heap; rw [ht]; exact hP'⟩, hS.F ht⟩) hS.2.2 hd)
end JZEC
set_option maxHeartbeats 1000000 in
set_option maxRecDepth 20000 in
theorem z_L_isDone (l : Launch) (hfl : l.stackTraces = false) (D : va_G) (cI cO cM cL : ClassId) (g ro rt rd : Nat → Nat) (v : jZ) (t : jS) (sz : Nat) (hI : jzI v) (ht : jSok t) (h2 : 2 ≤ zP v) (x : Int32) : jzCd (U := jZ × jS) l yL_isDone wsL_isDone ({ frames := 16, cells := 1, slots := 6, locals := 420 } : Room) D (jzT cI cO cM cL) (jzX cI cO cM cL g ro rt rd v t) [.ref (g 60), .int x] sz (fun u => jzX cI cO cM cL g ro rt rd u.1 u.2) (fun r u => jSok u.2 ∧ jzI u.1 ∧ 2 ≤ zP u.1 ∧ (r = nI 1 ∨ (r = nI 0 ∧ u.1 = v))) := by
  refine jz_enterC (by decide) rfl (Nat.le_of_ble_eq_true rfl) ?_
  intro p e s m args below meth c Q A ls hx hb hml htab hts hown hN hP hK hD hA hTh hl hQ
  have hD0 := hD
  have hnc := hTh.2.2.2.2.1
  obtain ⟨H, hH⟩ : ∃ h, h = s.heap := ⟨_, rfl⟩
  have hS : va_S A s.heap H [] := by rw [hH]; exact va_S.rf
  rw [← hH] at hP
  show W p l e _ s m args below meth c s.heap [] 0 0 _ _
  rw [← hH]
  obtain ⟨locs, hlocs⟩ : ∃ z : List Loc, z = [] := ⟨_, rfl⟩
  rw [← hlocs] at hS
  rw [show ([] : List Loc) = locs from hlocs.symm]
  have hown : s.vm.findClass RL = some m.cls := hown
  have hl : lv_has ls 4 [(0, .ref (g 60)), (1, .int x)] := hl
  obtain ⟨hb1_v, hb2_v⟩ := jzI_b hI
  refine lv_iload_n hx hb dL_isDone_0 rfl (lv_at hl 1 rfl) ?_
  refine lv_iconst (v := nI 4) hx hb dL_isDone_1 (by decide) ?_
  refine lv_ishr hx hb dL_isDone_2 ?_
  refine lv_iconst (v := nI 1) hx hb dL_isDone_3 (by decide) ?_
  refine lv_aload_n hx hb dL_isDone_4 rfl (lv_at hl 0 rfl) ?_
  refine lv_iconst (v := nI 1) hx hb dL_isDone_5 (by decide) ?_
  refine jz_askVi (v := v) (t := t) (As := [.int (nI 1)]) (rest := [.int (nI 1), .int (x >>> ((nI 4) &&& 31))]) ⟨hx, hb, hml, hown, hts⟩ (z_X6_net l D cI cO cM cL g ro rt rd v t _ (by assumption) (by assumption) 1 (by decide)) (cwV 1 hts gL_isDone_X6_net rfl rfl rfl (by decide +kernel) ⟨Nat.le_of_ble_eq_true rfl, Nat.le_of_ble_eq_true rfl⟩) hN hP hD hK hS hA rfl hl.1 rfl (Nat.le_of_ble_eq_true rfl) dL_isDone_6 ⟨Nat.le_of_ble_eq_true rfl, Nat.le_of_ble_eq_true rfl⟩ (fun t_1 H locs ht_t_1 hP hD hS => ?_)
  refine jx_val (z := (nI (zn v))) rfl ?_
  refine va_mmax (rest := [.int (x >>> ((nI 4) &&& 31))]) hx hb (hml.trans hl.1.symm) hown (hts (.methodLink RL 51 Lib.Math.max.name) (List.mem_of_getElem? (i := 3) (by decide +kernel))) (hts (.static Lib.Math.max.name) (List.mem_of_getElem? (i := 4) (by decide +kernel))) (hts (.initialized "java/lang/Math") (List.mem_of_getElem? (i := 5) (by decide +kernel))) (hts (.code Lib.Math.max.name Lib.Math.max.code 2 (some .int)) (List.mem_of_getElem? (i := 6) (by decide +kernel))) (Nat.le_of_ble_eq_true rfl) (Nat.le_of_ble_eq_true rfl) (Nat.zero_le _) (Nat.zero_le _) dL_isDone_9 ?_
  refine jx_val (z := (nI (max 1 (zn v)))) (jx_max (by decide) (by omega)) ?_
  refine jz_pureSi (X := jzX cI cO cM cL g ro rt rd v t_1) (As := [.int (x >>> ((nI 4) &&& 31)), .int (nI (max 1 (zn v)))]) (rest := []) ⟨hx, hb, hml, hown, hts⟩ (z_L_below l D (jzT cI cO cM cL) (jzX cI cO cM cL g ro rt rd v t_1) _ (x >>> ((nI 4) &&& 31)) (max 1 (zn v)) (by omega) (by omega)) (va_cwS 2 hts gL_isDone_L_below rfl rfl rfl (by decide +kernel) ⟨Nat.le_of_ble_eq_true rfl, Nat.le_of_ble_eq_true rfl⟩) hN hP hD hK hS hA rfl hl.1 rfl (Nat.le_of_ble_eq_true rfl) dL_isDone_12 ⟨Nat.le_of_ble_eq_true rfl, Nat.le_of_ble_eq_true rfl⟩ (fun r H locs hr hP hS => ?_)
  obtain ⟨k_2, hk_2, ek_2, rfl⟩ := hr
  refine lv_istore_n (lv' := [(2, .int (nI k_2)), (0, .ref (g 60)), (1, .int x)]) hx hb dL_isDone_15 rfl hl (by decide) rfl (fun ls hl => ?_)
  refine lv_iload_n hx hb dL_isDone_16 rfl (lv_at hl 2 rfl) ?_
  refine lv_bipush (v := nI 8) hx hb dL_isDone_17 (by decide) ?_
  refine jz_pureSi (X := jzX cI cO cM cL g ro rt rd v t_1) (As := [.int x, .int (nI 8)]) (rest := []) ⟨hx, hb, hml, hown, hts⟩ (z_L_below l D (jzT cI cO cM cL) (jzX cI cO cM cL g ro rt rd v t_1) _ x 8 (by omega) (by omega)) (va_cwS 2 hts gL_isDone_L_below rfl rfl rfl (by decide +kernel) ⟨Nat.le_of_ble_eq_true rfl, Nat.le_of_ble_eq_true rfl⟩) hN hP hD hK hS hA rfl hl.1 rfl (Nat.le_of_ble_eq_true rfl) dL_isDone_19 ⟨Nat.le_of_ble_eq_true rfl, Nat.le_of_ble_eq_true rfl⟩ (fun r H locs hr hP hS => ?_)
  obtain ⟨k_3, hk_3, ek_3, rfl⟩ := hr
  rcases (show k_3 = 0 ∨ k_3 = 1 ∨ k_3 = 2 ∨ k_3 = 3 ∨ k_3 = 4 ∨ k_3 = 5 ∨ k_3 = 6 ∨ k_3 = 7 by omega) with ek9 | ek9 | ek9 | ek9 | ek9 | ek9 | ek9 | ek9
  · refine jx_val (z := nI 0) (congrArg nI ek9) ?_
    refine lv_tableIn (off := 38) (tgt := 60) hx hb dL_isDone_22 (by decide +kernel) (by decide +kernel) (by decide +kernel) (by decide) ?_
    refine lv_aload_n hx hb dL_isDone_60 rfl (lv_at hl 1 rfl) ?_
    rcases Nat.lt_or_ge (zP v) 8 with hsp | hsp
    · skip
      refine jz_mutVi (v := v) (t := t_1) (As := []) (rest := []) ⟨hx, hb, hml, hown, hts⟩ (z_X6_point l D cI cO cM cL g ro rt rd v t_1 _ (by assumption) (by assumption) (by omega)) (cwV 0 hts gL_isDone_X6_point rfl rfl rfl (by decide +kernel) ⟨Nat.le_of_ble_eq_true rfl, Nat.le_of_ble_eq_true rfl⟩) hN hP hD hK hS hA rfl hl.1 rfl (Nat.le_of_ble_eq_true rfl) dL_isDone_61 ⟨Nat.le_of_ble_eq_true rfl, Nat.le_of_ble_eq_true rfl⟩ (fun r_4 v_4 t_4 H locs ht_v_4 hI_v_4 hzP_v_4 hzn_v_4 hP hD hS => ?_)
      obtain ⟨hb1_v_4, hb2_v_4⟩ := jzI_b (v := v_4) (by assumption)
      refine lv_pop hx hb dL_isDone_64 rfl ?_
      refine lv_goto (tgt := 178) hx hb dL_isDone_65 (by decide) ?_
      refine lv_iconst (v := nI 1) hx hb dL_isDone_178 (by decide) ?_
      refine W.widen (k := 1) (n := 6) (Nat.le_of_ble_eq_true rfl) (Nat.le_of_ble_eq_true rfl) ?_
      exact hQ true (v_4, t_4) H locs _ _ dL_isDone_179 (show jSok t_4 ∧ jzI v_4 ∧ 2 ≤ zP v_4 ∧ (nI (jB true) = nI 1 ∨ (nI (jB true) = nI 0 ∧ v_4 = v)) from ⟨by assumption, by assumption, by omega, Or.inl rfl⟩) hP hS
    · skip
      refine jz_throwV (cls := "java/lang/IllegalStateException") (As := []) (rest := []) ⟨hx, hb, hml, hown, hts⟩ (x_X6_point l hfl D cI cO cM cL g ro rt rd v t_1 _ (by assumption) (by assumption) (by omega)) (cwV 0 hts gL_isDone_X6_point rfl rfl rfl (by decide +kernel) ⟨Nat.le_of_ble_eq_true rfl, Nat.le_of_ble_eq_true rfl⟩) hN hP hD hK hS hA hTh 60 6 rfl rfl rfl rfl hl.1 rfl (Nat.le_of_ble_eq_true rfl) dL_isDone_61 ⟨Nat.le_of_ble_eq_true rfl, Nat.le_of_ble_eq_true rfl⟩ (fun ce q9 H locs hP hS hce hcv hcl => ?_)
      refine vx_catch (own := RL) (name := "java/lang/IllegalStateException") hown [] ⟨16, 179, 180, 59⟩ [⟨16, 179, 183, 61⟩] htab (fun z hz => nomatch hz) (by decide) (by decide) (hts (.classLink RL 59 "java/lang/IllegalStateException") (List.mem_of_getElem? (i := 1) (by decide +kernel))) (hTh.2.2.2.1.use jz_cast1) hce hcv hcl ?_
      refine lv_astore_n (lv' := [(3, .ref q9), (2, .int (nI k_2)), (0, .ref (g 60)), (1, .int x)]) hx hb dL_isDone_180 rfl hl (by decide) rfl (fun ls hl => ?_)
      refine lv_iconst (v := nI 0) hx hb dL_isDone_181 (by decide) ?_
      exact hQ false (v, t_1) H locs _ _ dL_isDone_182 (show jSok t_1 ∧ jzI v ∧ 2 ≤ zP v ∧ (nI (jB false) = nI 1 ∨ (nI (jB false) = nI 0 ∧ v = v)) from ⟨by assumption, by assumption, by omega, Or.inr ⟨rfl, rfl⟩⟩) hP hS
  · refine jx_val (z := nI 1) (congrArg nI ek9) ?_
    refine lv_tableIn (off := 46) (tgt := 68) hx hb dL_isDone_22 (by decide +kernel) (by decide +kernel) (by decide +kernel) (by decide) ?_
    refine lv_aload_n hx hb dL_isDone_68 rfl (lv_at hl 1 rfl) ?_
    refine lv_iload_n hx hb dL_isDone_69 rfl (lv_at hl 2 rfl) ?_
    refine lv_iconst (v := nI 3) hx hb dL_isDone_70 (by decide) ?_
    refine lv_ishr hx hb dL_isDone_71 ?_
    refine lv_aload_n hx hb dL_isDone_72 rfl (lv_at hl 1 rfl) ?_
    refine lv_iconst (v := nI 0) hx hb dL_isDone_73 (by decide) ?_
    refine jz_askVi (v := v) (t := t_1) (As := [.int (nI 0)]) (rest := [.int (x >>> ((nI 3) &&& 31)), .ref (g 60)]) ⟨hx, hb, hml, hown, hts⟩ (z_X6_net l D cI cO cM cL g ro rt rd v t_1 _ (by assumption) (by assumption) 0 (by decide)) (cwV 1 hts gL_isDone_X6_net rfl rfl rfl (by decide +kernel) ⟨Nat.le_of_ble_eq_true rfl, Nat.le_of_ble_eq_true rfl⟩) hN hP hD hK hS hA rfl hl.1 rfl (Nat.le_of_ble_eq_true rfl) dL_isDone_74 ⟨Nat.le_of_ble_eq_true rfl, Nat.le_of_ble_eq_true rfl⟩ (fun t_5 H locs ht_t_5 hP hD hS => ?_)
    refine jx_val (z := (nI (zP v))) rfl ?_
    refine jz_pureSi (X := jzX cI cO cM cL g ro rt rd v t_5) (As := [.int (x >>> ((nI 3) &&& 31)), .int (nI (zP v))]) (rest := [.ref (g 60)]) ⟨hx, hb, hml, hown, hts⟩ (z_L_below l D (jzT cI cO cM cL) (jzX cI cO cM cL g ro rt rd v t_5) _ (x >>> ((nI 3) &&& 31)) (zP v) (by omega) (by omega)) (va_cwS 2 hts gL_isDone_L_below rfl rfl rfl (by decide +kernel) ⟨Nat.le_of_ble_eq_true rfl, Nat.le_of_ble_eq_true rfl⟩) hN hP hD hK hS hA rfl hl.1 rfl (Nat.le_of_ble_eq_true rfl) dL_isDone_77 ⟨Nat.le_of_ble_eq_true rfl, Nat.le_of_ble_eq_true rfl⟩ (fun r H locs hr hP hS => ?_)
    obtain ⟨k_6, hk_6, ek_6, rfl⟩ := hr
    refine lv_iload_n hx hb dL_isDone_80 rfl (lv_at hl 2 rfl) ?_
    refine lv_iconst (v := nI 3) hx hb dL_isDone_81 (by decide) ?_
    refine lv_ishr hx hb dL_isDone_82 ?_
    refine lv_aload_n hx hb dL_isDone_83 rfl (lv_at hl 1 rfl) ?_
    refine lv_iconst (v := nI 0) hx hb dL_isDone_84 (by decide) ?_
    refine jz_askVi (v := v) (t := t_5) (As := [.int (nI 0)]) (rest := [.int (x >>> ((nI 3) &&& 31)), .int (nI k_6), .ref (g 60)]) ⟨hx, hb, hml, hown, hts⟩ (z_X6_net l D cI cO cM cL g ro rt rd v t_5 _ (by assumption) (by assumption) 0 (by decide)) (cwV 1 hts gL_isDone_X6_net rfl rfl rfl (by decide +kernel) ⟨Nat.le_of_ble_eq_true rfl, Nat.le_of_ble_eq_true rfl⟩) hN hP hD hK hS hA rfl hl.1 rfl (Nat.le_of_ble_eq_true rfl) dL_isDone_85 ⟨Nat.le_of_ble_eq_true rfl, Nat.le_of_ble_eq_true rfl⟩ (fun t_7 H locs ht_t_7 hP hD hS => ?_)
    refine jx_val (z := (nI (zP v))) rfl ?_
    refine jz_pureSi (X := jzX cI cO cM cL g ro rt rd v t_7) (As := [.int (x >>> ((nI 3) &&& 31)), .int (nI (zP v))]) (rest := [.int (nI k_6), .ref (g 60)]) ⟨hx, hb, hml, hown, hts⟩ (z_L_below l D (jzT cI cO cM cL) (jzX cI cO cM cL g ro rt rd v t_7) _ (x >>> ((nI 3) &&& 31)) (zP v) (by omega) (by omega)) (va_cwS 2 hts gL_isDone_L_below rfl rfl rfl (by decide +kernel) ⟨Nat.le_of_ble_eq_true rfl, Nat.le_of_ble_eq_true rfl⟩) hN hP hD hK hS hA rfl hl.1 rfl (Nat.le_of_ble_eq_true rfl) dL_isDone_88 ⟨Nat.le_of_ble_eq_true rfl, Nat.le_of_ble_eq_true rfl⟩ (fun r H locs hr hP hS => ?_)
    obtain ⟨k_8, hk_8, ek_8, rfl⟩ := hr
    refine lv_iconst (v := nI 1) hx hb dL_isDone_91 (by decide) ?_
    refine lv_iadd hx hb dL_isDone_92 ?_
    refine jx_val (z := (nI (k_8 + 1))) (nI_add _ _) ?_
    refine lv_iload_n hx hb dL_isDone_93 rfl (lv_at hl 2 rfl) ?_
    refine lv_bipush (v := nI 6) hx hb dL_isDone_94 (by decide) ?_
    refine lv_ishr hx hb dL_isDone_96 ?_
    refine lv_aload_n hx hb dL_isDone_97 rfl (lv_at hl 1 rfl) ?_
    refine lv_iconst (v := nI 0) hx hb dL_isDone_98 (by decide) ?_
    refine jz_askVi (v := v) (t := t_7) (As := [.int (nI 0)]) (rest := [.int (x >>> ((nI 6) &&& 31)), .int (nI (k_8 + 1)), .int (nI k_6), .ref (g 60)]) ⟨hx, hb, hml, hown, hts⟩ (z_X6_net l D cI cO cM cL g ro rt rd v t_7 _ (by assumption) (by assumption) 0 (by decide)) (cwV 1 hts gL_isDone_X6_net rfl rfl rfl (by decide +kernel) ⟨Nat.le_of_ble_eq_true rfl, Nat.le_of_ble_eq_true rfl⟩) hN hP hD hK hS hA rfl hl.1 rfl (Nat.le_of_ble_eq_true rfl) dL_isDone_99 ⟨Nat.le_of_ble_eq_true rfl, Nat.le_of_ble_eq_true rfl⟩ (fun t_9 H locs ht_t_9 hP hD hS => ?_)
    refine jx_val (z := (nI (zP v))) rfl ?_
    refine lv_iconst (v := nI 1) hx hb dL_isDone_102 (by decide) ?_
    refine lv_isub hx hb dL_isDone_103 ?_
    refine jx_val (z := (nI ((zP v) - 1))) (pk_sub (by omega)) ?_
    refine jz_pureSi (X := jzX cI cO cM cL g ro rt rd v t_9) (As := [.int (x >>> ((nI 6) &&& 31)), .int (nI ((zP v) - 1))]) (rest := [.int (nI (k_8 + 1)), .int (nI k_6), .ref (g 60)]) ⟨hx, hb, hml, hown, hts⟩ (z_L_below l D (jzT cI cO cM cL) (jzX cI cO cM cL g ro rt rd v t_9) _ (x >>> ((nI 6) &&& 31)) ((zP v) - 1) (by omega) (by omega)) (va_cwS 2 hts gL_isDone_L_below rfl rfl rfl (by decide +kernel) ⟨Nat.le_of_ble_eq_true rfl, Nat.le_of_ble_eq_true rfl⟩) hN hP hD hK hS hA rfl hl.1 rfl (Nat.le_of_ble_eq_true rfl) dL_isDone_104 ⟨Nat.le_of_ble_eq_true rfl, Nat.le_of_ble_eq_true rfl⟩ (fun r H locs hr hP hS => ?_)
    obtain ⟨k_10, hk_10, ek_10, rfl⟩ := hr
    refine lv_iadd hx hb dL_isDone_107 ?_
    refine jx_val (z := (nI (k_8 + 1 + k_10))) (nI_add _ _) ?_
    refine lv_aload_n hx hb dL_isDone_108 rfl (lv_at hl 1 rfl) ?_
    refine lv_iconst (v := nI 0) hx hb dL_isDone_109 (by decide) ?_
    refine jz_askVi (v := v) (t := t_9) (As := [.int (nI 0)]) (rest := [.int (nI (k_8 + 1 + k_10)), .int (nI k_6), .ref (g 60)]) ⟨hx, hb, hml, hown, hts⟩ (z_X6_net l D cI cO cM cL g ro rt rd v t_9 _ (by assumption) (by assumption) 0 (by decide)) (cwV 1 hts gL_isDone_X6_net rfl rfl rfl (by decide +kernel) ⟨Nat.le_of_ble_eq_true rfl, Nat.le_of_ble_eq_true rfl⟩) hN hP hD hK hS hA rfl hl.1 rfl (Nat.le_of_ble_eq_true rfl) dL_isDone_110 ⟨Nat.le_of_ble_eq_true rfl, Nat.le_of_ble_eq_true rfl⟩ (fun t_11 H locs ht_t_11 hP hD hS => ?_)
    refine jx_val (z := (nI (zP v))) rfl ?_
    refine lv_irem hx hb dL_isDone_113 (nI_ne0 (by omega) (by omega)) ?_
    refine jx_val (z := (nI ((k_8 + 1 + k_10) % (zP v)))) (pk_rem (by omega) (by omega) (by omega)) ?_
    obtain ⟨o9, eo9⟩ : ∃ y : Nat, y = (k_8 + 1 + k_10) % (zP v) := ⟨_, rfl⟩
    rw [← eo9]
    refine lv_iconst (v := nI 1) hx hb dL_isDone_114 (by decide) ?_
    have ho9 := jz_other (P := zP v) (one := k_8) (k := k_10) hk_8 hk_10
    rw [← eo9] at ho9
    obtain ⟨ho91, ho92⟩ := ho9
    refine lv_iload_n hx hb dL_isDone_115 rfl (lv_at hl 2 rfl) ?_
    refine lv_iconst (v := nI 5) hx hb dL_isDone_116 (by decide) ?_
    refine lv_ishr hx hb dL_isDone_117 ?_
    refine lv_bipush (v := nI 20) hx hb dL_isDone_118 (by decide) ?_
    refine jz_pureSi (X := jzX cI cO cM cL g ro rt rd v t_11) (As := [.int (x >>> ((nI 5) &&& 31)), .int (nI 20)]) (rest := [.int (nI 1), .int (nI o9), .int (nI k_6), .ref (g 60)]) ⟨hx, hb, hml, hown, hts⟩ (z_L_below l D (jzT cI cO cM cL) (jzX cI cO cM cL g ro rt rd v t_11) _ (x >>> ((nI 5) &&& 31)) 20 (by omega) (by omega)) (va_cwS 2 hts gL_isDone_L_below rfl rfl rfl (by decide +kernel) ⟨Nat.le_of_ble_eq_true rfl, Nat.le_of_ble_eq_true rfl⟩) hN hP hD hK hS hA rfl hl.1 rfl (Nat.le_of_ble_eq_true rfl) dL_isDone_120 ⟨Nat.le_of_ble_eq_true rfl, Nat.le_of_ble_eq_true rfl⟩ (fun r H locs hr hP hS => ?_)
    obtain ⟨k_12, hk_12, ek_12, rfl⟩ := hr
    refine lv_iadd hx hb dL_isDone_123 ?_
    refine jx_val (z := (nI (1 + k_12))) (nI_add _ _) ?_
    rcases Nat.lt_or_ge (zn v) 16 with hsp | hsp
    · skip
      refine jz_mutVi (v := v) (t := t_11) (As := [.int (nI k_6), .int (nI o9), .int (nI (1 + k_12))]) (rest := []) ⟨hx, hb, hml, hown, hts⟩ (z_X6_line l D cI cO cM cL g ro rt rd v t_11 _ (by assumption) (by assumption) k_6 o9 (1 + k_12) (by omega) (by omega) (by omega) (by omega) (by omega) (by omega)) (cwV 3 hts gL_isDone_X6_line rfl rfl rfl (by decide +kernel) ⟨Nat.le_of_ble_eq_true rfl, Nat.le_of_ble_eq_true rfl⟩) hN hP hD hK hS hA rfl hl.1 rfl (Nat.le_of_ble_eq_true rfl) dL_isDone_124 ⟨Nat.le_of_ble_eq_true rfl, Nat.le_of_ble_eq_true rfl⟩ (fun r_13 v_13 t_13 H locs ht_v_13 hI_v_13 hzP_v_13 hzn_v_13 hP hD hS => ?_)
      obtain ⟨hb1_v_13, hb2_v_13⟩ := jzI_b (v := v_13) (by assumption)
      refine lv_pop hx hb dL_isDone_127 rfl ?_
      refine lv_goto (tgt := 178) hx hb dL_isDone_128 (by decide) ?_
      refine lv_iconst (v := nI 1) hx hb dL_isDone_178 (by decide) ?_
      refine W.widen (k := 1) (n := 6) (Nat.le_of_ble_eq_true rfl) (Nat.le_of_ble_eq_true rfl) ?_
      exact hQ true (v_13, t_13) H locs _ _ dL_isDone_179 (show jSok t_13 ∧ jzI v_13 ∧ 2 ≤ zP v_13 ∧ (nI (jB true) = nI 1 ∨ (nI (jB true) = nI 0 ∧ v_13 = v)) from ⟨by assumption, by assumption, by omega, Or.inl rfl⟩) hP hS
    · skip
      refine jz_throwV (cls := "java/lang/IllegalStateException") (As := [.int (nI k_6), .int (nI o9), .int (nI (1 + k_12))]) (rest := []) ⟨hx, hb, hml, hown, hts⟩ (x_X6_line l hfl D cI cO cM cL g ro rt rd v t_11 _ (by assumption) (by assumption) k_6 o9 (1 + k_12) (by omega) (by omega) (by omega) (by omega) (by omega) (by omega)) (cwV 3 hts gL_isDone_X6_line rfl rfl rfl (by decide +kernel) ⟨Nat.le_of_ble_eq_true rfl, Nat.le_of_ble_eq_true rfl⟩) hN hP hD hK hS hA hTh 60 6 rfl rfl rfl rfl hl.1 rfl (Nat.le_of_ble_eq_true rfl) dL_isDone_124 ⟨Nat.le_of_ble_eq_true rfl, Nat.le_of_ble_eq_true rfl⟩ (fun ce q9 H locs hP hS hce hcv hcl => ?_)
      refine vx_catch (own := RL) (name := "java/lang/IllegalStateException") hown [] ⟨16, 179, 180, 59⟩ [⟨16, 179, 183, 61⟩] htab (fun z hz => nomatch hz) (by decide) (by decide) (hts (.classLink RL 59 "java/lang/IllegalStateException") (List.mem_of_getElem? (i := 1) (by decide +kernel))) (hTh.2.2.2.1.use jz_cast1) hce hcv hcl ?_
      refine lv_astore_n (lv' := [(3, .ref q9), (2, .int (nI k_2)), (0, .ref (g 60)), (1, .int x)]) hx hb dL_isDone_180 rfl hl (by decide) rfl (fun ls hl => ?_)
      refine lv_iconst (v := nI 0) hx hb dL_isDone_181 (by decide) ?_
      exact hQ false (v, t_11) H locs _ _ dL_isDone_182 (show jSok t_11 ∧ jzI v ∧ 2 ≤ zP v ∧ (nI (jB false) = nI 1 ∨ (nI (jB false) = nI 0 ∧ v = v)) from ⟨by assumption, by assumption, by omega, Or.inr ⟨rfl, rfl⟩⟩) hP hS
  · refine jx_val (z := nI 2) (congrArg nI ek9) ?_
    refine lv_tableIn (off := 109) (tgt := 131) hx hb dL_isDone_22 (by decide +kernel) (by decide +kernel) (by decide +kernel) (by decide) ?_
    refine lv_aload_n hx hb dL_isDone_131 rfl (lv_at hl 1 rfl) ?_
    refine lv_iload_n hx hb dL_isDone_132 rfl (lv_at hl 0 rfl) ?_
    refine lv_iconst (v := nI 1) hx hb dL_isDone_133 (by decide) ?_
    rcases Nat.lt_or_ge 0 (zn v) with hsp | hsp
    · skip
      refine jz_mutVi (v := v) (t := t_1) (As := [.int (nI k_2), .int (nI 1)]) (rest := []) ⟨hx, hb, hml, hown, hts⟩ (z_X6_cut l D cI cO cM cL g ro rt rd v t_1 _ (by assumption) (by assumption) k_2 true (by omega)) (cwV 2 hts gL_isDone_X6_cut rfl rfl rfl (by decide +kernel) ⟨Nat.le_of_ble_eq_true rfl, Nat.le_of_ble_eq_true rfl⟩) hN hP hD hK hS hA rfl hl.1 rfl (Nat.le_of_ble_eq_true rfl) dL_isDone_134 ⟨Nat.le_of_ble_eq_true rfl, Nat.le_of_ble_eq_true rfl⟩ (fun r_14 v_14 t_14 H locs ht_v_14 hI_v_14 hzP_v_14 hzn_v_14 hP hD hS => ?_)
      obtain ⟨hb1_v_14, hb2_v_14⟩ := jzI_b (v := v_14) (by assumption)
      refine lv_pop hx hb dL_isDone_137 rfl ?_
      refine lv_goto (tgt := 178) hx hb dL_isDone_138 (by decide) ?_
      refine lv_iconst (v := nI 1) hx hb dL_isDone_178 (by decide) ?_
      refine W.widen (k := 1) (n := 6) (Nat.le_of_ble_eq_true rfl) (Nat.le_of_ble_eq_true rfl) ?_
      exact hQ true (v_14, t_14) H locs _ _ dL_isDone_179 (show jSok t_14 ∧ jzI v_14 ∧ 2 ≤ zP v_14 ∧ (nI (jB true) = nI 1 ∨ (nI (jB true) = nI 0 ∧ v_14 = v)) from ⟨by assumption, by assumption, by omega, Or.inl rfl⟩) hP hS
    · skip
      refine jz_throwV (cls := "java/lang/IndexOutOfBoundsException") (As := [.int (nI k_2), .int (nI 1)]) (rest := []) ⟨hx, hb, hml, hown, hts⟩ (x_X6_cut l hfl D cI cO cM cL g ro rt rd v t_1 _ (by assumption) (by assumption) k_2 true (by omega) (by omega)) (cwV 2 hts gL_isDone_X6_cut rfl rfl rfl (by decide +kernel) ⟨Nat.le_of_ble_eq_true rfl, Nat.le_of_ble_eq_true rfl⟩) hN hP hD hK hS hA hTh 60 6 rfl rfl rfl rfl hl.1 rfl (Nat.le_of_ble_eq_true rfl) dL_isDone_134 ⟨Nat.le_of_ble_eq_true rfl, Nat.le_of_ble_eq_true rfl⟩ (fun ce q9 H locs hP hS hce hcv hcl => ?_)
      refine vx_catch (own := RL) (name := "java/lang/IndexOutOfBoundsException") hown [⟨16, 179, 180, 59⟩] ⟨16, 179, 183, 61⟩ [] htab (fun z hz => by cases hz with
        | head => exact Or.inr ⟨by decide, _, (hts (.classLink RL 59 "java/lang/IllegalStateException") (List.mem_of_getElem? (i := 1) (by decide +kernel))), hnc⟩
        | tail _ h => cases h) (by decide) (by decide) (hts (.classLink RL 61 "java/lang/IndexOutOfBoundsException") (List.mem_of_getElem? (i := 2) (by decide +kernel))) (hTh.2.2.2.1.use jz_cast2) hce hcv hcl ?_
      refine lv_astore_n (lv' := [(3, .ref q9), (2, .int (nI k_2)), (0, .ref (g 60)), (1, .int x)]) hx hb dL_isDone_183 rfl hl (by decide) rfl (fun ls hl => ?_)
      refine lv_aload_n hx hb dL_isDone_184 rfl (lv_at hl 2 rfl) ?_
      refine lv_iconst (v := nI 1) hx hb dL_isDone_185 (by decide) ?_
      refine jz_askVi (v := v) (t := t_1) (As := [.int (nI 1)]) (rest := []) ⟨hx, hb, hml, hown, hts⟩ (z_X6_net l D cI cO cM cL g ro rt rd v t_1 _ (by assumption) (by assumption) 1 (by decide)) (cwV 1 hts gL_isDone_X6_net rfl rfl rfl (by decide +kernel) ⟨Nat.le_of_ble_eq_true rfl, Nat.le_of_ble_eq_true rfl⟩) hN hP hD hK hS hA rfl hl.1 rfl (Nat.le_of_ble_eq_true rfl) dL_isDone_186 ⟨Nat.le_of_ble_eq_true rfl, Nat.le_of_ble_eq_true rfl⟩ (fun t_15 H locs ht_t_15 hP hD hS => ?_)
      refine jx_val (z := (nI (zn v))) rfl ?_
      refine lv_if_ne (tgt := 196) hx hb dL_isDone_189 (by decide) (fun c => absurd c (fun h => h (by rw [show zn v = 0 by omega]; decide))) (fun c => ?_)
      refine lv_iconst (v := nI 1) hx hb dL_isDone_192 (by decide) ?_
      refine lv_goto (tgt := 197) hx hb dL_isDone_193 (by decide) ?_
      exact hQ true (v, t_15) H locs _ _ dL_isDone_197 (show jSok t_15 ∧ jzI v ∧ 2 ≤ zP v ∧ (nI (jB true) = nI 1 ∨ (nI (jB true) = nI 0 ∧ v = v)) from ⟨by assumption, by assumption, by omega, Or.inl rfl⟩) hP hS
  · refine jx_val (z := nI 3) (congrArg nI ek9) ?_
    refine lv_tableIn (off := 109) (tgt := 131) hx hb dL_isDone_22 (by decide +kernel) (by decide +kernel) (by decide +kernel) (by decide) ?_
    refine lv_aload_n hx hb dL_isDone_131 rfl (lv_at hl 1 rfl) ?_
    refine lv_iload_n hx hb dL_isDone_132 rfl (lv_at hl 0 rfl) ?_
    refine lv_iconst (v := nI 1) hx hb dL_isDone_133 (by decide) ?_
    rcases Nat.lt_or_ge 0 (zn v) with hsp | hsp
    · skip
      refine jz_mutVi (v := v) (t := t_1) (As := [.int (nI k_2), .int (nI 1)]) (rest := []) ⟨hx, hb, hml, hown, hts⟩ (z_X6_cut l D cI cO cM cL g ro rt rd v t_1 _ (by assumption) (by assumption) k_2 true (by omega)) (cwV 2 hts gL_isDone_X6_cut rfl rfl rfl (by decide +kernel) ⟨Nat.le_of_ble_eq_true rfl, Nat.le_of_ble_eq_true rfl⟩) hN hP hD hK hS hA rfl hl.1 rfl (Nat.le_of_ble_eq_true rfl) dL_isDone_134 ⟨Nat.le_of_ble_eq_true rfl, Nat.le_of_ble_eq_true rfl⟩ (fun r_16 v_16 t_16 H locs ht_v_16 hI_v_16 hzP_v_16 hzn_v_16 hP hD hS => ?_)
      obtain ⟨hb1_v_16, hb2_v_16⟩ := jzI_b (v := v_16) (by assumption)
      refine lv_pop hx hb dL_isDone_137 rfl ?_
      refine lv_goto (tgt := 178) hx hb dL_isDone_138 (by decide) ?_
      refine lv_iconst (v := nI 1) hx hb dL_isDone_178 (by decide) ?_
      refine W.widen (k := 1) (n := 6) (Nat.le_of_ble_eq_true rfl) (Nat.le_of_ble_eq_true rfl) ?_
      exact hQ true (v_16, t_16) H locs _ _ dL_isDone_179 (show jSok t_16 ∧ jzI v_16 ∧ 2 ≤ zP v_16 ∧ (nI (jB true) = nI 1 ∨ (nI (jB true) = nI 0 ∧ v_16 = v)) from ⟨by assumption, by assumption, by omega, Or.inl rfl⟩) hP hS
    · skip
      refine jz_throwV (cls := "java/lang/IndexOutOfBoundsException") (As := [.int (nI k_2), .int (nI 1)]) (rest := []) ⟨hx, hb, hml, hown, hts⟩ (x_X6_cut l hfl D cI cO cM cL g ro rt rd v t_1 _ (by assumption) (by assumption) k_2 true (by omega) (by omega)) (cwV 2 hts gL_isDone_X6_cut rfl rfl rfl (by decide +kernel) ⟨Nat.le_of_ble_eq_true rfl, Nat.le_of_ble_eq_true rfl⟩) hN hP hD hK hS hA hTh 60 6 rfl rfl rfl rfl hl.1 rfl (Nat.le_of_ble_eq_true rfl) dL_isDone_134 ⟨Nat.le_of_ble_eq_true rfl, Nat.le_of_ble_eq_true rfl⟩ (fun ce q9 H locs hP hS hce hcv hcl => ?_)
      refine vx_catch (own := RL) (name := "java/lang/IndexOutOfBoundsException") hown [⟨16, 179, 180, 59⟩] ⟨16, 179, 183, 61⟩ [] htab (fun z hz => by cases hz with
        | head => exact Or.inr ⟨by decide, _, (hts (.classLink RL 59 "java/lang/IllegalStateException") (List.mem_of_getElem? (i := 1) (by decide +kernel))), hnc⟩
        | tail _ h => cases h) (by decide) (by decide) (hts (.classLink RL 61 "java/lang/IndexOutOfBoundsException") (List.mem_of_getElem? (i := 2) (by decide +kernel))) (hTh.2.2.2.1.use jz_cast2) hce hcv hcl ?_
      refine lv_astore_n (lv' := [(3, .ref q9), (2, .int (nI k_2)), (0, .ref (g 60)), (1, .int x)]) hx hb dL_isDone_183 rfl hl (by decide) rfl (fun ls hl => ?_)
      refine lv_aload_n hx hb dL_isDone_184 rfl (lv_at hl 2 rfl) ?_
      refine lv_iconst (v := nI 1) hx hb dL_isDone_185 (by decide) ?_
      refine jz_askVi (v := v) (t := t_1) (As := [.int (nI 1)]) (rest := []) ⟨hx, hb, hml, hown, hts⟩ (z_X6_net l D cI cO cM cL g ro rt rd v t_1 _ (by assumption) (by assumption) 1 (by decide)) (cwV 1 hts gL_isDone_X6_net rfl rfl rfl (by decide +kernel) ⟨Nat.le_of_ble_eq_true rfl, Nat.le_of_ble_eq_true rfl⟩) hN hP hD hK hS hA rfl hl.1 rfl (Nat.le_of_ble_eq_true rfl) dL_isDone_186 ⟨Nat.le_of_ble_eq_true rfl, Nat.le_of_ble_eq_true rfl⟩ (fun t_17 H locs ht_t_17 hP hD hS => ?_)
      refine jx_val (z := (nI (zn v))) rfl ?_
      refine lv_if_ne (tgt := 196) hx hb dL_isDone_189 (by decide) (fun c => absurd c (fun h => h (by rw [show zn v = 0 by omega]; decide))) (fun c => ?_)
      refine lv_iconst (v := nI 1) hx hb dL_isDone_192 (by decide) ?_
      refine lv_goto (tgt := 197) hx hb dL_isDone_193 (by decide) ?_
      exact hQ true (v, t_17) H locs _ _ dL_isDone_197 (show jSok t_17 ∧ jzI v ∧ 2 ≤ zP v ∧ (nI (jB true) = nI 1 ∨ (nI (jB true) = nI 0 ∧ v = v)) from ⟨by assumption, by assumption, by omega, Or.inl rfl⟩) hP hS
  · refine jx_val (z := nI 4) (congrArg nI ek9) ?_
    refine lv_tableIn (off := 119) (tgt := 141) hx hb dL_isDone_22 (by decide +kernel) (by decide +kernel) (by decide +kernel) (by decide) ?_
    refine lv_aload_n hx hb dL_isDone_141 rfl (lv_at hl 1 rfl) ?_
    refine lv_iload_n hx hb dL_isDone_142 rfl (lv_at hl 0 rfl) ?_
    refine lv_iconst (v := nI 0) hx hb dL_isDone_143 (by decide) ?_
    rcases Nat.lt_or_ge 0 (zn v) with hsp | hsp
    · skip
      refine jz_mutVi (v := v) (t := t_1) (As := [.int (nI k_2), .int (nI 0)]) (rest := []) ⟨hx, hb, hml, hown, hts⟩ (z_X6_cut l D cI cO cM cL g ro rt rd v t_1 _ (by assumption) (by assumption) k_2 false (by omega)) (cwV 2 hts gL_isDone_X6_cut rfl rfl rfl (by decide +kernel) ⟨Nat.le_of_ble_eq_true rfl, Nat.le_of_ble_eq_true rfl⟩) hN hP hD hK hS hA rfl hl.1 rfl (Nat.le_of_ble_eq_true rfl) dL_isDone_144 ⟨Nat.le_of_ble_eq_true rfl, Nat.le_of_ble_eq_true rfl⟩ (fun r_18 v_18 t_18 H locs ht_v_18 hI_v_18 hzP_v_18 hzn_v_18 hP hD hS => ?_)
      obtain ⟨hb1_v_18, hb2_v_18⟩ := jzI_b (v := v_18) (by assumption)
      refine lv_pop hx hb dL_isDone_147 rfl ?_
      refine lv_goto (tgt := 178) hx hb dL_isDone_148 (by decide) ?_
      refine lv_iconst (v := nI 1) hx hb dL_isDone_178 (by decide) ?_
      refine W.widen (k := 1) (n := 6) (Nat.le_of_ble_eq_true rfl) (Nat.le_of_ble_eq_true rfl) ?_
      exact hQ true (v_18, t_18) H locs _ _ dL_isDone_179 (show jSok t_18 ∧ jzI v_18 ∧ 2 ≤ zP v_18 ∧ (nI (jB true) = nI 1 ∨ (nI (jB true) = nI 0 ∧ v_18 = v)) from ⟨by assumption, by assumption, by omega, Or.inl rfl⟩) hP hS
    · skip
      refine jz_throwV (cls := "java/lang/IndexOutOfBoundsException") (As := [.int (nI k_2), .int (nI 0)]) (rest := []) ⟨hx, hb, hml, hown, hts⟩ (x_X6_cut l hfl D cI cO cM cL g ro rt rd v t_1 _ (by assumption) (by assumption) k_2 false (by omega) (by omega)) (cwV 2 hts gL_isDone_X6_cut rfl rfl rfl (by decide +kernel) ⟨Nat.le_of_ble_eq_true rfl, Nat.le_of_ble_eq_true rfl⟩) hN hP hD hK hS hA hTh 60 6 rfl rfl rfl rfl hl.1 rfl (Nat.le_of_ble_eq_true rfl) dL_isDone_144 ⟨Nat.le_of_ble_eq_true rfl, Nat.le_of_ble_eq_true rfl⟩ (fun ce q9 H locs hP hS hce hcv hcl => ?_)
      refine vx_catch (own := RL) (name := "java/lang/IndexOutOfBoundsException") hown [⟨16, 179, 180, 59⟩] ⟨16, 179, 183, 61⟩ [] htab (fun z hz => by cases hz with
        | head => exact Or.inr ⟨by decide, _, (hts (.classLink RL 59 "java/lang/IllegalStateException") (List.mem_of_getElem? (i := 1) (by decide +kernel))), hnc⟩
        | tail _ h => cases h) (by decide) (by decide) (hts (.classLink RL 61 "java/lang/IndexOutOfBoundsException") (List.mem_of_getElem? (i := 2) (by decide +kernel))) (hTh.2.2.2.1.use jz_cast2) hce hcv hcl ?_
      refine lv_astore_n (lv' := [(3, .ref q9), (2, .int (nI k_2)), (0, .ref (g 60)), (1, .int x)]) hx hb dL_isDone_183 rfl hl (by decide) rfl (fun ls hl => ?_)
      refine lv_aload_n hx hb dL_isDone_184 rfl (lv_at hl 2 rfl) ?_
      refine lv_iconst (v := nI 1) hx hb dL_isDone_185 (by decide) ?_
      refine jz_askVi (v := v) (t := t_1) (As := [.int (nI 1)]) (rest := []) ⟨hx, hb, hml, hown, hts⟩ (z_X6_net l D cI cO cM cL g ro rt rd v t_1 _ (by assumption) (by assumption) 1 (by decide)) (cwV 1 hts gL_isDone_X6_net rfl rfl rfl (by decide +kernel) ⟨Nat.le_of_ble_eq_true rfl, Nat.le_of_ble_eq_true rfl⟩) hN hP hD hK hS hA rfl hl.1 rfl (Nat.le_of_ble_eq_true rfl) dL_isDone_186 ⟨Nat.le_of_ble_eq_true rfl, Nat.le_of_ble_eq_true rfl⟩ (fun t_19 H locs ht_t_19 hP hD hS => ?_)
      refine jx_val (z := (nI (zn v))) rfl ?_
      refine lv_if_ne (tgt := 196) hx hb dL_isDone_189 (by decide) (fun c => absurd c (fun h => h (by rw [show zn v = 0 by omega]; decide))) (fun c => ?_)
      refine lv_iconst (v := nI 1) hx hb dL_isDone_192 (by decide) ?_
      refine lv_goto (tgt := 197) hx hb dL_isDone_193 (by decide) ?_
      exact hQ true (v, t_19) H locs _ _ dL_isDone_197 (show jSok t_19 ∧ jzI v ∧ 2 ≤ zP v ∧ (nI (jB true) = nI 1 ∨ (nI (jB true) = nI 0 ∧ v = v)) from ⟨by assumption, by assumption, by omega, Or.inl rfl⟩) hP hS
  · refine jx_val (z := nI 5) (congrArg nI ek9) ?_
    refine lv_tableIn (off := 129) (tgt := 151) hx hb dL_isDone_22 (by decide +kernel) (by decide +kernel) (by decide +kernel) (by decide) ?_
    refine lv_aload_n hx hb dL_isDone_151 rfl (lv_at hl 1 rfl) ?_
    refine lv_iload_n hx hb dL_isDone_152 rfl (lv_at hl 0 rfl) ?_
    refine lv_iconst (v := nI 1) hx hb dL_isDone_153 (by decide) ?_
    refine lv_iload_n hx hb dL_isDone_154 rfl (lv_at hl 2 rfl) ?_
    refine lv_bipush (v := nI 7) hx hb dL_isDone_155 (by decide) ?_
    refine lv_ishr hx hb dL_isDone_157 ?_
    refine lv_bipush (v := nI 20) hx hb dL_isDone_158 (by decide) ?_
    refine jz_pureSi (X := jzX cI cO cM cL g ro rt rd v t_1) (As := [.int (x >>> ((nI 7) &&& 31)), .int (nI 20)]) (rest := [.int (nI 1), .int (nI k_2), .ref (g 60)]) ⟨hx, hb, hml, hown, hts⟩ (z_L_below l D (jzT cI cO cM cL) (jzX cI cO cM cL g ro rt rd v t_1) _ (x >>> ((nI 7) &&& 31)) 20 (by omega) (by omega)) (va_cwS 2 hts gL_isDone_L_below rfl rfl rfl (by decide +kernel) ⟨Nat.le_of_ble_eq_true rfl, Nat.le_of_ble_eq_true rfl⟩) hN hP hD hK hS hA rfl hl.1 rfl (Nat.le_of_ble_eq_true rfl) dL_isDone_160 ⟨Nat.le_of_ble_eq_true rfl, Nat.le_of_ble_eq_true rfl⟩ (fun r H locs hr hP hS => ?_)
    obtain ⟨k_20, hk_20, ek_20, rfl⟩ := hr
    refine lv_iadd hx hb dL_isDone_163 ?_
    refine jx_val (z := (nI (1 + k_20))) (nI_add _ _) ?_
    rcases Nat.lt_or_ge 0 (zn v) with hsp | hsp
    · skip
      refine jz_mutVi (v := v) (t := t_1) (As := [.int (nI k_2), .int (nI (1 + k_20))]) (rest := []) ⟨hx, hb, hml, hown, hts⟩ (z_X6_price l D cI cO cM cL g ro rt rd v t_1 _ (by assumption) (by assumption) k_2 (1 + k_20) (by omega) (by omega) (by omega)) (cwV 2 hts gL_isDone_X6_price rfl rfl rfl (by decide +kernel) ⟨Nat.le_of_ble_eq_true rfl, Nat.le_of_ble_eq_true rfl⟩) hN hP hD hK hS hA rfl hl.1 rfl (Nat.le_of_ble_eq_true rfl) dL_isDone_164 ⟨Nat.le_of_ble_eq_true rfl, Nat.le_of_ble_eq_true rfl⟩ (fun r_21 v_21 t_21 H locs ht_v_21 hI_v_21 hzP_v_21 hzn_v_21 hP hD hS => ?_)
      obtain ⟨hb1_v_21, hb2_v_21⟩ := jzI_b (v := v_21) (by assumption)
      refine lv_pop hx hb dL_isDone_167 rfl ?_
      refine lv_goto (tgt := 178) hx hb dL_isDone_168 (by decide) ?_
      refine lv_iconst (v := nI 1) hx hb dL_isDone_178 (by decide) ?_
      refine W.widen (k := 1) (n := 6) (Nat.le_of_ble_eq_true rfl) (Nat.le_of_ble_eq_true rfl) ?_
      exact hQ true (v_21, t_21) H locs _ _ dL_isDone_179 (show jSok t_21 ∧ jzI v_21 ∧ 2 ≤ zP v_21 ∧ (nI (jB true) = nI 1 ∨ (nI (jB true) = nI 0 ∧ v_21 = v)) from ⟨by assumption, by assumption, by omega, Or.inl rfl⟩) hP hS
    · skip
      refine jz_throwV (cls := "java/lang/IndexOutOfBoundsException") (As := [.int (nI k_2), .int (nI (1 + k_20))]) (rest := []) ⟨hx, hb, hml, hown, hts⟩ (x_X6_price l hfl D cI cO cM cL g ro rt rd v t_1 _ (by assumption) (by assumption) k_2 (1 + k_20) (by omega) (by omega)) (cwV 2 hts gL_isDone_X6_price rfl rfl rfl (by decide +kernel) ⟨Nat.le_of_ble_eq_true rfl, Nat.le_of_ble_eq_true rfl⟩) hN hP hD hK hS hA hTh 60 6 rfl rfl rfl rfl hl.1 rfl (Nat.le_of_ble_eq_true rfl) dL_isDone_164 ⟨Nat.le_of_ble_eq_true rfl, Nat.le_of_ble_eq_true rfl⟩ (fun ce q9 H locs hP hS hce hcv hcl => ?_)
      refine vx_catch (own := RL) (name := "java/lang/IndexOutOfBoundsException") hown [⟨16, 179, 180, 59⟩] ⟨16, 179, 183, 61⟩ [] htab (fun z hz => by cases hz with
        | head => exact Or.inr ⟨by decide, _, (hts (.classLink RL 59 "java/lang/IllegalStateException") (List.mem_of_getElem? (i := 1) (by decide +kernel))), hnc⟩
        | tail _ h => cases h) (by decide) (by decide) (hts (.classLink RL 61 "java/lang/IndexOutOfBoundsException") (List.mem_of_getElem? (i := 2) (by decide +kernel))) (hTh.2.2.2.1.use jz_cast2) hce hcv hcl ?_
      refine lv_astore_n (lv' := [(3, .ref q9), (2, .int (nI k_2)), (0, .ref (g 60)), (1, .int x)]) hx hb dL_isDone_183 rfl hl (by decide) rfl (fun ls hl => ?_)
      refine lv_aload_n hx hb dL_isDone_184 rfl (lv_at hl 2 rfl) ?_
      refine lv_iconst (v := nI 1) hx hb dL_isDone_185 (by decide) ?_
      refine jz_askVi (v := v) (t := t_1) (As := [.int (nI 1)]) (rest := []) ⟨hx, hb, hml, hown, hts⟩ (z_X6_net l D cI cO cM cL g ro rt rd v t_1 _ (by assumption) (by assumption) 1 (by decide)) (cwV 1 hts gL_isDone_X6_net rfl rfl rfl (by decide +kernel) ⟨Nat.le_of_ble_eq_true rfl, Nat.le_of_ble_eq_true rfl⟩) hN hP hD hK hS hA rfl hl.1 rfl (Nat.le_of_ble_eq_true rfl) dL_isDone_186 ⟨Nat.le_of_ble_eq_true rfl, Nat.le_of_ble_eq_true rfl⟩ (fun t_22 H locs ht_t_22 hP hD hS => ?_)
      refine jx_val (z := (nI (zn v))) rfl ?_
      refine lv_if_ne (tgt := 196) hx hb dL_isDone_189 (by decide) (fun c => absurd c (fun h => h (by rw [show zn v = 0 by omega]; decide))) (fun c => ?_)
      refine lv_iconst (v := nI 1) hx hb dL_isDone_192 (by decide) ?_
      refine lv_goto (tgt := 197) hx hb dL_isDone_193 (by decide) ?_
      exact hQ true (v, t_22) H locs _ _ dL_isDone_197 (show jSok t_22 ∧ jzI v ∧ 2 ≤ zP v ∧ (nI (jB true) = nI 1 ∨ (nI (jB true) = nI 0 ∧ v = v)) from ⟨by assumption, by assumption, by omega, Or.inl rfl⟩) hP hS
  · refine jx_val (z := nI 6) (congrArg nI ek9) ?_
    refine lv_tableOut (tgt := 171) hx hb dL_isDone_22 (by decide +kernel) (by decide) ?_
    refine lv_aload_n hx hb dL_isDone_171 rfl (lv_at hl 1 rfl) ?_
    refine lv_iload_n hx hb dL_isDone_172 rfl (lv_at hl 2 rfl) ?_
    refine lv_iconst (v := nI 3) hx hb dL_isDone_173 (by decide) ?_
    refine lv_ishr hx hb dL_isDone_174 ?_
    refine jz_mutSv (v := v) (t := t_1) (As := [.ref (g 60), .int (x >>> ((nI 3) &&& 31))]) (rest := []) ⟨hx, hb, hml, hown, hts⟩ (z_L_turned l D cI cO cM cL g ro rt rd v t_1 _ (by assumption) (by assumption) (by omega) (x >>> ((nI 3) &&& 31))) (va_cwS 2 hts gL_isDone_L_turned rfl rfl rfl (by decide +kernel) ⟨Nat.le_of_ble_eq_true rfl, Nat.le_of_ble_eq_true rfl⟩) hN hP hD hK hS hA rfl hl.1 rfl (Nat.le_of_ble_eq_true rfl) dL_isDone_175 ⟨Nat.le_of_ble_eq_true rfl, Nat.le_of_ble_eq_true rfl⟩ (fun v_23 t_23 H locs ht_v_23 hI_v_23 hzP_v_23 hP hD hS => ?_)
    obtain ⟨hb1_v_23, hb2_v_23⟩ := jzI_b (v := v_23) (by assumption)
    refine lv_iconst (v := nI 1) hx hb dL_isDone_178 (by decide) ?_
    refine W.widen (k := 1) (n := 6) (Nat.le_of_ble_eq_true rfl) (Nat.le_of_ble_eq_true rfl) ?_
    exact hQ true (v_23, t_23) H locs _ _ dL_isDone_179 (show jSok t_23 ∧ jzI v_23 ∧ 2 ≤ zP v_23 ∧ (nI (jB true) = nI 1 ∨ (nI (jB true) = nI 0 ∧ v_23 = v)) from ⟨by assumption, by assumption, by omega, Or.inl rfl⟩) hP hS
  · refine jx_val (z := nI 7) (congrArg nI ek9) ?_
    refine lv_tableOut (tgt := 171) hx hb dL_isDone_22 (by decide +kernel) (by decide) ?_
    refine lv_aload_n hx hb dL_isDone_171 rfl (lv_at hl 1 rfl) ?_
    refine lv_iload_n hx hb dL_isDone_172 rfl (lv_at hl 2 rfl) ?_
    refine lv_iconst (v := nI 3) hx hb dL_isDone_173 (by decide) ?_
    refine lv_ishr hx hb dL_isDone_174 ?_
    refine jz_mutSv (v := v) (t := t_1) (As := [.ref (g 60), .int (x >>> ((nI 3) &&& 31))]) (rest := []) ⟨hx, hb, hml, hown, hts⟩ (z_L_turned l D cI cO cM cL g ro rt rd v t_1 _ (by assumption) (by assumption) (by omega) (x >>> ((nI 3) &&& 31))) (va_cwS 2 hts gL_isDone_L_turned rfl rfl rfl (by decide +kernel) ⟨Nat.le_of_ble_eq_true rfl, Nat.le_of_ble_eq_true rfl⟩) hN hP hD hK hS hA rfl hl.1 rfl (Nat.le_of_ble_eq_true rfl) dL_isDone_175 ⟨Nat.le_of_ble_eq_true rfl, Nat.le_of_ble_eq_true rfl⟩ (fun v_24 t_24 H locs ht_v_24 hI_v_24 hzP_v_24 hP hD hS => ?_)
    obtain ⟨hb1_v_24, hb2_v_24⟩ := jzI_b (v := v_24) (by assumption)
    refine lv_iconst (v := nI 1) hx hb dL_isDone_178 (by decide) ?_
    refine W.widen (k := 1) (n := 6) (Nat.le_of_ble_eq_true rfl) (Nat.le_of_ble_eq_true rfl) ?_
    exact hQ true (v_24, t_24) H locs _ _ dL_isDone_179 (show jSok t_24 ∧ jzI v_24 ∧ 2 ≤ zP v_24 ∧ (nI (jB true) = nI 1 ∨ (nI (jB true) = nI 0 ∧ v_24 = v)) from ⟨by assumption, by assumption, by omega, Or.inl rfl⟩) hP hS
