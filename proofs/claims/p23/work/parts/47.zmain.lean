/-! own rows: the law, from its entry (the first rows of the end are given: kit/laws, the text to begin with) -/
theorem jz_hand2 {fp pop k P w : Nat} (h : 2 * fp + pop = 2 * k + P + w) : nI (2 * k) = nI (2 * fp) - nI P + nI pop - nI w := by
  have e1 : nI (2 * fp) - nI P + nI pop = nI (2 * fp + pop) - nI P := by
    rw [← nI_add, Int32.sub_eq_add_neg, Int32.sub_eq_add_neg, Int32.add_assoc, Int32.add_comm (-nI P), ← Int32.add_assoc]
  rw [e1, pk_sub (by omega), pk_sub (by omega)]
  exact congrArg nI (by omega)
section JZDN
variable {p : Program} {l : Launch} {e : Env} {R : Room} {s : State} {m : MethodId} {args : Array Value} {below : List Frame} {meth : Method} {c : Code} {H H0 : Heap} {locs : List Loc} {cells slots : Nat} {Q : State → Prop} {A0 : Nat → Prop}
variable {cc bytes : ByteArray} {pc nL maxL index n : Nat} {ls : Array Slot} {rest st0 As : List Value} {Ts wy : List Cond} {own : String} {y : MethodName} {ret : Option FieldType} {rm : Room} {D : va_G} {cI cO cM cL : ClassId} {g ro rt rd : Nat → Nat} {v : jZ} {t : jS} {hh : List (Nat × Nat × Nat × Nat)}
theorem jz_doneSi (S : CallFix p m c cc nL s args Ts own) (hM : jzCd (U := jZ × jS) l y wy rm D (jzT cI cO cM cL) (jzX cI cO cM cL g ro rt rd v t) As H.size (fun u => jzX cI cO cM cL g ro rt rd u.1 u.2) (fun r u => jSok u.2 ∧ jzI u.1 ∧ 2 ≤ zP u.1 ∧ (r = nI 1 ∨ (r = nI 0 ∧ u.1 = v)))) (cw : vx_CSW R s args own index y bytes maxL ret hh wy rm 1 6 n) (hN : jxNW s) (hP : va_P D vwCl (jzX cI cO cM cL g ro rt rd v t) H) (hD : va_D A0 (jzX cI cO cM cL g ro rt rd v t)) (hK : va_K D vwCl (jzT cI cO cM cL) s) (hS : va_S A0 H0 H locs) (hA : ∀ q, H0.size ≤ q → A0 q) (hTh : jzTh A0 s H0)
    (hn : As.length = n) (hsize : ls.size = nL) (hstack : st0 = As.reverse ++ rest) (hW : (rest.map fun v => v.category).sum ≤ 8) (hdg : decode cc pc = .ok (.invokestatic index, 3)) (hf : cells + 1 ≤ R.cells ∧ slots + 6 ≤ R.slots)
    (k1 : ∀ (v1 : jZ) (t1 : jS) (H1 : Heap) (locs1 : List Loc), jSok t1 → jzI v1 → 2 ≤ zP v1 → va_P D vwCl (jzX cI cO cM cL g ro rt rd v1 t1) H1 → va_D A0 (jzX cI cO cM cL g ro rt rd v1 t1) → va_S A0 H0 H1 locs1 → W p l e R s m args below meth c H1 locs1 (cells + 1) (slots + 6) Q (F0 m (pc + 3) ls (.int (nI 1) :: rest)))
    (k0 : ∀ (t1 : jS) (H1 : Heap) (locs1 : List Loc), jSok t1 → va_P D vwCl (jzX cI cO cM cL g ro rt rd v t1) H1 → va_D A0 (jzX cI cO cM cL g ro rt rd v t1) → va_S A0 H0 H1 locs1 → W p l e R s m args below meth c H1 locs1 (cells + 1) (slots + 6) Q (F0 m (pc + 3) ls (.int (nI 0) :: rest))) : W p l e R s m args below meth c H locs cells slots Q (F0 m pc ls st0) := by
  have hF := jz_free hD hS hA
  refine va_calli (vx_runSW S hM cw ⟨jzMt_blind, fun V hV hW' => ⟨rfl, ⟨hN.warm hW', by rw [hV], by rw [hV]; exact hP, va_K.moved hW'.alike hK, hD.weaken (fun _ _ _ _ => trivial)⟩, by rw [hV]; exact hTh.go hW' hS hF⟩⟩ rfl hn hsize hstack (lv_room hW) hdg hf) hS (fun q _ h => hF q h) hF (fun r u t H1 locs1 ht hvm hw hB hz1 hk1 hS1 => ?_)
  obtain ⟨v1, t1⟩ := u
  obtain ⟨ht1, hI1, h21, hr⟩ := hw
  have hB : va_P D vwCl (jzX cI cO cM cL g ro rt rd v1 t1) t.heap := hB
  rw [ht] at hB
  rcases hr with hr | ⟨hr, e1⟩
  · rw [hr]
    exact k1 v1 t1 H1 locs1 ht1 hI1 h21 hB (jzD_any hD) hS1
  · have e1 : v1 = v := e1
    rw [hr]
    rw [e1] at hB
    exact k0 t1 H1 locs1 ht1 hB (jzD_any hD) hS1
end JZDN
/-! THE CLAIM OUT OF ONE WALK OF THE LAW'S BODY. Your part is whole_start (and what it stands on); all else here is the same for every law, but numbers. -/
def R_law : String := "TwincutsLaw"
def lw_P (b : Addr) (xs : List Int32) (args : Array Value) (s : State) : Prop := args = #[.ref b] ∧ s.IntsAt b xs ∧ xs.length ≤ 260 ∧ (Jvm.Cond.and given_1 narrow_1).before args s = true
def lw_Q (_ : Array Value) (s : State) (o : Outcome) (t : State) : Prop := o = .returned (some (.int 1)) ∧ Framed s o t [] 600130 7301080
def lw_Z (below : List Frame) (a : Array Value) (s : State) : State → Prop := fun t => ∃ o, t.status = .running ∧ Ended t below o ∧ lw_Q a s o t
/-- the law's own end, with 1 on the stack, nothing written that was there before, its room as the claim has it -/
theorem lw_ret {p : Program} {l : Launch} {e : Env} {s : State} {m : MethodId} {below : List Frame} {meth : Method} {c : Code} {b : Nat} (hx : p.tables.exec = Jvm.exec) (hb : c.code = code) (hr : meth.sig.returnType = ret) (hlocks : meth.locks = false) {pc : Nat} {H : Heap} {ls : Array Slot} (hdg : decode code pc = .ok (.ireturn, 1)) : W p l e room_1 s m #[Value.ref b] below meth c H [] 600130 7301080 (lw_Z below #[Value.ref b] s) (F0 m pc ls [.int 1]) := by
  intro T hT X
  obtain ⟨fs, hret, hrun, hended, hW, hframe⟩ := X.leave (v := some (.int 1)) (hlocks := hlocks) (fun h => by rw [hr] at h; cases h)
  have hmeth' : T.vm.method? m = some meth := X.method'
  refine ⟨T.setFrames fs, ?_, .returned (some (.int 1)), hrun, hended, rfl, ⟨_, rfl⟩, hW, hframe⟩
  jvm_step X.here [X.here.top, hx, hb, hdg, hmeth', hr, ret, narrow_b1]
  (try refine ⟨rfl, ?_⟩); (try refine ⟨rfl, ?_⟩)
  first | (intro acts; rw [hret _ acts rfl rfl rfl]) | rw [hret _ _ rfl rfl rfl]
  exact Steps.refl _
/-- what holds at the law's entry: the machine, the code, the tables' words (any of lw_tbl by 'hts w (by decide +kernel)'), the script of L ints xs at the cell b, what the Statement gives of the start (any of its parts by flat_of_before) -/
def lw_At (p : Program) (s : State) (m : MethodId) (meth : Method) (c : Code) (b L : Nat) (xs : Nat → Int32) : Prop :=
  p.tables.exec = Jvm.exec ∧ c.code = code ∧ meth.sig.returnType = ret ∧ c.maxLocals = 6 ∧ s.vm.findClass R_law = some m.cls ∧ (∀ w ∈ lw_tbl, w.before #[Value.ref b] s = true) ∧ va_X b L xs s s.heap ∧ b < s.heap.size ∧ meth.locks = false ∧ (Jvm.Cond.and given_1 narrow_1).before #[Value.ref b] s = true
set_option maxHeartbeats 2000000 in
set_option maxRecDepth 20000 in
theorem z_law {p : Program} {l : Launch} {e : Env} {s : State} {m : MethodId} {below : List Frame} {meth : Method} {c : Code} (hfl : l.stackTraces = false) {sb L : Nat} {xs : Nat → Int32} (hxL : L < 2 ^ 31) (C0 : lw_At p s m meth c sb L xs) (D : va_G) {cI cO cM cL : ClassId} (hN : jxNW s) (hK : va_K D vwCl (jzT cI cO cM cL) s) (hao : va_AOA .int s) (hal : va_AOA .long s) (hTh0 : jzTh (fun q : Nat => s.heap.size ≤ q) s s.heap) : W p l e room_1 s m #[Value.ref sb] below meth c s.heap [] 0 0 (lw_Z below #[Value.ref sb] s) (entryFrame m ([Value.ref sb] : List Value).toArray 6) := by
  obtain ⟨hx, hb, hr, hml, hown, htb, hxX, hxb1, hlocks, hgv⟩ := C0
  have hts : ∀ w ∈ wsL_law, w.before #[Value.ref sb] s = true := fun w h => htb w (wsL_law_in w h)
  have hb : c.code = cL_law := hb
  have hown : s.vm.findClass RL = some m.cls := hown
  obtain ⟨A, hAe⟩ : ∃ a : Nat → Prop, a = fun q : Nat => s.heap.size ≤ q := ⟨_, rfl⟩
  have hA : ∀ q : Nat, s.heap.size ≤ q → A q := fun q h => by rw [hAe]; exact h
  have hxb2 : ¬ A sb := by rw [hAe]; exact Nat.not_le.mpr hxb1
  have hTh : jzTh A s s.heap := by rw [hAe]; exact hTh0
  have hS : va_S A s.heap s.heap [] := va_S.rf
  have hl := lv_entry ([.ref sb]) (n := 6) (Nat.le_of_ble_eq_true rfl)
  rw [lg_entry_eq]
  generalize (lg_sl ([.ref sb]) ++ List.replicate (6 - (lg_sl ([.ref sb])).length) Slot.unset).toArray = ls at hl ⊢
  have hl : lv_has ls 6 [(0, .ref sb)] := hl
  have hF : ∀ q : Nat, va_A [] s.heap.size q → A q := by
    rintro q (⟨k, e9, h⟩ | h)
    · simp at h
    · exact hA q h
  refine lv_aload_n hx hb dL_law_0 rfl (lv_at hl 0 rfl) ?_
  refine va_callr (va_runS (As := [.ref sb]) (rest := []) ⟨hx, hb, hml, hown, hts⟩ (z_L_net l D cI cO cM cL sb s.heap.size) (va_cwS 1 hts gL_law_L_net rfl rfl rfl (by decide +kernel) ⟨Nat.le_of_ble_eq_true rfl, Nat.le_of_ble_eq_true rfl⟩) ⟨jzNs_blind, fun V hV hW => ⟨rfl, ⟨hN.warm hW, by rw [hV], fun k q h => by simp at h, va_K.moved hW.alike hK, ⟨fun i j p q h => by simp at h, fun k q h => by simp at h⟩, jz_aoa hW.alike hao, jz_aoa hW.alike hal⟩, L, xs, hxL, by rw [hV]; exact va_X.moved hW.alike hxX⟩⟩ rfl rfl hl.1 rfl (lv_room (Nat.le_of_ble_eq_true rfl)) dL_law_1 ⟨Nat.le_of_ble_eq_true rfl, Nat.le_of_ble_eq_true rfl⟩) hS (fun q _ h => hF q h) hF (fun u9 ra t9 H locs ht hvm hw hB hz1 hk1 hS => ?_)
  obtain ⟨⟨g, ro, rt, rd⟩, v0, t0⟩ := u9
  obtain ⟨ht_t0, hI_v0, hz_v0⟩ := hw
  obtain ⟨hg, hP, hD⟩ := hB
  rw [ht] at hP
  have hg : g 60 = ra := hg
  subst hg
  have hD : va_D A (jzX cI cO cM cL g ro rt rd v0 t0) := ⟨hD.1, fun k q hk => hF _ (hD.2 k q hk)⟩
  have hP : va_P D vwCl (jzX cI cO cM cL g ro rt rd v0 t0) H := hP
  have hI_v0 : jzI v0 := hI_v0
  have ht_t0 : jSok t0 := ht_t0
  have hz_v0 : 2 ≤ zP v0 := hz_v0
  have hD0 := hD
  refine W.widen (k := 61) (n := 1031) (Nat.le_of_ble_eq_true rfl) (Nat.le_of_ble_eq_true rfl) ?_
  refine lv_astore_n (lv' := [(1, .ref (g 60)), (0, .ref sb)]) hx hb dL_law_4 rfl hl (by decide) rfl (fun ls hl => ?_)
  refine lv_iconst (v := nI 0) hx hb dL_law_5 (by decide) ?_
  refine lv_istore_n (lv' := [(2, .int (nI 0)), (1, .ref (g 60)), (0, .ref sb)]) hx hb dL_law_6 rfl hl (by decide) rfl (fun ls hl => ?_)
  have L7 : ∀ (k : Nat) (v1 : jZ) (t1 : jS) (tm : Nat) (hI_v1 : jzI v1) (ht_t1 : jSok t1) (hz1 : 2 ≤ zP v1) (htm : tm ≤ 5), 5 - tm < k → ∀ (H : Heap) (locs : List Loc), va_P D vwCl (jzX cI cO cM cL g ro rt rd v1 t1) H → va_S A s.heap H locs → ∀ ls : Array Slot, lv_has ls 6 [(0, .ref sb), (1, .ref (g 60)), (2, .int (nI tm))] → W p l e room_1 s m #[Value.ref sb] below meth c H locs (61 + tm) (1031 + 6 * tm) (lw_Z below #[Value.ref sb] s) (F0 m 7 ls []) := by
    intro k
    induction k with
    | zero => intro v1 t1 tm hI_v1 ht_t1 hz1 htm hk; exact absurd hk (Nat.not_lt_zero _)
    | succ k ih7 =>
      intro v1 t1 tm hI_v1 ht_t1 hz1 htm hk H locs hP hS ls hl
      have hD : va_D A (jzX cI cO cM cL g ro rt rd v1 t1) := jzD_any hD0
      obtain ⟨hb1_v1, hb2_v1⟩ := jzI_b hI_v1
      obtain ⟨kh, hkh1, hkh2, hkh3⟩ := jz_handles hI_v1
      have hfp1 := (jzI_more hI_v1).1
      refine lv_iload_n hx hb dL_law_7 rfl (lv_at hl 2 rfl) ?_
      refine lv_iconst (v := nI 5) hx hb dL_law_8 (by decide) ?_
      refine lv_icmp_ge (tgt := 147) hx hb dL_law_9 (by decide) (fun c9 => ?_) (fun c9 => ?_)
      · have c9 : 5 ≤ tm := jx_le (by decide) (by omega) c9
        refine lv_aload_n hx hb dL_law_147 rfl (lv_at hl 1 rfl) ?_
        refine jz_askVl (v := v1) (t := t1) (As := []) (rest := []) ⟨hx, hb, hml, hown, hts⟩ (z_X6_digest l D cI cO cM cL g ro rt rd v1 t1 _ (by assumption) (by assumption) ) (cwV 0 hts gL_law_X6_digest rfl rfl rfl (by decide +kernel) ⟨Nat.le_of_ble_eq_true rfl, Nat.le_of_ble_eq_true rfl⟩) hN hP hD hK hS hA rfl hl.1 rfl (Nat.le_of_ble_eq_true rfl) dL_law_148 ⟨by show _ ≤ 600130; omega, by show _ ≤ 7301080; omega⟩ (fun t_1 H locs ht_t_1 hP hD hS => ?_)
        refine lv_lstore_n (lv' := [(2, .long (zDig v1)), (0, .ref sb), (1, .ref (g 60))]) hx hb dL_law_151 rfl hl (by decide) rfl (fun ls hl => ?_)
        refine lv_aload_n hx hb dL_law_152 rfl (lv_at hl 2 rfl) ?_
        refine jz_askVi (v := v1) (t := t_1) (As := []) (rest := []) ⟨hx, hb, hml, hown, hts⟩ (z_X6_isSound l D cI cO cM cL g ro rt rd v1 t_1 _ (by assumption) (by assumption) ) (cwV 0 hts gL_law_X6_isSound rfl rfl rfl (by decide +kernel) ⟨Nat.le_of_ble_eq_true rfl, Nat.le_of_ble_eq_true rfl⟩) hN hP hD hK hS hA rfl hl.1 rfl (Nat.le_of_ble_eq_true rfl) dL_law_153 ⟨by show _ ≤ 600130; omega, by show _ ≤ 7301080; omega⟩ (fun t_2 H locs ht_t_2 hP hD hS => ?_)
        refine lv_if_eq (tgt := 172) hx hb dL_law_156 (by decide) (fun c => absurd c (by decide)) (fun _ => ?_)
        refine lv_aload_n hx hb dL_law_159 rfl (lv_at hl 2 rfl) ?_
        refine jz_askVl (v := v1) (t := t_2) (As := []) (rest := []) ⟨hx, hb, hml, hown, hts⟩ (z_X6_digest l D cI cO cM cL g ro rt rd v1 t_2 _ (by assumption) (by assumption) ) (cwV 0 hts gL_law_X6_digest rfl rfl rfl (by decide +kernel) ⟨Nat.le_of_ble_eq_true rfl, Nat.le_of_ble_eq_true rfl⟩) hN hP hD hK hS hA rfl hl.1 rfl (Nat.le_of_ble_eq_true rfl) dL_law_160 ⟨by show _ ≤ 600130; omega, by show _ ≤ 7301080; omega⟩ (fun t_3 H locs ht_t_3 hP hD hS => ?_)
        refine lv_lload_n hx hb dL_law_163 rfl (lv_at hl 0 rfl) ?_
        refine W.lcmp hx hb dL_law_164 ?_
        refine lv_if_ne (tgt := 172) hx hb dL_law_165 (by decide) (fun c => absurd c (fun h => h ((lg_cmp_eq _ _).mpr rfl))) (fun c => ?_)
        refine lv_iconst (v := nI 1) hx hb dL_law_168 (by decide) ?_
        refine lv_goto (tgt := 173) hx hb dL_law_169 (by decide) ?_
        refine jx_val (z := 1) (by decide) ?_
        refine va_forget (fun q hq => by have h9 := hS.2.2 q hq; rw [hAe] at h9; exact h9) ?_
        refine W.widen (k := 600130) (n := 7301080) (by omega) (by omega) ?_
        exact lw_ret hx hb hr hlocks dL_law_173
      · have c9 : tm < 5 := jx_nle (by decide) (by omega) c9
        refine lv_aload_n hx hb dL_law_12 rfl (lv_at hl 1 rfl) ?_
        refine lv_iconst (v := nI 0) hx hb dL_law_13 (by decide) ?_
        refine jz_askVi (v := v1) (t := t1) (As := [.int (nI 0)]) (rest := []) ⟨hx, hb, hml, hown, hts⟩ (z_X6_net l D cI cO cM cL g ro rt rd v1 t1 _ (by assumption) (by assumption) 0 (by decide)) (cwV 1 hts gL_law_X6_net rfl rfl rfl (by decide +kernel) ⟨Nat.le_of_ble_eq_true rfl, Nat.le_of_ble_eq_true rfl⟩) hN hP hD hK hS hA rfl hl.1 rfl (Nat.le_of_ble_eq_true rfl) dL_law_14 ⟨by show _ ≤ 600130; omega, by show _ ≤ 7301080; omega⟩ (fun t_4 H locs ht_t_4 hP hD hS => ?_)
        refine jx_val (z := (nI (zP v1))) rfl ?_
        refine lv_istore_n (lv' := [(3, .int (nI (zP v1))), (0, .ref sb), (1, .ref (g 60)), (2, .int (nI tm))]) hx hb dL_law_17 rfl hl (by decide) rfl (fun ls hl => ?_)
        refine lv_iconst (v := nI 0) hx hb dL_law_18 (by decide) ?_
        refine lv_istore (lv' := [(4, .int (nI 0)), (3, .int (nI (zP v1))), (0, .ref sb), (1, .ref (g 60)), (2, .int (nI tm))]) hx hb dL_law_19 hl (by decide) rfl (fun ls hl => ?_)
        have L21 : ∀ (k : Nat) (t2 : jS) (one : Nat) (ht_t2 : jSok t2) (hon : one ≤ zP v1), zP v1 - one < k → ∀ (H : Heap) (locs : List Loc), va_P D vwCl (jzX cI cO cM cL g ro rt rd v1 t2) H → va_S A s.heap H locs → ∀ ls : Array Slot, lv_has ls 6 [(0, .ref sb), (1, .ref (g 60)), (2, .int (nI tm)), (3, .int (nI (zP v1))), (4, .int (nI one))] → W p l e room_1 s m #[Value.ref sb] below meth c H locs (61 + tm) (1031 + 6 * tm) (lw_Z below #[Value.ref sb] s) (F0 m 21 ls []) := by
          intro k
          induction k with
          | zero => intro t2 one ht_t2 hon hk; exact absurd hk (Nat.not_lt_zero _)
          | succ k ih21 =>
            intro t2 one ht_t2 hon hk H locs hP hS ls hl
            have hD : va_D A (jzX cI cO cM cL g ro rt rd v1 t2) := jzD_any hD0
            refine lv_iload hx hb dL_law_21 (lv_at hl 4 rfl) ?_
            refine lv_iload_n hx hb dL_law_23 rfl (lv_at hl 3 rfl) ?_
            refine lv_icmp_ge (tgt := 64) hx hb dL_law_24 (by decide) (fun c24 => ?_) (fun c24 => ?_)
            · have c24 : zP v1 ≤ one := jx_le (by omega) (by omega) c24
              refine lv_aload_n hx hb dL_law_64 rfl (lv_at hl 1 rfl) ?_
              refine lv_bipush (v := nI 12) hx hb dL_law_65 (by decide) ?_
              refine jz_askVi (v := v1) (t := t2) (As := [.int (nI 12)]) (rest := []) ⟨hx, hb, hml, hown, hts⟩ (z_X6_net l D cI cO cM cL g ro rt rd v1 t2 _ (by assumption) (by assumption) 12 (by decide)) (cwV 1 hts gL_law_X6_net rfl rfl rfl (by decide +kernel) ⟨Nat.le_of_ble_eq_true rfl, Nat.le_of_ble_eq_true rfl⟩) hN hP hD hK hS hA rfl hl.1 rfl (Nat.le_of_ble_eq_true rfl) dL_law_67 ⟨by show _ ≤ 600130; omega, by show _ ≤ 7301080; omega⟩ (fun t_5 H locs ht_t_5 hP hD hS => ?_)
              refine jx_val (z := (nI kh)) hkh2 ?_
              refine lv_if_lt (tgt := 106) hx hb dL_law_70 (by decide) (fun c => absurd c (nI_pos (by omega))) (fun _ => ?_)
              refine lv_iconst (v := nI 2) hx hb dL_law_73 (by decide) ?_
              refine lv_aload_n hx hb dL_law_74 rfl (lv_at hl 1 rfl) ?_
              refine lv_bipush (v := nI 12) hx hb dL_law_75 (by decide) ?_
              refine jz_askVi (v := v1) (t := t_5) (As := [.int (nI 12)]) (rest := [.int (nI 2)]) ⟨hx, hb, hml, hown, hts⟩ (z_X6_net l D cI cO cM cL g ro rt rd v1 t_5 _ (by assumption) (by assumption) 12 (by decide)) (cwV 1 hts gL_law_X6_net rfl rfl rfl (by decide +kernel) ⟨Nat.le_of_ble_eq_true rfl, Nat.le_of_ble_eq_true rfl⟩) hN hP hD hK hS hA rfl hl.1 rfl (Nat.le_of_ble_eq_true rfl) dL_law_77 ⟨by show _ ≤ 600130; omega, by show _ ≤ 7301080; omega⟩ (fun t_6 H locs ht_t_6 hP hD hS => ?_)
              refine jx_val (z := (nI kh)) hkh2 ?_
              refine lv_imul hx hb dL_law_80 ?_
              refine jx_val (z := (nI (2 * kh))) (pk_mul _ _) ?_
              refine lv_iconst (v := nI 2) hx hb dL_law_81 (by decide) ?_
              refine lv_aload_n hx hb dL_law_82 rfl (lv_at hl 1 rfl) ?_
              refine lv_iconst (v := nI 3) hx hb dL_law_83 (by decide) ?_
              refine jz_askVi (v := v1) (t := t_6) (As := [.int (nI 3)]) (rest := [.int (nI 2), .int (nI (2 * kh))]) ⟨hx, hb, hml, hown, hts⟩ (z_X6_net l D cI cO cM cL g ro rt rd v1 t_6 _ (by assumption) (by assumption) 3 (by decide)) (cwV 1 hts gL_law_X6_net rfl rfl rfl (by decide +kernel) ⟨Nat.le_of_ble_eq_true rfl, Nat.le_of_ble_eq_true rfl⟩) hN hP hD hK hS hA rfl hl.1 rfl (Nat.le_of_ble_eq_true rfl) dL_law_84 ⟨by show _ ≤ 600130; omega, by show _ ≤ 7301080; omega⟩ (fun t_7 H locs ht_t_7 hP hD hS => ?_)
              refine jx_val (z := (nI (zfp v1))) rfl ?_
              refine lv_imul hx hb dL_law_87 ?_
              refine jx_val (z := (nI (2 * (zfp v1)))) (pk_mul _ _) ?_
              refine lv_iload_n hx hb dL_law_88 rfl (lv_at hl 3 rfl) ?_
              refine lv_isub hx hb dL_law_89 ?_
              refine lv_aload_n hx hb dL_law_90 rfl (lv_at hl 1 rfl) ?_
              refine lv_iconst (v := nI 2) hx hb dL_law_91 (by decide) ?_
              refine jz_askVi (v := v1) (t := t_7) (As := [.int (nI 2)]) (rest := [.int ((nI (2 * (zfp v1))) - (nI (zP v1))), .int (nI (2 * kh))]) ⟨hx, hb, hml, hown, hts⟩ (z_X6_net l D cI cO cM cL g ro rt rd v1 t_7 _ (by assumption) (by assumption) 2 (by decide)) (cwV 1 hts gL_law_X6_net rfl rfl rfl (by decide +kernel) ⟨Nat.le_of_ble_eq_true rfl, Nat.le_of_ble_eq_true rfl⟩) hN hP hD hK hS hA rfl hl.1 rfl (Nat.le_of_ble_eq_true rfl) dL_law_92 ⟨by show _ ≤ 600130; omega, by show _ ≤ 7301080; omega⟩ (fun t_8 H locs ht_t_8 hP hD hS => ?_)
              refine jx_val (z := (nI (jmPop (zst v1)))) rfl ?_
              refine lv_iadd hx hb dL_law_95 ?_
              refine lv_aload_n hx hb dL_law_96 rfl (lv_at hl 1 rfl) ?_
              refine lv_bipush (v := nI 11) hx hb dL_law_97 (by decide) ?_
              refine jz_askVi (v := v1) (t := t_8) (As := [.int (nI 11)]) (rest := [.int (((nI (2 * (zfp v1))) - (nI (zP v1))) + (nI (jmPop (zst v1)))), .int (nI (2 * kh))]) ⟨hx, hb, hml, hown, hts⟩ (z_X6_net l D cI cO cM cL g ro rt rd v1 t_8 _ (by assumption) (by assumption) 11 (by decide)) (cwV 1 hts gL_law_X6_net rfl rfl rfl (by decide +kernel) ⟨Nat.le_of_ble_eq_true rfl, Nat.le_of_ble_eq_true rfl⟩) hN hP hD hK hS hA rfl hl.1 rfl (Nat.le_of_ble_eq_true rfl) dL_law_99 ⟨by show _ ≤ 600130; omega, by show _ ≤ 7301080; omega⟩ (fun t_9 H locs ht_t_9 hP hD hS => ?_)
              refine jx_val (z := (nI (zwk v1 + jmIso (zla v1) (zst v1) (zP v1)))) rfl ?_
              refine lv_isub hx hb dL_law_102 ?_
              refine lv_icmp_eq (tgt := 108) hx hb dL_law_103 (by decide) (fun c => ?_) (fun c => absurd c (fun h => h (jz_hand2 hkh3)))
              refine lv_aload_n hx hb dL_law_108 rfl (lv_at hl 1 rfl) ?_
              refine jz_askVl (v := v1) (t := t_9) (As := []) (rest := []) ⟨hx, hb, hml, hown, hts⟩ (z_X6_digest l D cI cO cM cL g ro rt rd v1 t_9 _ (by assumption) (by assumption) ) (cwV 0 hts gL_law_X6_digest rfl rfl rfl (by decide +kernel) ⟨Nat.le_of_ble_eq_true rfl, Nat.le_of_ble_eq_true rfl⟩) hN hP hD hK hS hA rfl hl.1 rfl (Nat.le_of_ble_eq_true rfl) dL_law_109 ⟨by show _ ≤ 600130; omega, by show _ ≤ 7301080; omega⟩ (fun t_10 H locs ht_t_10 hP hD hS => ?_)
              refine lv_lstore (lv' := [(4, .long (zDig v1)), (0, .ref sb), (1, .ref (g 60)), (2, .int (nI tm)), (3, .int (nI (zP v1)))]) hx hb dL_law_112 hl (by decide) rfl (fun ls hl => ?_)
              refine lv_aload_n hx hb dL_law_114 rfl (lv_at hl 2 rfl) ?_
              refine lv_aload_n hx hb dL_law_115 rfl (lv_at hl 1 rfl) ?_
              refine lv_bipush (v := nI 16) hx hb dL_law_116 (by decide) ?_
              refine lv_iload_n hx hb dL_law_118 rfl (lv_at hl 3 rfl) ?_
              refine lv_iadd hx hb dL_law_119 ?_
              refine jx_val (z := (nI (16 + tm))) (nI_add _ _) ?_
              refine jz_cellSi (X := jzX cI cO cM cL g ro rt rd v1 t_10) (As := [.ref sb, .int (nI (16 + tm))]) (rest := [.ref (g 60)]) ⟨hx, hb, hml, hown, hts⟩ (z_L_cell l D (jzT cI cO cM cL) (jzX cI cO cM cL g ro rt rd v1 t_10) _ sb (16 + tm) (by omega)) (va_cwS 2 hts gL_law_L_cell rfl rfl rfl (by decide +kernel) ⟨Nat.le_of_ble_eq_true rfl, Nat.le_of_ble_eq_true rfl⟩) hN hP hD hK hS hA hxL hxX hxb1 hxb2 rfl hl.1 rfl (Nat.le_of_ble_eq_true rfl) dL_law_120 ⟨by show _ ≤ 600130; omega, by show _ ≤ 7301080; omega⟩ (fun x_11 H locs hP hS => ?_)
              refine jz_doneSi (v := v1) (t := t_10) (As := [.ref (g 60), .int x_11]) (rest := []) ⟨hx, hb, hml, hown, hts⟩ (z_L_isDone l hfl D cI cO cM cL g ro rt rd v1 t_10 _ (by assumption) (by assumption) (by omega) x_11) (vx_cwSW 2 hts gL_law_L_isDone rfl rfl rfl (by decide +kernel) ⟨Nat.le_of_ble_eq_true rfl, Nat.le_of_ble_eq_true rfl⟩) hN hP hD hK hS hA hTh rfl hl.1 rfl (Nat.le_of_ble_eq_true rfl) dL_law_123 ⟨by show _ ≤ 600130; omega, by show _ ≤ 7301080; omega⟩ (fun v7 t7 H locs ht_t7 hI_v7 hz_v7 hP hD hS => ?_) (fun t8 H locs ht_t8 hP hD hS => ?_)
              · skip
                refine lv_if_ne (tgt := 141) hx hb dL_law_126 (by decide) (fun _ => ?_) (fun c => absurd c (by decide))
                refine lv_iinc (v := nI (tm + 1)) (lv' := [(2, .int (nI (tm + 1))), (4, .long (zDig v1)), (0, .ref sb), (1, .ref (g 60)), (3, .int (nI (zP v1)))]) hx hb dL_law_141 hl (k := 3) rfl (jx_inc _) (by decide) rfl (fun ls hl => ?_)
                refine W.widen (k := 61 + (tm + 1)) (n := 1031 + 6 * (tm + 1)) (by omega) (by omega) ?_
                refine lv_goto (tgt := 7) hx hb dL_law_144 (by decide) ?_
                exact ih7 v7 t7 (tm + 1) (by assumption) (by assumption) (by omega) (by omega) (by omega) H locs hP hS ls (lv_sub hl [2, 3, 0] rfl)
              · skip
                refine lv_if_ne (tgt := 141) hx hb dL_law_126 (by decide) (fun c => absurd c (by decide)) (fun _ => ?_)
                refine lv_aload_n hx hb dL_law_129 rfl (lv_at hl 2 rfl) ?_
                refine jz_askVl (v := v1) (t := t8) (As := []) (rest := []) ⟨hx, hb, hml, hown, hts⟩ (z_X6_digest l D cI cO cM cL g ro rt rd v1 t8 _ (by assumption) (by assumption) ) (cwV 0 hts gL_law_X6_digest rfl rfl rfl (by decide +kernel) ⟨Nat.le_of_ble_eq_true rfl, Nat.le_of_ble_eq_true rfl⟩) hN hP hD hK hS hA rfl hl.1 rfl (Nat.le_of_ble_eq_true rfl) dL_law_130 ⟨by show _ ≤ 600130; omega, by show _ ≤ 7301080; omega⟩ (fun t_12 H locs ht_t_12 hP hD hS => ?_)
                refine lv_lload hx hb dL_law_133 (lv_at hl 0 rfl) ?_
                refine W.lcmp hx hb dL_law_135 ?_
                refine lv_if_eq (tgt := 141) hx hb dL_law_136 (by decide) (fun c => ?_) (fun c => absurd c (fun h => h ((lg_cmp_eq _ _).mpr rfl)))
                refine lv_iinc (v := nI (tm + 1)) (lv' := [(2, .int (nI (tm + 1))), (4, .long (zDig v1)), (0, .ref sb), (1, .ref (g 60)), (3, .int (nI (zP v1)))]) hx hb dL_law_141 hl (k := 3) rfl (jx_inc _) (by decide) rfl (fun ls hl => ?_)
                refine W.widen (k := 61 + (tm + 1)) (n := 1031 + 6 * (tm + 1)) (by omega) (by omega) ?_
                refine lv_goto (tgt := 7) hx hb dL_law_144 (by decide) ?_
                exact ih7 v1 t_12 (tm + 1) (by assumption) (by assumption) (by omega) (by omega) (by omega) H locs hP hS ls (lv_sub hl [2, 3, 0] rfl)
            · have c24 : one < zP v1 := jx_nle (by omega) (by omega) c24
              refine lv_iload hx hb dL_law_27 (lv_at hl 4 rfl) ?_
              refine lv_iconst (v := nI 1) hx hb dL_law_29 (by decide) ?_
              refine lv_iadd hx hb dL_law_30 ?_
              refine jx_val (z := (nI (one + 1))) (nI_add _ _) ?_
              refine lv_istore (lv' := [(5, .int (nI (one + 1))), (0, .ref sb), (1, .ref (g 60)), (2, .int (nI tm)), (3, .int (nI (zP v1))), (4, .int (nI one))]) hx hb dL_law_31 hl (by decide) rfl (fun ls hl => ?_)
              have L33 : ∀ (k : Nat) (t3 : jS) (oth : Nat) (ht_t3 : jSok t3) (hot : oth ≤ zP v1) (hoo : one < oth), zP v1 - oth < k → ∀ (H : Heap) (locs : List Loc), va_P D vwCl (jzX cI cO cM cL g ro rt rd v1 t3) H → va_S A s.heap H locs → ∀ ls : Array Slot, lv_has ls 6 [(0, .ref sb), (1, .ref (g 60)), (2, .int (nI tm)), (3, .int (nI (zP v1))), (4, .int (nI one)), (5, .int (nI oth))] → W p l e room_1 s m #[Value.ref sb] below meth c H locs (61 + tm) (1031 + 6 * tm) (lw_Z below #[Value.ref sb] s) (F0 m 33 ls []) := by
                intro k
                induction k with
                | zero => intro t3 oth ht_t3 hot hoo hk; exact absurd hk (Nat.not_lt_zero _)
                | succ k ih33 =>
                  intro t3 oth ht_t3 hot hoo hk H locs hP hS ls hl
                  have hD : va_D A (jzX cI cO cM cL g ro rt rd v1 t3) := jzD_any hD0
                  refine lv_iload hx hb dL_law_33 (lv_at hl 5 rfl) ?_
                  refine lv_iload_n hx hb dL_law_35 rfl (lv_at hl 3 rfl) ?_
                  refine lv_icmp_ge (tgt := 58) hx hb dL_law_36 (by decide) (fun c36 => ?_) (fun c36 => ?_)
                  · have c36 : zP v1 ≤ oth := jx_le (by omega) (by omega) c36
                    refine lv_iinc (v := nI (one + 1)) (lv' := [(4, .int (nI (one + 1))), (0, .ref sb), (1, .ref (g 60)), (2, .int (nI tm)), (3, .int (nI (zP v1))), (5, .int (nI oth))]) hx hb dL_law_58 hl (k := 4) rfl (jx_inc _) (by decide) rfl (fun ls hl => ?_)
                    refine lv_goto (tgt := 21) hx hb dL_law_61 (by decide) ?_
                    exact ih21 t3 (one + 1) (by assumption) (by omega) (by omega) H locs hP hS ls (lv_sub hl [1, 2, 3, 4, 0] rfl)
                  · have c36 : oth < zP v1 := jx_nle (by omega) (by omega) c36
                    refine lv_aload_n hx hb dL_law_39 rfl (lv_at hl 1 rfl) ?_
                    refine lv_iload hx hb dL_law_40 (lv_at hl 4 rfl) ?_
                    refine lv_iload hx hb dL_law_42 (lv_at hl 5 rfl) ?_
                    refine jz_askSi (v := v1) (t := t3) (As := [.ref (g 60), .int (nI one), .int (nI oth)]) (rest := []) ⟨hx, hb, hml, hown, hts⟩ (z_L_isParted l D cI cO cM cL g ro rt rd v1 t3 _ (by assumption) (by assumption) one oth (by omega) (by omega) (by omega)) (va_cwS 3 hts gL_law_L_isParted rfl rfl rfl (by decide +kernel) ⟨Nat.le_of_ble_eq_true rfl, Nat.le_of_ble_eq_true rfl⟩) hN hP hD hK hS hA rfl hl.1 rfl (Nat.le_of_ble_eq_true rfl) dL_law_44 ⟨by show _ ≤ 600130; omega, by show _ ≤ 7301080; omega⟩ (fun t_13 H locs ht_t_13 hP hD hS => ?_)
                    refine lv_if_ne (tgt := 52) hx hb dL_law_47 (by decide) (fun _ => ?_) (fun c => absurd c (by decide))
                    refine lv_iinc (v := nI (oth + 1)) (lv' := [(5, .int (nI (oth + 1))), (0, .ref sb), (1, .ref (g 60)), (2, .int (nI tm)), (3, .int (nI (zP v1))), (4, .int (nI one))]) hx hb dL_law_52 hl (k := 5) rfl (jx_inc _) (by decide) rfl (fun ls hl => ?_)
                    refine lv_goto (tgt := 33) hx hb dL_law_55 (by decide) ?_
                    exact ih33 t_13 (oth + 1) (by assumption) (by omega) (by omega) (by omega) H locs hP hS ls (lv_sub hl [1, 2, 3, 4, 5, 0] rfl)
              exact L33 ((zP v1 - (one + 1)) + 1) t2 (one + 1) (by assumption) (by omega) (by omega) (Nat.lt_succ_self _) H locs hP hS ls (lv_sub hl [1, 2, 3, 4, 5, 0] rfl)
        exact L21 ((zP v1 - 0) + 1) t_4 0 (by assumption) (by omega) (Nat.lt_succ_self _) H locs hP hS ls (lv_sub hl [2, 3, 4, 1, 0] rfl)
  exact L7 ((5 - 0) + 1) v0 t0 0 (by assumption) (by assumption) (by omega) (by omega) (Nat.lt_succ_self _) H locs hP hS ls (lv_sub hl [2, 1, 0] rfl)
