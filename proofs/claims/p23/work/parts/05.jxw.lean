/-! own rows: methods that write their world's cells, each in its place -/
def jxM (D : va_G) (tys : List (ClassId × FieldType)) (ws : va_W) (sz : Nat) (U : State) : Prop := jxNW U ∧ U.heap.size = sz ∧ va_P D vwCl ws U.heap ∧ va_K D vwCl tys U ∧ va_D (fun _ => True) ws
theorem jxM_blind {D : va_G} {tys : List (ClassId × FieldType)} {ws : va_W} {sz : Nat} {av : List Value} : FrameBlind (va_Pc av (jxM D tys ws sz)) := by
  intro a U g mk h
  obtain ⟨q0, q1, q2, q3, q4, q5⟩ := h
  exact ⟨q0, q1.same rfl, q2, q3, va_K.moved (u := U) (U := U.calling g mk a) (Vm.Alike.refl U.vm) q4, q5⟩
/-- a method that writes: the world ws becomes ws' -/
abbrev jxWi (l : Launch) (y : MethodName) (wy : List Cond) (rm : Room) (D : va_G) (tys : List (ClassId × FieldType)) (ws : va_W) (av : List Value) (sz : Nat) (post : Int32 → Prop) (ws' : va_W) : Prop :=
  Met l y wy rm (va_Pc av (jxM D tys ws sz)) (va_Qi (S := Unit) (fun r _ => post r) (fun _ t => va_P D vwCl ws' t.heap) (va_A ws sz)) 0 0 (va_A ws sz)
abbrev jxWl (l : Launch) (y : MethodName) (wy : List Cond) (rm : Room) (D : va_G) (tys : List (ClassId × FieldType)) (ws : va_W) (av : List Value) (sz : Nat) (post : Int64 → Prop) (ws' : va_W) : Prop :=
  Met l y wy rm (va_Pc av (jxM D tys ws sz)) (va_Ql (S := Unit) (fun r _ => post r) (fun _ t => va_P D vwCl ws' t.heap) (va_A ws sz)) 0 0 (va_A ws sz)
abbrev jxWv (l : Launch) (y : MethodName) (wy : List Cond) (rm : Room) (D : va_G) (tys : List (ClassId × FieldType)) (ws : va_W) (av : List Value) (sz : Nat) (ws' : va_W) : Prop :=
  Met l y wy rm (va_Pc av (jxM D tys ws sz)) (va_Qv (S := Unit) (fun _ => True) (fun _ t => va_P D vwCl ws' t.heap) (va_A ws sz)) 0 0 (va_A ws sz)
theorem jxD {A : Nat → Prop} {ws ws' : va_W} (h : va_D A ws) (e : ws'.map Prod.fst = ws.map Prod.fst) : va_D A ws' := by
  have key : ∀ (k : Nat) (q : Nat × va_E), ws'[k]? = some q → ∃ q0, ws[k]? = some q0 ∧ q0.1 = q.1 := by
    intro k q hk
    have h1 : (ws'.map Prod.fst)[k]? = some q.1 := by rw [List.getElem?_map, hk]; rfl
    rw [e, List.getElem?_map] at h1
    cases h2 : ws[k]? with
    | none => rw [h2] at h1; cases h1
    | some q0 => rw [h2] at h1; exact ⟨q0, rfl, Option.some.inj h1⟩
  refine ⟨fun i j p q hi hj hpq => ?_, fun k q hk => ?_⟩
  · obtain ⟨p0, hp0, ep⟩ := key i p hi
    obtain ⟨q0, hq0, eq⟩ := key j q hj
    exact h.1 i j p0 q0 hp0 hq0 (by rw [ep, eq, hpq])
  · obtain ⟨q0, hq0, eq⟩ := key k q hk
    rw [← eq]
    exact h.2 k q0 hq0
/-- behind a call that wrote its cells wc (now wc'): the whole world, each cell in its place -/
theorem jx_join {A0 : Nat → Prop} {D : va_G} {cl : List vw_C} {X X' wc wc' : va_W} {H H1 : Heap} {N : Nat} (hP : va_P D cl X H) (hD : va_D A0 X) (isC isR : List Nat) (hC : isC.map (fun i => X[i]?) = wc.map some) (hC' : isC.map (fun i => X'[i]?) = wc'.map some) (hR : isR.map (fun i => X'[i]?) = isR.map (fun i => X[i]?))
    (hl : X'.length = N) (hcov : ∀ k, k < N → k ∈ isC ∨ k ∈ isR) (hdis : ∀ i ∈ isR, i ∉ isC) (hk : ∀ q : Nat, q < H.size → ¬ va_A wc H.size q → H1[q]? = H[q]?) (hP1 : va_P D cl wc' H1) : va_P D cl X' H1 := by
  intro k q hq
  have hkl : k < N := by rw [← hl]; exact (List.getElem?_eq_some_iff.mp hq).1
  rcases hcov k hkl with h | h
  · obtain ⟨j, hj⟩ := List.getElem?_of_mem h
    have h1 : (isC.map (fun i => X'[i]?))[j]? = some (X'[k]?) := by rw [List.getElem?_map, hj]; rfl
    rw [hC', List.getElem?_map, hq] at h1
    cases h2 : wc'[j]? with
    | none => rw [h2] at h1; cases h1
    | some q2 =>
      rw [h2] at h1
      have h3 : q2 = q := Option.some.inj (Option.some.inj h1)
      subst h3
      exact hP1 j q2 h2
  · obtain ⟨j, hj⟩ := List.getElem?_of_mem h
    have h1 : (isR.map (fun i => X'[i]?))[j]? = some (X'[k]?) := by rw [List.getElem?_map, hj]; rfl
    rw [hR, List.getElem?_map, hj, hq] at h1
    have hX : X[k]? = some q := Option.some.inj h1
    refine (hP k q hX).kept (hk q.1 ((hP k q hX).lt) ?_)
    rintro (⟨k2, e, h2⟩ | h2)
    · have h3 : (isC.map (fun i => X[i]?))[k2]? = some (some (q.1, e)) := by rw [hC, List.getElem?_map, h2]; rfl
      rw [List.getElem?_map] at h3
      cases h4 : isC[k2]? with
      | none => rw [h4] at h3; cases h3
      | some i =>
        rw [h4] at h3
        have h5 : X[i]? = some (q.1, e) := Option.some.inj h3
        have hik := hD.1 k i q (q.1, e) hX h5 rfl
        subst hik
        exact hdis k (List.mem_of_getElem? hj) (List.mem_of_getElem? h4)
    · have := (hP k q hX).lt
      omega
section JXWE
variable {l : Launch} {y : MethodName} {wy wr : List Cond} {rm : Room} {D : va_G} {tys : List (ClassId × FieldType)} {ws ws' : va_W} {av : List Value} {sz : Nat} {post : Int32 → Prop} {postl : Int64 → Prop} {cc : ByteArray} {maxL : Nat}
theorem jxw_enter (hy : plainName y.cls = true) (hw : wy = Cond.code y cc maxL (some .int) :: wr) (hn : (lg_sl av).length ≤ maxL)
    (body : ∀ (p : Program) (e : Env) (s : State) (m : MethodId) (args : Array Value) (below : List Frame) (meth : Method) (c : Code) (Q : State → Prop) (A : Nat → Prop) (ls : Array Slot), p.tables.exec = Jvm.exec → c.code = cc → c.maxLocals = maxL → (∀ w ∈ wy, w.before args s = true) → s.vm.findClass y.cls = some m.cls → jxNW s → va_P D vwCl ws s.heap → va_K D vwCl tys s → va_D A ws → (∀ q, s.heap.size ≤ q → A q) → lv_has ls maxL (lv_args 0 av) →
      (∀ (v : Int32) (H : Heap) (locs : List Loc) (pc : Nat) (ls : Array Slot), decode cc pc = .ok (.ireturn, 1) → post v → va_P D vwCl ws' H → va_S A s.heap H locs → W p l e rm s m args below meth c H locs 0 0 Q (F0 m pc ls [.int v])) → W p l e rm s m args below meth c s.heap [] 0 0 Q (F0 m 0 ls [])) : jxWi l y wy rm D tys ws av sz post ws' := by
  refine Met.ofW (cc := cc) (maxL := maxL) (ret := some .int) hy hw ?_
  intro p e s m args below meth c s₁ B hml hv
  obtain ⟨rfl, hN, rfl, hP, hK, hD⟩ := hv
  have hlocks := B.notSynchronized
  have hr := B.returns
  rw [lg_entry_eq]
  exact body p e s m _ below meth c _ (va_A ws s.heap.size) _ B.exec B.bytes hml (atoms_spec (ws := wy) B.pre) (findClass_of_methodNamed B.named) hN hP hK hD.self (fun q h => Or.inr h) (lv_entry av hn)
    (fun v H locs pc ls hd hp hP' hS => W.iret (v := v) B.exec B.bytes hr (fun t ht _ => ⟨⟨v, (), rfl, hp, by show va_P D vwCl ws' t.heap; rw [ht]; exact hP'⟩, hS.F ht⟩) hS.2.2 hd)
theorem jxw_enterL (hy : plainName y.cls = true) (hw : wy = Cond.code y cc maxL (some .long) :: wr) (hn : (lg_sl av).length ≤ maxL)
    (body : ∀ (p : Program) (e : Env) (s : State) (m : MethodId) (args : Array Value) (below : List Frame) (meth : Method) (c : Code) (Q : State → Prop) (A : Nat → Prop) (ls : Array Slot), p.tables.exec = Jvm.exec → c.code = cc → c.maxLocals = maxL → (∀ w ∈ wy, w.before args s = true) → s.vm.findClass y.cls = some m.cls → jxNW s → va_P D vwCl ws s.heap → va_K D vwCl tys s → va_D A ws → (∀ q, s.heap.size ≤ q → A q) → lv_has ls maxL (lv_args 0 av) →
      (∀ (v : Int64) (H : Heap) (locs : List Loc) (pc : Nat) (ls : Array Slot), decode cc pc = .ok (.lreturn, 1) → postl v → va_P D vwCl ws' H → va_S A s.heap H locs → W p l e rm s m args below meth c H locs 0 0 Q (F0 m pc ls [.long v])) → W p l e rm s m args below meth c s.heap [] 0 0 Q (F0 m 0 ls [])) : jxWl l y wy rm D tys ws av sz postl ws' := by
  refine Met.ofW (cc := cc) (maxL := maxL) (ret := some .long) hy hw ?_
  intro p e s m args below meth c s₁ B hml hv
  obtain ⟨rfl, hN, rfl, hP, hK, hD⟩ := hv
  have hlocks := B.notSynchronized
  have hr := B.returns
  rw [lg_entry_eq]
  exact body p e s m _ below meth c _ (va_A ws s.heap.size) _ B.exec B.bytes hml (atoms_spec (ws := wy) B.pre) (findClass_of_methodNamed B.named) hN hP hK hD.self (fun q h => Or.inr h) (lv_entry av hn)
    (fun v H locs pc ls hd hp hP' hS => W.lret (v := v) B.exec B.bytes hr (fun t ht _ => ⟨⟨v, (), rfl, hp, by show va_P D vwCl ws' t.heap; rw [ht]; exact hP'⟩, hS.F ht⟩) hS.2.2 hd)
theorem jxw_enterZ (hy : plainName y.cls = true) (hw : wy = Cond.code y cc maxL (some .boolean) :: wr) (hn : (lg_sl av).length ≤ maxL)
    (body : ∀ (p : Program) (e : Env) (s : State) (m : MethodId) (args : Array Value) (below : List Frame) (meth : Method) (c : Code) (Q : State → Prop) (A : Nat → Prop) (ls : Array Slot), p.tables.exec = Jvm.exec → c.code = cc → c.maxLocals = maxL → (∀ w ∈ wy, w.before args s = true) → s.vm.findClass y.cls = some m.cls → jxNW s → va_P D vwCl ws s.heap → va_K D vwCl tys s → va_D A ws → (∀ q, s.heap.size ≤ q → A q) → lv_has ls maxL (lv_args 0 av) →
      (∀ (v : Bool) (H : Heap) (locs : List Loc) (pc : Nat) (ls : Array Slot), decode cc pc = .ok (.ireturn, 1) → post (nI (jB v)) → va_P D vwCl ws' H → va_S A s.heap H locs → W p l e rm s m args below meth c H locs 0 0 Q (F0 m pc ls [.int (nI (jB v))])) → W p l e rm s m args below meth c s.heap [] 0 0 Q (F0 m 0 ls [])) : jxWi l y wy rm D tys ws av sz post ws' := by
  refine Met.ofW (cc := cc) (maxL := maxL) (ret := some .boolean) hy hw ?_
  intro p e s m args below meth c s₁ B hml hv
  obtain ⟨rfl, hN, rfl, hP, hK, hD⟩ := hv
  have hlocks := B.notSynchronized
  have hr := B.returns
  rw [lg_entry_eq]
  exact body p e s m _ below meth c _ (va_A ws s.heap.size) _ B.exec B.bytes hml (atoms_spec (ws := wy) B.pre) (findClass_of_methodNamed B.named) hN hP hK hD.self (fun q h => Or.inr h) (lv_entry av hn)
    (fun v H locs pc ls hd hp hP' hS => W.zret (v := nI (jB v)) B.exec B.bytes hr (by cases v <;> rfl) (fun t ht _ => ⟨⟨_, (), rfl, hp, by show va_P D vwCl ws' t.heap; rw [ht]; exact hP'⟩, hS.F ht⟩) hS.2.2 hd)
theorem jxw_enterV (hy : plainName y.cls = true) (hw : wy = Cond.code y cc maxL none :: wr) (hn : (lg_sl av).length ≤ maxL)
    (body : ∀ (p : Program) (e : Env) (s : State) (m : MethodId) (args : Array Value) (below : List Frame) (meth : Method) (c : Code) (Q : State → Prop) (A : Nat → Prop) (ls : Array Slot), p.tables.exec = Jvm.exec → c.code = cc → c.maxLocals = maxL → (∀ w ∈ wy, w.before args s = true) → s.vm.findClass y.cls = some m.cls → jxNW s → va_P D vwCl ws s.heap → va_K D vwCl tys s → va_D A ws → (∀ q, s.heap.size ≤ q → A q) → lv_has ls maxL (lv_args 0 av) →
      (∀ (H : Heap) (locs : List Loc) (pc : Nat) (ls : Array Slot), decode cc pc = .ok (.return_, 1) → va_P D vwCl ws' H → va_S A s.heap H locs → W p l e rm s m args below meth c H locs 0 0 Q (F0 m pc ls [])) → W p l e rm s m args below meth c s.heap [] 0 0 Q (F0 m 0 ls [])) : jxWv l y wy rm D tys ws av sz ws' := by
  refine Met.ofW (cc := cc) (maxL := maxL) (ret := none) hy hw ?_
  intro p e s m args below meth c s₁ B hml hv
  obtain ⟨rfl, hN, rfl, hP, hK, hD⟩ := hv
  have hlocks := B.notSynchronized
  have hr := B.returns
  rw [lg_entry_eq]
  exact body p e s m _ below meth c _ (va_A ws s.heap.size) _ B.exec B.bytes hml (atoms_spec (ws := wy) B.pre) (findClass_of_methodNamed B.named) hN hP hK hD.self (fun q h => Or.inr h) (lv_entry av hn)
    (fun H locs pc ls hd hP' hS => W.vret B.exec B.bytes hr (fun t ht _ => ⟨⟨(), rfl, trivial, by show va_P D vwCl ws' t.heap; rw [ht]; exact hP'⟩, hS.F ht⟩) hS.2.2 hd)
end JXWE
section JXWC
variable {p : Program} {l : Launch} {e : Env} {R : Room} {s : State} {m : MethodId} {args : Array Value} {below : List Frame} {meth : Method} {c : Code} {H H0 : Heap} {locs : List Loc} {cells slots : Nat} {Q : State → Prop} {A0 : Nat → Prop}
variable {cc bytes : ByteArray} {pc nL maxL index n N : Nat} {ls : Array Slot} {rest st0 As : List Value} {Ts wy : List Cond} {own C : String} {y : MethodName} {ret : Option FieldType} {rm : Room} {D : va_G} {tc : List (ClassId × FieldType)} {X X' wc wc' wr : va_W} {post : Int32 → Prop} {postl : Int64 → Prop} {b : Nat}
theorem jxw_free (hD : va_D A0 X) (hS : va_S A0 H0 H locs) (hA : ∀ q, H0.size ≤ q → A0 q) (isC : List Nat) (hC : isC.map (fun i => X[i]?) = wc.map some) : ∀ q, va_A wc H.size q → A0 q := va_free hD hS hA isC hC
/-- a call of a method of an object that writes, and answers nothing -/
theorem jxw_callV (S : CallFix p m c cc nL s args Ts own) (hM : jxWv l y wy rm D tc wc (.ref b :: As) H.size wc') (cw : CallW R s args own C index y bytes maxL ret wy rm 0 0 n) (hN : jxNW s) (hP : va_P D vwCl X H) (hD : va_D A0 X) (hK : va_K D vwCl tc s) (hS : va_S A0 H0 H locs) (hA : ∀ q, H0.size ≤ q → A0 q)
    (isC isR : List Nat) (hC : isC.map (fun i => X[i]?) = wc.map some) (hnd : va_nd isC = true) (hC' : isC.map (fun i => X'[i]?) = wc'.map some) (hR : isR.map (fun i => X'[i]?) = wr.map some) (hR0 : isR.map (fun i => X[i]?) = wr.map some) (hl : X'.length = N) (hcov : ∀ k, k < N → k ∈ isC ∨ k ∈ isR) (hdis : ∀ i ∈ isR, i ∉ isC)
    (q0 ci : Nat) {q : vw_C} {vs : List Value} (hcl : vwCl[ci]? = some q) (hCn : q.1 = C) (he : X[q0]? = some (b, .inr (ci, vs))) (hKX : va_K D vwCl tc s) (hn : As.length = n) (hsize : ls.size = nL) (hstack : st0 = As.reverse ++ .ref b :: rest) (hW : (rest.map fun v => v.category).sum ≤ 8) (hdg : decode cc pc = .ok (.invokevirtual index, 3)) (hf : cells ≤ R.cells ∧ slots ≤ R.slots)
    (kk : ∀ (H1 : Heap) (locs1 : List Loc), va_P D vwCl X' H1 → va_S A0 H0 H1 locs1 → W p l e R s m args below meth c H1 locs1 cells slots Q (F0 m (pc + 3) ls rest)) : W p l e R s m args below meth c H locs cells slots Q (F0 m pc ls st0) := by
  subst hCn
  have hF := jxw_free hD hS hA isC hC
  have hPc : va_P D vwCl wc H := by
    intro k q hk
    have h1 : (isC.map (fun i => X[i]?))[k]? = some (some q) := by rw [hC, List.getElem?_map, hk]; rfl
    rw [List.getElem?_map] at h1
    cases h2 : isC[k]? with
    | none => rw [h2] at h1; cases h1
    | some i => rw [h2] at h1; exact hP i q (Option.some.inj h1)
  have hDc : va_D A0 wc := hD.sub isC hnd hC
  refine va_callv (va_runV S hM cw ⟨jxM_blind, va_recv hKX hP hcl he, fun U hU hW' => ⟨rfl, hN.warm hW', by rw [hU], by rw [hU]; exact hPc, va_K.moved hW'.alike hK, hDc.weaken (fun _ _ _ _ => trivial)⟩⟩ rfl hn hsize hstack (lv_room hW) hdg hf) hS (fun q _ h => hF q h) hF (fun u t H1 locs1 ht hvm hw hB hz1 hk1 hS1 => ?_)
  have hB : va_P D vwCl wc' t.heap := hB
  rw [ht] at hB
  exact kk H1 locs1 (jx_join hP hD isC isR hC hC' (hR.trans hR0.symm) hl hcov hdis hk1 hB) hS1
/-- .. and answers a number -/
theorem jxw_callVi (S : CallFix p m c cc nL s args Ts own) (hM : jxWi l y wy rm D tc wc (.ref b :: As) H.size post wc') (cw : CallW R s args own C index y bytes maxL ret wy rm 0 0 n) (hN : jxNW s) (hP : va_P D vwCl X H) (hD : va_D A0 X) (hK : va_K D vwCl tc s) (hS : va_S A0 H0 H locs) (hA : ∀ q, H0.size ≤ q → A0 q)
    (isC isR : List Nat) (hC : isC.map (fun i => X[i]?) = wc.map some) (hnd : va_nd isC = true) (hC' : isC.map (fun i => X'[i]?) = wc'.map some) (hR : isR.map (fun i => X'[i]?) = wr.map some) (hR0 : isR.map (fun i => X[i]?) = wr.map some) (hl : X'.length = N) (hcov : ∀ k, k < N → k ∈ isC ∨ k ∈ isR) (hdis : ∀ i ∈ isR, i ∉ isC)
    (q0 ci : Nat) {q : vw_C} {vs : List Value} (hcl : vwCl[ci]? = some q) (hCn : q.1 = C) (he : X[q0]? = some (b, .inr (ci, vs))) (hKX : va_K D vwCl tc s) (hn : As.length = n) (hsize : ls.size = nL) (hstack : st0 = As.reverse ++ .ref b :: rest) (hW : (rest.map fun v => v.category).sum ≤ 8) (hdg : decode cc pc = .ok (.invokevirtual index, 3)) (hf : cells ≤ R.cells ∧ slots ≤ R.slots)
    (kk : ∀ (r : Int32) (H1 : Heap) (locs1 : List Loc), post r → va_P D vwCl X' H1 → va_S A0 H0 H1 locs1 → W p l e R s m args below meth c H1 locs1 cells slots Q (F0 m (pc + 3) ls (.int r :: rest))) : W p l e R s m args below meth c H locs cells slots Q (F0 m pc ls st0) := by
  subst hCn
  have hF := jxw_free hD hS hA isC hC
  have hPc : va_P D vwCl wc H := by
    intro k q hk
    have h1 : (isC.map (fun i => X[i]?))[k]? = some (some q) := by rw [hC, List.getElem?_map, hk]; rfl
    rw [List.getElem?_map] at h1
    cases h2 : isC[k]? with
    | none => rw [h2] at h1; cases h1
    | some i => rw [h2] at h1; exact hP i q (Option.some.inj h1)
  have hDc : va_D A0 wc := hD.sub isC hnd hC
  refine va_calli (va_runV S hM cw ⟨jxM_blind, va_recv hKX hP hcl he, fun U hU hW' => ⟨rfl, hN.warm hW', by rw [hU], by rw [hU]; exact hPc, va_K.moved hW'.alike hK, hDc.weaken (fun _ _ _ _ => trivial)⟩⟩ rfl hn hsize hstack (lv_room hW) hdg hf) hS (fun q _ h => hF q h) hF (fun r u t H1 locs1 ht hvm hw hB hz1 hk1 hS1 => ?_)
  have hB : va_P D vwCl wc' t.heap := hB
  rw [ht] at hB
  exact kk r H1 locs1 hw (jx_join hP hD isC isR hC hC' (hR.trans hR0.symm) hl hcov hdis hk1 hB) hS1
/-- .. and answers a long number -/
theorem jxw_callVl (S : CallFix p m c cc nL s args Ts own) (hM : jxWl l y wy rm D tc wc (.ref b :: As) H.size postl wc') (cw : CallW R s args own C index y bytes maxL ret wy rm 0 0 n) (hN : jxNW s) (hP : va_P D vwCl X H) (hD : va_D A0 X) (hK : va_K D vwCl tc s) (hS : va_S A0 H0 H locs) (hA : ∀ q, H0.size ≤ q → A0 q)
    (isC isR : List Nat) (hC : isC.map (fun i => X[i]?) = wc.map some) (hnd : va_nd isC = true) (hC' : isC.map (fun i => X'[i]?) = wc'.map some) (hR : isR.map (fun i => X'[i]?) = wr.map some) (hR0 : isR.map (fun i => X[i]?) = wr.map some) (hl : X'.length = N) (hcov : ∀ k, k < N → k ∈ isC ∨ k ∈ isR) (hdis : ∀ i ∈ isR, i ∉ isC)
    (q0 ci : Nat) {q : vw_C} {vs : List Value} (hcl : vwCl[ci]? = some q) (hCn : q.1 = C) (he : X[q0]? = some (b, .inr (ci, vs))) (hKX : va_K D vwCl tc s) (hn : As.length = n) (hsize : ls.size = nL) (hstack : st0 = As.reverse ++ .ref b :: rest) (hW : (rest.map fun v => v.category).sum ≤ 8) (hdg : decode cc pc = .ok (.invokevirtual index, 3)) (hf : cells ≤ R.cells ∧ slots ≤ R.slots)
    (kk : ∀ (r : Int64) (H1 : Heap) (locs1 : List Loc), postl r → va_P D vwCl X' H1 → va_S A0 H0 H1 locs1 → W p l e R s m args below meth c H1 locs1 cells slots Q (F0 m (pc + 3) ls (.long r :: rest))) : W p l e R s m args below meth c H locs cells slots Q (F0 m pc ls st0) := by
  subst hCn
  have hF := jxw_free hD hS hA isC hC
  have hPc : va_P D vwCl wc H := by
    intro k q hk
    have h1 : (isC.map (fun i => X[i]?))[k]? = some (some q) := by rw [hC, List.getElem?_map, hk]; rfl
    rw [List.getElem?_map] at h1
    cases h2 : isC[k]? with
    | none => rw [h2] at h1; cases h1
    | some i => rw [h2] at h1; exact hP i q (Option.some.inj h1)
  have hDc : va_D A0 wc := hD.sub isC hnd hC
  refine va_calll (va_runV S hM cw ⟨jxM_blind, va_recv hKX hP hcl he, fun U hU hW' => ⟨rfl, hN.warm hW', by rw [hU], by rw [hU]; exact hPc, va_K.moved hW'.alike hK, hDc.weaken (fun _ _ _ _ => trivial)⟩⟩ rfl hn hsize hstack (lv_room hW) hdg hf) hS (fun q _ h => hF q h) hF (fun r u t H1 locs1 ht hvm hw hB hz1 hk1 hS1 => ?_)
  have hB : va_P D vwCl wc' t.heap := hB
  rw [ht] at hB
  exact kk r H1 locs1 hw (jx_join hP hD isC isR hC hC' (hR.trans hR0.symm) hl hcov hdis hk1 hB) hS1
end JXWC
/-! own rows: places of arrays, and of arrays of arrays whose rows lie one behind the other at the world's end -/
def jxUp {α : Type} (f : Nat → α) (k : Nat) (v : α) : Nat → α := fun j => if j = k then v else f j
def jxUp2 {α : Type} (f : Nat → Nat → α) (i j : Nat) (v : α) : Nat → Nat → α := fun a b => if a = i ∧ b = j then v else f a b
theorem jxUp_s {α : Type} (f : Nat → α) (k : Nat) (v : α) : jxUp f k v k = v := if_pos rfl
theorem jxUp_n {α : Type} (f : Nat → α) {k j : Nat} (v : α) (h : j ≠ k) : jxUp f k v j = f j := if_neg h
abbrev jRN (cA : ClassId) (N K : Nat) (r : Nat → Nat) (F : Nat → Nat → Nat) : va_W := (List.range N).map (fun i => (r i, .inl (cA, K, .inl (fun j => nI (F i j)))))
abbrev jRI (cA : ClassId) (N K : Nat) (r : Nat → Nat) (F : Nat → Nat → Int32) : va_W := (List.range N).map (fun i => (r i, .inl (cA, K, .inl (F i))))
abbrev jRL (cA : ClassId) (N K : Nat) (r : Nat → Nat) (F : Nat → Nat → Int64) : va_W := (List.range N).map (fun i => (r i, .inl (cA, K, .inr (.inl (F i)))))
theorem jx_rows_get {X : va_W} {N : Nat} {f : Nat → Nat × va_E} {i : Nat} (hi : i < N) : (X ++ (List.range N).map f)[X.length + i]? = some (f i) := by
  rw [List.getElem?_append_right (Nat.le_add_right _ _), Nat.add_sub_cancel_left, List.getElem?_map, List.getElem?_range hi]
  rfl
theorem jx_rows_set {X : va_W} {N : Nat} {f f' : Nat → Nat × va_E} {i : Nat} (hi : i < N) (h : ∀ k, k ≠ i → f' k = f k) : (X ++ (List.range N).map f).set (X.length + i) (f' i) = X ++ (List.range N).map f' := by
  apply List.ext_getElem?
  intro k
  rw [List.getElem?_set]
  by_cases hk : X.length + i = k
  · subst hk
    rw [if_pos rfl, if_pos (by simp; omega), jx_rows_get hi]
  · rw [if_neg hk]
    by_cases h1 : k < X.length
    · rw [List.getElem?_append_left h1, List.getElem?_append_left h1]
    · obtain ⟨d, rfl⟩ := Nat.exists_eq_add_of_le (Nat.not_lt.mp h1)
      rw [List.getElem?_append_right (by omega), List.getElem?_append_right (by omega), Nat.add_sub_cancel_left, List.getElem?_map, List.getElem?_map]
      by_cases hd : d < N
      · rw [List.getElem?_range hd]
        simp [h d (by omega)]
      · rw [List.getElem?_eq_none (by simp; omega)]
        rfl
section JXA
variable {p : Program} {l : Launch} {e : Env} {R : Room} {s : State} {m : MethodId} {args : Array Value} {below : List Frame} {meth : Method} {c : Code} {H H0 : Heap} {locs : List Loc} {cells slots : Nat} {Q : State → Prop} {A : Nat → Prop}
variable {cc : ByteArray} {pc : Nat} {ls : Array Slot} {rest : List Value} {D : va_G} {tys : List (ClassId × FieldType)} {ws X : va_W} {cA : ClassId} {N K : Nat} {r : Nat → Nat}
theorem jx_iastI (hexec : p.tables.exec = Jvm.exec) (hb : c.code = cc) (hK : va_K D vwCl tys s) (hP : va_P D vwCl ws H) (hD : va_D A ws) (hS : va_S A H0 H locs) (q0 t0 : Nat) {a : Nat} {f : Nat → Int32} (ha : ws[q0]? = some (a, .inl (cA, N, .inl f))) (ht : tys[t0]? = some (cA, .int)) {j : Nat} {x : Int32} (hj : j < N) (hN : N < 2 ^ 31) (hdg : decode cc pc = .ok (.iastore, 1))
    (kk : ∀ (H1 : Heap) (locs1 : List Loc), va_P D vwCl (ws.set q0 (a, .inl (cA, N, .inl (jxUp f j x)))) H1 → va_D A (ws.set q0 (a, .inl (cA, N, .inl (jxUp f j x)))) → va_S A H0 H1 locs1 → W p l e R s m args below meth c H1 locs1 cells slots Q (F0 m (pc + 1) ls rest)) : W p l e R s m args below meth c H locs cells slots Q (F0 m pc ls (.int x :: .int (nI j) :: .ref a :: rest)) := by
  have e : upd f (nI j).toNatClampNeg x = jxUp f j x := by rw [nI_clamp (Nat.lt_trans hj hN)]; rfl
  refine va_iast hexec hb hK hP hD hS q0 t0 ha ht (vp_in_nI hj hN) hdg (fun H1 l1 h1 h2 h3 => ?_)
  rw [e] at h1 h2
  exact kk H1 l1 h1 h2 h3
theorem jx_iastN (hexec : p.tables.exec = Jvm.exec) (hb : c.code = cc) (hK : va_K D vwCl tys s) (hP : va_P D vwCl ws H) (hD : va_D A ws) (hS : va_S A H0 H locs) (q0 t0 : Nat) {a : Nat} {f : Nat → Nat} (ha : ws[q0]? = some (a, .inl (cA, N, .inl (fun j => nI (f j))))) (ht : tys[t0]? = some (cA, .int)) {j x : Nat} (hj : j < N) (hN : N < 2 ^ 31) (hdg : decode cc pc = .ok (.iastore, 1))
    (kk : ∀ (H1 : Heap) (locs1 : List Loc), va_P D vwCl (ws.set q0 (a, .inl (cA, N, .inl (fun i => nI (jxUp f j x i))))) H1 → va_D A (ws.set q0 (a, .inl (cA, N, .inl (fun i => nI (jxUp f j x i))))) → va_S A H0 H1 locs1 → W p l e R s m args below meth c H1 locs1 cells slots Q (F0 m (pc + 1) ls rest)) : W p l e R s m args below meth c H locs cells slots Q (F0 m pc ls (.int (nI x) :: .int (nI j) :: .ref a :: rest)) := by
  have e : jxUp (fun j => nI (f j)) j (nI x) = fun i => nI (jxUp f j x i) := by
    funext i
    unfold jxUp
    split <;> rfl
  refine jx_iastI hexec hb hK hP hD hS q0 t0 ha ht hj hN hdg (fun H1 l1 h1 h2 h3 => ?_)
  rw [e] at h1 h2
  exact kk H1 l1 h1 h2 h3
theorem jx_aald (hexec : p.tables.exec = Jvm.exec) (hb : c.code = cc) (hK : va_K D vwCl tys s) (hP : va_P D vwCl ws H) (q0 t0 : Nat) {a : Nat} {ty : FieldType} (ha : ws[q0]? = some (a, .inl (cA, N, .inr (.inr (.inr (.inr (fun i => if i < N then some (r i) else none))))))) (ht : tys[t0]? = some (cA, .array ty)) {j : Nat} (hj : j < N) (hN : N < 2 ^ 31) (hdg : decode cc pc = .ok (.aaload, 1))
    (kk : W p l e R s m args below meth c H locs cells slots Q (F0 m (pc + 1) ls (.ref (r j) :: rest))) : W p l e R s m args below meth c H locs cells slots Q (F0 m pc ls (.int (nI j) :: .ref a :: rest)) := by
  have hin := vp_in_nI hj hN
  have hlt : (nI j).toNatClampNeg < N := by rw [nI_clamp (Nat.lt_trans hj hN)]; exact hj
  have ev : va_rf (if (nI j).toNatClampNeg < N then some (r (nI j).toNatClampNeg) else none) = .ref (r j) := by
    rw [if_pos hlt, nI_clamp (Nat.lt_trans hj hN)]
    rfl
  refine W.aald (v := va_rf (if (nI j).toNatClampNeg < N then some (r (nI j).toNatClampNeg) else none)) (ty := .array ty) hexec hb (hP q0 _ ha) ((hK.2 t0 _ ht).1 N (fun i => va_rf (if i < N then some (r i) else none))) rfl (fun q => by cases q) (by show ¬ (nI j < 0 ∨ (arrV _ _ _).slots.size ≤ _); rw [arrV_size]; exact hin) (by show (arrV _ _ _).slots[_]? = _; rw [arrV_read _ _ hlt]) rfl rfl hdg ?_
  rw [ev]
  exact kk
theorem jx_iald2N (hexec : p.tables.exec = Jvm.exec) (hb : c.code = cc) (hK : va_K D vwCl tys s) {F : Nat → Nat → Nat} (hP : va_P D vwCl (X ++ jRN cA N K r F) H) (t0 : Nat) (ht : tys[t0]? = some (cA, .int)) {i j : Nat} (hi : i < N) (hj : j < K) (hKb : K < 2 ^ 31) (hdg : decode cc pc = .ok (.iaload, 1))
    (kk : W p l e R s m args below meth c H locs cells slots Q (F0 m (pc + 1) ls (.int (nI (F i j)) :: rest))) : W p l e R s m args below meth c H locs cells slots Q (F0 m pc ls (.int (nI j) :: .ref (r i) :: rest)) :=
  jx_iald hexec hb hK hP (X.length + i) t0 (jx_rows_get (f := fun i => (r i, .inl (cA, K, .inl (fun j => nI (F i j))))) hi) ht hj hKb hdg kk
theorem jx_iald2I (hexec : p.tables.exec = Jvm.exec) (hb : c.code = cc) (hK : va_K D vwCl tys s) {F : Nat → Nat → Int32} (hP : va_P D vwCl (X ++ jRI cA N K r F) H) (t0 : Nat) (ht : tys[t0]? = some (cA, .int)) {i j : Nat} (hi : i < N) (hj : j < K) (hKb : K < 2 ^ 31) (hdg : decode cc pc = .ok (.iaload, 1))
    (kk : W p l e R s m args below meth c H locs cells slots Q (F0 m (pc + 1) ls (.int (F i j) :: rest))) : W p l e R s m args below meth c H locs cells slots Q (F0 m pc ls (.int (nI j) :: .ref (r i) :: rest)) :=
  jx_iald hexec hb hK hP (X.length + i) t0 (jx_rows_get (f := fun i => (r i, .inl (cA, K, .inl (F i)))) hi) ht hj hKb hdg kk
theorem jx_iast2N (hexec : p.tables.exec = Jvm.exec) (hb : c.code = cc) (hK : va_K D vwCl tys s) {F : Nat → Nat → Nat} (hP : va_P D vwCl (X ++ jRN cA N K r F) H) (hD : va_D A (X ++ jRN cA N K r F)) (hS : va_S A H0 H locs) (t0 : Nat) (ht : tys[t0]? = some (cA, .int)) {i j x : Nat} (hi : i < N) (hj : j < K) (hKb : K < 2 ^ 31) (hdg : decode cc pc = .ok (.iastore, 1))
    (kk : ∀ (H1 : Heap) (locs1 : List Loc), va_P D vwCl (X ++ jRN cA N K r (jxUp2 F i j x)) H1 → va_D A (X ++ jRN cA N K r (jxUp2 F i j x)) → va_S A H0 H1 locs1 → W p l e R s m args below meth c H1 locs1 cells slots Q (F0 m (pc + 1) ls rest)) : W p l e R s m args below meth c H locs cells slots Q (F0 m pc ls (.int (nI x) :: .int (nI j) :: .ref (r i) :: rest)) := by
  refine jx_iastN hexec hb hK hP hD hS (X.length + i) t0 (jx_rows_get (f := fun i => (r i, .inl (cA, K, .inl (fun j => nI (F i j))))) hi) ht hj hKb hdg (fun H1 l1 h1 h2 h3 => ?_)
  have e : (X ++ jRN cA N K r F).set (X.length + i) (r i, .inl (cA, K, .inl (fun b => nI (jxUp (F i) j x b)))) = X ++ jRN cA N K r (jxUp2 F i j x) := by
    have h := jx_rows_set (X := X) (f := fun i => (r i, .inl (cA, K, .inl (fun j => nI (F i j))))) (f' := fun a => (r a, .inl (cA, K, .inl (fun b => nI (jxUp2 F i j x a b))))) hi (fun k hk => by simp [jxUp2, hk])
    have ef : (fun b => nI (jxUp (F i) j x b)) = fun b => nI (jxUp2 F i j x i b) := by
      funext b
      simp [jxUp, jxUp2]
    rw [← h, ef]
  rw [e] at h1 h2
  exact kk H1 l1 h1 h2 h3
theorem jx_iast2I (hexec : p.tables.exec = Jvm.exec) (hb : c.code = cc) (hK : va_K D vwCl tys s) {F : Nat → Nat → Int32} (hP : va_P D vwCl (X ++ jRI cA N K r F) H) (hD : va_D A (X ++ jRI cA N K r F)) (hS : va_S A H0 H locs) (t0 : Nat) (ht : tys[t0]? = some (cA, .int)) {i j : Nat} {x : Int32} (hi : i < N) (hj : j < K) (hKb : K < 2 ^ 31) (hdg : decode cc pc = .ok (.iastore, 1))
    (kk : ∀ (H1 : Heap) (locs1 : List Loc), va_P D vwCl (X ++ jRI cA N K r (jxUp2 F i j x)) H1 → va_D A (X ++ jRI cA N K r (jxUp2 F i j x)) → va_S A H0 H1 locs1 → W p l e R s m args below meth c H1 locs1 cells slots Q (F0 m (pc + 1) ls rest)) : W p l e R s m args below meth c H locs cells slots Q (F0 m pc ls (.int x :: .int (nI j) :: .ref (r i) :: rest)) := by
  refine jx_iastI hexec hb hK hP hD hS (X.length + i) t0 (jx_rows_get (f := fun i => (r i, .inl (cA, K, .inl (F i)))) hi) ht hj hKb hdg (fun H1 l1 h1 h2 h3 => ?_)
  have e : (X ++ jRI cA N K r F).set (X.length + i) (r i, .inl (cA, K, .inl (jxUp (F i) j x))) = X ++ jRI cA N K r (jxUp2 F i j x) := by
    have h := jx_rows_set (X := X) (f := fun i => (r i, .inl (cA, K, .inl (F i)))) (f' := fun a => (r a, .inl (cA, K, .inl (jxUp2 F i j x a)))) hi (fun k hk => by rw [show jxUp2 F i j x k = F k from funext fun b => by simp [jxUp2, hk]])
    have ef : jxUp (F i) j x = jxUp2 F i j x i := by
      funext b
      simp [jxUp, jxUp2]
    rw [← h, ef]
  rw [e] at h1 h2
  exact kk H1 l1 h1 h2 h3
end JXA
