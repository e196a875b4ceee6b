/-! own rows: contracts over a whole world; a contract of some cells, seen over all; calls by such contracts -/
abbrev jzCi {U : Type} (l : Launch) (y : MethodName) (wy : List Cond) (rm : Room) (D : va_G) (tys : List (ClassId × FieldType)) (X : va_W) (av : List Value) (sz : Nat) (XX : U → va_W) (post : Int32 → U → Prop) (mc ms : Nat) : Prop :=
  Met l y wy rm (va_Pc av (jxM D tys X sz)) (va_Qi (S := U) post (fun u t => va_P D vwCl (XX u) t.heap) (va_A X sz)) mc ms (va_A X sz)
abbrev jzCl {U : Type} (l : Launch) (y : MethodName) (wy : List Cond) (rm : Room) (D : va_G) (tys : List (ClassId × FieldType)) (X : va_W) (av : List Value) (sz : Nat) (XX : U → va_W) (post : Int64 → U → Prop) (mc ms : Nat) : Prop :=
  Met l y wy rm (va_Pc av (jxM D tys X sz)) (va_Ql (S := U) post (fun u t => va_P D vwCl (XX u) t.heap) (va_A X sz)) mc ms (va_A X sz)
abbrev jzCv {U : Type} (l : Launch) (y : MethodName) (wy : List Cond) (rm : Room) (D : va_G) (tys : List (ClassId × FieldType)) (X : va_W) (av : List Value) (sz : Nat) (XX : U → va_W) (post : U → Prop) (mc ms : Nat) : Prop :=
  Met l y wy rm (va_Pc av (jxM D tys X sz)) (va_Qv (S := U) post (fun u t => va_P D vwCl (XX u) t.heap) (va_A X sz)) mc ms (va_A X sz)
section JZL
variable {l : Launch} {y : MethodName} {wy : List Cond} {rm : Room} {D : va_G} {tc tys : List (ClassId × FieldType)} {wc wc' X : va_W} {av : List Value} {sz N : Nat} {post : Int32 → Prop} {postl : Int64 → Prop} {U : Type} {XX : U → va_W}
theorem jz_subP {H : Heap} (hP : va_P D vwCl X H) (isC : List Nat) (hC : isC.map (fun i => X[i]?) = wc.map some) : va_P D vwCl wc H := by
  intro k q hk
  have h1 : (isC.map (fun i => X[i]?))[k]? = some (some q) := by rw [hC, List.getElem?_map, hk]; rfl
  rw [List.getElem?_map] at h1
  cases h2 : isC[k]? with
  | none => rw [h2] at h1; cases h1
  | some i => rw [h2] at h1; exact hP i q (Option.some.inj h1)
theorem jz_subA (isC : List Nat) (hC : isC.map (fun i => X[i]?) = wc.map some) {q : Nat} (h : va_A wc sz q) : va_A X sz q := by
  rcases h with ⟨k, e, h⟩ | h
  · left
    have h1 : (isC.map (fun i => X[i]?))[k]? = some (some (q, e)) := by rw [hC, List.getElem?_map, h]; rfl
    rw [List.getElem?_map] at h1
    cases h2 : isC[k]? with
    | none => rw [h2] at h1; cases h1
    | some i => rw [h2] at h1; exact ⟨i, e, Option.some.inj h1⟩
  · exact Or.inr h
theorem jz_liftI {post' : Int32 → U → Prop} (u : U) (hM : jxWi l y wy rm D tc wc av sz post wc') (isC isR : List Nat) (hC : isC.map (fun i => X[i]?) = wc.map some) (hnd : va_nd isC = true) (hC' : isC.map (fun i => (XX u)[i]?) = wc'.map some) (hR : isR.map (fun i => (XX u)[i]?) = isR.map (fun i => X[i]?)) (hl : (XX u).length = N) (hcov : ∀ k, k < N → k ∈ isC ∨ k ∈ isR) (hdis : ∀ i ∈ isR, i ∉ isC) (hKs : ∀ s, va_K D vwCl tys s → va_K D vwCl tc s) (hp : ∀ r, post r → post' r u) : jzCi l y wy rm D tys X av sz XX post' 0 0 := by
  intro p e ha hc hk s m args below hf happ hPc hK0
  obtain ⟨hargs, hN, hsz, hP, hK, hD⟩ := hPc
  subst hsz
  obtain ⟨n, o, h1, h2, h3, ⟨⟨r, -, ho, hpost, hB⟩, hz, hF⟩, L, hFr, hL⟩ := hM p e ha hc hk s m args below hf happ ⟨hargs, hN, rfl, jz_subP hP isC hC, hKs s hK, hD.sub isC hnd hC⟩ hK0
  exact ⟨n, o, h1, h2, h3, ⟨⟨r, u, ho, hp r hpost, jx_join hP hD isC isR hC hC' hR hl hcov hdis hF hB⟩, hz, fun q hq hA => hF q hq (fun z => hA (jz_subA isC hC z))⟩, L, hFr, fun q hq => jz_subA isC hC (hL q hq)⟩
theorem jz_liftL {post' : Int64 → U → Prop} (u : U) (hM : jxWl l y wy rm D tc wc av sz postl wc') (isC isR : List Nat) (hC : isC.map (fun i => X[i]?) = wc.map some) (hnd : va_nd isC = true) (hC' : isC.map (fun i => (XX u)[i]?) = wc'.map some) (hR : isR.map (fun i => (XX u)[i]?) = isR.map (fun i => X[i]?)) (hl : (XX u).length = N) (hcov : ∀ k, k < N → k ∈ isC ∨ k ∈ isR) (hdis : ∀ i ∈ isR, i ∉ isC) (hKs : ∀ s, va_K D vwCl tys s → va_K D vwCl tc s) (hp : ∀ r, postl r → post' r u) : jzCl l y wy rm D tys X av sz XX post' 0 0 := by
  intro p e ha hc hk s m args below hf happ hPc hK0
  obtain ⟨hargs, hN, hsz, hP, hK, hD⟩ := hPc
  subst hsz
  obtain ⟨n, o, h1, h2, h3, ⟨⟨r, -, ho, hpost, hB⟩, hz, hF⟩, L, hFr, hL⟩ := hM p e ha hc hk s m args below hf happ ⟨hargs, hN, rfl, jz_subP hP isC hC, hKs s hK, hD.sub isC hnd hC⟩ hK0
  exact ⟨n, o, h1, h2, h3, ⟨⟨r, u, ho, hp r hpost, jx_join hP hD isC isR hC hC' hR hl hcov hdis hF hB⟩, hz, fun q hq hA => hF q hq (fun z => hA (jz_subA isC hC z))⟩, L, hFr, fun q hq => jz_subA isC hC (hL q hq)⟩
/-- a method that reads alone -/
theorem jz_liftR {post' : Int32 → U → Prop} (u : U) (hX : XX u = X) (hM : jxRO l y wy rm D tc wc av post) (isC : List Nat) (hC : isC.map (fun i => X[i]?) = wc.map some) (hKs : ∀ s, va_K D vwCl tys s → va_K D vwCl tc s) (hp : ∀ r, post r → post' r u) : jzCi l y wy rm D tys X av sz XX post' 0 0 := by
  intro p e ha hc hk s m args below hf happ hPc hK0
  obtain ⟨hargs, hN, hsz, hP, hK, hD⟩ := hPc
  subst hsz
  obtain ⟨n, o, h1, h2, h3, ⟨r, ho, hpost, hB⟩, L, hFr, hL⟩ := hM p e ha hc hk s m args below hf happ ⟨hargs, hN, jz_subP hP isC hC, hKs s hK⟩ hK0
  refine ⟨n, o, h1, h2, h3, ⟨⟨r, u, ho, hp r hpost, ?_⟩, ?_, fun q _ _ => by rw [hB]⟩, L, hFr, fun q hq => (hL q hq).elim⟩
  · show va_P D vwCl (XX u) _
    rw [hX, hB]
    exact hP
  · rw [hB]
    exact Nat.le_refl _
end JZL
section JZC
variable {p : Program} {l : Launch} {e : Env} {R : Room} {s : State} {m : MethodId} {args : Array Value} {below : List Frame} {meth : Method} {c : Code} {H H0 : Heap} {locs : List Loc} {cells slots : Nat} {Q : State → Prop} {A0 : Nat → Prop}
variable {cc bytes : ByteArray} {pc nL maxL index n mc ms : Nat} {ls : Array Slot} {rest st0 As : List Value} {Ts wy : List Cond} {own C : String} {y : MethodName} {ret : Option FieldType} {rm : Room} {D : va_G} {tc : List (ClassId × FieldType)} {X : va_W} {b : Nat} {U : Type} {XX : U → va_W} {post : Int32 → U → Prop} {postl : Int64 → U → Prop} {postv : U → Prop}
theorem jz_free (hD : va_D A0 X) (hS : va_S A0 H0 H locs) (hA : ∀ q, H0.size ≤ q → A0 q) : ∀ q, va_A X H.size q → A0 q := by
  rintro q (⟨k, e, h⟩ | h)
  · exact hD.2 k (q, e) h
  · exact hA q (Nat.le_trans hS.1 h)
theorem jz_callVi (S : CallFix p m c cc nL s args Ts own) (hM : jzCi l y wy rm D tc X (.ref b :: As) H.size XX post mc ms) (cw : CallW R s args own C index y bytes maxL ret wy rm mc ms n) (hN : jxNW s) (hP : va_P D vwCl X H) (hD : va_D A0 X) (hK : va_K D vwCl tc s) (hS : va_S A0 H0 H locs) (hA : ∀ q, H0.size ≤ q → A0 q)
    (q0 ci : Nat) {q : vw_C} {vs : List Value} (hcl : vwCl[ci]? = some q) (hCn : q.1 = C) (he : X[q0]? = some (b, .inr (ci, vs))) (hn : As.length = n) (hsize : ls.size = nL) (hstack : st0 = As.reverse ++ .ref b :: rest) (hW : (rest.map fun v => v.category).sum ≤ 8) (hdg : decode cc pc = .ok (.invokevirtual index, 3)) (hf : cells + mc ≤ R.cells ∧ slots + ms ≤ R.slots)
    (kk : ∀ (r : Int32) (u : U) (H1 : Heap) (locs1 : List Loc), post r u → va_P D vwCl (XX u) H1 → va_S A0 H0 H1 locs1 → W p l e R s m args below meth c H1 locs1 (cells + mc) (slots + ms) Q (F0 m (pc + 3) ls (.int r :: rest))) : W p l e R s m args below meth c H locs cells slots Q (F0 m pc ls st0) := by
  subst hCn
  have hF := jz_free hD hS hA
  refine va_calli (va_runV S hM cw ⟨jxM_blind, va_recv hK hP hcl he, fun V hV hW' => ⟨rfl, hN.warm hW', by rw [hV], by rw [hV]; exact hP, va_K.moved hW'.alike hK, hD.weaken (fun _ _ _ _ => trivial)⟩⟩ rfl hn hsize hstack (lv_room hW) hdg hf) hS (fun q _ h => hF q h) hF (fun r u t H1 locs1 ht hvm hw hB hz1 hk1 hS1 => ?_)
  have hB : va_P D vwCl (XX u) t.heap := hB
  rw [ht] at hB
  exact kk r u H1 locs1 hw hB hS1
theorem jz_callVl (S : CallFix p m c cc nL s args Ts own) (hM : jzCl l y wy rm D tc X (.ref b :: As) H.size XX postl mc ms) (cw : CallW R s args own C index y bytes maxL ret wy rm mc ms n) (hN : jxNW s) (hP : va_P D vwCl X H) (hD : va_D A0 X) (hK : va_K D vwCl tc s) (hS : va_S A0 H0 H locs) (hA : ∀ q, H0.size ≤ q → A0 q)
    (q0 ci : Nat) {q : vw_C} {vs : List Value} (hcl : vwCl[ci]? = some q) (hCn : q.1 = C) (he : X[q0]? = some (b, .inr (ci, vs))) (hn : As.length = n) (hsize : ls.size = nL) (hstack : st0 = As.reverse ++ .ref b :: rest) (hW : (rest.map fun v => v.category).sum ≤ 8) (hdg : decode cc pc = .ok (.invokevirtual index, 3)) (hf : cells + mc ≤ R.cells ∧ slots + ms ≤ R.slots)
    (kk : ∀ (r : Int64) (u : U) (H1 : Heap) (locs1 : List Loc), postl r u → va_P D vwCl (XX u) H1 → va_S A0 H0 H1 locs1 → W p l e R s m args below meth c H1 locs1 (cells + mc) (slots + ms) Q (F0 m (pc + 3) ls (.long r :: rest))) : W p l e R s m args below meth c H locs cells slots Q (F0 m pc ls st0) := by
  subst hCn
  have hF := jz_free hD hS hA
  refine va_calll (va_runV S hM cw ⟨jxM_blind, va_recv hK hP hcl he, fun V hV hW' => ⟨rfl, hN.warm hW', by rw [hV], by rw [hV]; exact hP, va_K.moved hW'.alike hK, hD.weaken (fun _ _ _ _ => trivial)⟩⟩ rfl hn hsize hstack (lv_room hW) hdg hf) hS (fun q _ h => hF q h) hF (fun r u t H1 locs1 ht hvm hw hB hz1 hk1 hS1 => ?_)
  have hB : va_P D vwCl (XX u) t.heap := hB
  rw [ht] at hB
  exact kk r u H1 locs1 hw hB hS1
theorem jz_callSi (S : CallFix p m c cc nL s args Ts own) (hM : jzCi l y wy rm D tc X As H.size XX post mc ms) (cw : CallB R s args own index y bytes maxL ret wy rm mc ms n ∧ (Cond.static y).before args s = true) (hN : jxNW s) (hP : va_P D vwCl X H) (hD : va_D A0 X) (hK : va_K D vwCl tc s) (hS : va_S A0 H0 H locs) (hA : ∀ q, H0.size ≤ q → A0 q)
    (hn : As.length = n) (hsize : ls.size = nL) (hstack : st0 = As.reverse ++ rest) (hW : (rest.map fun v => v.category).sum ≤ 8) (hdg : decode cc pc = .ok (.invokestatic index, 3)) (hf : cells + mc ≤ R.cells ∧ slots + ms ≤ R.slots)
    (kk : ∀ (r : Int32) (u : U) (H1 : Heap) (locs1 : List Loc), post r u → va_P D vwCl (XX u) H1 → va_S A0 H0 H1 locs1 → W p l e R s m args below meth c H1 locs1 (cells + mc) (slots + ms) Q (F0 m (pc + 3) ls (.int r :: rest))) : W p l e R s m args below meth c H locs cells slots Q (F0 m pc ls st0) := by
  have hF := jz_free hD hS hA
  refine va_calli (va_runS S hM cw ⟨jxM_blind, fun V hV hW' => ⟨rfl, hN.warm hW', by rw [hV], by rw [hV]; exact hP, va_K.moved hW'.alike hK, hD.weaken (fun _ _ _ _ => trivial)⟩⟩ rfl hn hsize hstack (lv_room hW) hdg hf) hS (fun q _ h => hF q h) hF (fun r u t H1 locs1 ht hvm hw hB hz1 hk1 hS1 => ?_)
  have hB : va_P D vwCl (XX u) t.heap := hB
  rw [ht] at hB
  exact kk r u H1 locs1 hw hB hS1
theorem jz_callSv (S : CallFix p m c cc nL s args Ts own) (hM : jzCv l y wy rm D tc X As H.size XX postv mc ms) (cw : CallB R s args own index y bytes maxL ret wy rm mc ms n ∧ (Cond.static y).before args s = true) (hN : jxNW s) (hP : va_P D vwCl X H) (hD : va_D A0 X) (hK : va_K D vwCl tc s) (hS : va_S A0 H0 H locs) (hA : ∀ q, H0.size ≤ q → A0 q)
    (hn : As.length = n) (hsize : ls.size = nL) (hstack : st0 = As.reverse ++ rest) (hW : (rest.map fun v => v.category).sum ≤ 8) (hdg : decode cc pc = .ok (.invokestatic index, 3)) (hf : cells + mc ≤ R.cells ∧ slots + ms ≤ R.slots)
    (kk : ∀ (u : U) (H1 : Heap) (locs1 : List Loc), postv u → va_P D vwCl (XX u) H1 → va_S A0 H0 H1 locs1 → W p l e R s m args below meth c H1 locs1 (cells + mc) (slots + ms) Q (F0 m (pc + 3) ls rest)) : W p l e R s m args below meth c H locs cells slots Q (F0 m pc ls st0) := by
  have hF := jz_free hD hS hA
  refine va_callv (va_runS S hM cw ⟨jxM_blind, fun V hV hW' => ⟨rfl, hN.warm hW', by rw [hV], by rw [hV]; exact hP, va_K.moved hW'.alike hK, hD.weaken (fun _ _ _ _ => trivial)⟩⟩ rfl hn hsize hstack (lv_room hW) hdg hf) hS (fun q _ h => hF q h) hF (fun u t H1 locs1 ht hvm hw hB hz1 hk1 hS1 => ?_)
  have hB : va_P D vwCl (XX u) t.heap := hB
  rw [ht] at hB
  exact kk u H1 locs1 hw hB hS1
end JZC
section JZE
variable {l : Launch} {y : MethodName} {wy wr : List Cond} {rm : Room} {D : va_G} {tys : List (ClassId × FieldType)} {X : va_W} {av : List Value} {sz : Nat} {cc : ByteArray} {maxL : Nat} {U : Type} {XX : U → va_W} {post : Int32 → U → Prop} {postl : Int64 → U → Prop} {postv : U → Prop}
theorem jz_enterZ (hy : plainName y.cls = true) (hw : wy = Cond.code y cc maxL (some .boolean) :: wr) (hn : (lg_sl av).length ≤ maxL)
    (body : ∀ (p : Program) (e : Env) (s : State) (m : MethodId) (args : Array Value) (below : List Frame) (meth : Method) (c : Code) (Q : State → Prop) (A : Nat → Prop) (ls : Array Slot), p.tables.exec = Jvm.exec → c.code = cc → c.maxLocals = maxL → (∀ w ∈ wy, w.before args s = true) → s.vm.findClass y.cls = some m.cls → jxNW s → va_P D vwCl X s.heap → va_K D vwCl tys s → va_D A X → (∀ q, s.heap.size ≤ q → A q) → lv_has ls maxL (lv_args 0 av) →
      (∀ (v : Bool) (u : U) (H : Heap) (locs : List Loc) (pc : Nat) (ls : Array Slot), decode cc pc = .ok (.ireturn, 1) → post (nI (jB v)) u → va_P D vwCl (XX u) H → va_S A s.heap H locs → W p l e rm s m args below meth c H locs 0 0 Q (F0 m pc ls [.int (nI (jB v))])) → W p l e rm s m args below meth c s.heap [] 0 0 Q (F0 m 0 ls [])) : jzCi l y wy rm D tys X av sz XX post 0 0 := by
  refine Met.ofW (cc := cc) (maxL := maxL) (ret := some .boolean) hy hw ?_
  intro p e s m args below meth c s₁ B hml hv
  obtain ⟨rfl, hN, rfl, hP, hK, hD⟩ := hv
  have hlocks := B.notSynchronized
  have hr := B.returns
  rw [lg_entry_eq]
  exact body p e s m _ below meth c _ (va_A X s.heap.size) _ B.exec B.bytes hml (atoms_spec (ws := wy) B.pre) (findClass_of_methodNamed B.named) hN hP hK hD.self (fun q h => Or.inr h) (lv_entry av hn)
    (fun v u H locs pc ls hd hp hP' hS => W.zret (v := nI (jB v)) B.exec B.bytes hr (by cases v <;> rfl) (fun t ht _ => ⟨⟨_, u, rfl, hp, by show va_P D vwCl (XX u) t.heap; rw [ht]; exact hP'⟩, hS.F ht⟩) hS.2.2 hd)
theorem jz_enterL (hy : plainName y.cls = true) (hw : wy = Cond.code y cc maxL (some .long) :: wr) (hn : (lg_sl av).length ≤ maxL)
    (body : ∀ (p : Program) (e : Env) (s : State) (m : MethodId) (args : Array Value) (below : List Frame) (meth : Method) (c : Code) (Q : State → Prop) (A : Nat → Prop) (ls : Array Slot), p.tables.exec = Jvm.exec → c.code = cc → c.maxLocals = maxL → (∀ w ∈ wy, w.before args s = true) → s.vm.findClass y.cls = some m.cls → jxNW s → va_P D vwCl X s.heap → va_K D vwCl tys s → va_D A X → (∀ q, s.heap.size ≤ q → A q) → lv_has ls maxL (lv_args 0 av) →
      (∀ (v : Int64) (u : U) (H : Heap) (locs : List Loc) (pc : Nat) (ls : Array Slot), decode cc pc = .ok (.lreturn, 1) → postl v u → va_P D vwCl (XX u) H → va_S A s.heap H locs → W p l e rm s m args below meth c H locs 0 0 Q (F0 m pc ls [.long v])) → W p l e rm s m args below meth c s.heap [] 0 0 Q (F0 m 0 ls [])) : jzCl l y wy rm D tys X av sz XX postl 0 0 := by
  refine Met.ofW (cc := cc) (maxL := maxL) (ret := some .long) hy hw ?_
  intro p e s m args below meth c s₁ B hml hv
  obtain ⟨rfl, hN, rfl, hP, hK, hD⟩ := hv
  have hlocks := B.notSynchronized
  have hr := B.returns
  rw [lg_entry_eq]
  exact body p e s m _ below meth c _ (va_A X s.heap.size) _ B.exec B.bytes hml (atoms_spec (ws := wy) B.pre) (findClass_of_methodNamed B.named) hN hP hK hD.self (fun q h => Or.inr h) (lv_entry av hn)
    (fun v u H locs pc ls hd hp hP' hS => W.lret (v := v) B.exec B.bytes hr (fun t ht _ => ⟨⟨v, u, rfl, hp, by show va_P D vwCl (XX u) t.heap; rw [ht]; exact hP'⟩, hS.F ht⟩) hS.2.2 hd)
theorem jz_enterV (hy : plainName y.cls = true) (hw : wy = Cond.code y cc maxL none :: wr) (hn : (lg_sl av).length ≤ maxL)
    (body : ∀ (p : Program) (e : Env) (s : State) (m : MethodId) (args : Array Value) (below : List Frame) (meth : Method) (c : Code) (Q : State → Prop) (A : Nat → Prop) (ls : Array Slot), p.tables.exec = Jvm.exec → c.code = cc → c.maxLocals = maxL → (∀ w ∈ wy, w.before args s = true) → s.vm.findClass y.cls = some m.cls → jxNW s → va_P D vwCl X s.heap → va_K D vwCl tys s → va_D A X → (∀ q, s.heap.size ≤ q → A q) → lv_has ls maxL (lv_args 0 av) →
      (∀ (u : U) (H : Heap) (locs : List Loc) (pc : Nat) (ls : Array Slot), decode cc pc = .ok (.return_, 1) → postv u → va_P D vwCl (XX u) H → va_S A s.heap H locs → W p l e rm s m args below meth c H locs 0 0 Q (F0 m pc ls [])) → W p l e rm s m args below meth c s.heap [] 0 0 Q (F0 m 0 ls [])) : jzCv l y wy rm D tys X av sz XX postv 0 0 := by
  refine Met.ofW (cc := cc) (maxL := maxL) (ret := none) hy hw ?_
  intro p e s m args below meth c s₁ B hml hv
  obtain ⟨rfl, hN, rfl, hP, hK, hD⟩ := hv
  have hlocks := B.notSynchronized
  have hr := B.returns
  rw [lg_entry_eq]
  exact body p e s m _ below meth c _ (va_A X s.heap.size) _ B.exec B.bytes hml (atoms_spec (ws := wy) B.pre) (findClass_of_methodNamed B.named) hN hP hK hD.self (fun q h => Or.inr h) (lv_entry av hn)
    (fun u H locs pc ls hd hp hP' hS => W.vret B.exec B.bytes hr (fun t ht _ => ⟨⟨u, rfl, hp, by show va_P D vwCl (XX u) t.heap; rw [ht]; exact hP'⟩, hS.F ht⟩) hS.2.2 hd)
end JZE
