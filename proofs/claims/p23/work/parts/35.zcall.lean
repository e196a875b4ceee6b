/-! own rows: asking calls and mutating calls over the whole world; static calls; the script -/
section JZA
variable {p : Program} {l : Launch} {e : Env} {R : Room} {s : State} {m : MethodId} {args : Array Value} {below : List Frame} {meth : Method} {c : Code} {H H0 : Heap} {locs : List Loc} {cells slots : Nat} {Q : State → Prop} {A0 : Nat → Prop}
variable {cc bytes : ByteArray} {pc nL maxL index n : Nat} {ls : Array Slot} {rest st0 As : List Value} {Ts wy : List Cond} {own : String} {y : MethodName} {ret : Option FieldType} {rm : Room} {D : va_G} {cI cO cM cL : ClassId} {g ro rt rd : Nat → Nat} {v : jZ} {t : jS} {f : Int32} {fl : Int64} {aP aN : Nat}
/-- a call that asks: the numbers stay, scratch is another one -/
theorem jz_askVi (S : CallFix p m c cc nL s args Ts own) (hM : jzCi (U := jZ × jS) l y wy rm D (jzT cI cO cM cL) (jzX cI cO cM cL g ro rt rd v t) (.ref (g 60) :: As) H.size (fun u => jzX cI cO cM cL g ro rt rd u.1 u.2) (fun r u => jSok u.2 ∧ v = u.1 ∧ r = f) 0 0) (cw : CallW R s args own RX6 index y bytes maxL ret wy rm 0 0 n) (hN : jxNW s) (hP : va_P D vwCl (jzX cI cO cM cL g ro rt rd v t) H) (hD : va_D A0 (jzX cI cO cM cL g ro rt rd v t)) (hK : va_K D vwCl (jzT cI cO cM cL) s) (hS : va_S A0 H0 H locs) (hA : ∀ q, H0.size ≤ q → A0 q)
    (hn : As.length = n) (hsize : ls.size = nL) (hstack : st0 = As.reverse ++ .ref (g 60) :: rest) (hW : (rest.map fun v => v.category).sum ≤ 8) (hdg : decode cc pc = .ok (.invokevirtual index, 3)) (hf : cells ≤ R.cells ∧ slots ≤ R.slots)
    (kk : ∀ (t1 : jS) (H1 : Heap) (locs1 : List Loc), jSok t1 → va_P D vwCl (jzX cI cO cM cL g ro rt rd v t1) H1 → va_D A0 (jzX cI cO cM cL g ro rt rd v t1) → va_S A0 H0 H1 locs1 → W p l e R s m args below meth c H1 locs1 cells slots Q (F0 m (pc + 3) ls (.int f :: rest))) : W p l e R s m args below meth c H locs cells slots Q (F0 m pc ls st0) := by
  refine jz_callVi (mc := 0) (ms := 0) S hM cw hN hP hD hK hS hA 60 6 rfl rfl rfl hn hsize hstack hW hdg hf (fun r u H1 locs1 hp hP1 hS1 => ?_)
  obtain ⟨v1, t1⟩ := u
  obtain ⟨ht, e1, hr⟩ := hp
  have e2 : v = v1 := e1
  subst e2
  rw [show r = f from hr]
  exact kk t1 H1 locs1 ht hP1 (jzD_any hD) hS1
theorem jz_askVl (S : CallFix p m c cc nL s args Ts own) (hM : jzCl (U := jZ × jS) l y wy rm D (jzT cI cO cM cL) (jzX cI cO cM cL g ro rt rd v t) (.ref (g 60) :: As) H.size (fun u => jzX cI cO cM cL g ro rt rd u.1 u.2) (fun r u => jSok u.2 ∧ v = u.1 ∧ r = fl) 0 0) (cw : CallW R s args own RX6 index y bytes maxL ret wy rm 0 0 n) (hN : jxNW s) (hP : va_P D vwCl (jzX cI cO cM cL g ro rt rd v t) H) (hD : va_D A0 (jzX cI cO cM cL g ro rt rd v t)) (hK : va_K D vwCl (jzT cI cO cM cL) s) (hS : va_S A0 H0 H locs) (hA : ∀ q, H0.size ≤ q → A0 q)
    (hn : As.length = n) (hsize : ls.size = nL) (hstack : st0 = As.reverse ++ .ref (g 60) :: rest) (hW : (rest.map fun v => v.category).sum ≤ 8) (hdg : decode cc pc = .ok (.invokevirtual index, 3)) (hf : cells ≤ R.cells ∧ slots ≤ R.slots)
    (kk : ∀ (t1 : jS) (H1 : Heap) (locs1 : List Loc), jSok t1 → va_P D vwCl (jzX cI cO cM cL g ro rt rd v t1) H1 → va_D A0 (jzX cI cO cM cL g ro rt rd v t1) → va_S A0 H0 H1 locs1 → W p l e R s m args below meth c H1 locs1 cells slots Q (F0 m (pc + 3) ls (.long fl :: rest))) : W p l e R s m args below meth c H locs cells slots Q (F0 m pc ls st0) := by
  refine jz_callVl (mc := 0) (ms := 0) S hM cw hN hP hD hK hS hA 60 6 rfl rfl rfl hn hsize hstack hW hdg hf (fun r u H1 locs1 hp hP1 hS1 => ?_)
  obtain ⟨v1, t1⟩ := u
  obtain ⟨ht, e1, hr⟩ := hp
  have e2 : v = v1 := e1
  subst e2
  rw [show r = fl from hr]
  exact kk t1 H1 locs1 ht hP1 (jzD_any hD) hS1
/-- a call that changes the numbers -/
theorem jz_mutVi (S : CallFix p m c cc nL s args Ts own) (hM : jzCi (U := jZ × jS) l y wy rm D (jzT cI cO cM cL) (jzX cI cO cM cL g ro rt rd v t) (.ref (g 60) :: As) H.size (fun u => jzX cI cO cM cL g ro rt rd u.1 u.2) (fun _ u => jSok u.2 ∧ jzI u.1 ∧ zP u.1 = aP ∧ zn u.1 = aN) 0 0) (cw : CallW R s args own RX6 index y bytes maxL ret wy rm 0 0 n) (hN : jxNW s) (hP : va_P D vwCl (jzX cI cO cM cL g ro rt rd v t) H) (hD : va_D A0 (jzX cI cO cM cL g ro rt rd v t)) (hK : va_K D vwCl (jzT cI cO cM cL) s) (hS : va_S A0 H0 H locs) (hA : ∀ q, H0.size ≤ q → A0 q)
    (hn : As.length = n) (hsize : ls.size = nL) (hstack : st0 = As.reverse ++ .ref (g 60) :: rest) (hW : (rest.map fun v => v.category).sum ≤ 8) (hdg : decode cc pc = .ok (.invokevirtual index, 3)) (hf : cells ≤ R.cells ∧ slots ≤ R.slots)
    (kk : ∀ (r : Int32) (v1 : jZ) (t1 : jS) (H1 : Heap) (locs1 : List Loc), jSok t1 → jzI v1 → zP v1 = aP → zn v1 = aN → va_P D vwCl (jzX cI cO cM cL g ro rt rd v1 t1) H1 → va_D A0 (jzX cI cO cM cL g ro rt rd v1 t1) → va_S A0 H0 H1 locs1 → W p l e R s m args below meth c H1 locs1 cells slots Q (F0 m (pc + 3) ls (.int r :: rest))) : W p l e R s m args below meth c H locs cells slots Q (F0 m pc ls st0) := by
  refine jz_callVi (mc := 0) (ms := 0) S hM cw hN hP hD hK hS hA 60 6 rfl rfl rfl hn hsize hstack hW hdg hf (fun r u H1 locs1 hp hP1 hS1 => ?_)
  obtain ⟨v1, t1⟩ := u
  obtain ⟨ht, hI, h3, h4⟩ := hp
  exact kk r v1 t1 H1 locs1 ht hI h3 h4 hP1 (jzD_any hD) hS1
/-- a static call that asks -/
theorem jz_askSi (S : CallFix p m c cc nL s args Ts own) (hM : jzCi (U := jZ × jS) l y wy rm D (jzT cI cO cM cL) (jzX cI cO cM cL g ro rt rd v t) As H.size (fun u => jzX cI cO cM cL g ro rt rd u.1 u.2) (fun r u => jSok u.2 ∧ v = u.1 ∧ r = f) 0 0) (cw : CallB R s args own index y bytes maxL ret wy rm 0 0 n ∧ (Cond.static y).before args s = true) (hN : jxNW s) (hP : va_P D vwCl (jzX cI cO cM cL g ro rt rd v t) H) (hD : va_D A0 (jzX cI cO cM cL g ro rt rd v t)) (hK : va_K D vwCl (jzT cI cO cM cL) s) (hS : va_S A0 H0 H locs) (hA : ∀ q, H0.size ≤ q → A0 q)
    (hn : As.length = n) (hsize : ls.size = nL) (hstack : st0 = As.reverse ++ rest) (hW : (rest.map fun v => v.category).sum ≤ 8) (hdg : decode cc pc = .ok (.invokestatic index, 3)) (hf : cells ≤ R.cells ∧ slots ≤ R.slots)
    (kk : ∀ (t1 : jS) (H1 : Heap) (locs1 : List Loc), jSok t1 → va_P D vwCl (jzX cI cO cM cL g ro rt rd v t1) H1 → va_D A0 (jzX cI cO cM cL g ro rt rd v t1) → va_S A0 H0 H1 locs1 → W p l e R s m args below meth c H1 locs1 cells slots Q (F0 m (pc + 3) ls (.int f :: rest))) : W p l e R s m args below meth c H locs cells slots Q (F0 m pc ls st0) := by
  refine jz_callSi (mc := 0) (ms := 0) S hM cw hN hP hD hK hS hA hn hsize hstack hW hdg hf (fun r u H1 locs1 hp hP1 hS1 => ?_)
  obtain ⟨v1, t1⟩ := u
  obtain ⟨ht, e1, hr⟩ := hp
  have e2 : v = v1 := e1
  subst e2
  rw [show r = f from hr]
  exact kk t1 H1 locs1 ht hP1 (jzD_any hD) hS1
/-- a static call that changes the numbers and answers nothing: points as before -/
theorem jz_mutSv (S : CallFix p m c cc nL s args Ts own) (hM : jzCv (U := jZ × jS) l y wy rm D (jzT cI cO cM cL) (jzX cI cO cM cL g ro rt rd v t) As H.size (fun u => jzX cI cO cM cL g ro rt rd u.1 u.2) (fun u => jSok u.2 ∧ jzI u.1 ∧ zP u.1 = aP) 0 0) (cw : CallB R s args own index y bytes maxL ret wy rm 0 0 n ∧ (Cond.static y).before args s = true) (hN : jxNW s) (hP : va_P D vwCl (jzX cI cO cM cL g ro rt rd v t) H) (hD : va_D A0 (jzX cI cO cM cL g ro rt rd v t)) (hK : va_K D vwCl (jzT cI cO cM cL) s) (hS : va_S A0 H0 H locs) (hA : ∀ q, H0.size ≤ q → A0 q)
    (hn : As.length = n) (hsize : ls.size = nL) (hstack : st0 = As.reverse ++ rest) (hW : (rest.map fun v => v.category).sum ≤ 8) (hdg : decode cc pc = .ok (.invokestatic index, 3)) (hf : cells ≤ R.cells ∧ slots ≤ R.slots)
    (kk : ∀ (v1 : jZ) (t1 : jS) (H1 : Heap) (locs1 : List Loc), jSok t1 → jzI v1 → zP v1 = aP → va_P D vwCl (jzX cI cO cM cL g ro rt rd v1 t1) H1 → va_D A0 (jzX cI cO cM cL g ro rt rd v1 t1) → va_S A0 H0 H1 locs1 → W p l e R s m args below meth c H1 locs1 cells slots Q (F0 m (pc + 3) ls rest)) : W p l e R s m args below meth c H locs cells slots Q (F0 m pc ls st0) := by
  refine jz_callSv (mc := 0) (ms := 0) S hM cw hN hP hD hK hS hA hn hsize hstack hW hdg hf (fun u H1 locs1 hp hP1 hS1 => ?_)
  obtain ⟨v1, t1⟩ := u
  obtain ⟨ht, hI, h3⟩ := hp
  exact kk v1 t1 H1 locs1 ht hI h3 hP1 (jzD_any hD) hS1
/-- a static call that touches nothing -/
theorem jz_pureSi {X : va_W} {tc : List (ClassId × FieldType)} {post : Int32 → Prop} (S : CallFix p m c cc nL s args Ts own) (hM : jzCi (U := Unit) l y wy rm D tc X As H.size (fun _ => X) (fun r _ => post r) 0 0) (cw : CallB R s args own index y bytes maxL ret wy rm 0 0 n ∧ (Cond.static y).before args s = true) (hN : jxNW s) (hP : va_P D vwCl X H) (hD : va_D A0 X) (hK : va_K D vwCl tc s) (hS : va_S A0 H0 H locs) (hA : ∀ q, H0.size ≤ q → A0 q)
    (hn : As.length = n) (hsize : ls.size = nL) (hstack : st0 = As.reverse ++ rest) (hW : (rest.map fun v => v.category).sum ≤ 8) (hdg : decode cc pc = .ok (.invokestatic index, 3)) (hf : cells ≤ R.cells ∧ slots ≤ R.slots)
    (kk : ∀ (r : Int32) (H1 : Heap) (locs1 : List Loc), post r → va_P D vwCl X H1 → va_S A0 H0 H1 locs1 → W p l e R s m args below meth c H1 locs1 cells slots Q (F0 m (pc + 3) ls (.int r :: rest))) : W p l e R s m args below meth c H locs cells slots Q (F0 m pc ls st0) :=
  jz_callSi (mc := 0) (ms := 0) S hM cw hN hP hD hK hS hA hn hsize hstack hW hdg hf (fun r _ H1 locs1 hp hP1 hS1 => kk r H1 locs1 hp hP1 hS1)
/-- the start of a call that reads the script, at b, beside the world -/
def jzMx (D : va_G) (tys : List (ClassId × FieldType)) (X : va_W) (sz b : Nat) (U : State) : Prop := jxM D tys X sz U ∧ ∃ (L : Nat) (xs : Nat → Int32), L < 2 ^ 31 ∧ va_X b L xs U U.heap
theorem jzMx_blind {X : va_W} {sz b : Nat} {tys : List (ClassId × FieldType)} {av : List Value} : FrameBlind (va_Pc av (jzMx D tys X sz b)) := by
  intro a U g mk h
  obtain ⟨q0, ⟨q1, q2, q3, q4, q5⟩, L, xs, hL, q6⟩ := h
  exact ⟨q0, ⟨q1.same rfl, q2, q3, va_K.moved (u := U) (U := U.calling g mk a) (Vm.Alike.refl U.vm) q4, q5⟩, L, xs, hL, va_X.moved (u := U) (U := U.calling g mk a) (Vm.Alike.refl U.vm) q6⟩
/-- a static call that reads the script: any answer -/
theorem jz_cellSi {X : va_W} {tc : List (ClassId × FieldType)} {b L : Nat} {xs : Nat → Int32} (S : CallFix p m c cc nL s args Ts own) (hM : Met l y wy rm (va_Pc As (jzMx D tc X H.size b)) (va_Qi (S := Unit) (fun _ _ => True) (fun _ t => va_P D vwCl X t.heap) (va_A X H.size)) 0 0 (va_A X H.size)) (cw : CallB R s args own index y bytes maxL ret wy rm 0 0 n ∧ (Cond.static y).before args s = true) (hN : jxNW s) (hP : va_P D vwCl X H) (hD : va_D A0 X) (hK : va_K D vwCl tc s) (hS : va_S A0 H0 H locs) (hA : ∀ q, H0.size ≤ q → A0 q) (hL : L < 2 ^ 31) (hX : va_X b L xs s H0) (hb1 : b < H0.size) (hb2 : ¬ A0 b)
    (hn : As.length = n) (hsize : ls.size = nL) (hstack : st0 = As.reverse ++ rest) (hW : (rest.map fun v => v.category).sum ≤ 8) (hdg : decode cc pc = .ok (.invokestatic index, 3)) (hf : cells ≤ R.cells ∧ slots ≤ R.slots)
    (kk : ∀ (r : Int32) (H1 : Heap) (locs1 : List Loc), va_P D vwCl X H1 → va_S A0 H0 H1 locs1 → W p l e R s m args below meth c H1 locs1 cells slots Q (F0 m (pc + 3) ls (.int r :: rest))) : W p l e R s m args below meth c H locs cells slots Q (F0 m pc ls st0) := by
  have hF := jz_free hD hS hA
  have hXH : va_X b L xs s H := hX.kept (hS.2.1 b hb1 hb2)
  refine va_calli (va_runS S hM cw ⟨jzMx_blind, fun V hV hW' => ⟨rfl, ⟨hN.warm hW', by rw [hV], by rw [hV]; exact hP, va_K.moved hW'.alike hK, hD.weaken (fun _ _ _ _ => trivial)⟩, L, xs, hL, by rw [hV]; exact va_X.moved hW'.alike hXH⟩⟩ rfl hn hsize hstack (lv_room hW) hdg hf) hS (fun q _ h => hF q h) hF (fun r u t H1 locs1 ht hvm hw hB hz1 hk1 hS1 => ?_)
  have hB : va_P D vwCl X t.heap := hB
  rw [ht] at hB
  exact kk r H1 locs1 hB hS1
end JZA
section JZEI
variable {l : Launch} {y : MethodName} {wy wr : List Cond} {rm : Room} {D : va_G} {tys : List (ClassId × FieldType)} {X : va_W} {av : List Value} {sz : Nat} {cc : ByteArray} {maxL : Nat} {U : Type} {XX : U → va_W} {post : Int32 → U → Prop}
theorem jz_enterI (hy : plainName y.cls = true) (hw : wy = Cond.code y cc maxL (some .int) :: wr) (hn : (lg_sl av).length ≤ maxL)
    (body : ∀ (p : Program) (e : Env) (s : State) (m : MethodId) (args : Array Value) (below : List Frame) (meth : Method) (c : Code) (Q : State → Prop) (A : Nat → Prop) (ls : Array Slot), p.tables.exec = Jvm.exec → c.code = cc → c.maxLocals = maxL → (∀ w ∈ wy, w.before args s = true) → s.vm.findClass y.cls = some m.cls → jxNW s → va_P D vwCl X s.heap → va_K D vwCl tys s → va_D A X → (∀ q, s.heap.size ≤ q → A q) → lv_has ls maxL (lv_args 0 av) →
      (∀ (v : Int32) (u : U) (H : Heap) (locs : List Loc) (pc : Nat) (ls : Array Slot), decode cc pc = .ok (.ireturn, 1) → post v u → va_P D vwCl (XX u) H → va_S A s.heap H locs → W p l e rm s m args below meth c H locs 0 0 Q (F0 m pc ls [.int v])) → W p l e rm s m args below meth c s.heap [] 0 0 Q (F0 m 0 ls [])) : jzCi l y wy rm D tys X av sz XX post 0 0 := by
  refine Met.ofW (cc := cc) (maxL := maxL) (ret := some .int) hy hw ?_
  intro p e s m args below meth c s₁ B hml hv
  obtain ⟨rfl, hN, rfl, hP, hK, hD⟩ := hv
  have hlocks := B.notSynchronized
  have hr := B.returns
  rw [lg_entry_eq]
  exact body p e s m _ below meth c _ (va_A X s.heap.size) _ B.exec B.bytes hml (atoms_spec (ws := wy) B.pre) (findClass_of_methodNamed B.named) hN hP hK hD.self (fun q h => Or.inr h) (lv_entry av hn)
    (fun v u H locs pc ls hd hp hP' hS => W.iret (v := v) B.exec B.bytes hr (fun t ht _ => ⟨⟨v, u, rfl, hp, by show va_P D vwCl (XX u) t.heap; rw [ht]; exact hP'⟩, hS.F ht⟩) hS.2.2 hd)
theorem jz_enterX {bs : Nat} (hy : plainName y.cls = true) (hw : wy = Cond.code y cc maxL (some .int) :: wr) (hn : (lg_sl av).length ≤ maxL)
    (body : ∀ (p : Program) (e : Env) (s : State) (m : MethodId) (args : Array Value) (below : List Frame) (meth : Method) (c : Code) (Q : State → Prop) (A : Nat → Prop) (ls : Array Slot), p.tables.exec = Jvm.exec → c.code = cc → c.maxLocals = maxL → (∀ w ∈ wy, w.before args s = true) → s.vm.findClass y.cls = some m.cls → jxNW s → va_P D vwCl X s.heap → va_K D vwCl tys s → va_D A X → (∃ (L : Nat) (xs : Nat → Int32), L < 2 ^ 31 ∧ va_X bs L xs s s.heap) → (∀ q, s.heap.size ≤ q → A q) → lv_has ls maxL (lv_args 0 av) →
      (∀ (v : Int32) (u : U) (H : Heap) (locs : List Loc) (pc : Nat) (ls : Array Slot), decode cc pc = .ok (.ireturn, 1) → post v u → va_P D vwCl (XX u) H → va_S A s.heap H locs → W p l e rm s m args below meth c H locs 0 0 Q (F0 m pc ls [.int v])) → W p l e rm s m args below meth c s.heap [] 0 0 Q (F0 m 0 ls [])) : Met l y wy rm (va_Pc av (jzMx D tys X sz bs)) (va_Qi (S := U) post (fun u t => va_P D vwCl (XX u) t.heap) (va_A X sz)) 0 0 (va_A X sz) := by
  refine Met.ofW (cc := cc) (maxL := maxL) (ret := some .int) hy hw ?_
  intro p e s m args below meth c s₁ B hml hv
  obtain ⟨rfl, ⟨hN, rfl, hP, hK, hD⟩, hXs⟩ := hv
  have hlocks := B.notSynchronized
  have hr := B.returns
  rw [lg_entry_eq]
  exact body p e s m _ below meth c _ (va_A X s.heap.size) _ B.exec B.bytes hml (atoms_spec (ws := wy) B.pre) (findClass_of_methodNamed B.named) hN hP hK hD.self hXs (fun q h => Or.inr h) (lv_entry av hn)
    (fun v u H locs pc ls hd hp hP' hS => W.iret (v := v) B.exec B.bytes hr (fun t ht _ => ⟨⟨v, u, rfl, hp, by show va_P D vwCl (XX u) t.heap; rw [ht]; exact hP'⟩, hS.F ht⟩) hS.2.2 hd)
end JZEI
