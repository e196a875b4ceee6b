/-! own rows: what a throw stands on; calls that surely throw; methods that catch -/
def jzDC : Cond → Bool
  | .declares _ => true
  | .castable _ _ => true
  | _ => false
/-- the words of the two throws that warmer tables don't keep by themselves -/
def jzTB : List Cond := (vx_atS RX6 64 "java/lang/IllegalStateException" ["java/lang/RuntimeException", "java/lang/Exception"]).filter (fun w => !goodWord w) ++ (vx_atS RX6 334 "java/lang/IndexOutOfBoundsException" ["java/lang/RuntimeException", "java/lang/Exception"]).filter (fun w => !goodWord w)
theorem jzTB_dc : jzTB.all jzDC = true := by decide +kernel
theorem jzDC_tabs : ∀ {w : Cond}, jzDC w = true → w.onTables = true := by
  intro w h
  cases w <;> first | rfl | (simp [jzDC] at h)
def jzTW (U : State) : Prop := ∀ w ∈ jzTB, va_Nw w U
theorem jzTW.warm {s U : State} (h : jzTW s) (hW : s.WarmedH U.vm) : jzTW U := by
  intro w hw
  have h1 := List.all_eq_true.mp jzTB_dc w hw
  have h2 := h w hw
  cases w <;> first | exact va_Nw.warmD hW h2 | exact va_Nw.warmC hW h2 | (simp [jzDC] at h1)
theorem jzTW.same {u U : State} (h : jzTW u) (hv : u.vm = U.vm) : jzTW U := fun w hw => va_Nw.same (jzDC_tabs (List.all_eq_true.mp jzTB_dc w hw)) hv (h w hw)
theorem jzTW.use {U : State} {A : Array Value} (h : jzTW U) {w : Cond} (hw : w ∈ jzTB) : w.before A U = true := va_Nw.use (jzDC_tabs (List.all_eq_true.mp jzTB_dc w hw)) (h w hw)
theorem jz_hat1 {s : State} {args : Array Value} (h1 : ∀ w ∈ (vx_atS RX6 64 "java/lang/IllegalStateException" ["java/lang/RuntimeException", "java/lang/Exception"]).filter goodWord, w.before args s = true) (h2 : jzTW s) : ∀ w ∈ vx_atS RX6 64 "java/lang/IllegalStateException" ["java/lang/RuntimeException", "java/lang/Exception"], w.before args s = true := fun w hw => by
  cases hg : goodWord w with
  | true => exact h1 w (List.mem_filter.mpr ⟨hw, hg⟩)
  | false => exact h2.use (List.mem_append_left _ (List.mem_filter.mpr ⟨hw, by rw [hg]; rfl⟩))
theorem jz_hat2 {s : State} {args : Array Value} (h1 : ∀ w ∈ (vx_atS RX6 334 "java/lang/IndexOutOfBoundsException" ["java/lang/RuntimeException", "java/lang/Exception"]).filter goodWord, w.before args s = true) (h2 : jzTW s) : ∀ w ∈ vx_atS RX6 334 "java/lang/IndexOutOfBoundsException" ["java/lang/RuntimeException", "java/lang/Exception"], w.before args s = true := fun w hw => by
  cases hg : goodWord w with
  | true => exact h1 w (List.mem_filter.mpr ⟨hw, hg⟩)
  | false => exact h2.use (List.mem_append_right _ (List.mem_filter.mpr ⟨hw, by rw [hg]; rfl⟩))
theorem jz_ot1 : ∀ w ∈ Cond.classLink RX6 60 "java/lang/IllegalStateException" :: Cond.initialized "java/lang/IllegalStateException" :: vx_atS RX6 64 "java/lang/IllegalStateException" ["java/lang/RuntimeException", "java/lang/Exception"], vx_ot w = true := by decide +kernel
theorem jz_ot2 : ∀ w ∈ Cond.classLink RX6 330 "java/lang/IndexOutOfBoundsException" :: Cond.initialized "java/lang/IndexOutOfBoundsException" :: vx_atS RX6 334 "java/lang/IndexOutOfBoundsException" ["java/lang/RuntimeException", "java/lang/Exception"], vx_ot w = true := by decide +kernel
theorem jz_cast1 : Cond.castable "java/lang/IllegalStateException" "java/lang/IllegalStateException" ∈ jzTB := by decide +kernel
theorem jz_cast2 : Cond.castable "java/lang/IndexOutOfBoundsException" "java/lang/IndexOutOfBoundsException" ∈ jzTB := by decide +kernel
def jzTh (A : Nat → Prop) (U : State) (H : Heap) : Prop := (∃ sa, vk_R RX6 62 "there are 8 points" sa U) ∧ (∃ sa, vk_R RX6 88 "there are 16 lines" sa U) ∧ (∃ sa, vk_R RX6 335 "no such line" sa U) ∧ jzTW U ∧ va_Nc "java/lang/IndexOutOfBoundsException" "java/lang/IllegalStateException" U ∧ vx_Zq Bundle.tN "UNASSIGNED_STACK" Bundle.steD A U H ∧ vx_Zq Bundle.tN "SUPPRESSED_SENTINEL" Bundle.listD A U H
theorem jzTh.go {A0 B : Nat → Prop} {s V : State} {H0 H : Heap} {locs : List Loc} (h : jzTh A0 s H0) (hW : s.WarmedH V.vm) (hS : va_S A0 H0 H locs) (hB : ∀ q, B q → A0 q) : jzTh B V H := by
  obtain ⟨⟨a1, h1⟩, ⟨a2, h2⟩, ⟨a3, h3⟩, h7, h4, h5, h6⟩ := h
  exact ⟨⟨a1, h1.warm hW⟩, ⟨a2, h2.warm hW⟩, ⟨a3, h3.warm hW⟩, h7.warm hW, h4.moved hW.alike, vx_Zq.narrow (vx_Zq.moved hW.alike (h5.kept hS.2.1)) hB, vx_Zq.narrow (vx_Zq.moved hW.alike (h6.kept hS.2.1)) hB⟩
def jzMt (D : va_G) (tys : List (ClassId × FieldType)) (X : va_W) (sz : Nat) (U : State) : Prop := jxM D tys X sz U ∧ jzTh (va_A X sz) U U.heap
theorem jzMt_blind {D : va_G} {X : va_W} {sz : Nat} {tys : List (ClassId × FieldType)} {av : List Value} : FrameBlind (va_Pc av (jzMt D tys X sz)) := by
  intro a U g mk h
  obtain ⟨q0, ⟨q1, q2, q3, q4, q5⟩, ⟨a1, h1⟩, ⟨a2, h2⟩, ⟨a3, h3⟩, h7, h4, h5, h6⟩ := h
  exact ⟨q0, ⟨q1.same rfl, q2, q3, va_K.moved (u := U) (U := U.calling g mk a) (Vm.Alike.refl U.vm) q4, q5⟩, ⟨a1, h1.same rfl⟩, ⟨a2, h2.same rfl⟩, ⟨a3, h3.same rfl⟩, h7.same rfl, va_Nc.moved (u := U) (U := U.calling g mk a) (Vm.Alike.refl U.vm) h4, vx_Zq.moved (u := U) (U := U.calling g mk a) (Vm.Alike.refl U.vm) h5, vx_Zq.moved (u := U) (U := U.calling g mk a) (Vm.Alike.refl U.vm) h6⟩
def jzXC (D : va_G) (cls : String) (X : va_W) (A : Nat → Prop) : String → State → State → Prop := vx_X (S := Unit) (fun _ => True) (fun E _ t => E = cls ∧ va_P D vwCl X t.heap) A
abbrev jzCx (l : Launch) (y : MethodName) (wy : List Cond) (rm : Room) (D : va_G) (tys : List (ClassId × FieldType)) (X : va_W) (av : List Value) (sz : Nat) (cls : String) : Prop :=
  vx_Met l y wy rm (va_Pc av (jzMt D tys X sz)) (fun _ _ _ _ => False) (jzXC D cls X (va_A X sz)) 1 6 (va_A X sz)
section JZT
variable {p : Program} {l : Launch} {e : Env} {R : Room} {s : State} {m : MethodId} {args : Array Value} {below : List Frame} {meth : Method} {c : Code} {H H0 : Heap} {locs : List Loc} {cells slots : Nat} {Q : State → Prop} {A0 : Nat → Prop}
variable {cc bytes : ByteArray} {pc nL maxL index n : Nat} {ls : Array Slot} {rest st0 As : List Value} {Ts wy : List Cond} {own C cls : String} {y : MethodName} {ret : Option FieldType} {rm : Room} {D : va_G} {tc : List (ClassId × FieldType)} {X : va_W} {b : Nat}
/-- a call that surely throws -/
theorem jz_throwV (S : CallFix p m c cc nL s args Ts own) (hM : jzCx l y wy rm D tc X (.ref b :: As) H.size cls) (cw : CallW R s args own C index y bytes maxL ret wy rm 1 6 n) (hN : jxNW s) (hP : va_P D vwCl X H) (hD : va_D A0 X) (hK : va_K D vwCl tc s) (hS : va_S A0 H0 H locs) (hA : ∀ q, H0.size ≤ q → A0 q) (hTh : jzTh A0 s H0)
    (q0 ci : Nat) {q : vw_C} {vs : List Value} (hcl : vwCl[ci]? = some q) (hCn : q.1 = C) (he : X[q0]? = some (b, .inr (ci, vs))) (hn : As.length = n) (hsize : ls.size = nL) (hstack : st0 = As.reverse ++ .ref b :: rest) (hW : (rest.map fun v => v.category).sum ≤ 8) (hdg : decode cc pc = .ok (.invokevirtual index, 3)) (hf : cells + 1 ≤ R.cells ∧ slots + 6 ≤ R.slots)
    (kx : ∀ (ce : Cell) (q9 : Addr) (H1 : Heap) (locs1 : List Loc), va_P D vwCl X H1 → va_S A0 H0 H1 locs1 → H1[q9]? = some ce → ce.vm = .none → s.vm.findClass cls = some ce.cls → vx_W p l e R s m args below meth c H1 locs1 (cells + 1) (slots + 6) Q (F0 m pc ls rest) q9) : W p l e R s m args below meth c H locs cells slots Q (F0 m pc ls st0) := by
  subst hCn
  have hF := jz_free hD hS hA
  intro T hT Xs
  rcases (vx_runV S hM cw ⟨jzMt_blind, va_recv hK hP hcl he, fun V hV hW' => ⟨rfl, ⟨hN.warm hW', by rw [hV], by rw [hV]; exact hP, va_K.moved hW'.alike hK, hD.weaken (fun _ _ _ _ => trivial)⟩, by rw [hV]; exact hTh.go hW' hS hF⟩⟩ (g := F0 m pc ls st0) rfl hn hsize hstack (lv_room hW) hdg hf) T hT Xs with ⟨v, st₀, t, T', L, h0, X', hL, e1, e2, hq, st⟩ | ⟨q9, st₀, t, T', L, E, ce, h0, X', hL, e1, e2, ⟨u, hp, ⟨hE, hb9⟩, hF9⟩, hce, hcv, hcl9, st⟩
  · exact hq.elim
  · obtain ⟨k1, k2, k3⟩ := vx_keep h0 e1 hS (fun q _ h => hF q h) hF hL hF9
    subst hE
    obtain ⟨t2, a1, b1⟩ := kx ce q9 T'.heap (locs ++ L) (by rw [e1]; exact hb9) k3 (by rw [e1]; exact hce) hcv hcl9 T' rfl X'
    exact ⟨t2, st.trans a1, b1⟩
end JZT
section JZTE
variable {l : Launch} {y : MethodName} {wy wr : List Cond} {rm : Room} {D : va_G} {tys : List (ClassId × FieldType)} {X : va_W} {av : List Value} {sz : Nat} {cc : ByteArray} {maxL : Nat} {ret : Option FieldType} {cls : String}
theorem jz_enterT (hy : plainName y.cls = true) (hw : wy = Cond.code y cc maxL ret :: wr) (hn : (lg_sl av).length ≤ maxL)
    (body : ∀ (p : Program) (e : Env) (s : State) (m : MethodId) (args : Array Value) (below : List Frame) (meth : Method) (c : Code) (A : Nat → Prop) (ls : Array Slot), p.tables.exec = Jvm.exec → c.code = cc → c.maxLocals = maxL → (∀ x ∈ c.exceptionTable.toList, False) → meth.locks = false → (∀ w ∈ wy, w.before args s = true) → s.vm.findClass y.cls = some m.cls → jxNW s → va_P D vwCl X s.heap → va_K D vwCl tys s → va_D A X → (∀ q, s.heap.size ≤ q → A q) → jzTh A s s.heap → lv_has ls maxL (lv_args 0 av) →
      W p l e rm s m args below meth c s.heap [] 0 0 (vx_MQ below (fun _ _ _ _ => False) (jzXC D cls X A) args s 1 6 A) (F0 m 0 ls [])) : jzCx l y wy rm D tys X av sz cls := by
  refine vx_ofW (cc := cc) (maxL := maxL) (ret := ret) hy hw ?_
  intro p e s m args below meth c s₁ B hml htab hv
  obtain ⟨rfl, ⟨hN, rfl, hP, hK, hD⟩, hTh⟩ := hv
  rw [lg_entry_eq]
  exact body p e s m _ below meth c (va_A X s.heap.size) _ B.exec B.bytes hml htab B.notSynchronized (atoms_spec (ws := wy) B.pre) (findClass_of_methodNamed B.named) hN hP hK hD.self (fun q h => Or.inr h) hTh (lv_entry av hn)
end JZTE
/-- a body with a table of its own, that throws nothing outwards -/
theorem jz_ofWH {l : Launch} {y : MethodName} {ws ws' : List Cond} {rm : Room} {Pc : Array Value → State → Prop} {Qc : Array Value → State → Outcome → State → Prop} {mc ms : Nat} {free : Addr → Prop} {cc : ByteArray} {maxL : Nat} {ret : Option FieldType} {hh : List (Nat × Nat × Nat × Nat)}
    (hy : plainName y.cls = true) (hw : ws = Cond.codeWith y cc maxL ret hh :: ws')
    (body : ∀ p e s m args below meth c s₁, BodyLoose p l y (headSpec ws rm) cc maxL ret e s m args below meth c s₁ → c.maxLocals = maxL → Pc args s →
      W p l e (headSpec ws rm).room s m args below meth c s.heap [] 0 0 (MQ below Qc args s mc ms free) (entryFrame m args maxL)) : Met l y ws rm Pc Qc mc ms free := by
  refine MetFree.of_bodyS (code := cc) (maxLocals := maxL) (ret := ret) hy ?_ ?_
  · intro args s m h hn
    obtain ⟨m9, meth, c, hn9, h1, h2, h3, h4, -, h5, h6, -⟩ := Cond.codeWith_spec (atoms_spec (ws := ws) h _ (by rw [hw]; exact List.mem_cons_self))
    cases hn.symm.trans hn9
    exact ⟨meth, c, h1, h2, h3, h4, h5, h6⟩
  · intro p e s m args below meth c s₁ B hml hP _
    have hh0 : s₁.heap = s.heap := by rw [B.state]; rfl
    obtain ⟨t, a1, o, b1, b2, b3⟩ := body p e s m args below meth c s₁ B hml hP s₁ hh0 (Stand.of_body B)
    exact ⟨t, o, a1, b1, b2, b3⟩
section JZMV
variable {l : Launch} {y : MethodName} {wy : List Cond} {rm : Room} {D : va_G} {tc tys : List (ClassId × FieldType)} {wc X : va_W} {av : List Value} {sz : Nat}
theorem jz_blkV (bs : List jzB3) (hM : jxWv l y wy rm D tc wc av sz wc) (hX : X = jzOl bs) (hc : wc = jzSo bs) (hc' : wc = jzSn bs) (hXX : X = jzNw bs) (hkp : jzKp bs) (hKs : ∀ s, va_K D vwCl tys s → va_K D vwCl tc s) : jzCv (U := Unit) l y wy rm D tys X av sz (fun _ => X) (fun _ => True) 0 0 := by
  intro p e ha hc9 hk s m args below hf happ hPc hK0
  obtain ⟨hargs, hN, hsz, hP, hK, hD⟩ := hPc
  subst hsz
  have hP2 : va_P D vwCl (jzOl bs) s.heap := hX ▸ hP
  have hD2 : va_D (fun _ => True) (jzOl bs) := hX ▸ hD
  obtain ⟨n, o, h1, h2, h3, ⟨⟨-, ho, -, hB⟩, hz, hF⟩, L, hFr, hL⟩ := hM p e ha hc9 hk s m args below hf happ ⟨hargs, hN, rfl, hc ▸ jzB_subP hP2, hKs s hK, hc ▸ jzB_subD hD2⟩ hK0
  have hA : ∀ q, va_A wc s.heap.size q → va_A X s.heap.size q := fun q z => by
    rw [hX]
    rw [hc] at z
    exact jzB_subA z
  refine ⟨n, o, h1, h2, h3, ⟨⟨(), ho, trivial, ?_⟩, hz, fun q hq h => hF q hq (fun z => h (hA q z))⟩, L, hFr, fun q hq => hA _ (hL q hq)⟩
  show va_P D vwCl X _
  rw [hXX]
  refine jzB_join hP2 hD2 hkp ?_ (hc' ▸ hB)
  rw [← hc]
  exact hF
end JZMV
