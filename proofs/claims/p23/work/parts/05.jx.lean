/-! own rows: words of nest mates, bits of small numbers, one-row laws for reading methods -/
def jxNest : List Cond := [.fieldLinkNest "Twincuts" 57 "Twincuts$Web" "points" "I" "Twincuts", .fieldLinkNest "Twincuts$Palette" 23 "Twincuts$Web" "points" "I" "Twincuts", .fieldLinkNest "Twincuts$Ways" 30 "Twincuts$Web" "points" "I" "Twincuts", .fieldLinkNest "Twincuts$Forest" 60 "Twincuts$Web" "points" "I" "Twincuts", .fieldLinkNest "Twincuts$Falls" 98 "Twincuts$Web" "points" "I" "Twincuts", .fieldLinkNest "Twincuts$Drawing" 77 "Twincuts$Web" "points" "I" "Twincuts", .fieldLinkNest "Twincuts$Ways" 36 "Twincuts$Web" "lines" "I" "Twincuts", .fieldLinkNest "Twincuts$Falls" 80 "Twincuts$Web" "lines" "I" "Twincuts", .fieldLinkNest "Twincuts" 85 "Twincuts$Web" "lines" "I" "Twincuts", .fieldLinkNest "Twincuts$Forest" 42 "Twincuts$Web" "lines" "I" "Twincuts", .fieldLinkNest "Twincuts$Drawing" 61 "Twincuts$Web" "lines" "I" "Twincuts", .fieldLinkNest "Twincuts$Ways" 39 "Twincuts$Web" "standing" "I" "Twincuts", .fieldLinkNest "Twincuts$Forest" 47 "Twincuts$Web" "standing" "I" "Twincuts", .fieldLinkNest "Twincuts$Drawing" 38 "Twincuts$Web" "standing" "I" "Twincuts", .fieldLinkNest "Twincuts$Falls" 105 "Twincuts$Web" "standing" "I" "Twincuts", .fieldLinkNest "Twincuts" 173 "Twincuts$Web" "standing" "I" "Twincuts", .fieldLinkNest "Twincuts$Ways" 46 "Twincuts$Web" "smaller" "[I" "Twincuts", .fieldLinkNest "Twincuts$Forest" 54 "Twincuts$Web" "smaller" "[I" "Twincuts", .fieldLinkNest "Twincuts$Drawing" 71 "Twincuts$Web" "smaller" "[I" "Twincuts", .fieldLinkNest "Twincuts" 167 "Twincuts$Web" "smaller" "[I" "Twincuts", .fieldLinkNest "Twincuts$Ways" 49 "Twincuts$Web" "greater" "[I" "Twincuts", .fieldLinkNest "Twincuts$Forest" 57 "Twincuts$Web" "greater" "[I" "Twincuts", .fieldLinkNest "Twincuts$Drawing" 68 "Twincuts$Web" "greater" "[I" "Twincuts", .fieldLinkNest "Twincuts" 170 "Twincuts$Web" "greater" "[I" "Twincuts", .fieldLinkNest "Twincuts" 116 "Twincuts$Web" "cost" "[I" "Twincuts", .fieldLinkNest "Twincuts$Forest" 74 "Twincuts$Web" "cost" "[I" "Twincuts", .fieldLinkNest "Twincuts" 113 "Twincuts$Falls" "parts" "I" "Twincuts", .fieldLinkNest "Twincuts" 176 "Twincuts$Falls" "bridgeSet" "I" "Twincuts", .fieldLinkNest "Twincuts" 148 "Twincuts$Falls" "cutPointSet" "I" "Twincuts", .fieldLinkNest "Twincuts" 188 "Twincuts$Falls" "blocks" "I" "Twincuts", .fieldLinkNest "Twincuts" 191 "Twincuts$Falls" "pairs" "I" "Twincuts", .fieldLinkNest "Twincuts" 194 "Twincuts$Falls" "twins" "I" "Twincuts", .fieldLinkNest "Twincuts" 136 "Twincuts$Falls" "part" "[I" "Twincuts", .fieldLinkNest "Twincuts" 179 "Twincuts$Falls" "block" "[I" "Twincuts", .fieldLinkNest "Twincuts" 182 "Twincuts$Forest" "cheapestSet" "I" "Twincuts", .fieldLinkNest "Twincuts" 197 "Twincuts$Forest" "cheapestCost" "I" "Twincuts", .fieldLinkNest "Twincuts" 200 "Twincuts$Palette" "colours" "I" "Twincuts", .fieldLinkNest "Twincuts" 158 "Twincuts$Palette" "colour" "[I" "Twincuts", .fieldLinkNest "Twincuts" 164 "Twincuts$Drawing" "length" "[I" "Twincuts", .fieldLinkNest "Twincuts" 185 "Twincuts$Drawing" "face" "[I" "Twincuts", .methodLinkNest "Twincuts$Web" 37 ⟨"Twincuts", "has", "(II)Z"⟩ "Twincuts", .methodLinkNest "Twincuts$Ways" 42 ⟨"Twincuts", "has", "(II)Z"⟩ "Twincuts", .methodLinkNest "Twincuts$Forest" 50 ⟨"Twincuts", "has", "(II)Z"⟩ "Twincuts", .methodLinkNest "Twincuts$Falls" 89 ⟨"Twincuts", "has", "(II)Z"⟩ "Twincuts", .methodLinkNest "Twincuts$Drawing" 43 ⟨"Twincuts", "has", "(II)Z"⟩ "Twincuts", .methodLinkNest "Twincuts" 9 ⟨"Twincuts$Web", "<init>", "()V"⟩ "Twincuts", .methodLinkNest "Twincuts$Palette" 45 ⟨"Twincuts", "has", "(II)Z"⟩ "Twincuts"]
def jxIsNest : Cond → Bool
  | .fieldLinkNest _ _ _ _ _ _ => true
  | .methodLinkNest _ _ _ _ => true
  | _ => false
theorem jxNest_is : jxNest.all jxIsNest = true := by decide +kernel
/-- the nest's words hold -/
def jxNW (U : State) : Prop := ∀ w ∈ jxNest, va_Nw w U
theorem jxNW_nest {w : Cond} (h : w ∈ jxNest) : jxIsNest w = true := List.all_eq_true.mp jxNest_is w h
theorem jxIsNest_tabs : ∀ {w : Cond}, jxIsNest w = true → w.onTables = true := by
  intro w h
  cases w <;> first | rfl | (simp [jxIsNest] at h)
theorem jxNW.warm {s U : State} (h : jxNW s) (hW : s.WarmedH U.vm) : jxNW U := by
  intro w hw
  have h1 := jxNW_nest hw
  have h2 := h w hw
  cases w <;> first | exact va_Nw.warmF hW h2 | exact va_Nw.warmM hW h2 | (simp [jxIsNest] at h1)
theorem jxNW.same {u U : State} (h : jxNW u) (hv : u.vm = U.vm) : jxNW U := fun w hw => va_Nw.same (jxIsNest_tabs (jxNW_nest hw)) hv (h w hw)
theorem jxNW.use {U : State} {A : Array Value} (h : jxNW U) (i : Nat) {w : Cond} (hi : jxNest[i]? = some w) : w.before A U = true := va_Nw.use (jxIsNest_tabs (jxNW_nest (List.mem_of_getElem? hi))) (h w (List.mem_of_getElem? hi))
theorem jxNW.get {U : State} (h : jxNW U) (i : Nat) {w : Cond} (hi : jxNest[i]? = some w) : va_Nw w U := h w (List.mem_of_getElem? hi)
-- bits of small numbers (the first rows out of BITS.to-paste and NUMBERS.to-paste)
def bt (x : Int32) (i : Nat) : Bool := x.toBitVec.getLsbD i
theorem b_ext {x y : Int32} (h : ∀ i, i < 32 → bt x i = bt y i) : x = y := Int32.toBitVec_inj.mp (BitVec.eq_of_getLsbD_eq (fun i hi => h i hi))
theorem b_and (x y : Int32) (i : Nat) : bt (x &&& y) i = (bt x i && bt y i) := by unfold bt; rw [Int32.toBitVec_and, BitVec.getLsbD_and]
theorem b_xor (x y : Int32) (i : Nat) : bt (x ^^^ y) i = (bt x i ^^ bt y i) := by unfold bt; rw [Int32.toBitVec_xor, BitVec.getLsbD_xor]
theorem b_m1 : ∀ i, i < 32 → bt (-1) i = true := by decide +kernel
theorem s_l : ∀ n, n < 32 → ((nI n &&& 31).toBitVec.smod 32).toNat = n := by decide +kernel
theorem fa_and (a b : Nat) : nI a &&& nI b = nI (a &&& b) := by
  apply Int32.toBitVec_inj.1
  show BitVec.ofNat 32 a &&& BitVec.ofNat 32 b = BitVec.ofNat 32 (a &&& b)
  apply BitVec.eq_of_getLsbD_eq
  intro i hi
  simp [hi]
theorem fa_or (a b : Nat) : nI a ||| nI b = nI (a ||| b) := by
  apply Int32.toBitVec_inj.1
  show BitVec.ofNat 32 a ||| BitVec.ofNat 32 b = BitVec.ofNat 32 (a ||| b)
  apply BitVec.eq_of_getLsbD_eq
  intro i hi
  simp [hi]
theorem fa_xor (a b : Nat) : nI a ^^^ nI b = nI (a ^^^ b) := by
  apply Int32.toBitVec_inj.1
  show BitVec.ofNat 32 a ^^^ BitVec.ofNat 32 b = BitVec.ofNat 32 (a ^^^ b)
  apply BitVec.eq_of_getLsbD_eq
  intro i hi
  simp [hi]
/-- a without b -/
def jxAN (a b : Nat) : Nat := a ^^^ (a &&& b)
theorem jxAN_bit (a b i : Nat) : (jxAN a b).testBit i = (a.testBit i && !b.testBit i) := by
  unfold jxAN
  rw [Nat.testBit_xor, Nat.testBit_and]
  cases a.testBit i <;> cases b.testBit i <;> rfl
theorem jx_bt (a : Nat) {i : Nat} (hi : i < 32) : bt (nI a) i = a.testBit i := by
  show (BitVec.ofNat 32 a).getLsbD i = _
  rw [BitVec.getLsbD_ofNat]
  simp [hi]
theorem jx_not (a b : Nat) : nI a &&& (nI b ^^^ (-1)) = nI (jxAN a b) := by
  apply b_ext
  intro i hi
  rw [b_and, b_xor, jx_bt a hi, jx_bt b hi, b_m1 i hi, jx_bt _ hi, jxAN_bit]
  cases a.testBit i <;> cases b.testBit i <;> rfl
theorem jx_shl {n k : Nat} (hk : k < 32) (h : n * 2 ^ k < 2 ^ 32) : nI n <<< (nI k &&& 31) = nI (n * 2 ^ k) := pk_shlN _ k (s_l k hk) h
theorem jx_1shl {k : Nat} (hk : k < 31) : nI 1 <<< (nI k &&& 31) = nI (2 ^ k) := by
  have h2 : (2 : Nat) ^ k < 2 ^ 32 := Nat.pow_lt_pow_right (by decide) (by omega)
  rw [jx_shl (by omega) (by omega), Nat.one_mul]
theorem jx_shr {n k : Nat} (hk : k < 32) (hn : n < 2 ^ 31) : nI n >>> (nI k &&& 31) = nI (n / 2 ^ k) := pk_shrN hn _ k (s_l k hk)
/-- 1 for true, 0 for false -/
def jB (b : Bool) : Nat := if b then 1 else 0
theorem jx_b1 (n k : Nat) : nI (n / 2 ^ k) &&& nI 1 = nI (jB (n.testBit k)) := by
  rw [fa_and, Nat.and_one_is_mod, Nat.testBit_eq_decide_div_mod_eq]
  rcases Nat.mod_two_eq_zero_or_one (n / 2 ^ k) with h | h <;> rw [h] <;> rfl
theorem jB_0 {b : Bool} (h : nI (jB b) = 0) : b = false := by
  cases b
  · rfl
  · exact absurd h (by decide)
theorem jB_1 {b : Bool} (h : ¬ nI (jB b) = 0) : b = true := by
  cases b
  · exact absurd (by decide) h
  · rfl
theorem jB_lt (b : Bool) : jB b < 2 := by cases b <;> decide
theorem jx_z {n : Nat} (hn : n < 2 ^ 31) (h : nI n = 0) : n = 0 := (nI_eq hn (by decide)).mp (h.trans nI_0.symm)
theorem jx_nz {n : Nat} (h : ¬ nI n = 0) : n ≠ 0 := fun e => h (by rw [e]; exact nI_0)
theorem jx_e {a b : Nat} (ha : a < 2 ^ 31) (hb : b < 2 ^ 31) (h : nI a = nI b) : a = b := (nI_eq ha hb).mp h
theorem jx_ne {a b : Nat} (h : ¬ nI a = nI b) : a ≠ b := fun e => h (by rw [e])
theorem jx_le {a b : Nat} (ha : a < 2 ^ 31) (hb : b < 2 ^ 31) (h : nI a ≤ nI b) : a ≤ b := (nI_leI ha hb).mp h
theorem jx_nle {a b : Nat} (ha : a < 2 ^ 31) (hb : b < 2 ^ 31) (h : ¬ nI a ≤ nI b) : b < a := Nat.not_le.mp (fun q => h ((nI_leI ha hb).mpr q))
theorem jx_lt {a b : Nat} (ha : a < 2 ^ 31) (hb : b < 2 ^ 31) (h : nI a < nI b) : a < b := (nI_ltI ha hb).mp h
theorem jx_nlt {a b : Nat} (ha : a < 2 ^ 31) (hb : b < 2 ^ 31) (h : ¬ nI a < nI b) : b ≤ a := Nat.not_lt.mp (fun q => h ((nI_ltI ha hb).mpr q))
/-- a start that reads: the nest's words, the world, the tables -/
def jxR (D : va_G) (tys : List (ClassId × FieldType)) (ws : va_W) (U : State) : Prop := jxNW U ∧ va_P D vwCl ws U.heap ∧ va_K D vwCl tys U
theorem jxR_blind {D : va_G} {tys : List (ClassId × FieldType)} {ws : va_W} {av : List Value} : FrameBlind (va_Pc av (jxR D tys ws)) := by
  intro a U g mk h
  obtain ⟨q0, q1, q2, q3⟩ := h
  exact ⟨q0, q1.same rfl, q2, va_K.moved (u := U) (U := U.calling g mk a) (Vm.Alike.refl U.vm) q3⟩
/-- a method that reads the world ws and answers a number -/
abbrev jxRO (l : Launch) (y : MethodName) (wy : List Cond) (rm : Room) (D : va_G) (tys : List (ClassId × FieldType)) (ws : va_W) (av : List Value) (post : Int32 → Prop) : Prop :=
  Met l y wy rm (va_Pc av (jxR D tys ws)) (vp_Si post) 0 0 (fun _ => False)
section JXE
variable {l : Launch} {y : MethodName} {wy ws' : List Cond} {rm : Room} {D : va_G} {tys : List (ClassId × FieldType)} {ws : va_W} {av : List Value} {post : Int32 → Prop} {cc : ByteArray} {maxL : Nat}
theorem jx_enter (hy : plainName y.cls = true) (hw : wy = Cond.code y cc maxL (some .int) :: ws') (hn : (lg_sl av).length ≤ maxL)
    (body : ∀ (p : Program) (e : Env) (s : State) (m : MethodId) (args : Array Value) (below : List Frame) (meth : Method) (c : Code) (Q : State → Prop) (ls : Array Slot), p.tables.exec = Jvm.exec → c.code = cc → c.maxLocals = maxL → (∀ w ∈ wy, w.before args s = true) → s.vm.findClass y.cls = some m.cls → jxNW s → va_P D vwCl ws s.heap → va_K D vwCl tys s → lv_has ls maxL (lv_args 0 av) →
      (∀ (v : Int32) (pc : Nat) (ls : Array Slot), decode cc pc = .ok (.ireturn, 1) → post v → W p l e rm s m args below meth c s.heap [] 0 0 Q (F0 m pc ls [.int v])) → W p l e rm s m args below meth c s.heap [] 0 0 Q (F0 m 0 ls [])) : jxRO l y wy rm D tys ws av post := by
  refine Met.ofW (cc := cc) (maxL := maxL) (ret := some .int) hy hw ?_
  intro p e s m args below meth c s₁ B hml hv
  obtain ⟨rfl, hN, hP, hK⟩ := hv
  have hlocks := B.notSynchronized
  have hr := B.returns
  rw [lg_entry_eq]
  exact body p e s m _ below meth c _ _ B.exec B.bytes hml (atoms_spec (ws := wy) B.pre) (findClass_of_methodNamed B.named) hN hP hK (lv_entry av hn)
    (fun v pc ls hd hp => W.iret (v := v) B.exec B.bytes hr (fun t ht _ => ⟨v, rfl, hp, ht⟩) (fun _ h => by cases h) hd)
theorem jx_enterZ (hy : plainName y.cls = true) (hw : wy = Cond.code y cc maxL (some .boolean) :: ws') (hn : (lg_sl av).length ≤ maxL)
    (body : ∀ (p : Program) (e : Env) (s : State) (m : MethodId) (args : Array Value) (below : List Frame) (meth : Method) (c : Code) (Q : State → Prop) (ls : Array Slot), p.tables.exec = Jvm.exec → c.code = cc → c.maxLocals = maxL → (∀ w ∈ wy, w.before args s = true) → s.vm.findClass y.cls = some m.cls → jxNW s → va_P D vwCl ws s.heap → va_K D vwCl tys s → lv_has ls maxL (lv_args 0 av) →
      (∀ (v : Bool) (pc : Nat) (ls : Array Slot), decode cc pc = .ok (.ireturn, 1) → post (nI (jB v)) → W p l e rm s m args below meth c s.heap [] 0 0 Q (F0 m pc ls [.int (nI (jB v))])) → W p l e rm s m args below meth c s.heap [] 0 0 Q (F0 m 0 ls [])) : jxRO l y wy rm D tys ws av post := by
  refine Met.ofW (cc := cc) (maxL := maxL) (ret := some .boolean) hy hw ?_
  intro p e s m args below meth c s₁ B hml hv
  obtain ⟨rfl, hN, hP, hK⟩ := hv
  have hlocks := B.notSynchronized
  have hr := B.returns
  rw [lg_entry_eq]
  exact body p e s m _ below meth c _ _ B.exec B.bytes hml (atoms_spec (ws := wy) B.pre) (findClass_of_methodNamed B.named) hN hP hK (lv_entry av hn)
    (fun v pc ls hd hp => W.zret (v := nI (jB v)) B.exec B.bytes hr (by cases v <;> rfl) (fun t ht _ => ⟨_, rfl, hp, ht⟩) (fun _ h => by cases h) hd)
end JXE
section JXC
variable {p : Program} {l : Launch} {e : Env} {R : Room} {s : State} {m : MethodId} {args : Array Value} {below : List Frame} {meth : Method} {c : Code} {H : Heap} {locs : List Loc} {cells slots : Nat} {Q : State → Prop}
variable {cc bytes : ByteArray} {pc nL maxL index n : Nat} {ls : Array Slot} {rest st0 As : List Value} {Ts wy : List Cond} {own C host : String} {y : MethodName} {ret : Option FieldType} {rm : Room} {D : va_G} {tc : List (ClassId × FieldType)} {wc : va_W} {post : Int32 → Prop} {b : Nat}
theorem jx_val {x z : Int32} (h : x = z) (k : W p l e R s m args below meth c H locs cells slots Q (F0 m pc ls (.int z :: rest))) : W p l e R s m args below meth c H locs cells slots Q (F0 m pc ls (.int x :: rest)) := h ▸ k
/-- a call of a method of an object that reads -/
theorem jx_callV (S : CallFix p m c cc nL s args Ts own) (hM : jxRO l y wy rm D tc wc (.ref b :: As) post) (cw : CallW R s args own C index y bytes maxL ret wy rm 0 0 n) (hN : jxNW s) (hP : va_P D vwCl wc H) (hK : va_K D vwCl tc s)
    (q0 ci : Nat) {q : vw_C} {vs : List Value} (hcl : vwCl[ci]? = some q) (hC : q.1 = C) (he : wc[q0]? = some (b, .inr (ci, vs))) (hn : As.length = n) (hsize : ls.size = nL) (hstack : st0 = As.reverse ++ .ref b :: rest) (hW : (rest.map fun v => v.category).sum ≤ 8) (hdg : decode cc pc = .ok (.invokevirtual index, 3)) (hf : cells ≤ R.cells ∧ slots ≤ R.slots)
    (kk : ∀ r : Int32, post r → W p l e R s m args below meth c H locs cells slots Q (F0 m (pc + 3) ls (.int r :: rest))) : W p l e R s m args below meth c H locs cells slots Q (F0 m pc ls st0) := by
  subst hC
  exact vp_callSi (W.runV S hM cw ⟨jxR_blind, va_recv hK hP hcl he, fun U hU hW' => ⟨rfl, hN.warm hW', by rw [hU]; exact hP, va_K.moved hW'.alike hK⟩⟩ rfl hn hsize hstack (lv_room hW) hdg hf) kk
/-- a call of a static method that reads -/
theorem jx_callS (S : CallFix p m c cc nL s args Ts own) (hM : jxRO l y wy rm D tc wc As post) (cw : CallB R s args own index y bytes maxL ret wy rm 0 0 n ∧ (Cond.static y).before args s = true) (hN : jxNW s) (hP : va_P D vwCl wc H) (hK : va_K D vwCl tc s)
    (hn : As.length = n) (hsize : ls.size = nL) (hstack : st0 = As.reverse ++ rest) (hW : (rest.map fun v => v.category).sum ≤ 8) (hdg : decode cc pc = .ok (.invokestatic index, 3)) (hf : cells ≤ R.cells ∧ slots ≤ R.slots)
    (kk : ∀ r : Int32, post r → W p l e R s m args below meth c H locs cells slots Q (F0 m (pc + 3) ls (.int r :: rest))) : W p l e R s m args below meth c H locs cells slots Q (F0 m pc ls st0) :=
  vp_callSi (W.runS S hM cw ⟨jxR_blind, fun U hU hW' => ⟨rfl, hN.warm hW', by rw [hU]; exact hP, va_K.moved hW'.alike hK⟩⟩ rfl hn hsize hstack (lv_room hW) hdg hf) kk
/-- a call of a nest mate's static method that reads -/
theorem jx_callSN (S : CallFix p m c cc nL s args Ts own) (hM : jxRO l y wy rm D tc wc As post) (cw : va_CN R s args own index y host bytes maxL ret wy rm 0 0 n) (hst : (Cond.static y).before args s = true) (hN : jxNW s) (hP : va_P D vwCl wc H) (hK : va_K D vwCl tc s)
    (hn : As.length = n) (hsize : ls.size = nL) (hstack : st0 = As.reverse ++ rest) (hW : (rest.map fun v => v.category).sum ≤ 8) (hdg : decode cc pc = .ok (.invokestatic index, 3)) (hf : cells ≤ R.cells ∧ slots ≤ R.slots)
    (kk : ∀ r : Int32, post r → W p l e R s m args below meth c H locs cells slots Q (F0 m (pc + 3) ls (.int r :: rest))) : W p l e R s m args below meth c H locs cells slots Q (F0 m pc ls st0) :=
  vp_callSi (va_runSN S hM ⟨cw, hst, trivial⟩ ⟨jxR_blind, fun U hU hW' => ⟨rfl, hN.warm hW', by rw [hU]; exact hP, va_K.moved hW'.alike hK⟩⟩ rfl hn hsize hstack (lv_room hW) hdg hf).run kk
/-- a place of an array of numbers that are small -/
theorem jx_iald (hexec : p.tables.exec = Jvm.exec) (hb : c.code = cc) {tys : List (ClassId × FieldType)} {ws : va_W} (hK : va_K D vwCl tys s) (hP : va_P D vwCl ws H) (q0 t0 : Nat) {a : Nat} {cA : ClassId} {N : Nat} {f : Nat → Int32} (ha : ws[q0]? = some (a, .inl (cA, N, .inl f))) (ht : tys[t0]? = some (cA, .int)) {j : Nat} (hj : j < N) (hN : N < 2 ^ 31) (hdg : decode cc pc = .ok (.iaload, 1))
    (kk : W p l e R s m args below meth c H locs cells slots Q (F0 m (pc + 1) ls (.int (f j) :: rest))) : W p l e R s m args below meth c H locs cells slots Q (F0 m pc ls (.int (nI j) :: .ref a :: rest)) := by
  refine va_iald hexec hb hK hP q0 t0 ha ht (vp_in_nI hj hN) hdg ?_
  rw [nI_clamp (Nat.lt_trans hj hN)]
  exact kk
end JXC
