/-! own rows: the constructors: the whole world, fresh -/
def jzN (D : va_G) (cI cO cM cL : ClassId) (X : va_W) (sz : Nat) (U : State) : Prop := jxNW U ∧ U.heap.size = sz ∧ va_P D vwCl X U.heap ∧ va_K D vwCl (jzT cI cO cM cL) U ∧ va_D (fun _ => True) X ∧ va_AOA .int U ∧ va_AOA .long U
theorem jz_aoa {ty : FieldType} {s U : State} (hal : s.vm.Alike U.vm) (h : va_AOA ty s) : va_AOA ty U := by
  unfold va_AOA Cond.before at h ⊢
  simp only [Cond.holds, Cond.value, beq_iff_eq] at h ⊢
  cases hc : s.vm.findClass (FieldType.array ty).toString with
  | none => simp [hc] at h
  | some comp =>
    simp only [hc, Option.bind_some, Option.bind_eq_some_iff, Option.map_eq_some_iff] at h
    obtain ⟨c, hi, k, hk, hb⟩ := h
    obtain ⟨k', hk', hek'⟩ := hal.2.2 _ _ hk
    have hcomp' : U.vm.findClass (FieldType.array ty).toString = some comp := by rw [hal.findClass]; exact hc
    have hkind : k'.kind = k.kind := by rw [hek']
    simp only [hcomp', Option.bind_some]
    rw [Option.bind_eq_some_iff]
    refine ⟨c, (hal.findIdx?_eqK _ (fun _ => rfl)).trans hi, ?_⟩
    rw [hk', Option.map_some, hkind]
    simp only [hal.findClass]
    exact congrArg some hb
theorem jzN_blind {D : va_G} {cI cO cM cL : ClassId} {X : va_W} {sz : Nat} {av : List Value} : FrameBlind (va_Pc av (jzN D cI cO cM cL X sz)) := by
  intro a U g mk h
  obtain ⟨q0, q1, q2, q3, q4, q5, q6, q7⟩ := h
  exact ⟨q0, q1.same rfl, q2, q3, va_K.moved (u := U) (U := U.calling g mk a) (Vm.Alike.refl U.vm) q4, q5, jz_aoa (s := U) (U := U.calling g mk a) (Vm.Alike.refl U.vm) q6, jz_aoa (s := U) (U := U.calling g mk a) (Vm.Alike.refl U.vm) q7⟩
theorem jz_RAI {D : va_G} {cI cO cM cL cA : ClassId} {s : State} (h : va_K D vwCl (jzT cI cO cM cL ++ [(cA, .int)]) s) : cA = cI := by
  have h1 : s.vm.findClass ("[" ++ FieldType.int.toString) = some cI := (h.2 0 (cI, .int) rfl).2
  have h2 : s.vm.findClass ("[" ++ FieldType.int.toString) = some cA := (h.2 4 (cA, .int) rfl).2
  rw [h1] at h2
  exact (Option.some.inj h2).symm
theorem jz_RAO {D : va_G} {cI cO cM cL cA : ClassId} {s : State} (h : va_K D vwCl (jzT cI cO cM cL ++ [(cA, .array .int)]) s) : cA = cO := by
  have h1 : s.vm.findClass ("[" ++ (FieldType.array .int).toString) = some cO := (h.2 1 (cO, .array .int) rfl).2
  have h2 : s.vm.findClass ("[" ++ (FieldType.array .int).toString) = some cA := (h.2 4 (cA, .array .int) rfl).2
  rw [h1] at h2
  exact (Option.some.inj h2).symm
theorem jz_RAM {D : va_G} {cI cO cM cL cA : ClassId} {s : State} (h : va_K D vwCl (jzT cI cO cM cL ++ [(cA, .array .long)]) s) : cA = cM := by
  have h1 : s.vm.findClass ("[" ++ (FieldType.array .long).toString) = some cM := (h.2 2 (cM, .array .long) rfl).2
  have h2 : s.vm.findClass ("[" ++ (FieldType.array .long).toString) = some cA := (h.2 4 (cA, .array .long) rfl).2
  rw [h1] at h2
  exact (Option.some.inj h2).symm
theorem jz_fcI {D : va_G} {cI cO cM cL : ClassId} {s : State} (h : va_K D vwCl (jzT cI cO cM cL) s) : s.vm.findClass (FieldType.array .int).toString = some cI := (h.2 0 (cI, .int) rfl).2
theorem jz_fcL {D : va_G} {cI cO cM cL : ClassId} {s : State} (h : va_K D vwCl (jzT cI cO cM cL) s) : s.vm.findClass (FieldType.array .long).toString = some cL := (h.2 3 (cL, .long) rfl).2
theorem jz_sII : ("[" ++ (FieldType.array FieldType.int).toString) = "[[I" := by decide
theorem jz_sJJ : ("[" ++ (FieldType.array FieldType.long).toString) = "[[J" := by decide
theorem jz_pl {r : Nat → Nat} {N : Nat} {f : Nat → va_E} {x : va_E} : va_pl ([] ++ (List.range N).map r) (vr_up f ((List.range N).map r) x) = (List.range N).map (fun i => (r i, x)) := by
  show ((List.range N).map r).map _ = _
  rw [List.map_map]
  refine List.map_congr_left (fun i hi => ?_)
  show (r i, vr_up f ((List.range N).map r) x (r i)) = _
  rw [vr_up_in (List.mem_map.mpr ⟨i, hi, rfl⟩)]
theorem jz_pl0 (X : va_W) (f : Nat → va_E) : X ++ va_pl [] f = X := List.append_nil X
theorem jz_permP {D : va_G} {ws ws' : va_W} {H : Heap} (h : List.Perm ws' ws) (hP : va_P D vwCl ws H) : va_P D vwCl ws' H := by
  rw [jz_Pmem] at hP ⊢
  exact fun q hq => hP q (h.mem_iff.mp hq)
theorem jz_permD {A : Nat → Prop} {ws ws' : va_W} (h : List.Perm ws' ws) (hD : va_D A ws) : va_D A ws' := by
  rw [jz_Dnd] at hD ⊢
  exact ⟨((h.map Prod.fst).nodup_iff).mpr hD.1, fun q hq => hD.2 q (h.mem_iff.mp hq)⟩
theorem jz_perm2 (a r b : va_W) : List.Perm ((a ++ b) ++ r) ((a ++ r) ++ b) := by
  rw [List.append_assoc, List.append_assoc]
  exact List.Perm.append_left a List.perm_append_comm
theorem jz_perm3 (a r b c : va_W) : List.Perm (((a ++ b) ++ c) ++ r) (((a ++ r) ++ b) ++ c) := by
  rw [List.append_assoc, List.append_assoc, List.append_assoc, List.append_assoc, ← List.append_assoc b c r]
  exact List.Perm.append_left a List.perm_append_comm
theorem jz_Pr {D : va_G} {a b : va_W} {H : Heap} (h : va_P D vwCl (a ++ b) H) : va_P D vwCl b H := by
  rw [jz_Pmem] at h ⊢
  exact fun q hq => h q (List.mem_append_right _ hq)
theorem jz_Dr {A : Nat → Prop} {a b : va_W} (h : va_D A (a ++ b)) : va_D A b := by
  rw [jz_Dnd] at h ⊢
  rw [List.map_append, List.nodup_append] at h
  exact ⟨h.1.2.1, fun q hq => h.2 q (List.mem_append_right _ hq)⟩
theorem jz_Fr {A : Nat → Prop} {a b : va_W} {H0 H : Heap} {locs : List Loc} (hD : va_D A (a ++ b)) (hS : va_S A H0 H locs) (hA : ∀ q, H0.size ≤ q → A q) : ∀ q, va_A b H.size q → A q := jz_free (jz_Dr hD) hS hA
theorem jz_initJ {D : va_G} {A0 : Nat → Prop} {wr wc w1 : va_W} {H H1 : Heap} (hP : va_P D vwCl (wr ++ wc) H) (hD : va_D A0 (wr ++ wc)) (hk : ∀ q : Nat, q < H.size → ¬ va_A wc H.size q → H1[q]? = H[q]?) (hF : ∀ q, va_A wc H.size q → A0 q) (hP1 : va_P D vwCl w1 H1) (hD1 : va_D (va_A wc H.size) w1) : va_P D vwCl (wr ++ w1) H1 ∧ va_D A0 (wr ++ w1) := by
  rw [jz_Pmem] at hP hP1 ⊢
  rw [jz_Dnd] at hD hD1 ⊢
  rw [List.map_append, List.nodup_append] at hD ⊢
  obtain ⟨⟨n1, n2, n3⟩, n4⟩ := hD
  have hout : ∀ q, q ∈ wr → q.1 < H.size ∧ ¬ va_A wc H.size q.1 := fun q hq => by
    have hlt := (hP q (List.mem_append_left _ hq)).lt
    refine ⟨hlt, ?_⟩
    rw [jz_Amem]
    rintro (⟨e, z⟩ | z)
    · exact n3 q.1 (List.mem_map.mpr ⟨q, hq, rfl⟩) q.1 (List.mem_map.mpr ⟨(q.1, e), z, rfl⟩) rfl
    · omega
  refine ⟨fun q hq => ?_, ⟨n1, hD1.1, fun x hx y hy e => ?_⟩, fun q hq => ?_⟩
  · rcases List.mem_append.mp hq with h | h
    · obtain ⟨h1, h2⟩ := hout q h
      exact (hP q (List.mem_append_left _ h)).kept (hk q.1 h1 h2)
    · exact hP1 q h
  · obtain ⟨q, hq, rfl⟩ := List.mem_map.mp hx
    obtain ⟨q2, hq2, rfl⟩ := List.mem_map.mp hy
    exact (hout q hq).2 (e ▸ hD1.2 q2 hq2)
  · rcases List.mem_append.mp hq with h | h
    · exact n4 q (List.mem_append_left _ h)
    · exact hF _ (hD1.2 q h)

theorem in_X5_init_5 : ∀ w ∈ wsX50, w ∈ wsX5_init := by decide +kernel
set_option maxHeartbeats 1000000 in
set_option maxRecDepth 20000 in
theorem n_X5_init (l : Launch) (D : va_G) (cI cO cM cL : ClassId) (b sz : Nat) : Met l yX5_init wsX5_init ({ frames := 2, cells := 5, slots := 72, locals := 40 } : Room) (va_Pc [.ref b] (jzN D cI cO cM cL [(b, .inr (5, [.int 0, .int 0, .int 0, .null, .null, .null, .null, .null]))] sz)) (va_Qv (S := (Nat → Nat) × (Nat → Nat)) (fun u => u.1 0 = b) (fun u t => va_P D vwCl (jW cI u.1 0 0 0 (fun _ => 0) (fun _ => 0) (fun _ => 0) (fun _ => 0) (fun _ => 0)) t.heap ∧ va_D (va_A [(b, .inr (5, [.int 0, .int 0, .int 0, .null, .null, .null, .null, .null]))] sz) (jW cI u.1 0 0 0 (fun _ => 0) (fun _ => 0) (fun _ => 0) (fun _ => 0) (fun _ => 0))) (va_A [(b, .inr (5, [.int 0, .int 0, .int 0, .null, .null, .null, .null, .null]))] sz)) 5 72 (va_A [(b, .inr (5, [.int 0, .int 0, .int 0, .null, .null, .null, .null, .null]))] sz) := by
  refine Met.ofW (cc := cX5_init) (maxL := 1) (ret := none) (by decide) rfl ?_
  intro p e s m args below meth c s₁ B hml hv
  obtain ⟨rfl, hN, rfl, hP, hK, hD0, hao, hal⟩ := hv
  have hx := B.exec
  have hb := B.bytes
  have hr := B.returns
  have hts := atoms_spec (ws := wsX5_init) B.pre
  have hown : s.vm.findClass RX5 = some m.cls := findClass_of_methodNamed B.named
  have hlocks := B.notSynchronized
  have hin : meth.name = "<init>" := (name_of_methodNamed B.named B.method).1
  have hD := hD0.self (sz := s.heap.size)
  generalize hAe : va_A [(b, .inr (5, [.int 0, .int 0, .int 0, .null, .null, .null, .null, .null]))] s.heap.size = A at hD ⊢
  have hA : ∀ q : Nat, s.heap.size ≤ q → A q := fun q h => by rw [← hAe]; exact Or.inr h
  have hS : va_S A s.heap s.heap [] := va_S.rf
  have hl := lv_entry ([.ref b]) (n := 1) (Nat.le_of_ble_eq_true rfl)
  rw [lg_entry_eq]
  generalize (lg_sl ([.ref b]) ++ List.replicate (1 - (lg_sl ([.ref b])).length) Slot.unset).toArray = ls at hl ⊢
  have hl : lv_has ls 1 [(0, .ref b)] := hl
  refine lv_aload_n hx hb dX5_init_0 rfl (lv_at hl 0 rfl) ?_
  refine W.objInit hx hb hown (hts (.methodLink RX5 3 objectInit) (List.mem_of_getElem? (i := 1) (by decide +kernel))) (hts (.instanceMethod objectInit) (List.mem_of_getElem? (i := 2) (by decide +kernel))) (hts (.code objectInit ⟨#[0xb1]⟩ 1 none) (List.mem_of_getElem? (i := 3) rfl)) rfl (by rw [hml]; exact hl.1) rfl dX5_init_1 (Nat.le_of_ble_eq_true rfl) (Nat.le_of_ble_eq_true rfl) ?_
  refine W.eq (g2 := F0 m 4 ls []) rfl ?_
  refine lv_aload_n hx hb dX5_init_4 rfl (lv_at hl 0 rfl) ?_
  refine lv_iconst (v := nI 0) hx hb dX5_init_5 (by decide) ?_
  refine va_put (D := D) (ci := 5) (v := .int (nI 0)) (ty := .int) (C := RX5) (T := TX5) (N := 8) hx hb hts in_X5_init_5 tyX5 tyX5_ok nmX5 hown hK hP hD hS 0 rfl rfl 0 (by decide) (hts (.fieldLink RX5 9 "Twincuts$Web" "points" "I") (List.mem_of_getElem? (i := 4) (by decide +kernel))) (fun _ h9 => h9) rfl  (by decide +kernel) rfl rfl (Nat.le_of_ble_eq_true rfl) dX5_init_6 (fun H locs hP hD hS => ?_)
  have hP : va_P D vwCl ([(b, .inr (5, [.int (nI 0), .int 0, .int 0, .null, .null, .null, .null, .null]))]) H := hP
  have hD : va_D A ([(b, .inr (5, [.int (nI 0), .int 0, .int 0, .null, .null, .null, .null, .null]))]) := hD
  refine lv_aload_n hx hb dX5_init_9 rfl (lv_at hl 0 rfl) ?_
  refine lv_iconst (v := nI 0) hx hb dX5_init_10 (by decide) ?_
  refine va_put (D := D) (ci := 5) (v := .int (nI 0)) (ty := .int) (C := RX5) (T := TX5) (N := 8) hx hb hts in_X5_init_5 tyX5 tyX5_ok nmX5 hown hK hP hD hS 0 rfl rfl 1 (by decide) (hts (.fieldLink RX5 15 "Twincuts$Web" "lines" "I") (List.mem_of_getElem? (i := 5) (by decide +kernel))) (fun _ h9 => h9) rfl  (by decide +kernel) rfl rfl (Nat.le_of_ble_eq_true rfl) dX5_init_11 (fun H locs hP hD hS => ?_)
  have hP : va_P D vwCl ([(b, .inr (5, [.int (nI 0), .int (nI 0), .int 0, .null, .null, .null, .null, .null]))]) H := hP
  have hD : va_D A ([(b, .inr (5, [.int (nI 0), .int (nI 0), .int 0, .null, .null, .null, .null, .null]))]) := hD
  refine lv_aload_n hx hb dX5_init_14 rfl (lv_at hl 0 rfl) ?_
  refine lv_iconst (v := nI 0) hx hb dX5_init_15 (by decide) ?_
  refine va_put (D := D) (ci := 5) (v := .int (nI 0)) (ty := .int) (C := RX5) (T := TX5) (N := 8) hx hb hts in_X5_init_5 tyX5 tyX5_ok nmX5 hown hK hP hD hS 0 rfl rfl 2 (by decide) (hts (.fieldLink RX5 18 "Twincuts$Web" "standing" "I") (List.mem_of_getElem? (i := 6) (by decide +kernel))) (fun _ h9 => h9) rfl  (by decide +kernel) rfl rfl (Nat.le_of_ble_eq_true rfl) dX5_init_16 (fun H locs hP hD hS => ?_)
  have hP : va_P D vwCl ([(b, .inr (5, [.int (nI 0), .int (nI 0), .int (nI 0), .null, .null, .null, .null, .null]))]) H := hP
  have hD : va_D A ([(b, .inr (5, [.int (nI 0), .int (nI 0), .int (nI 0), .null, .null, .null, .null, .null]))]) := hD
  refine lv_aload_n hx hb dX5_init_19 rfl (lv_at hl 0 rfl) ?_
  refine lv_bipush (v := nI 16) hx hb dX5_init_20 (by decide) ?_
  refine va_newa (atype := .int) (ty := .int) (a0 := (16, .inl (fun _ => nI 0))) hx hb (hts (.arrayClass .int) (List.mem_of_getElem? (i := 7) (by decide +kernel))) rfl hK hP hD hS hA (fun _ => rfl) (nI_pos (by decide)) (nI_clamp (by decide)) (Nat.le_of_ble_eq_true rfl) (Nat.le_of_ble_eq_true rfl) (Nat.le_of_ble_eq_true rfl) dX5_init_22 (fun q1 cA H hK1 hP hD hS => ?_)
  have ecA := (jz_RAI hK1).symm
  subst ecA
  have hP : va_P D vwCl ([(b, .inr (5, [.int (nI 0), .int (nI 0), .int (nI 0), .null, .null, .null, .null, .null]))] ++ [(q1, .inl (cI, 16, .inl (fun _ => nI 0)))]) H := hP
  have hD : va_D A ([(b, .inr (5, [.int (nI 0), .int (nI 0), .int (nI 0), .null, .null, .null, .null, .null]))] ++ [(q1, .inl (cI, 16, .inl (fun _ => nI 0)))]) := hD
  refine va_putF (D := D) (ci := 5) (v := .ref q1) (ty := .array .int) (C := RX5) (T := TX5) (N := 8) hx hb hts in_X5_init_5 tyX5 tyX5_ok nmX5 hown hK hP hD hS 0 rfl rfl 3 (by decide) (hts (.fieldLink RX5 21 "Twincuts$Web" "smaller" "[I") (List.mem_of_getElem? (i := 8) (by decide +kernel))) (fun _ h9 => h9) rfl hin rfl (by decide +kernel) rfl rfl (Nat.le_of_ble_eq_true rfl) dX5_init_24 (fun H locs hP hD hS => ?_)
  have hP : va_P D vwCl ([(b, .inr (5, [.int (nI 0), .int (nI 0), .int (nI 0), .ref q1, .null, .null, .null, .null]))] ++ [(q1, .inl (cI, 16, .inl (fun _ => nI 0)))]) H := hP
  have hD : va_D A ([(b, .inr (5, [.int (nI 0), .int (nI 0), .int (nI 0), .ref q1, .null, .null, .null, .null]))] ++ [(q1, .inl (cI, 16, .inl (fun _ => nI 0)))]) := hD
  refine lv_aload_n hx hb dX5_init_27 rfl (lv_at hl 0 rfl) ?_
  refine lv_bipush (v := nI 16) hx hb dX5_init_28 (by decide) ?_
  refine va_newa (atype := .int) (ty := .int) (a0 := (16, .inl (fun _ => nI 0))) hx hb (hts (.arrayClass .int) (List.mem_of_getElem? (i := 7) (by decide +kernel))) rfl hK hP hD hS hA (fun _ => rfl) (nI_pos (by decide)) (nI_clamp (by decide)) (Nat.le_of_ble_eq_true rfl) (Nat.le_of_ble_eq_true rfl) (Nat.le_of_ble_eq_true rfl) dX5_init_30 (fun q2 cA H hK1 hP hD hS => ?_)
  have ecA := (jz_RAI hK1).symm
  subst ecA
  have hP : va_P D vwCl (([(b, .inr (5, [.int (nI 0), .int (nI 0), .int (nI 0), .ref q1, .null, .null, .null, .null]))] ++ [(q1, .inl (cI, 16, .inl (fun _ => nI 0)))]) ++ [(q2, .inl (cI, 16, .inl (fun _ => nI 0)))]) H := hP
  have hD : va_D A (([(b, .inr (5, [.int (nI 0), .int (nI 0), .int (nI 0), .ref q1, .null, .null, .null, .null]))] ++ [(q1, .inl (cI, 16, .inl (fun _ => nI 0)))]) ++ [(q2, .inl (cI, 16, .inl (fun _ => nI 0)))]) := hD
  refine va_putF (D := D) (ci := 5) (v := .ref q2) (ty := .array .int) (C := RX5) (T := TX5) (N := 8) hx hb hts in_X5_init_5 tyX5 tyX5_ok nmX5 hown hK hP hD hS 0 rfl rfl 4 (by decide) (hts (.fieldLink RX5 25 "Twincuts$Web" "greater" "[I") (List.mem_of_getElem? (i := 9) (by decide +kernel))) (fun _ h9 => h9) rfl hin rfl (by decide +kernel) rfl rfl (Nat.le_of_ble_eq_true rfl) dX5_init_32 (fun H locs hP hD hS => ?_)
  have hP : va_P D vwCl (([(b, .inr (5, [.int (nI 0), .int (nI 0), .int (nI 0), .ref q1, .ref q2, .null, .null, .null]))] ++ [(q1, .inl (cI, 16, .inl (fun _ => nI 0)))]) ++ [(q2, .inl (cI, 16, .inl (fun _ => nI 0)))]) H := hP
  have hD : va_D A (([(b, .inr (5, [.int (nI 0), .int (nI 0), .int (nI 0), .ref q1, .ref q2, .null, .null, .null]))] ++ [(q1, .inl (cI, 16, .inl (fun _ => nI 0)))]) ++ [(q2, .inl (cI, 16, .inl (fun _ => nI 0)))]) := hD
  refine lv_aload_n hx hb dX5_init_35 rfl (lv_at hl 0 rfl) ?_
  refine lv_bipush (v := nI 16) hx hb dX5_init_36 (by decide) ?_
  refine va_newa (atype := .int) (ty := .int) (a0 := (16, .inl (fun _ => nI 0))) hx hb (hts (.arrayClass .int) (List.mem_of_getElem? (i := 7) (by decide +kernel))) rfl hK hP hD hS hA (fun _ => rfl) (nI_pos (by decide)) (nI_clamp (by decide)) (Nat.le_of_ble_eq_true rfl) (Nat.le_of_ble_eq_true rfl) (Nat.le_of_ble_eq_true rfl) dX5_init_38 (fun q3 cA H hK1 hP hD hS => ?_)
  have ecA := (jz_RAI hK1).symm
  subst ecA
  have hP : va_P D vwCl ((([(b, .inr (5, [.int (nI 0), .int (nI 0), .int (nI 0), .ref q1, .ref q2, .null, .null, .null]))] ++ [(q1, .inl (cI, 16, .inl (fun _ => nI 0)))]) ++ [(q2, .inl (cI, 16, .inl (fun _ => nI 0)))]) ++ [(q3, .inl (cI, 16, .inl (fun _ => nI 0)))]) H := hP
  have hD : va_D A ((([(b, .inr (5, [.int (nI 0), .int (nI 0), .int (nI 0), .ref q1, .ref q2, .null, .null, .null]))] ++ [(q1, .inl (cI, 16, .inl (fun _ => nI 0)))]) ++ [(q2, .inl (cI, 16, .inl (fun _ => nI 0)))]) ++ [(q3, .inl (cI, 16, .inl (fun _ => nI 0)))]) := hD
  refine va_putF (D := D) (ci := 5) (v := .ref q3) (ty := .array .int) (C := RX5) (T := TX5) (N := 8) hx hb hts in_X5_init_5 tyX5 tyX5_ok nmX5 hown hK hP hD hS 0 rfl rfl 5 (by decide) (hts (.fieldLink RX5 28 "Twincuts$Web" "cost" "[I") (List.mem_of_getElem? (i := 10) (by decide +kernel))) (fun _ h9 => h9) rfl hin rfl (by decide +kernel) rfl rfl (Nat.le_of_ble_eq_true rfl) dX5_init_40 (fun H locs hP hD hS => ?_)
  have hP : va_P D vwCl ((([(b, .inr (5, [.int (nI 0), .int (nI 0), .int (nI 0), .ref q1, .ref q2, .ref q3, .null, .null]))] ++ [(q1, .inl (cI, 16, .inl (fun _ => nI 0)))]) ++ [(q2, .inl (cI, 16, .inl (fun _ => nI 0)))]) ++ [(q3, .inl (cI, 16, .inl (fun _ => nI 0)))]) H := hP
  have hD : va_D A ((([(b, .inr (5, [.int (nI 0), .int (nI 0), .int (nI 0), .ref q1, .ref q2, .ref q3, .null, .null]))] ++ [(q1, .inl (cI, 16, .inl (fun _ => nI 0)))]) ++ [(q2, .inl (cI, 16, .inl (fun _ => nI 0)))]) ++ [(q3, .inl (cI, 16, .inl (fun _ => nI 0)))]) := hD
  refine lv_aload_n hx hb dX5_init_43 rfl (lv_at hl 0 rfl) ?_
  refine lv_bipush (v := nI 16) hx hb dX5_init_44 (by decide) ?_
  refine va_newa (atype := .int) (ty := .int) (a0 := (16, .inl (fun _ => nI 0))) hx hb (hts (.arrayClass .int) (List.mem_of_getElem? (i := 7) (by decide +kernel))) rfl hK hP hD hS hA (fun _ => rfl) (nI_pos (by decide)) (nI_clamp (by decide)) (Nat.le_of_ble_eq_true rfl) (Nat.le_of_ble_eq_true rfl) (Nat.le_of_ble_eq_true rfl) dX5_init_46 (fun q4 cA H hK1 hP hD hS => ?_)
  have ecA := (jz_RAI hK1).symm
  subst ecA
  have hP : va_P D vwCl (((([(b, .inr (5, [.int (nI 0), .int (nI 0), .int (nI 0), .ref q1, .ref q2, .ref q3, .null, .null]))] ++ [(q1, .inl (cI, 16, .inl (fun _ => nI 0)))]) ++ [(q2, .inl (cI, 16, .inl (fun _ => nI 0)))]) ++ [(q3, .inl (cI, 16, .inl (fun _ => nI 0)))]) ++ [(q4, .inl (cI, 16, .inl (fun _ => nI 0)))]) H := hP
  have hD : va_D A (((([(b, .inr (5, [.int (nI 0), .int (nI 0), .int (nI 0), .ref q1, .ref q2, .ref q3, .null, .null]))] ++ [(q1, .inl (cI, 16, .inl (fun _ => nI 0)))]) ++ [(q2, .inl (cI, 16, .inl (fun _ => nI 0)))]) ++ [(q3, .inl (cI, 16, .inl (fun _ => nI 0)))]) ++ [(q4, .inl (cI, 16, .inl (fun _ => nI 0)))]) := hD
  refine va_putF (D := D) (ci := 5) (v := .ref q4) (ty := .array .int) (C := RX5) (T := TX5) (N := 8) hx hb hts in_X5_init_5 tyX5 tyX5_ok nmX5 hown hK hP hD hS 0 rfl rfl 6 (by decide) (hts (.fieldLink RX5 31 "Twincuts$Web" "ends" "[I") (List.mem_of_getElem? (i := 11) (by decide +kernel))) (fun _ h9 => h9) rfl hin rfl (by decide +kernel) rfl rfl (Nat.le_of_ble_eq_true rfl) dX5_init_48 (fun H locs hP hD hS => ?_)
  have hP : va_P D vwCl (((([(b, .inr (5, [.int (nI 0), .int (nI 0), .int (nI 0), .ref q1, .ref q2, .ref q3, .ref q4, .null]))] ++ [(q1, .inl (cI, 16, .inl (fun _ => nI 0)))]) ++ [(q2, .inl (cI, 16, .inl (fun _ => nI 0)))]) ++ [(q3, .inl (cI, 16, .inl (fun _ => nI 0)))]) ++ [(q4, .inl (cI, 16, .inl (fun _ => nI 0)))]) H := hP
  have hD : va_D A (((([(b, .inr (5, [.int (nI 0), .int (nI 0), .int (nI 0), .ref q1, .ref q2, .ref q3, .ref q4, .null]))] ++ [(q1, .inl (cI, 16, .inl (fun _ => nI 0)))]) ++ [(q2, .inl (cI, 16, .inl (fun _ => nI 0)))]) ++ [(q3, .inl (cI, 16, .inl (fun _ => nI 0)))]) ++ [(q4, .inl (cI, 16, .inl (fun _ => nI 0)))]) := hD
  refine lv_aload_n hx hb dX5_init_51 rfl (lv_at hl 0 rfl) ?_
  refine lv_bipush (v := nI 8) hx hb dX5_init_52 (by decide) ?_
  refine va_newa (atype := .int) (ty := .int) (a0 := (8, .inl (fun _ => nI 0))) hx hb (hts (.arrayClass .int) (List.mem_of_getElem? (i := 7) (by decide +kernel))) rfl hK hP hD hS hA (fun _ => rfl) (nI_pos (by decide)) (nI_clamp (by decide)) (Nat.le_of_ble_eq_true rfl) (Nat.le_of_ble_eq_true rfl) (Nat.le_of_ble_eq_true rfl) dX5_init_54 (fun q5 cA H hK1 hP hD hS => ?_)
  have ecA := (jz_RAI hK1).symm
  subst ecA
  have hP : va_P D vwCl ((((([(b, .inr (5, [.int (nI 0), .int (nI 0), .int (nI 0), .ref q1, .ref q2, .ref q3, .ref q4, .null]))] ++ [(q1, .inl (cI, 16, .inl (fun _ => nI 0)))]) ++ [(q2, .inl (cI, 16, .inl (fun _ => nI 0)))]) ++ [(q3, .inl (cI, 16, .inl (fun _ => nI 0)))]) ++ [(q4, .inl (cI, 16, .inl (fun _ => nI 0)))]) ++ [(q5, .inl (cI, 8, .inl (fun _ => nI 0)))]) H := hP
  have hD : va_D A ((((([(b, .inr (5, [.int (nI 0), .int (nI 0), .int (nI 0), .ref q1, .ref q2, .ref q3, .ref q4, .null]))] ++ [(q1, .inl (cI, 16, .inl (fun _ => nI 0)))]) ++ [(q2, .inl (cI, 16, .inl (fun _ => nI 0)))]) ++ [(q3, .inl (cI, 16, .inl (fun _ => nI 0)))]) ++ [(q4, .inl (cI, 16, .inl (fun _ => nI 0)))]) ++ [(q5, .inl (cI, 8, .inl (fun _ => nI 0)))]) := hD
  refine va_putF (D := D) (ci := 5) (v := .ref q5) (ty := .array .int) (C := RX5) (T := TX5) (N := 8) hx hb hts in_X5_init_5 tyX5 tyX5_ok nmX5 hown hK hP hD hS 0 rfl rfl 7 (by decide) (hts (.fieldLink RX5 34 "Twincuts$Web" "linesAt" "[I") (List.mem_of_getElem? (i := 12) (by decide +kernel))) (fun _ h9 => h9) rfl hin rfl (by decide +kernel) rfl rfl (Nat.le_of_ble_eq_true rfl) dX5_init_56 (fun H locs hP hD hS => ?_)
  have hP : va_P D vwCl ((((([(b, .inr (5, [.int (nI 0), .int (nI 0), .int (nI 0), .ref q1, .ref q2, .ref q3, .ref q4, .ref q5]))] ++ [(q1, .inl (cI, 16, .inl (fun _ => nI 0)))]) ++ [(q2, .inl (cI, 16, .inl (fun _ => nI 0)))]) ++ [(q3, .inl (cI, 16, .inl (fun _ => nI 0)))]) ++ [(q4, .inl (cI, 16, .inl (fun _ => nI 0)))]) ++ [(q5, .inl (cI, 8, .inl (fun _ => nI 0)))]) H := hP
  have hD : va_D A ((((([(b, .inr (5, [.int (nI 0), .int (nI 0), .int (nI 0), .ref q1, .ref q2, .ref q3, .ref q4, .ref q5]))] ++ [(q1, .inl (cI, 16, .inl (fun _ => nI 0)))]) ++ [(q2, .inl (cI, 16, .inl (fun _ => nI 0)))]) ++ [(q3, .inl (cI, 16, .inl (fun _ => nI 0)))]) ++ [(q4, .inl (cI, 16, .inl (fun _ => nI 0)))]) ++ [(q5, .inl (cI, 8, .inl (fun _ => nI 0)))]) := hD
  refine W.widen (k := 5) (n := 72) (Nat.le_of_ble_eq_true rfl) (Nat.le_of_ble_eq_true rfl) ?_
  have hP9 : va_P D vwCl (jW cI (fun i => if i = 0 then b else if i = 1 then q1 else if i = 2 then q2 else if i = 3 then q3 else if i = 4 then q4 else if i = 5 then q5 else 0) 0 0 0 (fun _ => 0) (fun _ => 0) (fun _ => 0) (fun _ => 0) (fun _ => 0)) _ := hP
  have hD9 : va_D A (jW cI (fun i => if i = 0 then b else if i = 1 then q1 else if i = 2 then q2 else if i = 3 then q3 else if i = 4 then q4 else if i = 5 then q5 else 0) 0 0 0 (fun _ => 0) (fun _ => 0) (fun _ => 0) (fun _ => 0) (fun _ => 0)) := hD
  exact W.vret hx hb hr (fun t ht hW => ⟨⟨(fun i => if i = 0 then b else if i = 1 then q1 else if i = 2 then q2 else if i = 3 then q3 else if i = 4 then q4 else if i = 5 then q5 else 0, (fun _ => 0)), rfl, rfl, by rw [ht]; exact hP9, hD9⟩, hS.F ht⟩) hS.2.2 dX5_init_59

theorem in_X1_init_1 : ∀ w ∈ wsX10, w ∈ wsX1_init := by decide +kernel
set_option maxHeartbeats 1000000 in
set_option maxRecDepth 20000 in
theorem n_X1_init (l : Launch) (D : va_G) (cI cO cM cL : ClassId) (b w sz : Nat) : Met l yX1_init wsX1_init ({ frames := 2, cells := 8, slots := 344, locals := 40 } : Room) (va_Pc [.ref b, .ref w] (jzN D cI cO cM cL [(b, .inr (1, [.null, .int 0, .int 0, .int 0, .int 0, .int 0, .int 0, .null, .null, .null, .null, .null, .null, .null, .null]))] sz)) (va_Qv (S := (Nat → Nat) × (Nat → Nat)) (fun u => u.1 10 = b ∧ u.1 0 = w) (fun u t => va_P D vwCl (jF cI u.1 0 0 0 0 0 0 (fun _ => 0) (fun _ => 0) (fun _ => 0) (fun _ => nI 0) (fun _ => 0) (fun _ => 0) (fun _ => 0) (fun _ => 0)) t.heap ∧ va_D (va_A [(b, .inr (1, [.null, .int 0, .int 0, .int 0, .int 0, .int 0, .int 0, .null, .null, .null, .null, .null, .null, .null, .null]))] sz) (jF cI u.1 0 0 0 0 0 0 (fun _ => 0) (fun _ => 0) (fun _ => 0) (fun _ => nI 0) (fun _ => 0) (fun _ => 0) (fun _ => 0) (fun _ => 0))) (va_A [(b, .inr (1, [.null, .int 0, .int 0, .int 0, .int 0, .int 0, .int 0, .null, .null, .null, .null, .null, .null, .null, .null]))] sz)) 8 344 (va_A [(b, .inr (1, [.null, .int 0, .int 0, .int 0, .int 0, .int 0, .int 0, .null, .null, .null, .null, .null, .null, .null, .null]))] sz) := by
  refine Met.ofW (cc := cX1_init) (maxL := 2) (ret := none) (by decide) rfl ?_
  intro p e s m args below meth c s₁ B hml hv
  obtain ⟨rfl, hN, rfl, hP, hK, hD0, hao, hal⟩ := hv
  have hx := B.exec
  have hb := B.bytes
  have hr := B.returns
  have hts := atoms_spec (ws := wsX1_init) B.pre
  have hown : s.vm.findClass RX1 = some m.cls := findClass_of_methodNamed B.named
  have hlocks := B.notSynchronized
  have hin : meth.name = "<init>" := (name_of_methodNamed B.named B.method).1
  have hD := hD0.self (sz := s.heap.size)
  generalize hAe : va_A [(b, .inr (1, [.null, .int 0, .int 0, .int 0, .int 0, .int 0, .int 0, .null, .null, .null, .null, .null, .null, .null, .null]))] s.heap.size = A at hD ⊢
  have hA : ∀ q : Nat, s.heap.size ≤ q → A q := fun q h => by rw [← hAe]; exact Or.inr h
  have hS : va_S A s.heap s.heap [] := va_S.rf
  have hl := lv_entry ([.ref b, .ref w]) (n := 2) (Nat.le_of_ble_eq_true rfl)
  rw [lg_entry_eq]
  generalize (lg_sl ([.ref b, .ref w]) ++ List.replicate (2 - (lg_sl ([.ref b, .ref w])).length) Slot.unset).toArray = ls at hl ⊢
  have hl : lv_has ls 2 [(0, .ref b), (1, .ref w)] := hl
  refine lv_aload_n hx hb dX1_init_0 rfl (lv_at hl 0 rfl) ?_
  refine W.objInit hx hb hown (hts (.methodLink RX1 3 objectInit) (List.mem_of_getElem? (i := 1) (by decide +kernel))) (hts (.instanceMethod objectInit) (List.mem_of_getElem? (i := 2) (by decide +kernel))) (hts (.code objectInit ⟨#[0xb1]⟩ 1 none) (List.mem_of_getElem? (i := 3) rfl)) rfl (by rw [hml]; exact hl.1) rfl dX1_init_1 (Nat.le_of_ble_eq_true rfl) (Nat.le_of_ble_eq_true rfl) ?_
  refine W.eq (g2 := F0 m 4 ls []) rfl ?_
  refine lv_aload_n hx hb dX1_init_4 rfl (lv_at hl 0 rfl) ?_
  refine lv_iconst (v := nI 0) hx hb dX1_init_5 (by decide) ?_
  refine va_put (D := D) (ci := 1) (v := .int (nI 0)) (ty := .int) (C := RX1) (T := TX1) (N := 15) hx hb hts in_X1_init_1 tyX1 tyX1_ok nmX1 hown hK hP hD hS 0 rfl rfl 1 (by decide) (hts (.fieldLink RX1 9 "Twincuts$Falls" "parts" "I") (List.mem_of_getElem? (i := 4) (by decide +kernel))) (fun _ h9 => h9) rfl  (by decide +kernel) rfl rfl (Nat.le_of_ble_eq_true rfl) dX1_init_6 (fun H locs hP hD hS => ?_)
  have hP : va_P D vwCl ([(b, .inr (1, [.null, .int (nI 0), .int 0, .int 0, .int 0, .int 0, .int 0, .null, .null, .null, .null, .null, .null, .null, .null]))]) H := hP
  have hD : va_D A ([(b, .inr (1, [.null, .int (nI 0), .int 0, .int 0, .int 0, .int 0, .int 0, .null, .null, .null, .null, .null, .null, .null, .null]))]) := hD
  refine lv_aload_n hx hb dX1_init_9 rfl (lv_at hl 0 rfl) ?_
  refine lv_iconst (v := nI 0) hx hb dX1_init_10 (by decide) ?_
  refine va_put (D := D) (ci := 1) (v := .int (nI 0)) (ty := .int) (C := RX1) (T := TX1) (N := 15) hx hb hts in_X1_init_1 tyX1 tyX1_ok nmX1 hown hK hP hD hS 0 rfl rfl 2 (by decide) (hts (.fieldLink RX1 15 "Twincuts$Falls" "bridgeSet" "I") (List.mem_of_getElem? (i := 5) (by decide +kernel))) (fun _ h9 => h9) rfl  (by decide +kernel) rfl rfl (Nat.le_of_ble_eq_true rfl) dX1_init_11 (fun H locs hP hD hS => ?_)
  have hP : va_P D vwCl ([(b, .inr (1, [.null, .int (nI 0), .int (nI 0), .int 0, .int 0, .int 0, .int 0, .null, .null, .null, .null, .null, .null, .null, .null]))]) H := hP
  have hD : va_D A ([(b, .inr (1, [.null, .int (nI 0), .int (nI 0), .int 0, .int 0, .int 0, .int 0, .null, .null, .null, .null, .null, .null, .null, .null]))]) := hD
  refine lv_aload_n hx hb dX1_init_14 rfl (lv_at hl 0 rfl) ?_
  refine lv_iconst (v := nI 0) hx hb dX1_init_15 (by decide) ?_
  refine va_put (D := D) (ci := 1) (v := .int (nI 0)) (ty := .int) (C := RX1) (T := TX1) (N := 15) hx hb hts in_X1_init_1 tyX1 tyX1_ok nmX1 hown hK hP hD hS 0 rfl rfl 3 (by decide) (hts (.fieldLink RX1 18 "Twincuts$Falls" "cutPointSet" "I") (List.mem_of_getElem? (i := 6) (by decide +kernel))) (fun _ h9 => h9) rfl  (by decide +kernel) rfl rfl (Nat.le_of_ble_eq_true rfl) dX1_init_16 (fun H locs hP hD hS => ?_)
  have hP : va_P D vwCl ([(b, .inr (1, [.null, .int (nI 0), .int (nI 0), .int (nI 0), .int 0, .int 0, .int 0, .null, .null, .null, .null, .null, .null, .null, .null]))]) H := hP
  have hD : va_D A ([(b, .inr (1, [.null, .int (nI 0), .int (nI 0), .int (nI 0), .int 0, .int 0, .int 0, .null, .null, .null, .null, .null, .null, .null, .null]))]) := hD
  refine lv_aload_n hx hb dX1_init_19 rfl (lv_at hl 0 rfl) ?_
  refine lv_iconst (v := nI 0) hx hb dX1_init_20 (by decide) ?_
  refine va_put (D := D) (ci := 1) (v := .int (nI 0)) (ty := .int) (C := RX1) (T := TX1) (N := 15) hx hb hts in_X1_init_1 tyX1 tyX1_ok nmX1 hown hK hP hD hS 0 rfl rfl 4 (by decide) (hts (.fieldLink RX1 21 "Twincuts$Falls" "blocks" "I") (List.mem_of_getElem? (i := 7) (by decide +kernel))) (fun _ h9 => h9) rfl  (by decide +kernel) rfl rfl (Nat.le_of_ble_eq_true rfl) dX1_init_21 (fun H locs hP hD hS => ?_)
  have hP : va_P D vwCl ([(b, .inr (1, [.null, .int (nI 0), .int (nI 0), .int (nI 0), .int (nI 0), .int 0, .int 0, .null, .null, .null, .null, .null, .null, .null, .null]))]) H := hP
  have hD : va_D A ([(b, .inr (1, [.null, .int (nI 0), .int (nI 0), .int (nI 0), .int (nI 0), .int 0, .int 0, .null, .null, .null, .null, .null, .null, .null, .null]))]) := hD
  refine lv_aload_n hx hb dX1_init_24 rfl (lv_at hl 0 rfl) ?_
  refine lv_iconst (v := nI 0) hx hb dX1_init_25 (by decide) ?_
  refine va_put (D := D) (ci := 1) (v := .int (nI 0)) (ty := .int) (C := RX1) (T := TX1) (N := 15) hx hb hts in_X1_init_1 tyX1 tyX1_ok nmX1 hown hK hP hD hS 0 rfl rfl 5 (by decide) (hts (.fieldLink RX1 24 "Twincuts$Falls" "pairs" "I") (List.mem_of_getElem? (i := 8) (by decide +kernel))) (fun _ h9 => h9) rfl  (by decide +kernel) rfl rfl (Nat.le_of_ble_eq_true rfl) dX1_init_26 (fun H locs hP hD hS => ?_)
  have hP : va_P D vwCl ([(b, .inr (1, [.null, .int (nI 0), .int (nI 0), .int (nI 0), .int (nI 0), .int (nI 0), .int 0, .null, .null, .null, .null, .null, .null, .null, .null]))]) H := hP
  have hD : va_D A ([(b, .inr (1, [.null, .int (nI 0), .int (nI 0), .int (nI 0), .int (nI 0), .int (nI 0), .int 0, .null, .null, .null, .null, .null, .null, .null, .null]))]) := hD
  refine lv_aload_n hx hb dX1_init_29 rfl (lv_at hl 0 rfl) ?_
  refine lv_iconst (v := nI 0) hx hb dX1_init_30 (by decide) ?_
  refine va_put (D := D) (ci := 1) (v := .int (nI 0)) (ty := .int) (C := RX1) (T := TX1) (N := 15) hx hb hts in_X1_init_1 tyX1 tyX1_ok nmX1 hown hK hP hD hS 0 rfl rfl 6 (by decide) (hts (.fieldLink RX1 27 "Twincuts$Falls" "twins" "I") (List.mem_of_getElem? (i := 9) (by decide +kernel))) (fun _ h9 => h9) rfl  (by decide +kernel) rfl rfl (Nat.le_of_ble_eq_true rfl) dX1_init_31 (fun H locs hP hD hS => ?_)
  have hP : va_P D vwCl ([(b, .inr (1, [.null, .int (nI 0), .int (nI 0), .int (nI 0), .int (nI 0), .int (nI 0), .int (nI 0), .null, .null, .null, .null, .null, .null, .null, .null]))]) H := hP
  have hD : va_D A ([(b, .inr (1, [.null, .int (nI 0), .int (nI 0), .int (nI 0), .int (nI 0), .int (nI 0), .int (nI 0), .null, .null, .null, .null, .null, .null, .null, .null]))]) := hD
  refine lv_aload_n hx hb dX1_init_34 rfl (lv_at hl 0 rfl) ?_
  refine lv_bipush (v := nI 8) hx hb dX1_init_35 (by decide) ?_
  refine va_newa (atype := .int) (ty := .int) (a0 := (8, .inl (fun _ => nI 0))) hx hb (hts (.arrayClass .int) (List.mem_of_getElem? (i := 10) (by decide +kernel))) rfl hK hP hD hS hA (fun _ => rfl) (nI_pos (by decide)) (nI_clamp (by decide)) (Nat.le_of_ble_eq_true rfl) (Nat.le_of_ble_eq_true rfl) (Nat.le_of_ble_eq_true rfl) dX1_init_37 (fun q1 cA H hK1 hP hD hS => ?_)
  have ecA := (jz_RAI hK1).symm
  subst ecA
  have hP : va_P D vwCl ([(b, .inr (1, [.null, .int (nI 0), .int (nI 0), .int (nI 0), .int (nI 0), .int (nI 0), .int (nI 0), .null, .null, .null, .null, .null, .null, .null, .null]))] ++ [(q1, .inl (cI, 8, .inl (fun _ => nI 0)))]) H := hP
  have hD : va_D A ([(b, .inr (1, [.null, .int (nI 0), .int (nI 0), .int (nI 0), .int (nI 0), .int (nI 0), .int (nI 0), .null, .null, .null, .null, .null, .null, .null, .null]))] ++ [(q1, .inl (cI, 8, .inl (fun _ => nI 0)))]) := hD
  refine va_putF (D := D) (ci := 1) (v := .ref q1) (ty := .array .int) (C := RX1) (T := TX1) (N := 15) hx hb hts in_X1_init_1 tyX1 tyX1_ok nmX1 hown hK hP hD hS 0 rfl rfl 7 (by decide) (hts (.fieldLink RX1 30 "Twincuts$Falls" "part" "[I") (List.mem_of_getElem? (i := 11) (by decide +kernel))) (fun _ h9 => h9) rfl hin rfl (by decide +kernel) rfl rfl (Nat.le_of_ble_eq_true rfl) dX1_init_39 (fun H locs hP hD hS => ?_)
  have hP : va_P D vwCl ([(b, .inr (1, [.null, .int (nI 0), .int (nI 0), .int (nI 0), .int (nI 0), .int (nI 0), .int (nI 0), .ref q1, .null, .null, .null, .null, .null, .null, .null]))] ++ [(q1, .inl (cI, 8, .inl (fun _ => nI 0)))]) H := hP
  have hD : va_D A ([(b, .inr (1, [.null, .int (nI 0), .int (nI 0), .int (nI 0), .int (nI 0), .int (nI 0), .int (nI 0), .ref q1, .null, .null, .null, .null, .null, .null, .null]))] ++ [(q1, .inl (cI, 8, .inl (fun _ => nI 0)))]) := hD
  refine lv_aload_n hx hb dX1_init_42 rfl (lv_at hl 0 rfl) ?_
  refine lv_bipush (v := nI 8) hx hb dX1_init_43 (by decide) ?_
  refine va_newa (atype := .int) (ty := .int) (a0 := (8, .inl (fun _ => nI 0))) hx hb (hts (.arrayClass .int) (List.mem_of_getElem? (i := 10) (by decide +kernel))) rfl hK hP hD hS hA (fun _ => rfl) (nI_pos (by decide)) (nI_clamp (by decide)) (Nat.le_of_ble_eq_true rfl) (Nat.le_of_ble_eq_true rfl) (Nat.le_of_ble_eq_true rfl) dX1_init_45 (fun q2 cA H hK1 hP hD hS => ?_)
  have ecA := (jz_RAI hK1).symm
  subst ecA
  have hP : va_P D vwCl (([(b, .inr (1, [.null, .int (nI 0), .int (nI 0), .int (nI 0), .int (nI 0), .int (nI 0), .int (nI 0), .ref q1, .null, .null, .null, .null, .null, .null, .null]))] ++ [(q1, .inl (cI, 8, .inl (fun _ => nI 0)))]) ++ [(q2, .inl (cI, 8, .inl (fun _ => nI 0)))]) H := hP
  have hD : va_D A (([(b, .inr (1, [.null, .int (nI 0), .int (nI 0), .int (nI 0), .int (nI 0), .int (nI 0), .int (nI 0), .ref q1, .null, .null, .null, .null, .null, .null, .null]))] ++ [(q1, .inl (cI, 8, .inl (fun _ => nI 0)))]) ++ [(q2, .inl (cI, 8, .inl (fun _ => nI 0)))]) := hD
  refine va_putF (D := D) (ci := 1) (v := .ref q2) (ty := .array .int) (C := RX1) (T := TX1) (N := 15) hx hb hts in_X1_init_1 tyX1 tyX1_ok nmX1 hown hK hP hD hS 0 rfl rfl 8 (by decide) (hts (.fieldLink RX1 34 "Twincuts$Falls" "partSet" "[I") (List.mem_of_getElem? (i := 12) (by decide +kernel))) (fun _ h9 => h9) rfl hin rfl (by decide +kernel) rfl rfl (Nat.le_of_ble_eq_true rfl) dX1_init_47 (fun H locs hP hD hS => ?_)
  have hP : va_P D vwCl (([(b, .inr (1, [.null, .int (nI 0), .int (nI 0), .int (nI 0), .int (nI 0), .int (nI 0), .int (nI 0), .ref q1, .ref q2, .null, .null, .null, .null, .null, .null]))] ++ [(q1, .inl (cI, 8, .inl (fun _ => nI 0)))]) ++ [(q2, .inl (cI, 8, .inl (fun _ => nI 0)))]) H := hP
  have hD : va_D A (([(b, .inr (1, [.null, .int (nI 0), .int (nI 0), .int (nI 0), .int (nI 0), .int (nI 0), .int (nI 0), .ref q1, .ref q2, .null, .null, .null, .null, .null, .null]))] ++ [(q1, .inl (cI, 8, .inl (fun _ => nI 0)))]) ++ [(q2, .inl (cI, 8, .inl (fun _ => nI 0)))]) := hD
  refine lv_aload_n hx hb dX1_init_50 rfl (lv_at hl 0 rfl) ?_
  refine lv_bipush (v := nI 16) hx hb dX1_init_51 (by decide) ?_
  refine va_newa (atype := .int) (ty := .int) (a0 := (16, .inl (fun _ => nI 0))) hx hb (hts (.arrayClass .int) (List.mem_of_getElem? (i := 10) (by decide +kernel))) rfl hK hP hD hS hA (fun _ => rfl) (nI_pos (by decide)) (nI_clamp (by decide)) (Nat.le_of_ble_eq_true rfl) (Nat.le_of_ble_eq_true rfl) (Nat.le_of_ble_eq_true rfl) dX1_init_53 (fun q3 cA H hK1 hP hD hS => ?_)
  have ecA := (jz_RAI hK1).symm
  subst ecA
  have hP : va_P D vwCl ((([(b, .inr (1, [.null, .int (nI 0), .int (nI 0), .int (nI 0), .int (nI 0), .int (nI 0), .int (nI 0), .ref q1, .ref q2, .null, .null, .null, .null, .null, .null]))] ++ [(q1, .inl (cI, 8, .inl (fun _ => nI 0)))]) ++ [(q2, .inl (cI, 8, .inl (fun _ => nI 0)))]) ++ [(q3, .inl (cI, 16, .inl (fun _ => nI 0)))]) H := hP
  have hD : va_D A ((([(b, .inr (1, [.null, .int (nI 0), .int (nI 0), .int (nI 0), .int (nI 0), .int (nI 0), .int (nI 0), .ref q1, .ref q2, .null, .null, .null, .null, .null, .null]))] ++ [(q1, .inl (cI, 8, .inl (fun _ => nI 0)))]) ++ [(q2, .inl (cI, 8, .inl (fun _ => nI 0)))]) ++ [(q3, .inl (cI, 16, .inl (fun _ => nI 0)))]) := hD
  refine va_putF (D := D) (ci := 1) (v := .ref q3) (ty := .array .int) (C := RX1) (T := TX1) (N := 15) hx hb hts in_X1_init_1 tyX1 tyX1_ok nmX1 hown hK hP hD hS 0 rfl rfl 9 (by decide) (hts (.fieldLink RX1 37 "Twincuts$Falls" "first" "[I") (List.mem_of_getElem? (i := 13) (by decide +kernel))) (fun _ h9 => h9) rfl hin rfl (by decide +kernel) rfl rfl (Nat.le_of_ble_eq_true rfl) dX1_init_55 (fun H locs hP hD hS => ?_)
  have hP : va_P D vwCl ((([(b, .inr (1, [.null, .int (nI 0), .int (nI 0), .int (nI 0), .int (nI 0), .int (nI 0), .int (nI 0), .ref q1, .ref q2, .ref q3, .null, .null, .null, .null, .null]))] ++ [(q1, .inl (cI, 8, .inl (fun _ => nI 0)))]) ++ [(q2, .inl (cI, 8, .inl (fun _ => nI 0)))]) ++ [(q3, .inl (cI, 16, .inl (fun _ => nI 0)))]) H := hP
  have hD : va_D A ((([(b, .inr (1, [.null, .int (nI 0), .int (nI 0), .int (nI 0), .int (nI 0), .int (nI 0), .int (nI 0), .ref q1, .ref q2, .ref q3, .null, .null, .null, .null, .null]))] ++ [(q1, .inl (cI, 8, .inl (fun _ => nI 0)))]) ++ [(q2, .inl (cI, 8, .inl (fun _ => nI 0)))]) ++ [(q3, .inl (cI, 16, .inl (fun _ => nI 0)))]) := hD
  refine lv_aload_n hx hb dX1_init_58 rfl (lv_at hl 0 rfl) ?_
  refine lv_bipush (v := nI 16) hx hb dX1_init_59 (by decide) ?_
  refine va_newa (atype := .int) (ty := .int) (a0 := (16, .inl (fun _ => nI 0))) hx hb (hts (.arrayClass .int) (List.mem_of_getElem? (i := 10) (by decide +kernel))) rfl hK hP hD hS hA (fun _ => rfl) (nI_pos (by decide)) (nI_clamp (by decide)) (Nat.le_of_ble_eq_true rfl) (Nat.le_of_ble_eq_true rfl) (Nat.le_of_ble_eq_true rfl) dX1_init_61 (fun q4 cA H hK1 hP hD hS => ?_)
  have ecA := (jz_RAI hK1).symm
  subst ecA
  have hP : va_P D vwCl (((([(b, .inr (1, [.null, .int (nI 0), .int (nI 0), .int (nI 0), .int (nI 0), .int (nI 0), .int (nI 0), .ref q1, .ref q2, .ref q3, .null, .null, .null, .null, .null]))] ++ [(q1, .inl (cI, 8, .inl (fun _ => nI 0)))]) ++ [(q2, .inl (cI, 8, .inl (fun _ => nI 0)))]) ++ [(q3, .inl (cI, 16, .inl (fun _ => nI 0)))]) ++ [(q4, .inl (cI, 16, .inl (fun _ => nI 0)))]) H := hP
  have hD : va_D A (((([(b, .inr (1, [.null, .int (nI 0), .int (nI 0), .int (nI 0), .int (nI 0), .int (nI 0), .int (nI 0), .ref q1, .ref q2, .ref q3, .null, .null, .null, .null, .null]))] ++ [(q1, .inl (cI, 8, .inl (fun _ => nI 0)))]) ++ [(q2, .inl (cI, 8, .inl (fun _ => nI 0)))]) ++ [(q3, .inl (cI, 16, .inl (fun _ => nI 0)))]) ++ [(q4, .inl (cI, 16, .inl (fun _ => nI 0)))]) := hD
  refine va_putF (D := D) (ci := 1) (v := .ref q4) (ty := .array .int) (C := RX1) (T := TX1) (N := 15) hx hb hts in_X1_init_1 tyX1 tyX1_ok nmX1 hown hK hP hD hS 0 rfl rfl 10 (by decide) (hts (.fieldLink RX1 40 "Twincuts$Falls" "block" "[I") (List.mem_of_getElem? (i := 14) (by decide +kernel))) (fun _ h9 => h9) rfl hin rfl (by decide +kernel) rfl rfl (Nat.le_of_ble_eq_true rfl) dX1_init_63 (fun H locs hP hD hS => ?_)
  have hP : va_P D vwCl (((([(b, .inr (1, [.null, .int (nI 0), .int (nI 0), .int (nI 0), .int (nI 0), .int (nI 0), .int (nI 0), .ref q1, .ref q2, .ref q3, .ref q4, .null, .null, .null, .null]))] ++ [(q1, .inl (cI, 8, .inl (fun _ => nI 0)))]) ++ [(q2, .inl (cI, 8, .inl (fun _ => nI 0)))]) ++ [(q3, .inl (cI, 16, .inl (fun _ => nI 0)))]) ++ [(q4, .inl (cI, 16, .inl (fun _ => nI 0)))]) H := hP
  have hD : va_D A (((([(b, .inr (1, [.null, .int (nI 0), .int (nI 0), .int (nI 0), .int (nI 0), .int (nI 0), .int (nI 0), .ref q1, .ref q2, .ref q3, .ref q4, .null, .null, .null, .null]))] ++ [(q1, .inl (cI, 8, .inl (fun _ => nI 0)))]) ++ [(q2, .inl (cI, 8, .inl (fun _ => nI 0)))]) ++ [(q3, .inl (cI, 16, .inl (fun _ => nI 0)))]) ++ [(q4, .inl (cI, 16, .inl (fun _ => nI 0)))]) := hD
  refine lv_aload_n hx hb dX1_init_66 rfl (lv_at hl 0 rfl) ?_
  refine lv_bipush (v := nI 28) hx hb dX1_init_67 (by decide) ?_
  refine va_newa (atype := .int) (ty := .int) (a0 := (28, .inl (fun _ => nI 0))) hx hb (hts (.arrayClass .int) (List.mem_of_getElem? (i := 10) (by decide +kernel))) rfl hK hP hD hS hA (fun _ => rfl) (nI_pos (by decide)) (nI_clamp (by decide)) (Nat.le_of_ble_eq_true rfl) (Nat.le_of_ble_eq_true rfl) (Nat.le_of_ble_eq_true rfl) dX1_init_69 (fun q5 cA H hK1 hP hD hS => ?_)
  have ecA := (jz_RAI hK1).symm
  subst ecA
  have hP : va_P D vwCl ((((([(b, .inr (1, [.null, .int (nI 0), .int (nI 0), .int (nI 0), .int (nI 0), .int (nI 0), .int (nI 0), .ref q1, .ref q2, .ref q3, .ref q4, .null, .null, .null, .null]))] ++ [(q1, .inl (cI, 8, .inl (fun _ => nI 0)))]) ++ [(q2, .inl (cI, 8, .inl (fun _ => nI 0)))]) ++ [(q3, .inl (cI, 16, .inl (fun _ => nI 0)))]) ++ [(q4, .inl (cI, 16, .inl (fun _ => nI 0)))]) ++ [(q5, .inl (cI, 28, .inl (fun _ => nI 0)))]) H := hP
  have hD : va_D A ((((([(b, .inr (1, [.null, .int (nI 0), .int (nI 0), .int (nI 0), .int (nI 0), .int (nI 0), .int (nI 0), .ref q1, .ref q2, .ref q3, .ref q4, .null, .null, .null, .null]))] ++ [(q1, .inl (cI, 8, .inl (fun _ => nI 0)))]) ++ [(q2, .inl (cI, 8, .inl (fun _ => nI 0)))]) ++ [(q3, .inl (cI, 16, .inl (fun _ => nI 0)))]) ++ [(q4, .inl (cI, 16, .inl (fun _ => nI 0)))]) ++ [(q5, .inl (cI, 28, .inl (fun _ => nI 0)))]) := hD
  refine va_putF (D := D) (ci := 1) (v := .ref q5) (ty := .array .int) (C := RX1) (T := TX1) (N := 15) hx hb hts in_X1_init_1 tyX1 tyX1_ok nmX1 hown hK hP hD hS 0 rfl rfl 11 (by decide) (hts (.fieldLink RX1 43 "Twincuts$Falls" "smallerOfPair" "[I") (List.mem_of_getElem? (i := 15) (by decide +kernel))) (fun _ h9 => h9) rfl hin rfl (by decide +kernel) rfl rfl (Nat.le_of_ble_eq_true rfl) dX1_init_71 (fun H locs hP hD hS => ?_)
  have hP : va_P D vwCl ((((([(b, .inr (1, [.null, .int (nI 0), .int (nI 0), .int (nI 0), .int (nI 0), .int (nI 0), .int (nI 0), .ref q1, .ref q2, .ref q3, .ref q4, .ref q5, .null, .null, .null]))] ++ [(q1, .inl (cI, 8, .inl (fun _ => nI 0)))]) ++ [(q2, .inl (cI, 8, .inl (fun _ => nI 0)))]) ++ [(q3, .inl (cI, 16, .inl (fun _ => nI 0)))]) ++ [(q4, .inl (cI, 16, .inl (fun _ => nI 0)))]) ++ [(q5, .inl (cI, 28, .inl (fun _ => nI 0)))]) H := hP
  have hD : va_D A ((((([(b, .inr (1, [.null, .int (nI 0), .int (nI 0), .int (nI 0), .int (nI 0), .int (nI 0), .int (nI 0), .ref q1, .ref q2, .ref q3, .ref q4, .ref q5, .null, .null, .null]))] ++ [(q1, .inl (cI, 8, .inl (fun _ => nI 0)))]) ++ [(q2, .inl (cI, 8, .inl (fun _ => nI 0)))]) ++ [(q3, .inl (cI, 16, .inl (fun _ => nI 0)))]) ++ [(q4, .inl (cI, 16, .inl (fun _ => nI 0)))]) ++ [(q5, .inl (cI, 28, .inl (fun _ => nI 0)))]) := hD
  refine lv_aload_n hx hb dX1_init_74 rfl (lv_at hl 0 rfl) ?_
  refine lv_bipush (v := nI 28) hx hb dX1_init_75 (by decide) ?_
  refine va_newa (atype := .int) (ty := .int) (a0 := (28, .inl (fun _ => nI 0))) hx hb (hts (.arrayClass .int) (List.mem_of_getElem? (i := 10) (by decide +kernel))) rfl hK hP hD hS hA (fun _ => rfl) (nI_pos (by decide)) (nI_clamp (by decide)) (Nat.le_of_ble_eq_true rfl) (Nat.le_of_ble_eq_true rfl) (Nat.le_of_ble_eq_true rfl) dX1_init_77 (fun q6 cA H hK1 hP hD hS => ?_)
  have ecA := (jz_RAI hK1).symm
  subst ecA
  have hP : va_P D vwCl (((((([(b, .inr (1, [.null, .int (nI 0), .int (nI 0), .int (nI 0), .int (nI 0), .int (nI 0), .int (nI 0), .ref q1, .ref q2, .ref q3, .ref q4, .ref q5, .null, .null, .null]))] ++ [(q1, .inl (cI, 8, .inl (fun _ => nI 0)))]) ++ [(q2, .inl (cI, 8, .inl (fun _ => nI 0)))]) ++ [(q3, .inl (cI, 16, .inl (fun _ => nI 0)))]) ++ [(q4, .inl (cI, 16, .inl (fun _ => nI 0)))]) ++ [(q5, .inl (cI, 28, .inl (fun _ => nI 0)))]) ++ [(q6, .inl (cI, 28, .inl (fun _ => nI 0)))]) H := hP
  have hD : va_D A (((((([(b, .inr (1, [.null, .int (nI 0), .int (nI 0), .int (nI 0), .int (nI 0), .int (nI 0), .int (nI 0), .ref q1, .ref q2, .ref q3, .ref q4, .ref q5, .null, .null, .null]))] ++ [(q1, .inl (cI, 8, .inl (fun _ => nI 0)))]) ++ [(q2, .inl (cI, 8, .inl (fun _ => nI 0)))]) ++ [(q3, .inl (cI, 16, .inl (fun _ => nI 0)))]) ++ [(q4, .inl (cI, 16, .inl (fun _ => nI 0)))]) ++ [(q5, .inl (cI, 28, .inl (fun _ => nI 0)))]) ++ [(q6, .inl (cI, 28, .inl (fun _ => nI 0)))]) := hD
  refine va_putF (D := D) (ci := 1) (v := .ref q6) (ty := .array .int) (C := RX1) (T := TX1) (N := 15) hx hb hts in_X1_init_1 tyX1 tyX1_ok nmX1 hown hK hP hD hS 0 rfl rfl 12 (by decide) (hts (.fieldLink RX1 46 "Twincuts$Falls" "greaterOfPair" "[I") (List.mem_of_getElem? (i := 16) (by decide +kernel))) (fun _ h9 => h9) rfl hin rfl (by decide +kernel) rfl rfl (Nat.le_of_ble_eq_true rfl) dX1_init_79 (fun H locs hP hD hS => ?_)
  have hP : va_P D vwCl (((((([(b, .inr (1, [.null, .int (nI 0), .int (nI 0), .int (nI 0), .int (nI 0), .int (nI 0), .int (nI 0), .ref q1, .ref q2, .ref q3, .ref q4, .ref q5, .ref q6, .null, .null]))] ++ [(q1, .inl (cI, 8, .inl (fun _ => nI 0)))]) ++ [(q2, .inl (cI, 8, .inl (fun _ => nI 0)))]) ++ [(q3, .inl (cI, 16, .inl (fun _ => nI 0)))]) ++ [(q4, .inl (cI, 16, .inl (fun _ => nI 0)))]) ++ [(q5, .inl (cI, 28, .inl (fun _ => nI 0)))]) ++ [(q6, .inl (cI, 28, .inl (fun _ => nI 0)))]) H := hP
  have hD : va_D A (((((([(b, .inr (1, [.null, .int (nI 0), .int (nI 0), .int (nI 0), .int (nI 0), .int (nI 0), .int (nI 0), .ref q1, .ref q2, .ref q3, .ref q4, .ref q5, .ref q6, .null, .null]))] ++ [(q1, .inl (cI, 8, .inl (fun _ => nI 0)))]) ++ [(q2, .inl (cI, 8, .inl (fun _ => nI 0)))]) ++ [(q3, .inl (cI, 16, .inl (fun _ => nI 0)))]) ++ [(q4, .inl (cI, 16, .inl (fun _ => nI 0)))]) ++ [(q5, .inl (cI, 28, .inl (fun _ => nI 0)))]) ++ [(q6, .inl (cI, 28, .inl (fun _ => nI 0)))]) := hD
  refine lv_aload_n hx hb dX1_init_82 rfl (lv_at hl 0 rfl) ?_
  refine lv_bipush (v := nI 120) hx hb dX1_init_83 (by decide) ?_
  refine va_newa (atype := .int) (ty := .int) (a0 := (120, .inl (fun _ => nI 0))) hx hb (hts (.arrayClass .int) (List.mem_of_getElem? (i := 10) (by decide +kernel))) rfl hK hP hD hS hA (fun _ => rfl) (nI_pos (by decide)) (nI_clamp (by decide)) (Nat.le_of_ble_eq_true rfl) (Nat.le_of_ble_eq_true rfl) (Nat.le_of_ble_eq_true rfl) dX1_init_85 (fun q7 cA H hK1 hP hD hS => ?_)
  have ecA := (jz_RAI hK1).symm
  subst ecA
  have hP : va_P D vwCl ((((((([(b, .inr (1, [.null, .int (nI 0), .int (nI 0), .int (nI 0), .int (nI 0), .int (nI 0), .int (nI 0), .ref q1, .ref q2, .ref q3, .ref q4, .ref q5, .ref q6, .null, .null]))] ++ [(q1, .inl (cI, 8, .inl (fun _ => nI 0)))]) ++ [(q2, .inl (cI, 8, .inl (fun _ => nI 0)))]) ++ [(q3, .inl (cI, 16, .inl (fun _ => nI 0)))]) ++ [(q4, .inl (cI, 16, .inl (fun _ => nI 0)))]) ++ [(q5, .inl (cI, 28, .inl (fun _ => nI 0)))]) ++ [(q6, .inl (cI, 28, .inl (fun _ => nI 0)))]) ++ [(q7, .inl (cI, 120, .inl (fun _ => nI 0)))]) H := hP
  have hD : va_D A ((((((([(b, .inr (1, [.null, .int (nI 0), .int (nI 0), .int (nI 0), .int (nI 0), .int (nI 0), .int (nI 0), .ref q1, .ref q2, .ref q3, .ref q4, .ref q5, .ref q6, .null, .null]))] ++ [(q1, .inl (cI, 8, .inl (fun _ => nI 0)))]) ++ [(q2, .inl (cI, 8, .inl (fun _ => nI 0)))]) ++ [(q3, .inl (cI, 16, .inl (fun _ => nI 0)))]) ++ [(q4, .inl (cI, 16, .inl (fun _ => nI 0)))]) ++ [(q5, .inl (cI, 28, .inl (fun _ => nI 0)))]) ++ [(q6, .inl (cI, 28, .inl (fun _ => nI 0)))]) ++ [(q7, .inl (cI, 120, .inl (fun _ => nI 0)))]) := hD
  refine va_putF (D := D) (ci := 1) (v := .ref q7) (ty := .array .int) (C := RX1) (T := TX1) (N := 15) hx hb hts in_X1_init_1 tyX1 tyX1_ok nmX1 hown hK hP hD hS 0 rfl rfl 13 (by decide) (hts (.fieldLink RX1 49 "Twincuts$Falls" "smallerOfTwins" "[I") (List.mem_of_getElem? (i := 17) (by decide +kernel))) (fun _ h9 => h9) rfl hin rfl (by decide +kernel) rfl rfl (Nat.le_of_ble_eq_true rfl) dX1_init_87 (fun H locs hP hD hS => ?_)
  have hP : va_P D vwCl ((((((([(b, .inr (1, [.null, .int (nI 0), .int (nI 0), .int (nI 0), .int (nI 0), .int (nI 0), .int (nI 0), .ref q1, .ref q2, .ref q3, .ref q4, .ref q5, .ref q6, .ref q7, .null]))] ++ [(q1, .inl (cI, 8, .inl (fun _ => nI 0)))]) ++ [(q2, .inl (cI, 8, .inl (fun _ => nI 0)))]) ++ [(q3, .inl (cI, 16, .inl (fun _ => nI 0)))]) ++ [(q4, .inl (cI, 16, .inl (fun _ => nI 0)))]) ++ [(q5, .inl (cI, 28, .inl (fun _ => nI 0)))]) ++ [(q6, .inl (cI, 28, .inl (fun _ => nI 0)))]) ++ [(q7, .inl (cI, 120, .inl (fun _ => nI 0)))]) H := hP
  have hD : va_D A ((((((([(b, .inr (1, [.null, .int (nI 0), .int (nI 0), .int (nI 0), .int (nI 0), .int (nI 0), .int (nI 0), .ref q1, .ref q2, .ref q3, .ref q4, .ref q5, .ref q6, .ref q7, .null]))] ++ [(q1, .inl (cI, 8, .inl (fun _ => nI 0)))]) ++ [(q2, .inl (cI, 8, .inl (fun _ => nI 0)))]) ++ [(q3, .inl (cI, 16, .inl (fun _ => nI 0)))]) ++ [(q4, .inl (cI, 16, .inl (fun _ => nI 0)))]) ++ [(q5, .inl (cI, 28, .inl (fun _ => nI 0)))]) ++ [(q6, .inl (cI, 28, .inl (fun _ => nI 0)))]) ++ [(q7, .inl (cI, 120, .inl (fun _ => nI 0)))]) := hD
  refine lv_aload_n hx hb dX1_init_90 rfl (lv_at hl 0 rfl) ?_
  refine lv_bipush (v := nI 120) hx hb dX1_init_91 (by decide) ?_
  refine va_newa (atype := .int) (ty := .int) (a0 := (120, .inl (fun _ => nI 0))) hx hb (hts (.arrayClass .int) (List.mem_of_getElem? (i := 10) (by decide +kernel))) rfl hK hP hD hS hA (fun _ => rfl) (nI_pos (by decide)) (nI_clamp (by decide)) (Nat.le_of_ble_eq_true rfl) (Nat.le_of_ble_eq_true rfl) (Nat.le_of_ble_eq_true rfl) dX1_init_93 (fun q8 cA H hK1 hP hD hS => ?_)
  have ecA := (jz_RAI hK1).symm
  subst ecA
  have hP : va_P D vwCl (((((((([(b, .inr (1, [.null, .int (nI 0), .int (nI 0), .int (nI 0), .int (nI 0), .int (nI 0), .int (nI 0), .ref q1, .ref q2, .ref q3, .ref q4, .ref q5, .ref q6, .ref q7, .null]))] ++ [(q1, .inl (cI, 8, .inl (fun _ => nI 0)))]) ++ [(q2, .inl (cI, 8, .inl (fun _ => nI 0)))]) ++ [(q3, .inl (cI, 16, .inl (fun _ => nI 0)))]) ++ [(q4, .inl (cI, 16, .inl (fun _ => nI 0)))]) ++ [(q5, .inl (cI, 28, .inl (fun _ => nI 0)))]) ++ [(q6, .inl (cI, 28, .inl (fun _ => nI 0)))]) ++ [(q7, .inl (cI, 120, .inl (fun _ => nI 0)))]) ++ [(q8, .inl (cI, 120, .inl (fun _ => nI 0)))]) H := hP
  have hD : va_D A (((((((([(b, .inr (1, [.null, .int (nI 0), .int (nI 0), .int (nI 0), .int (nI 0), .int (nI 0), .int (nI 0), .ref q1, .ref q2, .ref q3, .ref q4, .ref q5, .ref q6, .ref q7, .null]))] ++ [(q1, .inl (cI, 8, .inl (fun _ => nI 0)))]) ++ [(q2, .inl (cI, 8, .inl (fun _ => nI 0)))]) ++ [(q3, .inl (cI, 16, .inl (fun _ => nI 0)))]) ++ [(q4, .inl (cI, 16, .inl (fun _ => nI 0)))]) ++ [(q5, .inl (cI, 28, .inl (fun _ => nI 0)))]) ++ [(q6, .inl (cI, 28, .inl (fun _ => nI 0)))]) ++ [(q7, .inl (cI, 120, .inl (fun _ => nI 0)))]) ++ [(q8, .inl (cI, 120, .inl (fun _ => nI 0)))]) := hD
  refine va_putF (D := D) (ci := 1) (v := .ref q8) (ty := .array .int) (C := RX1) (T := TX1) (N := 15) hx hb hts in_X1_init_1 tyX1 tyX1_ok nmX1 hown hK hP hD hS 0 rfl rfl 14 (by decide) (hts (.fieldLink RX1 52 "Twincuts$Falls" "greaterOfTwins" "[I") (List.mem_of_getElem? (i := 18) (by decide +kernel))) (fun _ h9 => h9) rfl hin rfl (by decide +kernel) rfl rfl (Nat.le_of_ble_eq_true rfl) dX1_init_95 (fun H locs hP hD hS => ?_)
  have hP : va_P D vwCl (((((((([(b, .inr (1, [.null, .int (nI 0), .int (nI 0), .int (nI 0), .int (nI 0), .int (nI 0), .int (nI 0), .ref q1, .ref q2, .ref q3, .ref q4, .ref q5, .ref q6, .ref q7, .ref q8]))] ++ [(q1, .inl (cI, 8, .inl (fun _ => nI 0)))]) ++ [(q2, .inl (cI, 8, .inl (fun _ => nI 0)))]) ++ [(q3, .inl (cI, 16, .inl (fun _ => nI 0)))]) ++ [(q4, .inl (cI, 16, .inl (fun _ => nI 0)))]) ++ [(q5, .inl (cI, 28, .inl (fun _ => nI 0)))]) ++ [(q6, .inl (cI, 28, .inl (fun _ => nI 0)))]) ++ [(q7, .inl (cI, 120, .inl (fun _ => nI 0)))]) ++ [(q8, .inl (cI, 120, .inl (fun _ => nI 0)))]) H := hP
  have hD : va_D A (((((((([(b, .inr (1, [.null, .int (nI 0), .int (nI 0), .int (nI 0), .int (nI 0), .int (nI 0), .int (nI 0), .ref q1, .ref q2, .ref q3, .ref q4, .ref q5, .ref q6, .ref q7, .ref q8]))] ++ [(q1, .inl (cI, 8, .inl (fun _ => nI 0)))]) ++ [(q2, .inl (cI, 8, .inl (fun _ => nI 0)))]) ++ [(q3, .inl (cI, 16, .inl (fun _ => nI 0)))]) ++ [(q4, .inl (cI, 16, .inl (fun _ => nI 0)))]) ++ [(q5, .inl (cI, 28, .inl (fun _ => nI 0)))]) ++ [(q6, .inl (cI, 28, .inl (fun _ => nI 0)))]) ++ [(q7, .inl (cI, 120, .inl (fun _ => nI 0)))]) ++ [(q8, .inl (cI, 120, .inl (fun _ => nI 0)))]) := hD
  refine lv_aload_n hx hb dX1_init_98 rfl (lv_at hl 0 rfl) ?_
  refine lv_aload_n hx hb dX1_init_99 rfl (lv_at hl 1 rfl) ?_
  refine va_putF (D := D) (ci := 1) (v := .ref w) (ty := .object "Twincuts$Web") (C := RX1) (T := TX1) (N := 15) hx hb hts in_X1_init_1 tyX1 tyX1_ok nmX1 hown hK hP hD hS 0 rfl rfl 0 (by decide) (hts (.fieldLink RX1 55 "Twincuts$Falls" "web" "LTwincuts$Web;") (List.mem_of_getElem? (i := 19) (by decide +kernel))) (fun _ h9 => h9) rfl hin rfl (by decide +kernel) rfl rfl (Nat.le_of_ble_eq_true rfl) dX1_init_100 (fun H locs hP hD hS => ?_)
  have hP : va_P D vwCl (((((((([(b, .inr (1, [.ref w, .int (nI 0), .int (nI 0), .int (nI 0), .int (nI 0), .int (nI 0), .int (nI 0), .ref q1, .ref q2, .ref q3, .ref q4, .ref q5, .ref q6, .ref q7, .ref q8]))] ++ [(q1, .inl (cI, 8, .inl (fun _ => nI 0)))]) ++ [(q2, .inl (cI, 8, .inl (fun _ => nI 0)))]) ++ [(q3, .inl (cI, 16, .inl (fun _ => nI 0)))]) ++ [(q4, .inl (cI, 16, .inl (fun _ => nI 0)))]) ++ [(q5, .inl (cI, 28, .inl (fun _ => nI 0)))]) ++ [(q6, .inl (cI, 28, .inl (fun _ => nI 0)))]) ++ [(q7, .inl (cI, 120, .inl (fun _ => nI 0)))]) ++ [(q8, .inl (cI, 120, .inl (fun _ => nI 0)))]) H := hP
  have hD : va_D A (((((((([(b, .inr (1, [.ref w, .int (nI 0), .int (nI 0), .int (nI 0), .int (nI 0), .int (nI 0), .int (nI 0), .ref q1, .ref q2, .ref q3, .ref q4, .ref q5, .ref q6, .ref q7, .ref q8]))] ++ [(q1, .inl (cI, 8, .inl (fun _ => nI 0)))]) ++ [(q2, .inl (cI, 8, .inl (fun _ => nI 0)))]) ++ [(q3, .inl (cI, 16, .inl (fun _ => nI 0)))]) ++ [(q4, .inl (cI, 16, .inl (fun _ => nI 0)))]) ++ [(q5, .inl (cI, 28, .inl (fun _ => nI 0)))]) ++ [(q6, .inl (cI, 28, .inl (fun _ => nI 0)))]) ++ [(q7, .inl (cI, 120, .inl (fun _ => nI 0)))]) ++ [(q8, .inl (cI, 120, .inl (fun _ => nI 0)))]) := hD
  refine W.widen (k := 8) (n := 344) (Nat.le_of_ble_eq_true rfl) (Nat.le_of_ble_eq_true rfl) ?_
  have hP9 : va_P D vwCl (jF cI (fun i => if i = 10 then b else if i = 11 then q1 else if i = 12 then q2 else if i = 13 then q3 else if i = 14 then q4 else if i = 15 then q5 else if i = 16 then q6 else if i = 17 then q7 else if i = 18 then q8 else w) 0 0 0 0 0 0 (fun _ => 0) (fun _ => 0) (fun _ => 0) (fun _ => nI 0) (fun _ => 0) (fun _ => 0) (fun _ => 0) (fun _ => 0)) _ := hP
  have hD9 : va_D A (jF cI (fun i => if i = 10 then b else if i = 11 then q1 else if i = 12 then q2 else if i = 13 then q3 else if i = 14 then q4 else if i = 15 then q5 else if i = 16 then q6 else if i = 17 then q7 else if i = 18 then q8 else w) 0 0 0 0 0 0 (fun _ => 0) (fun _ => 0) (fun _ => 0) (fun _ => nI 0) (fun _ => 0) (fun _ => 0) (fun _ => 0) (fun _ => 0)) := hD
  exact W.vret hx hb hr (fun t ht hW => ⟨⟨(fun i => if i = 10 then b else if i = 11 then q1 else if i = 12 then q2 else if i = 13 then q3 else if i = 14 then q4 else if i = 15 then q5 else if i = 16 then q6 else if i = 17 then q7 else if i = 18 then q8 else w, (fun _ => 0)), rfl, ⟨rfl, rfl⟩, by rw [ht]; exact hP9, hD9⟩, hS.F ht⟩) hS.2.2 dX1_init_103

theorem in_X4_init_4 : ∀ w ∈ wsX40, w ∈ wsX4_init := by decide +kernel
set_option maxHeartbeats 1000000 in
set_option maxRecDepth 20000 in
theorem n_X4_init (l : Launch) (D : va_G) (cI cO cM cL : ClassId) (b w sz : Nat) : Met l yX4_init wsX4_init ({ frames := 2, cells := 19, slots := 304, locals := 40 } : Room) (va_Pc [.ref b, .ref w] (jzN D cI cO cM cL [(b, .inr (4, [.null, .null, .null, .null]))] sz)) (va_Qv (S := (Nat → Nat) × (Nat → Nat)) (fun u => u.1 20 = b ∧ u.1 0 = w) (fun u t => va_P D vwCl (jY cI cO u.1 u.2 (fun _ => nI 0) (fun _ => 0) ++ jRI cI 16 16 u.2 (fun _ _ => nI 0)) t.heap ∧ va_D (va_A [(b, .inr (4, [.null, .null, .null, .null]))] sz) (jY cI cO u.1 u.2 (fun _ => nI 0) (fun _ => 0) ++ jRI cI 16 16 u.2 (fun _ _ => nI 0))) (va_A [(b, .inr (4, [.null, .null, .null, .null]))] sz)) 19 304 (va_A [(b, .inr (4, [.null, .null, .null, .null]))] sz) := by
  refine Met.ofW (cc := cX4_init) (maxL := 2) (ret := none) (by decide) rfl ?_
  intro p e s m args below meth c s₁ B hml hv
  obtain ⟨rfl, hN, rfl, hP, hK, hD0, hao, hal⟩ := hv
  have hx := B.exec
  have hb := B.bytes
  have hr := B.returns
  have hts := atoms_spec (ws := wsX4_init) B.pre
  have hown : s.vm.findClass RX4 = some m.cls := findClass_of_methodNamed B.named
  have hlocks := B.notSynchronized
  have hin : meth.name = "<init>" := (name_of_methodNamed B.named B.method).1
  have hD := hD0.self (sz := s.heap.size)
  generalize hAe : va_A [(b, .inr (4, [.null, .null, .null, .null]))] s.heap.size = A at hD ⊢
  have hA : ∀ q : Nat, s.heap.size ≤ q → A q := fun q h => by rw [← hAe]; exact Or.inr h
  have hS : va_S A s.heap s.heap [] := va_S.rf
  have hl := lv_entry ([.ref b, .ref w]) (n := 2) (Nat.le_of_ble_eq_true rfl)
  rw [lg_entry_eq]
  generalize (lg_sl ([.ref b, .ref w]) ++ List.replicate (2 - (lg_sl ([.ref b, .ref w])).length) Slot.unset).toArray = ls at hl ⊢
  have hl : lv_has ls 2 [(0, .ref b), (1, .ref w)] := hl
  refine lv_aload_n hx hb dX4_init_0 rfl (lv_at hl 0 rfl) ?_
  refine W.objInit hx hb hown (hts (.methodLink RX4 3 objectInit) (List.mem_of_getElem? (i := 1) (by decide +kernel))) (hts (.instanceMethod objectInit) (List.mem_of_getElem? (i := 2) (by decide +kernel))) (hts (.code objectInit ⟨#[0xb1]⟩ 1 none) (List.mem_of_getElem? (i := 3) rfl)) rfl (by rw [hml]; exact hl.1) rfl dX4_init_1 (Nat.le_of_ble_eq_true rfl) (Nat.le_of_ble_eq_true rfl) ?_
  refine W.eq (g2 := F0 m 4 ls []) rfl ?_
  refine lv_aload_n hx hb dX4_init_4 rfl (lv_at hl 0 rfl) ?_
  refine lv_bipush (v := nI 16) hx hb dX4_init_5 (by decide) ?_
  refine lv_bipush (v := nI 16) hx hb dX4_init_7 (by decide) ?_
  refine va_mna (L := []) (f := fun _ => .inl (cI, (16, .inl (fun _ => nI 0)))) (X := [(b, .inr (4, [.null, .null, .null, .null]))]) (ty := .int) (cy := cI) (z := (16, .inl (fun _ => nI 0))) hx hb hown (by rw [jz_sII]; exact (hts (.classLink RX4 11 "[[I") (List.mem_of_getElem? (i := 4) (by decide +kernel)))) hao (hts (.arrayClass .int) (List.mem_of_getElem? (i := 5) (by decide +kernel))) (jz_fcI hK) hK (by rw [jz_pl0]; exact hP) (by rw [jz_pl0]; exact hD) hS hA (nI_pos (by decide)) (nI_pos (by decide)) (nI_clamp (by decide)) (nI_clamp (by decide)) (Nat.le_of_ble_eq_true rfl) (Nat.le_of_ble_eq_true rfl) (Nat.le_of_ble_eq_true rfl) rfl rfl (Nat.le_of_ble_eq_true rfl) (Nat.le_of_ble_eq_true rfl) (fun c9 => by show ({ cls := c9, slots := Array.replicate 16 (.int 0), vm := .none } : Cell) = _; rw [arrV_new]; rfl) dX4_init_9 (fun q1 rr cA H _ _ hK1 hP hD hS => ?_)
  have ecA := (jz_RAO hK1).symm
  subst ecA
  rw [jz_pl] at hP hD
  have hP : va_P D vwCl (([(b, .inr (4, [.null, .null, .null, .null]))] ++ [(q1, .inl (cO, 16, .inr (.inr (.inr (.inr (fun i => if i < 16 then some (rr i) else none))))))]) ++ (List.range 16).map (fun i => (rr i, .inl (cI, (16, .inl (fun _ => nI 0)))))) H := hP
  have hD : va_D A (([(b, .inr (4, [.null, .null, .null, .null]))] ++ [(q1, .inl (cO, 16, .inr (.inr (.inr (.inr (fun i => if i < 16 then some (rr i) else none))))))]) ++ (List.range 16).map (fun i => (rr i, .inl (cI, (16, .inl (fun _ => nI 0)))))) := hD
  refine va_putF (D := D) (ci := 4) (v := .ref q1) (ty := .array (.array .int)) (C := RX4) (T := TX4) (N := 4) hx hb hts in_X4_init_4 tyX4 tyX4_ok nmX4 hown hK hP hD hS 0 rfl rfl 1 (by decide) (hts (.fieldLink RX4 13 "Twincuts$Ways" "room" "[[I") (List.mem_of_getElem? (i := 6) (by decide +kernel))) (fun _ h9 => h9) rfl hin rfl (by decide +kernel) rfl rfl (Nat.le_of_ble_eq_true rfl) dX4_init_13 (fun H locs hP hD hS => ?_)
  have hP : va_P D vwCl (([(b, .inr (4, [.null, .ref q1, .null, .null]))] ++ [(q1, .inl (cO, 16, .inr (.inr (.inr (.inr (fun i => if i < 16 then some (rr i) else none))))))]) ++ (List.range 16).map (fun i => (rr i, .inl (cI, (16, .inl (fun _ => nI 0)))))) H := hP
  have hD : va_D A (([(b, .inr (4, [.null, .ref q1, .null, .null]))] ++ [(q1, .inl (cO, 16, .inr (.inr (.inr (.inr (fun i => if i < 16 then some (rr i) else none))))))]) ++ (List.range 16).map (fun i => (rr i, .inl (cI, (16, .inl (fun _ => nI 0)))))) := hD
  refine lv_aload_n hx hb dX4_init_16 rfl (lv_at hl 0 rfl) ?_
  refine lv_bipush (v := nI 16) hx hb dX4_init_17 (by decide) ?_
  refine va_newa (atype := .int) (ty := .int) (a0 := (16, .inl (fun _ => nI 0))) hx hb (hts (.arrayClass .int) (List.mem_of_getElem? (i := 5) (by decide +kernel))) rfl hK hP hD hS hA (fun _ => rfl) (nI_pos (by decide)) (nI_clamp (by decide)) (Nat.le_of_ble_eq_true rfl) (Nat.le_of_ble_eq_true rfl) (Nat.le_of_ble_eq_true rfl) dX4_init_19 (fun q2 cA H hK1 hP hD hS => ?_)
  have ecA := (jz_RAI hK1).symm
  subst ecA
  have hP : va_P D vwCl ((([(b, .inr (4, [.null, .ref q1, .null, .null]))] ++ [(q1, .inl (cO, 16, .inr (.inr (.inr (.inr (fun i => if i < 16 then some (rr i) else none))))))]) ++ (List.range 16).map (fun i => (rr i, .inl (cI, (16, .inl (fun _ => nI 0)))))) ++ [(q2, .inl (cI, 16, .inl (fun _ => nI 0)))]) H := hP
  have hD : va_D A ((([(b, .inr (4, [.null, .ref q1, .null, .null]))] ++ [(q1, .inl (cO, 16, .inr (.inr (.inr (.inr (fun i => if i < 16 then some (rr i) else none))))))]) ++ (List.range 16).map (fun i => (rr i, .inl (cI, (16, .inl (fun _ => nI 0)))))) ++ [(q2, .inl (cI, 16, .inl (fun _ => nI 0)))]) := hD
  refine va_putF (D := D) (ci := 4) (v := .ref q2) (ty := .array .int) (C := RX4) (T := TX4) (N := 4) hx hb hts in_X4_init_4 tyX4 tyX4_ok nmX4 hown hK hP hD hS 0 rfl rfl 2 (by decide) (hts (.fieldLink RX4 16 "Twincuts$Ways" "cameFrom" "[I") (List.mem_of_getElem? (i := 7) (by decide +kernel))) (fun _ h9 => h9) rfl hin rfl (by decide +kernel) rfl rfl (Nat.le_of_ble_eq_true rfl) dX4_init_21 (fun H locs hP hD hS => ?_)
  have hP : va_P D vwCl ((([(b, .inr (4, [.null, .ref q1, .ref q2, .null]))] ++ [(q1, .inl (cO, 16, .inr (.inr (.inr (.inr (fun i => if i < 16 then some (rr i) else none))))))]) ++ (List.range 16).map (fun i => (rr i, .inl (cI, (16, .inl (fun _ => nI 0)))))) ++ [(q2, .inl (cI, 16, .inl (fun _ => nI 0)))]) H := hP
  have hD : va_D A ((([(b, .inr (4, [.null, .ref q1, .ref q2, .null]))] ++ [(q1, .inl (cO, 16, .inr (.inr (.inr (.inr (fun i => if i < 16 then some (rr i) else none))))))]) ++ (List.range 16).map (fun i => (rr i, .inl (cI, (16, .inl (fun _ => nI 0)))))) ++ [(q2, .inl (cI, 16, .inl (fun _ => nI 0)))]) := hD
  refine lv_aload_n hx hb dX4_init_24 rfl (lv_at hl 0 rfl) ?_
  refine lv_bipush (v := nI 16) hx hb dX4_init_25 (by decide) ?_
  refine va_newa (atype := .int) (ty := .int) (a0 := (16, .inl (fun _ => nI 0))) hx hb (hts (.arrayClass .int) (List.mem_of_getElem? (i := 5) (by decide +kernel))) rfl hK hP hD hS hA (fun _ => rfl) (nI_pos (by decide)) (nI_clamp (by decide)) (Nat.le_of_ble_eq_true rfl) (Nat.le_of_ble_eq_true rfl) (Nat.le_of_ble_eq_true rfl) dX4_init_27 (fun q3 cA H hK1 hP hD hS => ?_)
  have ecA := (jz_RAI hK1).symm
  subst ecA
  have hP : va_P D vwCl (((([(b, .inr (4, [.null, .ref q1, .ref q2, .null]))] ++ [(q1, .inl (cO, 16, .inr (.inr (.inr (.inr (fun i => if i < 16 then some (rr i) else none))))))]) ++ (List.range 16).map (fun i => (rr i, .inl (cI, (16, .inl (fun _ => nI 0)))))) ++ [(q2, .inl (cI, 16, .inl (fun _ => nI 0)))]) ++ [(q3, .inl (cI, 16, .inl (fun _ => nI 0)))]) H := hP
  have hD : va_D A (((([(b, .inr (4, [.null, .ref q1, .ref q2, .null]))] ++ [(q1, .inl (cO, 16, .inr (.inr (.inr (.inr (fun i => if i < 16 then some (rr i) else none))))))]) ++ (List.range 16).map (fun i => (rr i, .inl (cI, (16, .inl (fun _ => nI 0)))))) ++ [(q2, .inl (cI, 16, .inl (fun _ => nI 0)))]) ++ [(q3, .inl (cI, 16, .inl (fun _ => nI 0)))]) := hD
  refine va_putF (D := D) (ci := 4) (v := .ref q3) (ty := .array .int) (C := RX4) (T := TX4) (N := 4) hx hb hts in_X4_init_4 tyX4 tyX4_ok nmX4 hown hK hP hD hS 0 rfl rfl 3 (by decide) (hts (.fieldLink RX4 20 "Twincuts$Ways" "queue" "[I") (List.mem_of_getElem? (i := 8) (by decide +kernel))) (fun _ h9 => h9) rfl hin rfl (by decide +kernel) rfl rfl (Nat.le_of_ble_eq_true rfl) dX4_init_29 (fun H locs hP hD hS => ?_)
  have hP : va_P D vwCl (((([(b, .inr (4, [.null, .ref q1, .ref q2, .ref q3]))] ++ [(q1, .inl (cO, 16, .inr (.inr (.inr (.inr (fun i => if i < 16 then some (rr i) else none))))))]) ++ (List.range 16).map (fun i => (rr i, .inl (cI, (16, .inl (fun _ => nI 0)))))) ++ [(q2, .inl (cI, 16, .inl (fun _ => nI 0)))]) ++ [(q3, .inl (cI, 16, .inl (fun _ => nI 0)))]) H := hP
  have hD : va_D A (((([(b, .inr (4, [.null, .ref q1, .ref q2, .ref q3]))] ++ [(q1, .inl (cO, 16, .inr (.inr (.inr (.inr (fun i => if i < 16 then some (rr i) else none))))))]) ++ (List.range 16).map (fun i => (rr i, .inl (cI, (16, .inl (fun _ => nI 0)))))) ++ [(q2, .inl (cI, 16, .inl (fun _ => nI 0)))]) ++ [(q3, .inl (cI, 16, .inl (fun _ => nI 0)))]) := hD
  refine lv_aload_n hx hb dX4_init_32 rfl (lv_at hl 0 rfl) ?_
  refine lv_aload_n hx hb dX4_init_33 rfl (lv_at hl 1 rfl) ?_
  refine va_putF (D := D) (ci := 4) (v := .ref w) (ty := .object "Twincuts$Web") (C := RX4) (T := TX4) (N := 4) hx hb hts in_X4_init_4 tyX4 tyX4_ok nmX4 hown hK hP hD hS 0 rfl rfl 0 (by decide) (hts (.fieldLink RX4 23 "Twincuts$Ways" "web" "LTwincuts$Web;") (List.mem_of_getElem? (i := 9) (by decide +kernel))) (fun _ h9 => h9) rfl hin rfl (by decide +kernel) rfl rfl (Nat.le_of_ble_eq_true rfl) dX4_init_34 (fun H locs hP hD hS => ?_)
  have hP : va_P D vwCl (((([(b, .inr (4, [.ref w, .ref q1, .ref q2, .ref q3]))] ++ [(q1, .inl (cO, 16, .inr (.inr (.inr (.inr (fun i => if i < 16 then some (rr i) else none))))))]) ++ (List.range 16).map (fun i => (rr i, .inl (cI, (16, .inl (fun _ => nI 0)))))) ++ [(q2, .inl (cI, 16, .inl (fun _ => nI 0)))]) ++ [(q3, .inl (cI, 16, .inl (fun _ => nI 0)))]) H := hP
  have hD : va_D A (((([(b, .inr (4, [.ref w, .ref q1, .ref q2, .ref q3]))] ++ [(q1, .inl (cO, 16, .inr (.inr (.inr (.inr (fun i => if i < 16 then some (rr i) else none))))))]) ++ (List.range 16).map (fun i => (rr i, .inl (cI, (16, .inl (fun _ => nI 0)))))) ++ [(q2, .inl (cI, 16, .inl (fun _ => nI 0)))]) ++ [(q3, .inl (cI, 16, .inl (fun _ => nI 0)))]) := hD
  have hP := jz_permP (jz_perm3 ([(b, .inr (4, [.ref w, .ref q1, .ref q2, .ref q3]))] ++ [(q1, .inl (cO, 16, .inr (.inr (.inr (.inr (fun i => if i < 16 then some (rr i) else none))))))]) ((List.range 16).map (fun i => (rr i, .inl (cI, (16, .inl (fun _ => nI 0)))))) [(q2, .inl (cI, 16, .inl (fun _ => nI 0)))] [(q3, .inl (cI, 16, .inl (fun _ => nI 0)))]) hP
  have hD := jz_permD (jz_perm3 ([(b, .inr (4, [.ref w, .ref q1, .ref q2, .ref q3]))] ++ [(q1, .inl (cO, 16, .inr (.inr (.inr (.inr (fun i => if i < 16 then some (rr i) else none))))))]) ((List.range 16).map (fun i => (rr i, .inl (cI, (16, .inl (fun _ => nI 0)))))) [(q2, .inl (cI, 16, .inl (fun _ => nI 0)))] [(q3, .inl (cI, 16, .inl (fun _ => nI 0)))]) hD
  refine W.widen (k := 19) (n := 304) (Nat.le_of_ble_eq_true rfl) (Nat.le_of_ble_eq_true rfl) ?_
  have hP9 : va_P D vwCl (jY cI cO (fun i => if i = 20 then b else if i = 21 then q1 else if i = 22 then q2 else if i = 23 then q3 else w) rr (fun _ => nI 0) (fun _ => 0) ++ jRI cI 16 16 rr (fun _ _ => nI 0)) _ := hP
  have hD9 : va_D A (jY cI cO (fun i => if i = 20 then b else if i = 21 then q1 else if i = 22 then q2 else if i = 23 then q3 else w) rr (fun _ => nI 0) (fun _ => 0) ++ jRI cI 16 16 rr (fun _ _ => nI 0)) := hD
  exact W.vret hx hb hr (fun t ht hW => ⟨⟨(fun i => if i = 20 then b else if i = 21 then q1 else if i = 22 then q2 else if i = 23 then q3 else w, rr), rfl, ⟨rfl, rfl⟩, by rw [ht]; exact hP9, hD9⟩, hS.F ht⟩) hS.2.2 dX4_init_37

theorem in_X2_init_2 : ∀ w ∈ wsX20, w ∈ wsX2_init := by decide +kernel
set_option maxHeartbeats 1000000 in
set_option maxRecDepth 20000 in
theorem n_X2_init (l : Launch) (D : va_G) (cI cO cM cL : ClassId) (b w sz : Nat) : Met l yX2_init wsX2_init ({ frames := 2, cells := 10, slots := 80, locals := 40 } : Room) (va_Pc [.ref b, .ref w] (jzN D cI cO cM cL [(b, .inr (2, [.null, .null, .int 0, .int 0, .null]))] sz)) (va_Qv (S := (Nat → Nat) × (Nat → Nat)) (fun u => u.1 30 = b ∧ u.1 0 = w) (fun u t => va_P D vwCl (jT cI cM u.1 u.2 0 (-1) (fun _ => 0) ++ jRL cL 8 8 u.2 (fun _ _ => 0)) t.heap ∧ va_D (va_A [(b, .inr (2, [.null, .null, .int 0, .int 0, .null]))] sz) (jT cI cM u.1 u.2 0 (-1) (fun _ => 0) ++ jRL cL 8 8 u.2 (fun _ _ => 0))) (va_A [(b, .inr (2, [.null, .null, .int 0, .int 0, .null]))] sz)) 10 80 (va_A [(b, .inr (2, [.null, .null, .int 0, .int 0, .null]))] sz) := by
  refine Met.ofW (cc := cX2_init) (maxL := 2) (ret := none) (by decide) rfl ?_
  intro p e s m args below meth c s₁ B hml hv
  obtain ⟨rfl, hN, rfl, hP, hK, hD0, hao, hal⟩ := hv
  have hx := B.exec
  have hb := B.bytes
  have hr := B.returns
  have hts := atoms_spec (ws := wsX2_init) B.pre
  have hown : s.vm.findClass RX2 = some m.cls := findClass_of_methodNamed B.named
  have hlocks := B.notSynchronized
  have hin : meth.name = "<init>" := (name_of_methodNamed B.named B.method).1
  have hD := hD0.self (sz := s.heap.size)
  generalize hAe : va_A [(b, .inr (2, [.null, .null, .int 0, .int 0, .null]))] s.heap.size = A at hD ⊢
  have hA : ∀ q : Nat, s.heap.size ≤ q → A q := fun q h => by rw [← hAe]; exact Or.inr h
  have hS : va_S A s.heap s.heap [] := va_S.rf
  have hl := lv_entry ([.ref b, .ref w]) (n := 2) (Nat.le_of_ble_eq_true rfl)
  rw [lg_entry_eq]
  generalize (lg_sl ([.ref b, .ref w]) ++ List.replicate (2 - (lg_sl ([.ref b, .ref w])).length) Slot.unset).toArray = ls at hl ⊢
  have hl : lv_has ls 2 [(0, .ref b), (1, .ref w)] := hl
  refine lv_aload_n hx hb dX2_init_0 rfl (lv_at hl 0 rfl) ?_
  refine W.objInit hx hb hown (hts (.methodLink RX2 3 objectInit) (List.mem_of_getElem? (i := 1) (by decide +kernel))) (hts (.instanceMethod objectInit) (List.mem_of_getElem? (i := 2) (by decide +kernel))) (hts (.code objectInit ⟨#[0xb1]⟩ 1 none) (List.mem_of_getElem? (i := 3) rfl)) rfl (by rw [hml]; exact hl.1) rfl dX2_init_1 (Nat.le_of_ble_eq_true rfl) (Nat.le_of_ble_eq_true rfl) ?_
  refine W.eq (g2 := F0 m 4 ls []) rfl ?_
  refine lv_aload_n hx hb dX2_init_4 rfl (lv_at hl 0 rfl) ?_
  refine lv_bipush (v := nI 8) hx hb dX2_init_5 (by decide) ?_
  refine lv_bipush (v := nI 8) hx hb dX2_init_7 (by decide) ?_
  refine va_mna (L := []) (f := fun _ => .inl (cL, (8, .inr (.inl (fun _ => 0))))) (X := [(b, .inr (2, [.null, .null, .int 0, .int 0, .null]))]) (ty := .long) (cy := cL) (z := (8, .inr (.inl (fun _ => 0)))) hx hb hown (by rw [jz_sJJ]; exact (hts (.classLink RX2 9 "[[J") (List.mem_of_getElem? (i := 4) (by decide +kernel)))) hal (hts (.arrayClass .long) (List.mem_of_getElem? (i := 5) (by decide +kernel))) (jz_fcL hK) hK (by rw [jz_pl0]; exact hP) (by rw [jz_pl0]; exact hD) hS hA (nI_pos (by decide)) (nI_pos (by decide)) (nI_clamp (by decide)) (nI_clamp (by decide)) (Nat.le_of_ble_eq_true rfl) (Nat.le_of_ble_eq_true rfl) (Nat.le_of_ble_eq_true rfl) rfl rfl (Nat.le_of_ble_eq_true rfl) (Nat.le_of_ble_eq_true rfl) (fun c9 => by show ({ cls := c9, slots := Array.replicate 8 (.long 0), vm := .none } : Cell) = _; rw [arrV_new]; rfl) dX2_init_9 (fun q1 rr cA H _ _ hK1 hP hD hS => ?_)
  have ecA := (jz_RAM hK1).symm
  subst ecA
  rw [jz_pl] at hP hD
  have hP : va_P D vwCl (([(b, .inr (2, [.null, .null, .int 0, .int 0, .null]))] ++ [(q1, .inl (cM, 8, .inr (.inr (.inr (.inr (fun i => if i < 8 then some (rr i) else none))))))]) ++ (List.range 8).map (fun i => (rr i, .inl (cL, (8, .inr (.inl (fun _ => 0))))))) H := hP
  have hD : va_D A (([(b, .inr (2, [.null, .null, .int 0, .int 0, .null]))] ++ [(q1, .inl (cM, 8, .inr (.inr (.inr (.inr (fun i => if i < 8 then some (rr i) else none))))))]) ++ (List.range 8).map (fun i => (rr i, .inl (cL, (8, .inr (.inl (fun _ => 0))))))) := hD
  refine va_putF (D := D) (ci := 2) (v := .ref q1) (ty := .array (.array .long)) (C := RX2) (T := TX2) (N := 5) hx hb hts in_X2_init_2 tyX2 tyX2_ok nmX2 hown hK hP hD hS 0 rfl rfl 1 (by decide) (hts (.fieldLink RX2 11 "Twincuts$Forest" "table" "[[J") (List.mem_of_getElem? (i := 6) (by decide +kernel))) (fun _ h9 => h9) rfl hin rfl (by decide +kernel) rfl rfl (Nat.le_of_ble_eq_true rfl) dX2_init_13 (fun H locs hP hD hS => ?_)
  have hP : va_P D vwCl (([(b, .inr (2, [.null, .ref q1, .int 0, .int 0, .null]))] ++ [(q1, .inl (cM, 8, .inr (.inr (.inr (.inr (fun i => if i < 8 then some (rr i) else none))))))]) ++ (List.range 8).map (fun i => (rr i, .inl (cL, (8, .inr (.inl (fun _ => 0))))))) H := hP
  have hD : va_D A (([(b, .inr (2, [.null, .ref q1, .int 0, .int 0, .null]))] ++ [(q1, .inl (cM, 8, .inr (.inr (.inr (.inr (fun i => if i < 8 then some (rr i) else none))))))]) ++ (List.range 8).map (fun i => (rr i, .inl (cL, (8, .inr (.inl (fun _ => 0))))))) := hD
  refine lv_aload_n hx hb dX2_init_16 rfl (lv_at hl 0 rfl) ?_
  refine lv_iconst (v := nI 0) hx hb dX2_init_17 (by decide) ?_
  refine va_put (D := D) (ci := 2) (v := .int (nI 0)) (ty := .int) (C := RX2) (T := TX2) (N := 5) hx hb hts in_X2_init_2 tyX2 tyX2_ok nmX2 hown hK hP hD hS 0 rfl rfl 2 (by decide) (hts (.fieldLink RX2 16 "Twincuts$Forest" "cheapestSet" "I") (List.mem_of_getElem? (i := 7) (by decide +kernel))) (fun _ h9 => h9) rfl  (by decide +kernel) rfl rfl (Nat.le_of_ble_eq_true rfl) dX2_init_18 (fun H locs hP hD hS => ?_)
  have hP : va_P D vwCl (([(b, .inr (2, [.null, .ref q1, .int (nI 0), .int 0, .null]))] ++ [(q1, .inl (cM, 8, .inr (.inr (.inr (.inr (fun i => if i < 8 then some (rr i) else none))))))]) ++ (List.range 8).map (fun i => (rr i, .inl (cL, (8, .inr (.inl (fun _ => 0))))))) H := hP
  have hD : va_D A (([(b, .inr (2, [.null, .ref q1, .int (nI 0), .int 0, .null]))] ++ [(q1, .inl (cM, 8, .inr (.inr (.inr (.inr (fun i => if i < 8 then some (rr i) else none))))))]) ++ (List.range 8).map (fun i => (rr i, .inl (cL, (8, .inr (.inl (fun _ => 0))))))) := hD
  refine lv_aload_n hx hb dX2_init_21 rfl (lv_at hl 0 rfl) ?_
  refine lv_iconst (v := (-1)) hx hb dX2_init_22 (by decide) ?_
  refine va_put (D := D) (ci := 2) (v := .int ((-1))) (ty := .int) (C := RX2) (T := TX2) (N := 5) hx hb hts in_X2_init_2 tyX2 tyX2_ok nmX2 hown hK hP hD hS 0 rfl rfl 3 (by decide) (hts (.fieldLink RX2 20 "Twincuts$Forest" "cheapestCost" "I") (List.mem_of_getElem? (i := 8) (by decide +kernel))) (fun _ h9 => h9) rfl  (by decide +kernel) rfl rfl (Nat.le_of_ble_eq_true rfl) dX2_init_23 (fun H locs hP hD hS => ?_)
  have hP : va_P D vwCl (([(b, .inr (2, [.null, .ref q1, .int (nI 0), .int ((-1)), .null]))] ++ [(q1, .inl (cM, 8, .inr (.inr (.inr (.inr (fun i => if i < 8 then some (rr i) else none))))))]) ++ (List.range 8).map (fun i => (rr i, .inl (cL, (8, .inr (.inl (fun _ => 0))))))) H := hP
  have hD : va_D A (([(b, .inr (2, [.null, .ref q1, .int (nI 0), .int ((-1)), .null]))] ++ [(q1, .inl (cM, 8, .inr (.inr (.inr (.inr (fun i => if i < 8 then some (rr i) else none))))))]) ++ (List.range 8).map (fun i => (rr i, .inl (cL, (8, .inr (.inl (fun _ => 0))))))) := hD
  refine lv_aload_n hx hb dX2_init_26 rfl (lv_at hl 0 rfl) ?_
  refine lv_bipush (v := nI 8) hx hb dX2_init_27 (by decide) ?_
  refine va_newa (atype := .int) (ty := .int) (a0 := (8, .inl (fun _ => nI 0))) hx hb (hts (.arrayClass .int) (List.mem_of_getElem? (i := 9) (by decide +kernel))) rfl hK hP hD hS hA (fun _ => rfl) (nI_pos (by decide)) (nI_clamp (by decide)) (Nat.le_of_ble_eq_true rfl) (Nat.le_of_ble_eq_true rfl) (Nat.le_of_ble_eq_true rfl) dX2_init_29 (fun q2 cA H hK1 hP hD hS => ?_)
  have ecA := (jz_RAI hK1).symm
  subst ecA
  have hP : va_P D vwCl ((([(b, .inr (2, [.null, .ref q1, .int (nI 0), .int ((-1)), .null]))] ++ [(q1, .inl (cM, 8, .inr (.inr (.inr (.inr (fun i => if i < 8 then some (rr i) else none))))))]) ++ (List.range 8).map (fun i => (rr i, .inl (cL, (8, .inr (.inl (fun _ => 0))))))) ++ [(q2, .inl (cI, 8, .inl (fun _ => nI 0)))]) H := hP
  have hD : va_D A ((([(b, .inr (2, [.null, .ref q1, .int (nI 0), .int ((-1)), .null]))] ++ [(q1, .inl (cM, 8, .inr (.inr (.inr (.inr (fun i => if i < 8 then some (rr i) else none))))))]) ++ (List.range 8).map (fun i => (rr i, .inl (cL, (8, .inr (.inl (fun _ => 0))))))) ++ [(q2, .inl (cI, 8, .inl (fun _ => nI 0)))]) := hD
  refine va_putF (D := D) (ci := 2) (v := .ref q2) (ty := .array .int) (C := RX2) (T := TX2) (N := 5) hx hb hts in_X2_init_2 tyX2 tyX2_ok nmX2 hown hK hP hD hS 0 rfl rfl 4 (by decide) (hts (.fieldLink RX2 23 "Twincuts$Forest" "joined" "[I") (List.mem_of_getElem? (i := 10) (by decide +kernel))) (fun _ h9 => h9) rfl hin rfl (by decide +kernel) rfl rfl (Nat.le_of_ble_eq_true rfl) dX2_init_31 (fun H locs hP hD hS => ?_)
  have hP : va_P D vwCl ((([(b, .inr (2, [.null, .ref q1, .int (nI 0), .int ((-1)), .ref q2]))] ++ [(q1, .inl (cM, 8, .inr (.inr (.inr (.inr (fun i => if i < 8 then some (rr i) else none))))))]) ++ (List.range 8).map (fun i => (rr i, .inl (cL, (8, .inr (.inl (fun _ => 0))))))) ++ [(q2, .inl (cI, 8, .inl (fun _ => nI 0)))]) H := hP
  have hD : va_D A ((([(b, .inr (2, [.null, .ref q1, .int (nI 0), .int ((-1)), .ref q2]))] ++ [(q1, .inl (cM, 8, .inr (.inr (.inr (.inr (fun i => if i < 8 then some (rr i) else none))))))]) ++ (List.range 8).map (fun i => (rr i, .inl (cL, (8, .inr (.inl (fun _ => 0))))))) ++ [(q2, .inl (cI, 8, .inl (fun _ => nI 0)))]) := hD
  refine lv_aload_n hx hb dX2_init_34 rfl (lv_at hl 0 rfl) ?_
  refine lv_aload_n hx hb dX2_init_35 rfl (lv_at hl 1 rfl) ?_
  refine va_putF (D := D) (ci := 2) (v := .ref w) (ty := .object "Twincuts$Web") (C := RX2) (T := TX2) (N := 5) hx hb hts in_X2_init_2 tyX2 tyX2_ok nmX2 hown hK hP hD hS 0 rfl rfl 0 (by decide) (hts (.fieldLink RX2 27 "Twincuts$Forest" "web" "LTwincuts$Web;") (List.mem_of_getElem? (i := 11) (by decide +kernel))) (fun _ h9 => h9) rfl hin rfl (by decide +kernel) rfl rfl (Nat.le_of_ble_eq_true rfl) dX2_init_36 (fun H locs hP hD hS => ?_)
  have hP : va_P D vwCl ((([(b, .inr (2, [.ref w, .ref q1, .int (nI 0), .int ((-1)), .ref q2]))] ++ [(q1, .inl (cM, 8, .inr (.inr (.inr (.inr (fun i => if i < 8 then some (rr i) else none))))))]) ++ (List.range 8).map (fun i => (rr i, .inl (cL, (8, .inr (.inl (fun _ => 0))))))) ++ [(q2, .inl (cI, 8, .inl (fun _ => nI 0)))]) H := hP
  have hD : va_D A ((([(b, .inr (2, [.ref w, .ref q1, .int (nI 0), .int ((-1)), .ref q2]))] ++ [(q1, .inl (cM, 8, .inr (.inr (.inr (.inr (fun i => if i < 8 then some (rr i) else none))))))]) ++ (List.range 8).map (fun i => (rr i, .inl (cL, (8, .inr (.inl (fun _ => 0))))))) ++ [(q2, .inl (cI, 8, .inl (fun _ => nI 0)))]) := hD
  have hP := jz_permP (jz_perm2 ([(b, .inr (2, [.ref w, .ref q1, .int (nI 0), .int ((-1)), .ref q2]))] ++ [(q1, .inl (cM, 8, .inr (.inr (.inr (.inr (fun i => if i < 8 then some (rr i) else none))))))]) ((List.range 8).map (fun i => (rr i, .inl (cL, (8, .inr (.inl (fun _ => 0))))))) [(q2, .inl (cI, 8, .inl (fun _ => nI 0)))]) hP
  have hD := jz_permD (jz_perm2 ([(b, .inr (2, [.ref w, .ref q1, .int (nI 0), .int ((-1)), .ref q2]))] ++ [(q1, .inl (cM, 8, .inr (.inr (.inr (.inr (fun i => if i < 8 then some (rr i) else none))))))]) ((List.range 8).map (fun i => (rr i, .inl (cL, (8, .inr (.inl (fun _ => 0))))))) [(q2, .inl (cI, 8, .inl (fun _ => nI 0)))]) hD
  refine W.widen (k := 10) (n := 80) (Nat.le_of_ble_eq_true rfl) (Nat.le_of_ble_eq_true rfl) ?_
  have hP9 : va_P D vwCl (jT cI cM (fun i => if i = 30 then b else if i = 31 then q1 else if i = 32 then q2 else w) rr 0 (-1) (fun _ => 0) ++ jRL cL 8 8 rr (fun _ _ => 0)) _ := hP
  have hD9 : va_D A (jT cI cM (fun i => if i = 30 then b else if i = 31 then q1 else if i = 32 then q2 else w) rr 0 (-1) (fun _ => 0) ++ jRL cL 8 8 rr (fun _ _ => 0)) := hD
  exact W.vret hx hb hr (fun t ht hW => ⟨⟨(fun i => if i = 30 then b else if i = 31 then q1 else if i = 32 then q2 else w, rr), rfl, ⟨rfl, rfl⟩, by rw [ht]; exact hP9, hD9⟩, hS.F ht⟩) hS.2.2 dX2_init_39

theorem in_X3_init_3 : ∀ w ∈ wsX30, w ∈ wsX3_init := by decide +kernel
set_option maxHeartbeats 1000000 in
set_option maxRecDepth 20000 in
theorem n_X3_init (l : Launch) (D : va_G) (cI cO cM cL : ClassId) (b w sz : Nat) : Met l yX3_init wsX3_init ({ frames := 2, cells := 1, slots := 8, locals := 40 } : Room) (va_Pc [.ref b, .ref w] (jzN D cI cO cM cL [(b, .inr (3, [.null, .int 0, .null]))] sz)) (va_Qv (S := (Nat → Nat) × (Nat → Nat)) (fun u => u.1 40 = b ∧ u.1 0 = w) (fun u t => va_P D vwCl (jP cI u.1 0 (fun _ => 0)) t.heap ∧ va_D (va_A [(b, .inr (3, [.null, .int 0, .null]))] sz) (jP cI u.1 0 (fun _ => 0))) (va_A [(b, .inr (3, [.null, .int 0, .null]))] sz)) 1 8 (va_A [(b, .inr (3, [.null, .int 0, .null]))] sz) := by
  refine Met.ofW (cc := cX3_init) (maxL := 2) (ret := none) (by decide) rfl ?_
  intro p e s m args below meth c s₁ B hml hv
  obtain ⟨rfl, hN, rfl, hP, hK, hD0, hao, hal⟩ := hv
  have hx := B.exec
  have hb := B.bytes
  have hr := B.returns
  have hts := atoms_spec (ws := wsX3_init) B.pre
  have hown : s.vm.findClass RX3 = some m.cls := findClass_of_methodNamed B.named
  have hlocks := B.notSynchronized
  have hin : meth.name = "<init>" := (name_of_methodNamed B.named B.method).1
  have hD := hD0.self (sz := s.heap.size)
  generalize hAe : va_A [(b, .inr (3, [.null, .int 0, .null]))] s.heap.size = A at hD ⊢
  have hA : ∀ q : Nat, s.heap.size ≤ q → A q := fun q h => by rw [← hAe]; exact Or.inr h
  have hS : va_S A s.heap s.heap [] := va_S.rf
  have hl := lv_entry ([.ref b, .ref w]) (n := 2) (Nat.le_of_ble_eq_true rfl)
  rw [lg_entry_eq]
  generalize (lg_sl ([.ref b, .ref w]) ++ List.replicate (2 - (lg_sl ([.ref b, .ref w])).length) Slot.unset).toArray = ls at hl ⊢
  have hl : lv_has ls 2 [(0, .ref b), (1, .ref w)] := hl
  refine lv_aload_n hx hb dX3_init_0 rfl (lv_at hl 0 rfl) ?_
  refine W.objInit hx hb hown (hts (.methodLink RX3 3 objectInit) (List.mem_of_getElem? (i := 1) (by decide +kernel))) (hts (.instanceMethod objectInit) (List.mem_of_getElem? (i := 2) (by decide +kernel))) (hts (.code objectInit ⟨#[0xb1]⟩ 1 none) (List.mem_of_getElem? (i := 3) rfl)) rfl (by rw [hml]; exact hl.1) rfl dX3_init_1 (Nat.le_of_ble_eq_true rfl) (Nat.le_of_ble_eq_true rfl) ?_
  refine W.eq (g2 := F0 m 4 ls []) rfl ?_
  refine lv_aload_n hx hb dX3_init_4 rfl (lv_at hl 0 rfl) ?_
  refine lv_iconst (v := nI 0) hx hb dX3_init_5 (by decide) ?_
  refine va_put (D := D) (ci := 3) (v := .int (nI 0)) (ty := .int) (C := RX3) (T := TX3) (N := 3) hx hb hts in_X3_init_3 tyX3 tyX3_ok nmX3 hown hK hP hD hS 0 rfl rfl 1 (by decide) (hts (.fieldLink RX3 9 "Twincuts$Palette" "colours" "I") (List.mem_of_getElem? (i := 4) (by decide +kernel))) (fun _ h9 => h9) rfl  (by decide +kernel) rfl rfl (Nat.le_of_ble_eq_true rfl) dX3_init_6 (fun H locs hP hD hS => ?_)
  have hP : va_P D vwCl ([(b, .inr (3, [.null, .int (nI 0), .null]))]) H := hP
  have hD : va_D A ([(b, .inr (3, [.null, .int (nI 0), .null]))]) := hD
  refine lv_aload_n hx hb dX3_init_9 rfl (lv_at hl 0 rfl) ?_
  refine lv_bipush (v := nI 8) hx hb dX3_init_10 (by decide) ?_
  refine va_newa (atype := .int) (ty := .int) (a0 := (8, .inl (fun _ => nI 0))) hx hb (hts (.arrayClass .int) (List.mem_of_getElem? (i := 5) (by decide +kernel))) rfl hK hP hD hS hA (fun _ => rfl) (nI_pos (by decide)) (nI_clamp (by decide)) (Nat.le_of_ble_eq_true rfl) (Nat.le_of_ble_eq_true rfl) (Nat.le_of_ble_eq_true rfl) dX3_init_12 (fun q1 cA H hK1 hP hD hS => ?_)
  have ecA := (jz_RAI hK1).symm
  subst ecA
  have hP : va_P D vwCl ([(b, .inr (3, [.null, .int (nI 0), .null]))] ++ [(q1, .inl (cI, 8, .inl (fun _ => nI 0)))]) H := hP
  have hD : va_D A ([(b, .inr (3, [.null, .int (nI 0), .null]))] ++ [(q1, .inl (cI, 8, .inl (fun _ => nI 0)))]) := hD
  refine va_putF (D := D) (ci := 3) (v := .ref q1) (ty := .array .int) (C := RX3) (T := TX3) (N := 3) hx hb hts in_X3_init_3 tyX3 tyX3_ok nmX3 hown hK hP hD hS 0 rfl rfl 2 (by decide) (hts (.fieldLink RX3 15 "Twincuts$Palette" "colour" "[I") (List.mem_of_getElem? (i := 6) (by decide +kernel))) (fun _ h9 => h9) rfl hin rfl (by decide +kernel) rfl rfl (Nat.le_of_ble_eq_true rfl) dX3_init_14 (fun H locs hP hD hS => ?_)
  have hP : va_P D vwCl ([(b, .inr (3, [.null, .int (nI 0), .ref q1]))] ++ [(q1, .inl (cI, 8, .inl (fun _ => nI 0)))]) H := hP
  have hD : va_D A ([(b, .inr (3, [.null, .int (nI 0), .ref q1]))] ++ [(q1, .inl (cI, 8, .inl (fun _ => nI 0)))]) := hD
  refine lv_aload_n hx hb dX3_init_17 rfl (lv_at hl 0 rfl) ?_
  refine lv_aload_n hx hb dX3_init_18 rfl (lv_at hl 1 rfl) ?_
  refine va_putF (D := D) (ci := 3) (v := .ref w) (ty := .object "Twincuts$Web") (C := RX3) (T := TX3) (N := 3) hx hb hts in_X3_init_3 tyX3 tyX3_ok nmX3 hown hK hP hD hS 0 rfl rfl 0 (by decide) (hts (.fieldLink RX3 19 "Twincuts$Palette" "web" "LTwincuts$Web;") (List.mem_of_getElem? (i := 7) (by decide +kernel))) (fun _ h9 => h9) rfl hin rfl (by decide +kernel) rfl rfl (Nat.le_of_ble_eq_true rfl) dX3_init_19 (fun H locs hP hD hS => ?_)
  have hP : va_P D vwCl ([(b, .inr (3, [.ref w, .int (nI 0), .ref q1]))] ++ [(q1, .inl (cI, 8, .inl (fun _ => nI 0)))]) H := hP
  have hD : va_D A ([(b, .inr (3, [.ref w, .int (nI 0), .ref q1]))] ++ [(q1, .inl (cI, 8, .inl (fun _ => nI 0)))]) := hD
  refine W.widen (k := 1) (n := 8) (Nat.le_of_ble_eq_true rfl) (Nat.le_of_ble_eq_true rfl) ?_
  have hP9 : va_P D vwCl (jP cI (fun i => if i = 40 then b else if i = 41 then q1 else w) 0 (fun _ => 0)) _ := hP
  have hD9 : va_D A (jP cI (fun i => if i = 40 then b else if i = 41 then q1 else w) 0 (fun _ => 0)) := hD
  exact W.vret hx hb hr (fun t ht hW => ⟨⟨(fun i => if i = 40 then b else if i = 41 then q1 else w, (fun _ => 0)), rfl, ⟨rfl, rfl⟩, by rw [ht]; exact hP9, hD9⟩, hS.F ht⟩) hS.2.2 dX3_init_22

theorem in_X0_init_0 : ∀ w ∈ wsX00, w ∈ wsX0_init := by decide +kernel
set_option maxHeartbeats 1000000 in
set_option maxRecDepth 20000 in
theorem n_X0_init (l : Launch) (D : va_G) (cI cO cM cL : ClassId) (b w sz : Nat) : Met l yX0_init wsX0_init ({ frames := 2, cells := 11, slots := 176, locals := 40 } : Room) (va_Pc [.ref b, .ref w] (jzN D cI cO cM cL [(b, .inr (0, [.null, .null, .null, .int 0, .null]))] sz)) (va_Qv (S := (Nat → Nat) × (Nat → Nat)) (fun u => u.1 50 = b ∧ u.1 0 = w) (fun u t => va_P D vwCl (jD cI cO u.1 u.2 (fun _ => 0) 0 (fun _ => nI 0) ++ jRN cI 8 16 u.2 (fun _ _ => 0)) t.heap ∧ va_D (va_A [(b, .inr (0, [.null, .null, .null, .int 0, .null]))] sz) (jD cI cO u.1 u.2 (fun _ => 0) 0 (fun _ => nI 0) ++ jRN cI 8 16 u.2 (fun _ _ => 0))) (va_A [(b, .inr (0, [.null, .null, .null, .int 0, .null]))] sz)) 11 176 (va_A [(b, .inr (0, [.null, .null, .null, .int 0, .null]))] sz) := by
  refine Met.ofW (cc := cX0_init) (maxL := 2) (ret := none) (by decide) rfl ?_
  intro p e s m args below meth c s₁ B hml hv
  obtain ⟨rfl, hN, rfl, hP, hK, hD0, hao, hal⟩ := hv
  have hx := B.exec
  have hb := B.bytes
  have hr := B.returns
  have hts := atoms_spec (ws := wsX0_init) B.pre
  have hown : s.vm.findClass RX0 = some m.cls := findClass_of_methodNamed B.named
  have hlocks := B.notSynchronized
  have hin : meth.name = "<init>" := (name_of_methodNamed B.named B.method).1
  have hD := hD0.self (sz := s.heap.size)
  generalize hAe : va_A [(b, .inr (0, [.null, .null, .null, .int 0, .null]))] s.heap.size = A at hD ⊢
  have hA : ∀ q : Nat, s.heap.size ≤ q → A q := fun q h => by rw [← hAe]; exact Or.inr h
  have hS : va_S A s.heap s.heap [] := va_S.rf
  have hl := lv_entry ([.ref b, .ref w]) (n := 2) (Nat.le_of_ble_eq_true rfl)
  rw [lg_entry_eq]
  generalize (lg_sl ([.ref b, .ref w]) ++ List.replicate (2 - (lg_sl ([.ref b, .ref w])).length) Slot.unset).toArray = ls at hl ⊢
  have hl : lv_has ls 2 [(0, .ref b), (1, .ref w)] := hl
  refine lv_aload_n hx hb dX0_init_0 rfl (lv_at hl 0 rfl) ?_
  refine W.objInit hx hb hown (hts (.methodLink RX0 3 objectInit) (List.mem_of_getElem? (i := 1) (by decide +kernel))) (hts (.instanceMethod objectInit) (List.mem_of_getElem? (i := 2) (by decide +kernel))) (hts (.code objectInit ⟨#[0xb1]⟩ 1 none) (List.mem_of_getElem? (i := 3) rfl)) rfl (by rw [hml]; exact hl.1) rfl dX0_init_1 (Nat.le_of_ble_eq_true rfl) (Nat.le_of_ble_eq_true rfl) ?_
  refine W.eq (g2 := F0 m 4 ls []) rfl ?_
  refine lv_aload_n hx hb dX0_init_4 rfl (lv_at hl 0 rfl) ?_
  refine lv_bipush (v := nI 8) hx hb dX0_init_5 (by decide) ?_
  refine lv_bipush (v := nI 16) hx hb dX0_init_7 (by decide) ?_
  refine va_mna (L := []) (f := fun _ => .inl (cI, (16, .inl (fun _ => nI 0)))) (X := [(b, .inr (0, [.null, .null, .null, .int 0, .null]))]) (ty := .int) (cy := cI) (z := (16, .inl (fun _ => nI 0))) hx hb hown (by rw [jz_sII]; exact (hts (.classLink RX0 9 "[[I") (List.mem_of_getElem? (i := 4) (by decide +kernel)))) hao (hts (.arrayClass .int) (List.mem_of_getElem? (i := 5) (by decide +kernel))) (jz_fcI hK) hK (by rw [jz_pl0]; exact hP) (by rw [jz_pl0]; exact hD) hS hA (nI_pos (by decide)) (nI_pos (by decide)) (nI_clamp (by decide)) (nI_clamp (by decide)) (Nat.le_of_ble_eq_true rfl) (Nat.le_of_ble_eq_true rfl) (Nat.le_of_ble_eq_true rfl) rfl rfl (Nat.le_of_ble_eq_true rfl) (Nat.le_of_ble_eq_true rfl) (fun c9 => by show ({ cls := c9, slots := Array.replicate 16 (.int 0), vm := .none } : Cell) = _; rw [arrV_new]; rfl) dX0_init_9 (fun q1 rr cA H _ _ hK1 hP hD hS => ?_)
  have ecA := (jz_RAO hK1).symm
  subst ecA
  rw [jz_pl] at hP hD
  have hP : va_P D vwCl (([(b, .inr (0, [.null, .null, .null, .int 0, .null]))] ++ [(q1, .inl (cO, 8, .inr (.inr (.inr (.inr (fun i => if i < 8 then some (rr i) else none))))))]) ++ (List.range 8).map (fun i => (rr i, .inl (cI, (16, .inl (fun _ => nI 0)))))) H := hP
  have hD : va_D A (([(b, .inr (0, [.null, .null, .null, .int 0, .null]))] ++ [(q1, .inl (cO, 8, .inr (.inr (.inr (.inr (fun i => if i < 8 then some (rr i) else none))))))]) ++ (List.range 8).map (fun i => (rr i, .inl (cI, (16, .inl (fun _ => nI 0)))))) := hD
  refine va_putF (D := D) (ci := 0) (v := .ref q1) (ty := .array (.array .int)) (C := RX0) (T := TX0) (N := 5) hx hb hts in_X0_init_0 tyX0 tyX0_ok nmX0 hown hK hP hD hS 0 rfl rfl 1 (by decide) (hts (.fieldLink RX0 11 "Twincuts$Drawing" "order" "[[I") (List.mem_of_getElem? (i := 6) (by decide +kernel))) (fun _ h9 => h9) rfl hin rfl (by decide +kernel) rfl rfl (Nat.le_of_ble_eq_true rfl) dX0_init_13 (fun H locs hP hD hS => ?_)
  have hP : va_P D vwCl (([(b, .inr (0, [.null, .ref q1, .null, .int 0, .null]))] ++ [(q1, .inl (cO, 8, .inr (.inr (.inr (.inr (fun i => if i < 8 then some (rr i) else none))))))]) ++ (List.range 8).map (fun i => (rr i, .inl (cI, (16, .inl (fun _ => nI 0)))))) H := hP
  have hD : va_D A (([(b, .inr (0, [.null, .ref q1, .null, .int 0, .null]))] ++ [(q1, .inl (cO, 8, .inr (.inr (.inr (.inr (fun i => if i < 8 then some (rr i) else none))))))]) ++ (List.range 8).map (fun i => (rr i, .inl (cI, (16, .inl (fun _ => nI 0)))))) := hD
  refine lv_aload_n hx hb dX0_init_16 rfl (lv_at hl 0 rfl) ?_
  refine lv_bipush (v := nI 8) hx hb dX0_init_17 (by decide) ?_
  refine va_newa (atype := .int) (ty := .int) (a0 := (8, .inl (fun _ => nI 0))) hx hb (hts (.arrayClass .int) (List.mem_of_getElem? (i := 5) (by decide +kernel))) rfl hK hP hD hS hA (fun _ => rfl) (nI_pos (by decide)) (nI_clamp (by decide)) (Nat.le_of_ble_eq_true rfl) (Nat.le_of_ble_eq_true rfl) (Nat.le_of_ble_eq_true rfl) dX0_init_19 (fun q2 cA H hK1 hP hD hS => ?_)
  have ecA := (jz_RAI hK1).symm
  subst ecA
  have hP : va_P D vwCl ((([(b, .inr (0, [.null, .ref q1, .null, .int 0, .null]))] ++ [(q1, .inl (cO, 8, .inr (.inr (.inr (.inr (fun i => if i < 8 then some (rr i) else none))))))]) ++ (List.range 8).map (fun i => (rr i, .inl (cI, (16, .inl (fun _ => nI 0)))))) ++ [(q2, .inl (cI, 8, .inl (fun _ => nI 0)))]) H := hP
  have hD : va_D A ((([(b, .inr (0, [.null, .ref q1, .null, .int 0, .null]))] ++ [(q1, .inl (cO, 8, .inr (.inr (.inr (.inr (fun i => if i < 8 then some (rr i) else none))))))]) ++ (List.range 8).map (fun i => (rr i, .inl (cI, (16, .inl (fun _ => nI 0)))))) ++ [(q2, .inl (cI, 8, .inl (fun _ => nI 0)))]) := hD
  refine va_putF (D := D) (ci := 0) (v := .ref q2) (ty := .array .int) (C := RX0) (T := TX0) (N := 5) hx hb hts in_X0_init_0 tyX0 tyX0_ok nmX0 hown hK hP hD hS 0 rfl rfl 2 (by decide) (hts (.fieldLink RX0 16 "Twincuts$Drawing" "length" "[I") (List.mem_of_getElem? (i := 7) (by decide +kernel))) (fun _ h9 => h9) rfl hin rfl (by decide +kernel) rfl rfl (Nat.le_of_ble_eq_true rfl) dX0_init_21 (fun H locs hP hD hS => ?_)
  have hP : va_P D vwCl ((([(b, .inr (0, [.null, .ref q1, .ref q2, .int 0, .null]))] ++ [(q1, .inl (cO, 8, .inr (.inr (.inr (.inr (fun i => if i < 8 then some (rr i) else none))))))]) ++ (List.range 8).map (fun i => (rr i, .inl (cI, (16, .inl (fun _ => nI 0)))))) ++ [(q2, .inl (cI, 8, .inl (fun _ => nI 0)))]) H := hP
  have hD : va_D A ((([(b, .inr (0, [.null, .ref q1, .ref q2, .int 0, .null]))] ++ [(q1, .inl (cO, 8, .inr (.inr (.inr (.inr (fun i => if i < 8 then some (rr i) else none))))))]) ++ (List.range 8).map (fun i => (rr i, .inl (cI, (16, .inl (fun _ => nI 0)))))) ++ [(q2, .inl (cI, 8, .inl (fun _ => nI 0)))]) := hD
  refine lv_aload_n hx hb dX0_init_24 rfl (lv_at hl 0 rfl) ?_
  refine lv_iconst (v := nI 0) hx hb dX0_init_25 (by decide) ?_
  refine va_put (D := D) (ci := 0) (v := .int (nI 0)) (ty := .int) (C := RX0) (T := TX0) (N := 5) hx hb hts in_X0_init_0 tyX0 tyX0_ok nmX0 hown hK hP hD hS 0 rfl rfl 3 (by decide) (hts (.fieldLink RX0 20 "Twincuts$Drawing" "walked" "I") (List.mem_of_getElem? (i := 8) (by decide +kernel))) (fun _ h9 => h9) rfl  (by decide +kernel) rfl rfl (Nat.le_of_ble_eq_true rfl) dX0_init_26 (fun H locs hP hD hS => ?_)
  have hP : va_P D vwCl ((([(b, .inr (0, [.null, .ref q1, .ref q2, .int (nI 0), .null]))] ++ [(q1, .inl (cO, 8, .inr (.inr (.inr (.inr (fun i => if i < 8 then some (rr i) else none))))))]) ++ (List.range 8).map (fun i => (rr i, .inl (cI, (16, .inl (fun _ => nI 0)))))) ++ [(q2, .inl (cI, 8, .inl (fun _ => nI 0)))]) H := hP
  have hD : va_D A ((([(b, .inr (0, [.null, .ref q1, .ref q2, .int (nI 0), .null]))] ++ [(q1, .inl (cO, 8, .inr (.inr (.inr (.inr (fun i => if i < 8 then some (rr i) else none))))))]) ++ (List.range 8).map (fun i => (rr i, .inl (cI, (16, .inl (fun _ => nI 0)))))) ++ [(q2, .inl (cI, 8, .inl (fun _ => nI 0)))]) := hD
  refine lv_aload_n hx hb dX0_init_29 rfl (lv_at hl 0 rfl) ?_
  refine lv_bipush (v := nI 32) hx hb dX0_init_30 (by decide) ?_
  refine va_newa (atype := .int) (ty := .int) (a0 := (32, .inl (fun _ => nI 0))) hx hb (hts (.arrayClass .int) (List.mem_of_getElem? (i := 5) (by decide +kernel))) rfl hK hP hD hS hA (fun _ => rfl) (nI_pos (by decide)) (nI_clamp (by decide)) (Nat.le_of_ble_eq_true rfl) (Nat.le_of_ble_eq_true rfl) (Nat.le_of_ble_eq_true rfl) dX0_init_32 (fun q3 cA H hK1 hP hD hS => ?_)
  have ecA := (jz_RAI hK1).symm
  subst ecA
  have hP : va_P D vwCl (((([(b, .inr (0, [.null, .ref q1, .ref q2, .int (nI 0), .null]))] ++ [(q1, .inl (cO, 8, .inr (.inr (.inr (.inr (fun i => if i < 8 then some (rr i) else none))))))]) ++ (List.range 8).map (fun i => (rr i, .inl (cI, (16, .inl (fun _ => nI 0)))))) ++ [(q2, .inl (cI, 8, .inl (fun _ => nI 0)))]) ++ [(q3, .inl (cI, 32, .inl (fun _ => nI 0)))]) H := hP
  have hD : va_D A (((([(b, .inr (0, [.null, .ref q1, .ref q2, .int (nI 0), .null]))] ++ [(q1, .inl (cO, 8, .inr (.inr (.inr (.inr (fun i => if i < 8 then some (rr i) else none))))))]) ++ (List.range 8).map (fun i => (rr i, .inl (cI, (16, .inl (fun _ => nI 0)))))) ++ [(q2, .inl (cI, 8, .inl (fun _ => nI 0)))]) ++ [(q3, .inl (cI, 32, .inl (fun _ => nI 0)))]) := hD
  refine va_putF (D := D) (ci := 0) (v := .ref q3) (ty := .array .int) (C := RX0) (T := TX0) (N := 5) hx hb hts in_X0_init_0 tyX0 tyX0_ok nmX0 hown hK hP hD hS 0 rfl rfl 4 (by decide) (hts (.fieldLink RX0 24 "Twincuts$Drawing" "face" "[I") (List.mem_of_getElem? (i := 9) (by decide +kernel))) (fun _ h9 => h9) rfl hin rfl (by decide +kernel) rfl rfl (Nat.le_of_ble_eq_true rfl) dX0_init_34 (fun H locs hP hD hS => ?_)
  have hP : va_P D vwCl (((([(b, .inr (0, [.null, .ref q1, .ref q2, .int (nI 0), .ref q3]))] ++ [(q1, .inl (cO, 8, .inr (.inr (.inr (.inr (fun i => if i < 8 then some (rr i) else none))))))]) ++ (List.range 8).map (fun i => (rr i, .inl (cI, (16, .inl (fun _ => nI 0)))))) ++ [(q2, .inl (cI, 8, .inl (fun _ => nI 0)))]) ++ [(q3, .inl (cI, 32, .inl (fun _ => nI 0)))]) H := hP
  have hD : va_D A (((([(b, .inr (0, [.null, .ref q1, .ref q2, .int (nI 0), .ref q3]))] ++ [(q1, .inl (cO, 8, .inr (.inr (.inr (.inr (fun i => if i < 8 then some (rr i) else none))))))]) ++ (List.range 8).map (fun i => (rr i, .inl (cI, (16, .inl (fun _ => nI 0)))))) ++ [(q2, .inl (cI, 8, .inl (fun _ => nI 0)))]) ++ [(q3, .inl (cI, 32, .inl (fun _ => nI 0)))]) := hD
  refine lv_aload_n hx hb dX0_init_37 rfl (lv_at hl 0 rfl) ?_
  refine lv_aload_n hx hb dX0_init_38 rfl (lv_at hl 1 rfl) ?_
  refine va_putF (D := D) (ci := 0) (v := .ref w) (ty := .object "Twincuts$Web") (C := RX0) (T := TX0) (N := 5) hx hb hts in_X0_init_0 tyX0 tyX0_ok nmX0 hown hK hP hD hS 0 rfl rfl 0 (by decide) (hts (.fieldLink RX0 27 "Twincuts$Drawing" "web" "LTwincuts$Web;") (List.mem_of_getElem? (i := 10) (by decide +kernel))) (fun _ h9 => h9) rfl hin rfl (by decide +kernel) rfl rfl (Nat.le_of_ble_eq_true rfl) dX0_init_39 (fun H locs hP hD hS => ?_)
  have hP : va_P D vwCl (((([(b, .inr (0, [.ref w, .ref q1, .ref q2, .int (nI 0), .ref q3]))] ++ [(q1, .inl (cO, 8, .inr (.inr (.inr (.inr (fun i => if i < 8 then some (rr i) else none))))))]) ++ (List.range 8).map (fun i => (rr i, .inl (cI, (16, .inl (fun _ => nI 0)))))) ++ [(q2, .inl (cI, 8, .inl (fun _ => nI 0)))]) ++ [(q3, .inl (cI, 32, .inl (fun _ => nI 0)))]) H := hP
  have hD : va_D A (((([(b, .inr (0, [.ref w, .ref q1, .ref q2, .int (nI 0), .ref q3]))] ++ [(q1, .inl (cO, 8, .inr (.inr (.inr (.inr (fun i => if i < 8 then some (rr i) else none))))))]) ++ (List.range 8).map (fun i => (rr i, .inl (cI, (16, .inl (fun _ => nI 0)))))) ++ [(q2, .inl (cI, 8, .inl (fun _ => nI 0)))]) ++ [(q3, .inl (cI, 32, .inl (fun _ => nI 0)))]) := hD
  have hP := jz_permP (jz_perm3 ([(b, .inr (0, [.ref w, .ref q1, .ref q2, .int (nI 0), .ref q3]))] ++ [(q1, .inl (cO, 8, .inr (.inr (.inr (.inr (fun i => if i < 8 then some (rr i) else none))))))]) ((List.range 8).map (fun i => (rr i, .inl (cI, (16, .inl (fun _ => nI 0)))))) [(q2, .inl (cI, 8, .inl (fun _ => nI 0)))] [(q3, .inl (cI, 32, .inl (fun _ => nI 0)))]) hP
  have hD := jz_permD (jz_perm3 ([(b, .inr (0, [.ref w, .ref q1, .ref q2, .int (nI 0), .ref q3]))] ++ [(q1, .inl (cO, 8, .inr (.inr (.inr (.inr (fun i => if i < 8 then some (rr i) else none))))))]) ((List.range 8).map (fun i => (rr i, .inl (cI, (16, .inl (fun _ => nI 0)))))) [(q2, .inl (cI, 8, .inl (fun _ => nI 0)))] [(q3, .inl (cI, 32, .inl (fun _ => nI 0)))]) hD
  refine W.widen (k := 11) (n := 176) (Nat.le_of_ble_eq_true rfl) (Nat.le_of_ble_eq_true rfl) ?_
  have hP9 : va_P D vwCl (jD cI cO (fun i => if i = 50 then b else if i = 51 then q1 else if i = 52 then q2 else if i = 53 then q3 else w) rr (fun _ => 0) 0 (fun _ => nI 0) ++ jRN cI 8 16 rr (fun _ _ => 0)) _ := hP
  have hD9 : va_D A (jD cI cO (fun i => if i = 50 then b else if i = 51 then q1 else if i = 52 then q2 else if i = 53 then q3 else w) rr (fun _ => 0) 0 (fun _ => nI 0) ++ jRN cI 8 16 rr (fun _ _ => 0)) := hD
  exact W.vret hx hb hr (fun t ht hW => ⟨⟨(fun i => if i = 50 then b else if i = 51 then q1 else if i = 52 then q2 else if i = 53 then q3 else w, rr), rfl, ⟨rfl, rfl⟩, by rw [ht]; exact hP9, hD9⟩, hS.F ht⟩) hS.2.2 dX0_init_42
