/-! own rows: the calls of Twincuts over the whole world -/
theorem jzI_more {v : jZ} (h : jzI v) : zfp v ≤ 16 ∧ zwk v ≤ 32 ∧ (∀ j, j < zn v → (zst v).testBit j = true → ∃ b, b < 16 ∧ zbl v j = nI b) ∧ jmDW (zP v) (zn v) (zle v) (zod v) := by
  obtain ⟨⟨h1, h2, h3, h4⟩, ⟨f1, f2, f3, f4, f5, f6, f7, f8⟩, d1, d2⟩ := h
  have hP := h1.1
  have hn := h1.2.1
  refine ⟨?_, ?_, fun j hj hs => ?_, jmOX_DW h3 hn⟩
  · have := jmCPc_le (en := zen v) (wi := 2 ^ zP v - 1) (b := zst v) (n := zn v) (zP v)
    omega
  · have := jmLe_le (jmWalk (zsm v) (zgr v) (zst v) (zle v) (zod v)) (zst v) (2 * zn v)
    have d1 : zwk v = (jmLe (jmWalk (zsm v) (zgr v) (zst v) (zle v) (zod v)) (zst v) (2 * zn v)).1 := d1
    omega
  · obtain ⟨b, b1, b2⟩ := (f7 j hj).1 hs
    exact ⟨b, by omega, b2⟩
theorem jzD_any {A : Nat → Prop} {cI cO cM cL : ClassId} {g ro rt rd : Nat → Nat} {v v' : jZ} {t t' : jS} (h : va_D A (jzX cI cO cM cL g ro rt rd v t)) : va_D A (jzX cI cO cM cL g ro rt rd v' t') := jxD h rfl
set_option maxHeartbeats 400000 in
set_option maxRecDepth 100000 in
theorem z_X6_point (l : Launch) (D : va_G) (cI cO cM cL : ClassId) (g ro rt rd : Nat → Nat) (v : jZ) (t : jS) (sz : Nat) (hI : jzI v) (ht : jSok t) (hP7 : zP v < 8) : jzCi (U := jZ × jS) l yX6_point wsX6_point ({ frames := 13, cells := 0, slots := 0, locals := 312 } : Room) D (jzT cI cO cM cL) (jzX cI cO cM cL g ro rt rd v t) [.ref (g 60)] sz (fun u => jzX cI cO cM cL g ro rt rd u.1 u.2) (fun r u => jSok u.2 ∧ jzI u.1 ∧ zP u.1 = zP v + 1 ∧ zn u.1 = zn v) 0 0 := by
  obtain ⟨hfp, hwk, hbl, hdw⟩ := jzI_more hI
  obtain ⟨⟨hw, hla0, hox, hpa, hps, hfi, hjo, hcl⟩, ⟨hfp0, hfb, hfc, hfk, hfq, hft, hB, hC, hcs⟩, hwk9, hfa9⟩ := id hI
  have h := c_X6_point l D cI cO cM g (zP v) (zn v) (zst v) (zsm v) (zgr v) (zco v) (zen v) (zla v) (zfp v) (zfb v) (zfc v) (zfk v) (zfq v) (zft v) (zpa v) (zps v) (zfi v) (zbl v) (zsp v) (zgp v) (zsw v) (zgw v) rt (zcs v) (zct v) (zjo v) (zpk v) (zcl v) rd (zle v) (zwk v) (zfa v) (zod v) (zrf v) sz hw hla0 hox hpa hps hfi hjo hcl hP7
  refine jz_blkI (jzLearn (jzPt v), t) [(true, jW cI g (zP v) (zn v) (zst v) (zsm v) (zgr v) (zco v) (zen v) (zla v), jW cI g (zP (jzLearn (jzPt v))) (zn (jzLearn (jzPt v))) (zst (jzLearn (jzPt v))) (zsm (jzLearn (jzPt v))) (zgr (jzLearn (jzPt v))) (zco (jzLearn (jzPt v))) (zen (jzLearn (jzPt v))) (zla (jzLearn (jzPt v)))), (true, jF cI g (zfp v) (zfb v) (zfc v) (zfk v) (zfq v) (zft v) (zpa v) (zps v) (zfi v) (zbl v) (zsp v) (zgp v) (zsw v) (zgw v), jF cI g (zfp (jzLearn (jzPt v))) (zfb (jzLearn (jzPt v))) (zfc (jzLearn (jzPt v))) (zfk (jzLearn (jzPt v))) (zfq (jzLearn (jzPt v))) (zft (jzLearn (jzPt v))) (zpa (jzLearn (jzPt v))) (zps (jzLearn (jzPt v))) (zfi (jzLearn (jzPt v))) (zbl (jzLearn (jzPt v))) (zsp (jzLearn (jzPt v))) (zgp (jzLearn (jzPt v))) (zsw (jzLearn (jzPt v))) (zgw (jzLearn (jzPt v)))), (false, jY cI cO g ro (yca t) (yqu t), jY cI cO g ro (yca t) (yqu t)), (false, jRI cI 16 16 ro (yrm t), jRI cI 16 16 ro (yrm t)), (true, jT cI cM g rt (zcs v) (zct v) (zjo v), jT cI cM g rt (zcs (jzLearn (jzPt v))) (zct (jzLearn (jzPt v))) (zjo (jzLearn (jzPt v)))), (false, jRL cL 8 8 rt (ytb t), jRL cL 8 8 rt (ytb t)), (true, jP cI g (zpk v) (zcl v), jP cI g (zpk (jzLearn (jzPt v))) (zcl (jzLearn (jzPt v)))), (true, jD cI cO g rd (zle v) (zwk v) (zfa v), jD cI cO g rd (zle (jzLearn (jzPt v))) (zwk (jzLearn (jzPt v))) (zfa (jzLearn (jzPt v)))), (true, jRN cI 8 16 rd (zod v), jRN cI 8 16 rd (zod (jzLearn (jzPt v)))), (true, jC g (zrf v), jC g (zrf (jzLearn (jzPt v))))] h ?_ ?_ ?_ ?_ ?_ (fun s h => h.sub (tys' := [(cI, .int), (cO, .array .int), (cM, .array .long)]) [0, 1, 2] rfl) (fun r hr => ⟨ht, jzI_learn (jzB_point hI.1 hP7), rfl, rfl⟩)
  · simp only [jzX, jzOl, List.append_assoc, List.append_nil]
  · simp only [jzSo, List.append_assoc, List.append_nil]
  · (simp only [jzSn, List.append_assoc, List.append_nil]) <;> rfl
  · show jzX cI cO cM cL g ro rt rd (jzLearn (jzPt v)) t = _
    simp only [jzX, jzNw, List.append_assoc, List.append_nil]
  · (repeat (first | exact trivial | refine And.intro rfl ?_))

set_option maxHeartbeats 400000 in
set_option maxRecDepth 100000 in
theorem z_X6_line (l : Launch) (D : va_G) (cI cO cM cL : ClassId) (g ro rt rd : Nat → Nat) (v : jZ) (t : jS) (sz : Nat) (hI : jzI v) (ht : jSok t) (a o x : Nat) (hn15 : zn v < 16) (ha : a < zP v) (ho : o < zP v) (hao : a ≠ o) (hx1 : 1 ≤ x) (hx20 : x ≤ 20) : jzCi (U := jZ × jS) l yX6_line wsX6_line ({ frames := 13, cells := 0, slots := 0, locals := 312 } : Room) D (jzT cI cO cM cL) (jzX cI cO cM cL g ro rt rd v t) [.ref (g 60), .int (nI a), .int (nI o), .int (nI x)] sz (fun u => jzX cI cO cM cL g ro rt rd u.1 u.2) (fun r u => jSok u.2 ∧ jzI u.1 ∧ zP u.1 = zP v ∧ zn u.1 = zn v + 1) 0 0 := by
  obtain ⟨hfp, hwk, hbl, hdw⟩ := jzI_more hI
  obtain ⟨⟨hw, hla0, hox, hpa, hps, hfi, hjo, hcl⟩, ⟨hfp0, hfb, hfc, hfk, hfq, hft, hB, hC, hcs⟩, hwk9, hfa9⟩ := id hI
  have h := c_X6_line l D cI cO cM g (zP v) (zn v) (zst v) (zsm v) (zgr v) (zco v) (zen v) (zla v) (zfp v) (zfb v) (zfc v) (zfk v) (zfq v) (zft v) (zpa v) (zps v) (zfi v) (zbl v) (zsp v) (zgp v) (zsw v) (zgw v) rt (zcs v) (zct v) (zjo v) (zpk v) (zcl v) rd (zle v) (zwk v) (zfa v) (zod v) (zrf v) sz hw hla0 hox hpa hps hfi hjo hcl a o x hn15 ha ho hao hx1 hx20
  refine jz_blkI (jzLearn (jzLn v a o x), t) [(true, jW cI g (zP v) (zn v) (zst v) (zsm v) (zgr v) (zco v) (zen v) (zla v), jW cI g (zP (jzLearn (jzLn v a o x))) (zn (jzLearn (jzLn v a o x))) (zst (jzLearn (jzLn v a o x))) (zsm (jzLearn (jzLn v a o x))) (zgr (jzLearn (jzLn v a o x))) (zco (jzLearn (jzLn v a o x))) (zen (jzLearn (jzLn v a o x))) (zla (jzLearn (jzLn v a o x)))), (true, jF cI g (zfp v) (zfb v) (zfc v) (zfk v) (zfq v) (zft v) (zpa v) (zps v) (zfi v) (zbl v) (zsp v) (zgp v) (zsw v) (zgw v), jF cI g (zfp (jzLearn (jzLn v a o x))) (zfb (jzLearn (jzLn v a o x))) (zfc (jzLearn (jzLn v a o x))) (zfk (jzLearn (jzLn v a o x))) (zfq (jzLearn (jzLn v a o x))) (zft (jzLearn (jzLn v a o x))) (zpa (jzLearn (jzLn v a o x))) (zps (jzLearn (jzLn v a o x))) (zfi (jzLearn (jzLn v a o x))) (zbl (jzLearn (jzLn v a o x))) (zsp (jzLearn (jzLn v a o x))) (zgp (jzLearn (jzLn v a o x))) (zsw (jzLearn (jzLn v a o x))) (zgw (jzLearn (jzLn v a o x)))), (false, jY cI cO g ro (yca t) (yqu t), jY cI cO g ro (yca t) (yqu t)), (false, jRI cI 16 16 ro (yrm t), jRI cI 16 16 ro (yrm t)), (true, jT cI cM g rt (zcs v) (zct v) (zjo v), jT cI cM g rt (zcs (jzLearn (jzLn v a o x))) (zct (jzLearn (jzLn v a o x))) (zjo (jzLearn (jzLn v a o x)))), (false, jRL cL 8 8 rt (ytb t), jRL cL 8 8 rt (ytb t)), (true, jP cI g (zpk v) (zcl v), jP cI g (zpk (jzLearn (jzLn v a o x))) (zcl (jzLearn (jzLn v a o x)))), (true, jD cI cO g rd (zle v) (zwk v) (zfa v), jD cI cO g rd (zle (jzLearn (jzLn v a o x))) (zwk (jzLearn (jzLn v a o x))) (zfa (jzLearn (jzLn v a o x)))), (true, jRN cI 8 16 rd (zod v), jRN cI 8 16 rd (zod (jzLearn (jzLn v a o x)))), (true, jC g (zrf v), jC g (zrf (jzLearn (jzLn v a o x))))] h ?_ ?_ ?_ ?_ ?_ (fun s h => h.sub (tys' := [(cI, .int), (cO, .array .int), (cM, .array .long)]) [0, 1, 2] rfl) (fun r hr => ⟨ht, jzI_learn (jzB_line hI.1 hn15 ha ho hao hx1 hx20), rfl, rfl⟩)
  · simp only [jzX, jzOl, List.append_assoc, List.append_nil]
  · simp only [jzSo, List.append_assoc, List.append_nil]
  · (simp only [jzSn, List.append_assoc, List.append_nil]) <;> rfl
  · show jzX cI cO cM cL g ro rt rd (jzLearn (jzLn v a o x)) t = _
    simp only [jzX, jzNw, List.append_assoc, List.append_nil]
  · (repeat (first | exact trivial | refine And.intro rfl ?_))

set_option maxHeartbeats 400000 in
set_option maxRecDepth 100000 in
theorem z_X6_cut (l : Launch) (D : va_G) (cI cO cM cL : ClassId) (g ro rt rd : Nat → Nat) (v : jZ) (t : jS) (sz : Nat) (hI : jzI v) (ht : jSok t) (i : Nat) (is9 : Bool) (hi : i < zn v) : jzCi (U := jZ × jS) l yX6_cut wsX6_cut ({ frames := 13, cells := 0, slots := 0, locals := 312 } : Room) D (jzT cI cO cM cL) (jzX cI cO cM cL g ro rt rd v t) [.ref (g 60), .int (nI i), .int (nI (jB is9))] sz (fun u => jzX cI cO cM cL g ro rt rd u.1 u.2) (fun r u => jSok u.2 ∧ jzI u.1 ∧ zP u.1 = zP v ∧ zn u.1 = zn v) 0 0 := by
  obtain ⟨hfp, hwk, hbl, hdw⟩ := jzI_more hI
  obtain ⟨⟨hw, hla0, hox, hpa, hps, hfi, hjo, hcl⟩, ⟨hfp0, hfb, hfc, hfk, hfq, hft, hB, hC, hcs⟩, hwk9, hfa9⟩ := id hI
  have h := c_X6_cut l D cI cO cM g (zP v) (zn v) (zst v) (zsm v) (zgr v) (zco v) (zen v) (zla v) (zfp v) (zfb v) (zfc v) (zfk v) (zfq v) (zft v) (zpa v) (zps v) (zfi v) (zbl v) (zsp v) (zgp v) (zsw v) (zgw v) rt (zcs v) (zct v) (zjo v) (zpk v) (zcl v) rd (zle v) (zwk v) (zfa v) (zod v) (zrf v) sz hw hla0 hox hpa hps hfi hjo hcl i is9 hi
  refine jz_blkI (jzLearn (jzCt v i is9), t) [(true, jW cI g (zP v) (zn v) (zst v) (zsm v) (zgr v) (zco v) (zen v) (zla v), jW cI g (zP (jzLearn (jzCt v i is9))) (zn (jzLearn (jzCt v i is9))) (zst (jzLearn (jzCt v i is9))) (zsm (jzLearn (jzCt v i is9))) (zgr (jzLearn (jzCt v i is9))) (zco (jzLearn (jzCt v i is9))) (zen (jzLearn (jzCt v i is9))) (zla (jzLearn (jzCt v i is9)))), (true, jF cI g (zfp v) (zfb v) (zfc v) (zfk v) (zfq v) (zft v) (zpa v) (zps v) (zfi v) (zbl v) (zsp v) (zgp v) (zsw v) (zgw v), jF cI g (zfp (jzLearn (jzCt v i is9))) (zfb (jzLearn (jzCt v i is9))) (zfc (jzLearn (jzCt v i is9))) (zfk (jzLearn (jzCt v i is9))) (zfq (jzLearn (jzCt v i is9))) (zft (jzLearn (jzCt v i is9))) (zpa (jzLearn (jzCt v i is9))) (zps (jzLearn (jzCt v i is9))) (zfi (jzLearn (jzCt v i is9))) (zbl (jzLearn (jzCt v i is9))) (zsp (jzLearn (jzCt v i is9))) (zgp (jzLearn (jzCt v i is9))) (zsw (jzLearn (jzCt v i is9))) (zgw (jzLearn (jzCt v i is9)))), (false, jY cI cO g ro (yca t) (yqu t), jY cI cO g ro (yca t) (yqu t)), (false, jRI cI 16 16 ro (yrm t), jRI cI 16 16 ro (yrm t)), (true, jT cI cM g rt (zcs v) (zct v) (zjo v), jT cI cM g rt (zcs (jzLearn (jzCt v i is9))) (zct (jzLearn (jzCt v i is9))) (zjo (jzLearn (jzCt v i is9)))), (false, jRL cL 8 8 rt (ytb t), jRL cL 8 8 rt (ytb t)), (true, jP cI g (zpk v) (zcl v), jP cI g (zpk (jzLearn (jzCt v i is9))) (zcl (jzLearn (jzCt v i is9)))), (true, jD cI cO g rd (zle v) (zwk v) (zfa v), jD cI cO g rd (zle (jzLearn (jzCt v i is9))) (zwk (jzLearn (jzCt v i is9))) (zfa (jzLearn (jzCt v i is9)))), (true, jRN cI 8 16 rd (zod v), jRN cI 8 16 rd (zod (jzLearn (jzCt v i is9)))), (true, jC g (zrf v), jC g (zrf (jzLearn (jzCt v i is9))))] h ?_ ?_ ?_ ?_ ?_ (fun s h => h.sub (tys' := [(cI, .int), (cO, .array .int), (cM, .array .long)]) [0, 1, 2] rfl) (fun r hr => ⟨ht, jzI_learn (jzB_cut hI.1 hi is9), rfl, rfl⟩)
  · simp only [jzX, jzOl, List.append_assoc, List.append_nil]
  · simp only [jzSo, List.append_assoc, List.append_nil]
  · (simp only [jzSn, List.append_assoc, List.append_nil]) <;> rfl
  · show jzX cI cO cM cL g ro rt rd (jzLearn (jzCt v i is9)) t = _
    simp only [jzX, jzNw, List.append_assoc, List.append_nil]
  · (repeat (first | exact trivial | refine And.intro rfl ?_))

set_option maxHeartbeats 400000 in
set_option maxRecDepth 100000 in
theorem z_X6_price (l : Launch) (D : va_G) (cI cO cM cL : ClassId) (g ro rt rd : Nat → Nat) (v : jZ) (t : jS) (sz : Nat) (hI : jzI v) (ht : jSok t) (i x : Nat) (hi : i < zn v) (hx1 : 1 ≤ x) (hx20 : x ≤ 20) : jzCi (U := jZ × jS) l yX6_price wsX6_price ({ frames := 4, cells := 0, slots := 0, locals := 87 } : Room) D (jzT cI cO cM cL) (jzX cI cO cM cL g ro rt rd v t) [.ref (g 60), .int (nI i), .int (nI x)] sz (fun u => jzX cI cO cM cL g ro rt rd u.1 u.2) (fun r u => jSok u.2 ∧ jzI u.1 ∧ zP u.1 = zP v ∧ zn u.1 = zn v) 0 0 := by
  obtain ⟨hfp, hwk, hbl, hdw⟩ := jzI_more hI
  obtain ⟨⟨hw, hla0, hox, hpa, hps, hfi, hjo, hcl⟩, ⟨hfp0, hfb, hfc, hfk, hfq, hft, hB, hC, hcs⟩, hwk9, hfa9⟩ := id hI
  have h := c_X6_price l D cI cM g (zP v) (zn v) (zst v) (zsm v) (zgr v) (zco v) (zen v) (zla v) rt (zcs v) (zct v) (zjo v) (zrf v) sz hw hjo i x hi hx1 hx20
  refine jz_blkI (jzPr v i x, t) [(true, jW cI g (zP v) (zn v) (zst v) (zsm v) (zgr v) (zco v) (zen v) (zla v), jW cI g (zP (jzPr v i x)) (zn (jzPr v i x)) (zst (jzPr v i x)) (zsm (jzPr v i x)) (zgr (jzPr v i x)) (zco (jzPr v i x)) (zen (jzPr v i x)) (zla (jzPr v i x))), (false, jF cI g (zfp v) (zfb v) (zfc v) (zfk v) (zfq v) (zft v) (zpa v) (zps v) (zfi v) (zbl v) (zsp v) (zgp v) (zsw v) (zgw v), jF cI g (zfp (jzPr v i x)) (zfb (jzPr v i x)) (zfc (jzPr v i x)) (zfk (jzPr v i x)) (zfq (jzPr v i x)) (zft (jzPr v i x)) (zpa (jzPr v i x)) (zps (jzPr v i x)) (zfi (jzPr v i x)) (zbl (jzPr v i x)) (zsp (jzPr v i x)) (zgp (jzPr v i x)) (zsw (jzPr v i x)) (zgw (jzPr v i x))), (false, jY cI cO g ro (yca t) (yqu t), jY cI cO g ro (yca t) (yqu t)), (false, jRI cI 16 16 ro (yrm t), jRI cI 16 16 ro (yrm t)), (true, jT cI cM g rt (zcs v) (zct v) (zjo v), jT cI cM g rt (zcs (jzPr v i x)) (zct (jzPr v i x)) (zjo (jzPr v i x))), (false, jRL cL 8 8 rt (ytb t), jRL cL 8 8 rt (ytb t)), (false, jP cI g (zpk v) (zcl v), jP cI g (zpk (jzPr v i x)) (zcl (jzPr v i x))), (false, jD cI cO g rd (zle v) (zwk v) (zfa v), jD cI cO g rd (zle (jzPr v i x)) (zwk (jzPr v i x)) (zfa (jzPr v i x))), (false, jRN cI 8 16 rd (zod v), jRN cI 8 16 rd (zod (jzPr v i x))), (true, jC g (zrf v), jC g (zrf (jzPr v i x)))] h ?_ ?_ ?_ ?_ ?_ (fun s h => h.sub (tys' := [(cI, .int), (cM, .array .long)]) [0, 2] rfl) (fun r hr => ⟨ht, jzI_price hI hx1 hx20, rfl, rfl⟩)
  · simp only [jzX, jzOl, List.append_assoc, List.append_nil]
  · simp only [jzSo, List.append_assoc, List.append_nil]
  · (simp only [jzSn, List.append_assoc, List.append_nil]) <;> rfl
  · show jzX cI cO cM cL g ro rt rd (jzPr v i x) t = _
    simp only [jzX, jzNw, List.append_assoc, List.append_nil]
  · (repeat (first | exact trivial | refine And.intro rfl ?_))

set_option maxHeartbeats 400000 in
set_option maxRecDepth 100000 in
theorem z_X6_turn (l : Launch) (D : va_G) (cI cO cM cL : ClassId) (g ro rt rd : Nat → Nat) (v : jZ) (t : jS) (sz : Nat) (hI : jzI v) (ht : jSok t) (q k7 : Nat) (hq : q < zP v) (hk7 : k7 < zle v q) : jzCi (U := jZ × jS) l yX6_turn wsX6_turn ({ frames := 3, cells := 0, slots := 0, locals := 72 } : Room) D (jzT cI cO cM cL) (jzX cI cO cM cL g ro rt rd v t) [.ref (g 60), .int (nI q), .int (nI k7)] sz (fun u => jzX cI cO cM cL g ro rt rd u.1 u.2) (fun r u => jSok u.2 ∧ jzI u.1 ∧ zP u.1 = zP v ∧ zn u.1 = zn v) 0 0 := by
  obtain ⟨hfp, hwk, hbl, hdw⟩ := jzI_more hI
  obtain ⟨⟨hw, hla0, hox, hpa, hps, hfi, hjo, hcl⟩, ⟨hfp0, hfb, hfc, hfk, hfq, hft, hB, hC, hcs⟩, hwk9, hfa9⟩ := id hI
  have h := c_X6_turn l D cI cO g (zP v) (zn v) (zst v) (zsm v) (zgr v) (zco v) (zen v) (zla v) rd (zle v) (zwk v) (zfa v) (zod v) (zrf v) sz hw hox q k7 hq hk7
  refine jz_blkI (jzTn v q k7, t) [(true, jW cI g (zP v) (zn v) (zst v) (zsm v) (zgr v) (zco v) (zen v) (zla v), jW cI g (zP (jzTn v q k7)) (zn (jzTn v q k7)) (zst (jzTn v q k7)) (zsm (jzTn v q k7)) (zgr (jzTn v q k7)) (zco (jzTn v q k7)) (zen (jzTn v q k7)) (zla (jzTn v q k7))), (false, jF cI g (zfp v) (zfb v) (zfc v) (zfk v) (zfq v) (zft v) (zpa v) (zps v) (zfi v) (zbl v) (zsp v) (zgp v) (zsw v) (zgw v), jF cI g (zfp (jzTn v q k7)) (zfb (jzTn v q k7)) (zfc (jzTn v q k7)) (zfk (jzTn v q k7)) (zfq (jzTn v q k7)) (zft (jzTn v q k7)) (zpa (jzTn v q k7)) (zps (jzTn v q k7)) (zfi (jzTn v q k7)) (zbl (jzTn v q k7)) (zsp (jzTn v q k7)) (zgp (jzTn v q k7)) (zsw (jzTn v q k7)) (zgw (jzTn v q k7))), (false, jY cI cO g ro (yca t) (yqu t), jY cI cO g ro (yca t) (yqu t)), (false, jRI cI 16 16 ro (yrm t), jRI cI 16 16 ro (yrm t)), (false, jT cI cM g rt (zcs v) (zct v) (zjo v), jT cI cM g rt (zcs (jzTn v q k7)) (zct (jzTn v q k7)) (zjo (jzTn v q k7))), (false, jRL cL 8 8 rt (ytb t), jRL cL 8 8 rt (ytb t)), (false, jP cI g (zpk v) (zcl v), jP cI g (zpk (jzTn v q k7)) (zcl (jzTn v q k7))), (true, jD cI cO g rd (zle v) (zwk v) (zfa v), jD cI cO g rd (zle (jzTn v q k7)) (zwk (jzTn v q k7)) (zfa (jzTn v q k7))), (true, jRN cI 8 16 rd (zod v), jRN cI 8 16 rd (zod (jzTn v q k7))), (true, jC g (zrf v), jC g (zrf (jzTn v q k7)))] h ?_ ?_ ?_ ?_ ?_ (fun s h => h.sub (tys' := [(cI, .int), (cO, .array .int)]) [0, 1] rfl) (fun r hr => ⟨ht, jzI_turn hI hq hk7, rfl, rfl⟩)
  · simp only [jzX, jzOl, List.append_assoc, List.append_nil]
  · simp only [jzSo, List.append_assoc, List.append_nil]
  · (simp only [jzSn, List.append_assoc, List.append_nil]) <;> rfl
  · show jzX cI cO cM cL g ro rt rd (jzTn v q k7) t = _
    simp only [jzX, jzNw, List.append_assoc, List.append_nil]
  · (repeat (first | exact trivial | refine And.intro rfl ?_))

set_option maxHeartbeats 400000 in
set_option maxRecDepth 100000 in
theorem z_X6_net (l : Launch) (D : va_G) (cI cO cM cL : ClassId) (g ro rt rd : Nat → Nat) (v : jZ) (t : jS) (sz : Nat) (hI : jzI v) (ht : jSok t) (w : Nat) (hw9 : w ≤ 14) : jzCi (U := jZ × jS) l yX6_net wsX6_net ({ frames := 5, cells := 0, slots := 0, locals := 114 } : Room) D (jzT cI cO cM cL) (jzX cI cO cM cL g ro rt rd v t) [.ref (g 60), .int (nI w)] sz (fun u => jzX cI cO cM cL g ro rt rd u.1 u.2) (fun r u => jSok u.2 ∧ v = u.1 ∧ r = jmNet (zen v) (zla v) (zP v) (zn v) (zst v) (zfp v) (zfb v) (zfc v) (zfk v) (zfq v) (zft v) (zct v) (zpk v) (zwk v) (zrf v) w) 0 0 := by
  obtain ⟨hfp, hwk, hbl, hdw⟩ := jzI_more hI
  obtain ⟨⟨hw, hla0, hox, hpa, hps, hfi, hjo, hcl⟩, ⟨hfp0, hfb, hfc, hfk, hfq, hft, hB, hC, hcs⟩, hwk9, hfa9⟩ := id hI
  have h := c_X6_net l D cI cO cM g (zP v) (zn v) (zst v) (zsm v) (zgr v) (zco v) (zen v) (zla v) (zfp v) (zfb v) (zfc v) (zfk v) (zfq v) (zft v) (zpa v) (zps v) (zfi v) (zbl v) (zsp v) (zgp v) (zsw v) (zgw v) rt (zcs v) (zct v) (zjo v) (zpk v) (zcl v) rd (zle v) (zwk v) (zfa v) (zrf v) sz hw hfp hwk hfb hfc w hw9
  refine jz_blkI (v, t) [(true, jW cI g (zP v) (zn v) (zst v) (zsm v) (zgr v) (zco v) (zen v) (zla v), jW cI g (zP v) (zn v) (zst v) (zsm v) (zgr v) (zco v) (zen v) (zla v)), (true, jF cI g (zfp v) (zfb v) (zfc v) (zfk v) (zfq v) (zft v) (zpa v) (zps v) (zfi v) (zbl v) (zsp v) (zgp v) (zsw v) (zgw v), jF cI g (zfp v) (zfb v) (zfc v) (zfk v) (zfq v) (zft v) (zpa v) (zps v) (zfi v) (zbl v) (zsp v) (zgp v) (zsw v) (zgw v)), (false, jY cI cO g ro (yca t) (yqu t), jY cI cO g ro (yca t) (yqu t)), (false, jRI cI 16 16 ro (yrm t), jRI cI 16 16 ro (yrm t)), (true, jT cI cM g rt (zcs v) (zct v) (zjo v), jT cI cM g rt (zcs v) (zct v) (zjo v)), (false, jRL cL 8 8 rt (ytb t), jRL cL 8 8 rt (ytb t)), (true, jP cI g (zpk v) (zcl v), jP cI g (zpk v) (zcl v)), (true, jD cI cO g rd (zle v) (zwk v) (zfa v), jD cI cO g rd (zle v) (zwk v) (zfa v)), (false, jRN cI 8 16 rd (zod v), jRN cI 8 16 rd (zod v)), (true, jC g (zrf v), jC g (zrf v))] h ?_ ?_ ?_ ?_ ?_ (fun s h => h.sub (tys' := [(cI, .int), (cO, .array .int), (cM, .array .long)]) [0, 1, 2] rfl) (fun r hr => ⟨ht, rfl, hr⟩)
  · simp only [jzX, jzOl, List.append_assoc, List.append_nil]
  · simp only [jzSo, List.append_assoc, List.append_nil]
  · (simp only [jzSn, List.append_assoc, List.append_nil]) <;> rfl
  · show jzX cI cO cM cL g ro rt rd v t = _
    simp only [jzX, jzNw, List.append_assoc, List.append_nil]
  · (repeat (first | exact trivial | refine And.intro rfl ?_))

set_option maxHeartbeats 400000 in
set_option maxRecDepth 100000 in
theorem z_X6_ofLine (l : Launch) (D : va_G) (cI cO cM cL : ClassId) (g ro rt rd : Nat → Nat) (v : jZ) (t : jS) (sz : Nat) (hI : jzI v) (ht : jSok t) (i : Nat) (hi : i < zn v) (w : Nat) (hw9 : w ≤ 8) : jzCi (U := jZ × jS) l yX6_ofLine wsX6_ofLine ({ frames := 1, cells := 0, slots := 0, locals := 21 } : Room) D (jzT cI cO cM cL) (jzX cI cO cM cL g ro rt rd v t) [.ref (g 60), .int (nI i), .int (nI w)] sz (fun u => jzX cI cO cM cL g ro rt rd u.1 u.2) (fun r u => jSok u.2 ∧ v = u.1 ∧ r = jmOfL (zsm v) (zgr v) (zco v) (zst v) (zfb v) (zbl v) (zcs v) (zfa v) i w) 0 0 := by
  obtain ⟨hfp, hwk, hbl, hdw⟩ := jzI_more hI
  obtain ⟨⟨hw, hla0, hox, hpa, hps, hfi, hjo, hcl⟩, ⟨hfp0, hfb, hfc, hfk, hfq, hft, hB, hC, hcs⟩, hwk9, hfa9⟩ := id hI
  have h := c_X6_ofLine l D cI cO cM g (zP v) (zn v) (zst v) (zsm v) (zgr v) (zco v) (zen v) (zla v) (zfp v) (zfb v) (zfc v) (zfk v) (zfq v) (zft v) (zpa v) (zps v) (zfi v) (zbl v) (zsp v) (zgp v) (zsw v) (zgw v) rt (zcs v) (zct v) (zjo v) rd (zle v) (zwk v) (zfa v) (zrf v) sz hw i hi hfb hcs w hw9
  refine jz_blkI (v, t) [(true, jW cI g (zP v) (zn v) (zst v) (zsm v) (zgr v) (zco v) (zen v) (zla v), jW cI g (zP v) (zn v) (zst v) (zsm v) (zgr v) (zco v) (zen v) (zla v)), (true, jF cI g (zfp v) (zfb v) (zfc v) (zfk v) (zfq v) (zft v) (zpa v) (zps v) (zfi v) (zbl v) (zsp v) (zgp v) (zsw v) (zgw v), jF cI g (zfp v) (zfb v) (zfc v) (zfk v) (zfq v) (zft v) (zpa v) (zps v) (zfi v) (zbl v) (zsp v) (zgp v) (zsw v) (zgw v)), (false, jY cI cO g ro (yca t) (yqu t), jY cI cO g ro (yca t) (yqu t)), (false, jRI cI 16 16 ro (yrm t), jRI cI 16 16 ro (yrm t)), (true, jT cI cM g rt (zcs v) (zct v) (zjo v), jT cI cM g rt (zcs v) (zct v) (zjo v)), (false, jRL cL 8 8 rt (ytb t), jRL cL 8 8 rt (ytb t)), (false, jP cI g (zpk v) (zcl v), jP cI g (zpk v) (zcl v)), (true, jD cI cO g rd (zle v) (zwk v) (zfa v), jD cI cO g rd (zle v) (zwk v) (zfa v)), (false, jRN cI 8 16 rd (zod v), jRN cI 8 16 rd (zod v)), (true, jC g (zrf v), jC g (zrf v))] h ?_ ?_ ?_ ?_ ?_ (fun s h => h.sub (tys' := [(cI, .int), (cO, .array .int), (cM, .array .long)]) [0, 1, 2] rfl) (fun r hr => ⟨ht, rfl, hr⟩)
  · simp only [jzX, jzOl, List.append_assoc, List.append_nil]
  · simp only [jzSo, List.append_assoc, List.append_nil]
  · (simp only [jzSn, List.append_assoc, List.append_nil]) <;> rfl
  · show jzX cI cO cM cL g ro rt rd v t = _
    simp only [jzX, jzNw, List.append_assoc, List.append_nil]
  · (repeat (first | exact trivial | refine And.intro rfl ?_))

set_option maxHeartbeats 400000 in
set_option maxRecDepth 100000 in
theorem z_X6_ofPoint (l : Launch) (D : va_G) (cI cO cM cL : ClassId) (g ro rt rd : Nat → Nat) (v : jZ) (t : jS) (sz : Nat) (hI : jzI v) (ht : jSok t) (q : Nat) (hq : q < zP v) (w : Nat) (hw9 : w ≤ 6) : jzCi (U := jZ × jS) l yX6_ofPoint wsX6_ofPoint ({ frames := 2, cells := 0, slots := 0, locals := 44 } : Room) D (jzT cI cO cM cL) (jzX cI cO cM cL g ro rt rd v t) [.ref (g 60), .int (nI q), .int (nI w)] sz (fun u => jzX cI cO cM cL g ro rt rd u.1 u.2) (fun r u => jSok u.2 ∧ v = u.1 ∧ r = jmOfP (zen v) (zla v) (zn v) (zst v) (zfc v) (zpa v) (zbl v) (zcl v) (zle v) q w) 0 0 := by
  obtain ⟨hfp, hwk, hbl, hdw⟩ := jzI_more hI
  obtain ⟨⟨hw, hla0, hox, hpa, hps, hfi, hjo, hcl⟩, ⟨hfp0, hfb, hfc, hfk, hfq, hft, hB, hC, hcs⟩, hwk9, hfa9⟩ := id hI
  have h := c_X6_ofPoint l D cI cO g (zP v) (zn v) (zst v) (zsm v) (zgr v) (zco v) (zen v) (zla v) (zfp v) (zfb v) (zfc v) (zfk v) (zfq v) (zft v) (zpa v) (zps v) (zfi v) (zbl v) (zsp v) (zgp v) (zsw v) (zgw v) (zpk v) (zcl v) rd (zle v) (zwk v) (zfa v) (zrf v) sz hw q hq hfc hbl w hw9
  refine jz_blkI (v, t) [(true, jW cI g (zP v) (zn v) (zst v) (zsm v) (zgr v) (zco v) (zen v) (zla v), jW cI g (zP v) (zn v) (zst v) (zsm v) (zgr v) (zco v) (zen v) (zla v)), (true, jF cI g (zfp v) (zfb v) (zfc v) (zfk v) (zfq v) (zft v) (zpa v) (zps v) (zfi v) (zbl v) (zsp v) (zgp v) (zsw v) (zgw v), jF cI g (zfp v) (zfb v) (zfc v) (zfk v) (zfq v) (zft v) (zpa v) (zps v) (zfi v) (zbl v) (zsp v) (zgp v) (zsw v) (zgw v)), (false, jY cI cO g ro (yca t) (yqu t), jY cI cO g ro (yca t) (yqu t)), (false, jRI cI 16 16 ro (yrm t), jRI cI 16 16 ro (yrm t)), (false, jT cI cM g rt (zcs v) (zct v) (zjo v), jT cI cM g rt (zcs v) (zct v) (zjo v)), (false, jRL cL 8 8 rt (ytb t), jRL cL 8 8 rt (ytb t)), (true, jP cI g (zpk v) (zcl v), jP cI g (zpk v) (zcl v)), (true, jD cI cO g rd (zle v) (zwk v) (zfa v), jD cI cO g rd (zle v) (zwk v) (zfa v)), (false, jRN cI 8 16 rd (zod v), jRN cI 8 16 rd (zod v)), (true, jC g (zrf v), jC g (zrf v))] h ?_ ?_ ?_ ?_ ?_ (fun s h => h.sub (tys' := [(cI, .int), (cO, .array .int)]) [0, 1] rfl) (fun r hr => ⟨ht, rfl, hr⟩)
  · simp only [jzX, jzOl, List.append_assoc, List.append_nil]
  · simp only [jzSo, List.append_assoc, List.append_nil]
  · (simp only [jzSn, List.append_assoc, List.append_nil]) <;> rfl
  · show jzX cI cO cM cL g ro rt rd v t = _
    simp only [jzX, jzNw, List.append_assoc, List.append_nil]
  · (repeat (first | exact trivial | refine And.intro rfl ?_))

set_option maxHeartbeats 400000 in
set_option maxRecDepth 100000 in
theorem z_X6_between (l : Launch) (D : va_G) (cI cO cM cL : ClassId) (g ro rt rd : Nat → Nat) (v : jZ) (t : jS) (sz : Nat) (hI : jzI v) (ht : jSok t) (a o : Nat) (ha : a < zP v) (ho : o < zP v) (hao : a ≠ o) (w : Nat) (hw9 : w ≤ 5) : jzCi (U := jZ × jS) l yX6_between wsX6_between ({ frames := 4, cells := 0, slots := 0, locals := 91 } : Room) D (jzT cI cO cM cL) (jzX cI cO cM cL g ro rt rd v t) [.ref (g 60), .int (nI a), .int (nI o), .int (nI w)] sz (fun u => jzX cI cO cM cL g ro rt rd u.1 u.2) (fun r u => jSok u.2 ∧ v = u.1 ∧ r = jmBt (zsm v) (zgr v) (zen v) (zla v) (zP v) (zn v) (zst v) a o w) 0 0 := by
  obtain ⟨hfp, hwk, hbl, hdw⟩ := jzI_more hI
  obtain ⟨⟨hw, hla0, hox, hpa, hps, hfi, hjo, hcl⟩, ⟨hfp0, hfb, hfc, hfk, hfq, hft, hB, hC, hcs⟩, hwk9, hfa9⟩ := id hI
  have h := c_X6_between l D cI cO g (zP v) (zn v) (zst v) (zsm v) (zgr v) (zco v) (zen v) (zla v) ro (yca t) (yqu t) (yrm t) (zrf v) sz hw a o ha ho hao ht w hw9
  refine jz_blkI (v, ((jmBs (zsm v) (zgr v) (zP v) (zn v) (zst v) a o w (yrm t) (yca t) (yqu t)).2.1, (jmBs (zsm v) (zgr v) (zP v) (zn v) (zst v) a o w (yrm t) (yca t) (yqu t)).2.2, (jmBs (zsm v) (zgr v) (zP v) (zn v) (zst v) a o w (yrm t) (yca t) (yqu t)).1, ytb t)) [(true, jW cI g (zP v) (zn v) (zst v) (zsm v) (zgr v) (zco v) (zen v) (zla v), jW cI g (zP v) (zn v) (zst v) (zsm v) (zgr v) (zco v) (zen v) (zla v)), (false, jF cI g (zfp v) (zfb v) (zfc v) (zfk v) (zfq v) (zft v) (zpa v) (zps v) (zfi v) (zbl v) (zsp v) (zgp v) (zsw v) (zgw v), jF cI g (zfp v) (zfb v) (zfc v) (zfk v) (zfq v) (zft v) (zpa v) (zps v) (zfi v) (zbl v) (zsp v) (zgp v) (zsw v) (zgw v)), (true, jY cI cO g ro (yca t) (yqu t), jY cI cO g ro (yca ((jmBs (zsm v) (zgr v) (zP v) (zn v) (zst v) a o w (yrm t) (yca t) (yqu t)).2.1, (jmBs (zsm v) (zgr v) (zP v) (zn v) (zst v) a o w (yrm t) (yca t) (yqu t)).2.2, (jmBs (zsm v) (zgr v) (zP v) (zn v) (zst v) a o w (yrm t) (yca t) (yqu t)).1, ytb t)) (yqu ((jmBs (zsm v) (zgr v) (zP v) (zn v) (zst v) a o w (yrm t) (yca t) (yqu t)).2.1, (jmBs (zsm v) (zgr v) (zP v) (zn v) (zst v) a o w (yrm t) (yca t) (yqu t)).2.2, (jmBs (zsm v) (zgr v) (zP v) (zn v) (zst v) a o w (yrm t) (yca t) (yqu t)).1, ytb t))), (true, jRI cI 16 16 ro (yrm t), jRI cI 16 16 ro (yrm ((jmBs (zsm v) (zgr v) (zP v) (zn v) (zst v) a o w (yrm t) (yca t) (yqu t)).2.1, (jmBs (zsm v) (zgr v) (zP v) (zn v) (zst v) a o w (yrm t) (yca t) (yqu t)).2.2, (jmBs (zsm v) (zgr v) (zP v) (zn v) (zst v) a o w (yrm t) (yca t) (yqu t)).1, ytb t))), (false, jT cI cM g rt (zcs v) (zct v) (zjo v), jT cI cM g rt (zcs v) (zct v) (zjo v)), (false, jRL cL 8 8 rt (ytb t), jRL cL 8 8 rt (ytb ((jmBs (zsm v) (zgr v) (zP v) (zn v) (zst v) a o w (yrm t) (yca t) (yqu t)).2.1, (jmBs (zsm v) (zgr v) (zP v) (zn v) (zst v) a o w (yrm t) (yca t) (yqu t)).2.2, (jmBs (zsm v) (zgr v) (zP v) (zn v) (zst v) a o w (yrm t) (yca t) (yqu t)).1, ytb t))), (false, jP cI g (zpk v) (zcl v), jP cI g (zpk v) (zcl v)), (false, jD cI cO g rd (zle v) (zwk v) (zfa v), jD cI cO g rd (zle v) (zwk v) (zfa v)), (false, jRN cI 8 16 rd (zod v), jRN cI 8 16 rd (zod v)), (true, jC g (zrf v), jC g (zrf v))] h ?_ ?_ ?_ ?_ ?_ (fun s h => h.sub (tys' := [(cI, .int), (cO, .array .int)]) [0, 1] rfl) (fun r hr => ⟨jmBs_qu (by have := hw.1; omega) ht, rfl, hr⟩)
  · simp only [jzX, jzOl, List.append_assoc, List.append_nil]
  · simp only [jzSo, List.append_assoc, List.append_nil]
  · (simp only [jzSn, List.append_assoc, List.append_nil]) <;> rfl
  · show jzX cI cO cM cL g ro rt rd v ((jmBs (zsm v) (zgr v) (zP v) (zn v) (zst v) a o w (yrm t) (yca t) (yqu t)).2.1, (jmBs (zsm v) (zgr v) (zP v) (zn v) (zst v) a o w (yrm t) (yca t) (yqu t)).2.2, (jmBs (zsm v) (zgr v) (zP v) (zn v) (zst v) a o w (yrm t) (yca t) (yqu t)).1, ytb t) = _
    simp only [jzX, jzNw, List.append_assoc, List.append_nil]
  · (repeat (first | exact trivial | refine And.intro rfl ?_))

set_option maxHeartbeats 400000 in
set_option maxRecDepth 100000 in
theorem z_X6_pair (l : Launch) (D : va_G) (cI cO cM cL : ClassId) (g ro rt rd : Nat → Nat) (v : jZ) (t : jS) (sz : Nat) (hI : jzI v) (ht : jSok t) (k7 : Nat) (gt : Bool) (hk7 : k7 < 2 ^ 31) : jzCi (U := jZ × jS) l yX6_pair wsX6_pair ({ frames := 1, cells := 0, slots := 0, locals := 22 } : Room) D (jzT cI cO cM cL) (jzX cI cO cM cL g ro rt rd v t) [.ref (g 60), .int (nI k7), .int (nI (jB gt))] sz (fun u => jzX cI cO cM cL g ro rt rd u.1 u.2) (fun r u => jSok u.2 ∧ v = u.1 ∧ r = jmPV (zfq v) (zsp v) (zgp v) k7 gt) 0 0 := by
  obtain ⟨hfp, hwk, hbl, hdw⟩ := jzI_more hI
  obtain ⟨⟨hw, hla0, hox, hpa, hps, hfi, hjo, hcl⟩, ⟨hfp0, hfb, hfc, hfk, hfq, hft, hB, hC, hcs⟩, hwk9, hfa9⟩ := id hI
  have h := c_X6_pair l D cI g (zfp v) (zfb v) (zfc v) (zfk v) (zfq v) (zft v) (zpa v) (zps v) (zfi v) (zbl v) (zsp v) (zgp v) (zsw v) (zgw v) (zrf v) sz k7 gt hk7 hfq
  refine jz_blkI (v, t) [(false, jW cI g (zP v) (zn v) (zst v) (zsm v) (zgr v) (zco v) (zen v) (zla v), jW cI g (zP v) (zn v) (zst v) (zsm v) (zgr v) (zco v) (zen v) (zla v)), (true, jF cI g (zfp v) (zfb v) (zfc v) (zfk v) (zfq v) (zft v) (zpa v) (zps v) (zfi v) (zbl v) (zsp v) (zgp v) (zsw v) (zgw v), jF cI g (zfp v) (zfb v) (zfc v) (zfk v) (zfq v) (zft v) (zpa v) (zps v) (zfi v) (zbl v) (zsp v) (zgp v) (zsw v) (zgw v)), (false, jY cI cO g ro (yca t) (yqu t), jY cI cO g ro (yca t) (yqu t)), (false, jRI cI 16 16 ro (yrm t), jRI cI 16 16 ro (yrm t)), (false, jT cI cM g rt (zcs v) (zct v) (zjo v), jT cI cM g rt (zcs v) (zct v) (zjo v)), (false, jRL cL 8 8 rt (ytb t), jRL cL 8 8 rt (ytb t)), (false, jP cI g (zpk v) (zcl v), jP cI g (zpk v) (zcl v)), (false, jD cI cO g rd (zle v) (zwk v) (zfa v), jD cI cO g rd (zle v) (zwk v) (zfa v)), (false, jRN cI 8 16 rd (zod v), jRN cI 8 16 rd (zod v)), (true, jC g (zrf v), jC g (zrf v))] h ?_ ?_ ?_ ?_ ?_ (fun s h => h.sub (tys' := [(cI, .int)]) [0] rfl) (fun r hr => ⟨ht, rfl, hr⟩)
  · simp only [jzX, jzOl, List.append_assoc, List.append_nil]
  · simp only [jzSo, List.append_assoc, List.append_nil]
  · (simp only [jzSn, List.append_assoc, List.append_nil]) <;> rfl
  · show jzX cI cO cM cL g ro rt rd v t = _
    simp only [jzX, jzNw, List.append_assoc, List.append_nil]
  · (repeat (first | exact trivial | refine And.intro rfl ?_))

set_option maxHeartbeats 400000 in
set_option maxRecDepth 100000 in
theorem z_X6_twin (l : Launch) (D : va_G) (cI cO cM cL : ClassId) (g ro rt rd : Nat → Nat) (v : jZ) (t : jS) (sz : Nat) (hI : jzI v) (ht : jSok t) (k7 : Nat) (gt : Bool) (hk7 : k7 < 2 ^ 31) : jzCi (U := jZ × jS) l yX6_twin wsX6_twin ({ frames := 1, cells := 0, slots := 0, locals := 22 } : Room) D (jzT cI cO cM cL) (jzX cI cO cM cL g ro rt rd v t) [.ref (g 60), .int (nI k7), .int (nI (jB gt))] sz (fun u => jzX cI cO cM cL g ro rt rd u.1 u.2) (fun r u => jSok u.2 ∧ v = u.1 ∧ r = jmPV (zft v) (zsw v) (zgw v) k7 gt) 0 0 := by
  obtain ⟨hfp, hwk, hbl, hdw⟩ := jzI_more hI
  obtain ⟨⟨hw, hla0, hox, hpa, hps, hfi, hjo, hcl⟩, ⟨hfp0, hfb, hfc, hfk, hfq, hft, hB, hC, hcs⟩, hwk9, hfa9⟩ := id hI
  have h := c_X6_twin l D cI g (zfp v) (zfb v) (zfc v) (zfk v) (zfq v) (zft v) (zpa v) (zps v) (zfi v) (zbl v) (zsp v) (zgp v) (zsw v) (zgw v) (zrf v) sz k7 gt hk7 hft
  refine jz_blkI (v, t) [(false, jW cI g (zP v) (zn v) (zst v) (zsm v) (zgr v) (zco v) (zen v) (zla v), jW cI g (zP v) (zn v) (zst v) (zsm v) (zgr v) (zco v) (zen v) (zla v)), (true, jF cI g (zfp v) (zfb v) (zfc v) (zfk v) (zfq v) (zft v) (zpa v) (zps v) (zfi v) (zbl v) (zsp v) (zgp v) (zsw v) (zgw v), jF cI g (zfp v) (zfb v) (zfc v) (zfk v) (zfq v) (zft v) (zpa v) (zps v) (zfi v) (zbl v) (zsp v) (zgp v) (zsw v) (zgw v)), (false, jY cI cO g ro (yca t) (yqu t), jY cI cO g ro (yca t) (yqu t)), (false, jRI cI 16 16 ro (yrm t), jRI cI 16 16 ro (yrm t)), (false, jT cI cM g rt (zcs v) (zct v) (zjo v), jT cI cM g rt (zcs v) (zct v) (zjo v)), (false, jRL cL 8 8 rt (ytb t), jRL cL 8 8 rt (ytb t)), (false, jP cI g (zpk v) (zcl v), jP cI g (zpk v) (zcl v)), (false, jD cI cO g rd (zle v) (zwk v) (zfa v), jD cI cO g rd (zle v) (zwk v) (zfa v)), (false, jRN cI 8 16 rd (zod v), jRN cI 8 16 rd (zod v)), (true, jC g (zrf v), jC g (zrf v))] h ?_ ?_ ?_ ?_ ?_ (fun s h => h.sub (tys' := [(cI, .int)]) [0] rfl) (fun r hr => ⟨ht, rfl, hr⟩)
  · simp only [jzX, jzOl, List.append_assoc, List.append_nil]
  · simp only [jzSo, List.append_assoc, List.append_nil]
  · (simp only [jzSn, List.append_assoc, List.append_nil]) <;> rfl
  · show jzX cI cO cM cL g ro rt rd v t = _
    simp only [jzX, jzNw, List.append_assoc, List.append_nil]
  · (repeat (first | exact trivial | refine And.intro rfl ?_))

set_option maxHeartbeats 400000 in
set_option maxRecDepth 100000 in
theorem z_X6_trees (l : Launch) (D : va_G) (cI cO cM cL : ClassId) (g ro rt rd : Nat → Nat) (v : jZ) (t : jS) (sz : Nat) (hI : jzI v) (ht : jSok t)  : jzCl (U := jZ × jS) l yX6_trees wsX6_trees ({ frames := 3, cells := 0, slots := 0, locals := 64 } : Room) D (jzT cI cO cM cL) (jzX cI cO cM cL g ro rt rd v t) [.ref (g 60)] sz (fun u => jzX cI cO cM cL g ro rt rd u.1 u.2) (fun r u => jSok u.2 ∧ v = u.1 ∧ r = (jmTrees (zsm v) (zgr v) (zP v) (zn v) (zst v)).1) 0 0 := by
  obtain ⟨hfp, hwk, hbl, hdw⟩ := jzI_more hI
  obtain ⟨⟨hw, hla0, hox, hpa, hps, hfi, hjo, hcl⟩, ⟨hfp0, hfb, hfc, hfk, hfq, hft, hB, hC, hcs⟩, hwk9, hfa9⟩ := id hI
  have h := c_X6_trees l D cI cM cL g (zP v) (zn v) (zst v) (zsm v) (zgr v) (zco v) (zen v) (zla v) rt (zcs v) (zct v) (zjo v) (ytb t) (zrf v) sz hw
  refine jz_blkL (v, (yca t, yqu t, yrm t, (jmTrees (zsm v) (zgr v) (zP v) (zn v) (zst v)).2)) [(true, jW cI g (zP v) (zn v) (zst v) (zsm v) (zgr v) (zco v) (zen v) (zla v), jW cI g (zP v) (zn v) (zst v) (zsm v) (zgr v) (zco v) (zen v) (zla v)), (false, jF cI g (zfp v) (zfb v) (zfc v) (zfk v) (zfq v) (zft v) (zpa v) (zps v) (zfi v) (zbl v) (zsp v) (zgp v) (zsw v) (zgw v), jF cI g (zfp v) (zfb v) (zfc v) (zfk v) (zfq v) (zft v) (zpa v) (zps v) (zfi v) (zbl v) (zsp v) (zgp v) (zsw v) (zgw v)), (false, jY cI cO g ro (yca t) (yqu t), jY cI cO g ro (yca (yca t, yqu t, yrm t, (jmTrees (zsm v) (zgr v) (zP v) (zn v) (zst v)).2)) (yqu (yca t, yqu t, yrm t, (jmTrees (zsm v) (zgr v) (zP v) (zn v) (zst v)).2))), (false, jRI cI 16 16 ro (yrm t), jRI cI 16 16 ro (yrm (yca t, yqu t, yrm t, (jmTrees (zsm v) (zgr v) (zP v) (zn v) (zst v)).2))), (true, jT cI cM g rt (zcs v) (zct v) (zjo v), jT cI cM g rt (zcs v) (zct v) (zjo v)), (true, jRL cL 8 8 rt (ytb t), jRL cL 8 8 rt (ytb (yca t, yqu t, yrm t, (jmTrees (zsm v) (zgr v) (zP v) (zn v) (zst v)).2))), (false, jP cI g (zpk v) (zcl v), jP cI g (zpk v) (zcl v)), (false, jD cI cO g rd (zle v) (zwk v) (zfa v), jD cI cO g rd (zle v) (zwk v) (zfa v)), (false, jRN cI 8 16 rd (zod v), jRN cI 8 16 rd (zod v)), (true, jC g (zrf v), jC g (zrf v))] h ?_ ?_ ?_ ?_ ?_ (fun s h => h.sub (tys' := [(cI, .int), (cM, .array .long), (cL, .long)]) [0, 2, 3] rfl) (fun r hr => ⟨ht, rfl, hr⟩)
  · simp only [jzX, jzOl, List.append_assoc, List.append_nil]
  · simp only [jzSo, List.append_assoc, List.append_nil]
  · (simp only [jzSn, List.append_assoc, List.append_nil]) <;> rfl
  · show jzX cI cO cM cL g ro rt rd v (yca t, yqu t, yrm t, (jmTrees (zsm v) (zgr v) (zP v) (zn v) (zst v)).2) = _
    simp only [jzX, jzNw, List.append_assoc, List.append_nil]
  · (repeat (first | exact trivial | refine And.intro rfl ?_))

set_option maxHeartbeats 400000 in
set_option maxRecDepth 100000 in
theorem z_X6_without (l : Launch) (D : va_G) (cI cO cM cL : ClassId) (g ro rt rd : Nat → Nat) (v : jZ) (t : jS) (sz : Nat) (hI : jzI v) (ht : jSok t) (S L : Nat) (hS7 : S < 2 ^ zP v) (hL7 : L < 2 ^ zn v) : jzCi (U := jZ × jS) l yX6_without wsX6_without ({ frames := 2, cells := 0, slots := 0, locals := 53 } : Room) D (jzT cI cO cM cL) (jzX cI cO cM cL g ro rt rd v t) [.ref (g 60), .int (nI S), .int (nI L)] sz (fun u => jzX cI cO cM cL g ro rt rd u.1 u.2) (fun r u => jSok u.2 ∧ v = u.1 ∧ r = nI (jmCPc (zen v) (jxAN (2 ^ zP v - 1) S) (jxAN (zst v) L) (zn v) (zP v))) 0 0 := by
  obtain ⟨hfp, hwk, hbl, hdw⟩ := jzI_more hI
  obtain ⟨⟨hw, hla0, hox, hpa, hps, hfi, hjo, hcl⟩, ⟨hfp0, hfb, hfc, hfk, hfq, hft, hB, hC, hcs⟩, hwk9, hfa9⟩ := id hI
  have h := c_X6_without l D cI g (zP v) (zn v) (zst v) (zsm v) (zgr v) (zco v) (zen v) (zla v) (zrf v) sz hw S L hS7 hL7
  refine jz_blkI (v, t) [(true, jW cI g (zP v) (zn v) (zst v) (zsm v) (zgr v) (zco v) (zen v) (zla v), jW cI g (zP v) (zn v) (zst v) (zsm v) (zgr v) (zco v) (zen v) (zla v)), (false, jF cI g (zfp v) (zfb v) (zfc v) (zfk v) (zfq v) (zft v) (zpa v) (zps v) (zfi v) (zbl v) (zsp v) (zgp v) (zsw v) (zgw v), jF cI g (zfp v) (zfb v) (zfc v) (zfk v) (zfq v) (zft v) (zpa v) (zps v) (zfi v) (zbl v) (zsp v) (zgp v) (zsw v) (zgw v)), (false, jY cI cO g ro (yca t) (yqu t), jY cI cO g ro (yca t) (yqu t)), (false, jRI cI 16 16 ro (yrm t), jRI cI 16 16 ro (yrm t)), (false, jT cI cM g rt (zcs v) (zct v) (zjo v), jT cI cM g rt (zcs v) (zct v) (zjo v)), (false, jRL cL 8 8 rt (ytb t), jRL cL 8 8 rt (ytb t)), (false, jP cI g (zpk v) (zcl v), jP cI g (zpk v) (zcl v)), (false, jD cI cO g rd (zle v) (zwk v) (zfa v), jD cI cO g rd (zle v) (zwk v) (zfa v)), (false, jRN cI 8 16 rd (zod v), jRN cI 8 16 rd (zod v)), (true, jC g (zrf v), jC g (zrf v))] h ?_ ?_ ?_ ?_ ?_ (fun s h => h.sub (tys' := [(cI, .int)]) [0] rfl) (fun r hr => ⟨ht, rfl, hr⟩)
  · simp only [jzX, jzOl, List.append_assoc, List.append_nil]
  · simp only [jzSo, List.append_assoc, List.append_nil]
  · (simp only [jzSn, List.append_assoc, List.append_nil]) <;> rfl
  · show jzX cI cO cM cL g ro rt rd v t = _
    simp only [jzX, jzNw, List.append_assoc, List.append_nil]
  · (repeat (first | exact trivial | refine And.intro rfl ?_))

set_option maxHeartbeats 400000 in
set_option maxRecDepth 100000 in
theorem z_X6_wouldTurn (l : Launch) (D : va_G) (cI cO cM cL : ClassId) (g ro rt rd : Nat → Nat) (v : jZ) (t : jS) (sz : Nat) (hI : jzI v) (ht : jSok t) (q : Nat) (hq : q < zP v) : jzCi (U := jZ × jS) l yX6_wouldTurn wsX6_wouldTurn ({ frames := 4, cells := 0, slots := 0, locals := 96 } : Room) D (jzT cI cO cM cL) (jzX cI cO cM cL g ro rt rd v t) [.ref (g 60), .int (nI q)] sz (fun u => jzX cI cO cM cL g ro rt rd u.1 u.2) (fun r u => jSok u.2 ∧ v = u.1 ∧ r = (jmBP (zsm v) (zgr v) (zla v) (zP v) (zn v) (zst v) (zle v) (zod v) q (zwk v + jmIso (zla v) (zst v) (zP v)) (zle v q)).1) 0 0 := by
  obtain ⟨hfp, hwk, hbl, hdw⟩ := jzI_more hI
  obtain ⟨⟨hw, hla0, hox, hpa, hps, hfi, hjo, hcl⟩, ⟨hfp0, hfb, hfc, hfk, hfq, hft, hB, hC, hcs⟩, hwk9, hfa9⟩ := id hI
  have h := c_X6_wouldTurn l D cI cO g (zP v) (zn v) (zst v) (zsm v) (zgr v) (zco v) (zen v) (zla v) rd (zle v) (zwk v) (zfa v) (zod v) (zrf v) sz hw hdw q hq hwk
  rw [← hwk9, ← hfa9] at h
  refine jz_blkI (v, t) [(true, jW cI g (zP v) (zn v) (zst v) (zsm v) (zgr v) (zco v) (zen v) (zla v), jW cI g (zP v) (zn v) (zst v) (zsm v) (zgr v) (zco v) (zen v) (zla v)), (false, jF cI g (zfp v) (zfb v) (zfc v) (zfk v) (zfq v) (zft v) (zpa v) (zps v) (zfi v) (zbl v) (zsp v) (zgp v) (zsw v) (zgw v), jF cI g (zfp v) (zfb v) (zfc v) (zfk v) (zfq v) (zft v) (zpa v) (zps v) (zfi v) (zbl v) (zsp v) (zgp v) (zsw v) (zgw v)), (false, jY cI cO g ro (yca t) (yqu t), jY cI cO g ro (yca t) (yqu t)), (false, jRI cI 16 16 ro (yrm t), jRI cI 16 16 ro (yrm t)), (false, jT cI cM g rt (zcs v) (zct v) (zjo v), jT cI cM g rt (zcs v) (zct v) (zjo v)), (false, jRL cL 8 8 rt (ytb t), jRL cL 8 8 rt (ytb t)), (false, jP cI g (zpk v) (zcl v), jP cI g (zpk v) (zcl v)), (true, jD cI cO g rd (zle v) (zwk v) (zfa v), jD cI cO g rd (zle v) (zwk v) (zfa v)), (true, jRN cI 8 16 rd (zod v), jRN cI 8 16 rd (zod v)), (true, jC g (zrf v), jC g (zrf v))] h ?_ ?_ ?_ ?_ ?_ (fun s h => h.sub (tys' := [(cI, .int), (cO, .array .int)]) [0, 1] rfl) (fun r hr => ⟨ht, rfl, hr⟩)
  · simp only [jzX, jzOl, List.append_assoc, List.append_nil]
  · simp only [jzSo, List.append_assoc, List.append_nil]
  · (simp only [jzSn, List.append_assoc, List.append_nil]) <;> rfl
  · show jzX cI cO cM cL g ro rt rd v t = _
    simp only [jzX, jzNw, List.append_assoc, List.append_nil]
  · (repeat (first | exact trivial | refine And.intro rfl ?_))

set_option maxHeartbeats 400000 in
set_option maxRecDepth 100000 in
theorem z_X6_isSound (l : Launch) (D : va_G) (cI cO cM cL : ClassId) (g ro rt rd : Nat → Nat) (v : jZ) (t : jS) (sz : Nat) (hI : jzI v) (ht : jSok t)  : jzCi (U := jZ × jS) l yX6_isSound wsX6_isSound ({ frames := 5, cells := 0, slots := 0, locals := 125 } : Room) D (jzT cI cO cM cL) (jzX cI cO cM cL g ro rt rd v t) [.ref (g 60)] sz (fun u => jzX cI cO cM cL g ro rt rd u.1 u.2) (fun r u => jSok u.2 ∧ v = u.1 ∧ r = nI 1) 0 0 := by
  obtain ⟨hfp, hwk, hbl, hdw⟩ := jzI_more hI
  obtain ⟨⟨hw, hla0, hox, hpa, hps, hfi, hjo, hcl⟩, ⟨hfp0, hfb, hfc, hfk, hfq, hft, hB, hC, hcs⟩, hwk9, hfa9⟩ := id hI
  have hHd : ¬ jmHandles (zla v) (zP v) (zst v) (zfp v) (zwk v) < 0 := by
    obtain ⟨k, k1, k2, -⟩ := jz_handles hI
    rw [k2]
    exact nI_pos (by omega)
  have hT : (zfp v = 1 → 0 < (jmTrees (zsm v) (zgr v) (zP v) (zn v) (zst v)).1) ∧ (zfp v ≠ 1 → zfp v = 0 ∨ (jmTrees (zsm v) (zgr v) (zP v) (zn v) (zst v)).1 = 0) := by
    rw [hfp0]
    exact mt_trees hw
  have h := c_X6_isSound l D cI cO cM cL g (zP v) (zn v) (zst v) (zsm v) (zgr v) (zco v) (zen v) (zla v) (zfp v) (zfb v) (zfc v) (zfk v) (zfq v) (zft v) (zpa v) (zps v) (zfi v) (zbl v) (zsp v) (zgp v) (zsw v) (zgw v) ro (yca t) (yqu t) (yrm t) rt (zcs v) (zct v) (zjo v) (ytb t) (zpk v) (zcl v) rd (zle v) (zwk v) (zfa v) (zrf v) sz hw ht (fun a o ha ho hao => mx_Wok hw ha ho hao) hHd hfp hwk hcl hT hC hfb hfk hB
  refine jz_blkI (v, ((jmAp (zsm v) (zgr v) (zP v) (zn v) (zst v) (zP v) (yrm t, yca t, yqu t)).2.1, (jmAp (zsm v) (zgr v) (zP v) (zn v) (zst v) (zP v) (yrm t, yca t, yqu t)).2.2, (jmAp (zsm v) (zgr v) (zP v) (zn v) (zst v) (zP v) (yrm t, yca t, yqu t)).1, (jmTrees (zsm v) (zgr v) (zP v) (zn v) (zst v)).2)) [(true, jW cI g (zP v) (zn v) (zst v) (zsm v) (zgr v) (zco v) (zen v) (zla v), jW cI g (zP v) (zn v) (zst v) (zsm v) (zgr v) (zco v) (zen v) (zla v)), (true, jF cI g (zfp v) (zfb v) (zfc v) (zfk v) (zfq v) (zft v) (zpa v) (zps v) (zfi v) (zbl v) (zsp v) (zgp v) (zsw v) (zgw v), jF cI g (zfp v) (zfb v) (zfc v) (zfk v) (zfq v) (zft v) (zpa v) (zps v) (zfi v) (zbl v) (zsp v) (zgp v) (zsw v) (zgw v)), (true, jY cI cO g ro (yca t) (yqu t), jY cI cO g ro (yca ((jmAp (zsm v) (zgr v) (zP v) (zn v) (zst v) (zP v) (yrm t, yca t, yqu t)).2.1, (jmAp (zsm v) (zgr v) (zP v) (zn v) (zst v) (zP v) (yrm t, yca t, yqu t)).2.2, (jmAp (zsm v) (zgr v) (zP v) (zn v) (zst v) (zP v) (yrm t, yca t, yqu t)).1, (jmTrees (zsm v) (zgr v) (zP v) (zn v) (zst v)).2)) (yqu ((jmAp (zsm v) (zgr v) (zP v) (zn v) (zst v) (zP v) (yrm t, yca t, yqu t)).2.1, (jmAp (zsm v) (zgr v) (zP v) (zn v) (zst v) (zP v) (yrm t, yca t, yqu t)).2.2, (jmAp (zsm v) (zgr v) (zP v) (zn v) (zst v) (zP v) (yrm t, yca t, yqu t)).1, (jmTrees (zsm v) (zgr v) (zP v) (zn v) (zst v)).2))), (true, jRI cI 16 16 ro (yrm t), jRI cI 16 16 ro (yrm ((jmAp (zsm v) (zgr v) (zP v) (zn v) (zst v) (zP v) (yrm t, yca t, yqu t)).2.1, (jmAp (zsm v) (zgr v) (zP v) (zn v) (zst v) (zP v) (yrm t, yca t, yqu t)).2.2, (jmAp (zsm v) (zgr v) (zP v) (zn v) (zst v) (zP v) (yrm t, yca t, yqu t)).1, (jmTrees (zsm v) (zgr v) (zP v) (zn v) (zst v)).2))), (true, jT cI cM g rt (zcs v) (zct v) (zjo v), jT cI cM g rt (zcs v) (zct v) (zjo v)), (true, jRL cL 8 8 rt (ytb t), jRL cL 8 8 rt (ytb ((jmAp (zsm v) (zgr v) (zP v) (zn v) (zst v) (zP v) (yrm t, yca t, yqu t)).2.1, (jmAp (zsm v) (zgr v) (zP v) (zn v) (zst v) (zP v) (yrm t, yca t, yqu t)).2.2, (jmAp (zsm v) (zgr v) (zP v) (zn v) (zst v) (zP v) (yrm t, yca t, yqu t)).1, (jmTrees (zsm v) (zgr v) (zP v) (zn v) (zst v)).2))), (true, jP cI g (zpk v) (zcl v), jP cI g (zpk v) (zcl v)), (true, jD cI cO g rd (zle v) (zwk v) (zfa v), jD cI cO g rd (zle v) (zwk v) (zfa v)), (false, jRN cI 8 16 rd (zod v), jRN cI 8 16 rd (zod v)), (true, jC g (zrf v), jC g (zrf v))] h ?_ ?_ ?_ ?_ ?_ (fun s h => h.sub (tys' := [(cI, .int), (cO, .array .int), (cM, .array .long), (cL, .long)]) [0, 1, 2, 3] rfl) (fun r hr => ⟨jmAp_qu (t := (yrm t, yca t, yqu t)) ht (zP v) (by have := hw.1; omega), rfl, hr⟩)
  · simp only [jzX, jzOl, List.append_assoc, List.append_nil]
  · simp only [jzSo, List.append_assoc, List.append_nil]
  · (simp only [jzSn, List.append_assoc, List.append_nil]) <;> rfl
  · show jzX cI cO cM cL g ro rt rd v ((jmAp (zsm v) (zgr v) (zP v) (zn v) (zst v) (zP v) (yrm t, yca t, yqu t)).2.1, (jmAp (zsm v) (zgr v) (zP v) (zn v) (zst v) (zP v) (yrm t, yca t, yqu t)).2.2, (jmAp (zsm v) (zgr v) (zP v) (zn v) (zst v) (zP v) (yrm t, yca t, yqu t)).1, (jmTrees (zsm v) (zgr v) (zP v) (zn v) (zst v)).2) = _
    simp only [jzX, jzNw, List.append_assoc, List.append_nil]
  · (repeat (first | exact trivial | refine And.intro rfl ?_))

set_option maxHeartbeats 400000 in
set_option maxRecDepth 100000 in
theorem z_X6_mixedPoint (l : Launch) (D : va_G) (cI cO cM cL : ClassId) (g ro rt rd : Nat → Nat) (v : jZ) (t : jS) (sz : Nat) (hI : jzI v) (ht : jSok t) (d9 : Int64) (q : Nat) (hq : q < zP v) : jzCl (U := jZ × jS) l yX6_mixedPoint wsX6_mixedPoint ({ frames := 5, cells := 0, slots := 0, locals := 117 } : Room) D (jzT cI cO cM cL) (jzX cI cO cM cL g ro rt rd v t) [.ref (g 60), .long d9, .int (nI q)] sz (fun u => jzX cI cO cM cL g ro rt rd u.1 u.2) (fun r u => jSok u.2 ∧ v = u.1 ∧ r = jmMP (zsm v) (zgr v) (zen v) (zla v) (zP v) (zn v) (zst v) (jmOfP (zen v) (zla v) (zn v) (zst v) (zfc v) (zpa v) (zbl v) (zcl v) (zle v)) (jmWTf (zsm v) (zgr v) (zla v) (zP v) (zn v) (zst v) (zle v) (zod v) (zwk v)) q d9) 0 0 := by
  obtain ⟨hfp, hwk, hbl, hdw⟩ := jzI_more hI
  obtain ⟨⟨hw, hla0, hox, hpa, hps, hfi, hjo, hcl⟩, ⟨hfp0, hfb, hfc, hfk, hfq, hft, hB, hC, hcs⟩, hwk9, hfa9⟩ := id hI
  have h := c_X6_mixedPoint l D cI cO g (zP v) (zn v) (zst v) (zsm v) (zgr v) (zco v) (zen v) (zla v) (zfp v) (zfb v) (zfc v) (zfk v) (zfq v) (zft v) (zpa v) (zps v) (zfi v) (zbl v) (zsp v) (zgp v) (zsw v) (zgw v) ro (yca t) (yqu t) (yrm t) (zpk v) (zcl v) rd (zle v) (zwk v) (zfa v) (zod v) (zrf v) sz hw d9 q hq hdw hwk9 hfa9 hwk hfc hbl ht
  refine jz_blkL (v, ((jmSo (zsm v) (zgr v) (zP v) (zn v) (zst v) q (zP v - (q + 1)) (yrm t, yca t, yqu t)).2.1, (jmSo (zsm v) (zgr v) (zP v) (zn v) (zst v) q (zP v - (q + 1)) (yrm t, yca t, yqu t)).2.2, (jmSo (zsm v) (zgr v) (zP v) (zn v) (zst v) q (zP v - (q + 1)) (yrm t, yca t, yqu t)).1, ytb t)) [(true, jW cI g (zP v) (zn v) (zst v) (zsm v) (zgr v) (zco v) (zen v) (zla v), jW cI g (zP v) (zn v) (zst v) (zsm v) (zgr v) (zco v) (zen v) (zla v)), (true, jF cI g (zfp v) (zfb v) (zfc v) (zfk v) (zfq v) (zft v) (zpa v) (zps v) (zfi v) (zbl v) (zsp v) (zgp v) (zsw v) (zgw v), jF cI g (zfp v) (zfb v) (zfc v) (zfk v) (zfq v) (zft v) (zpa v) (zps v) (zfi v) (zbl v) (zsp v) (zgp v) (zsw v) (zgw v)), (true, jY cI cO g ro (yca t) (yqu t), jY cI cO g ro (yca ((jmSo (zsm v) (zgr v) (zP v) (zn v) (zst v) q (zP v - (q + 1)) (yrm t, yca t, yqu t)).2.1, (jmSo (zsm v) (zgr v) (zP v) (zn v) (zst v) q (zP v - (q + 1)) (yrm t, yca t, yqu t)).2.2, (jmSo (zsm v) (zgr v) (zP v) (zn v) (zst v) q (zP v - (q + 1)) (yrm t, yca t, yqu t)).1, ytb t)) (yqu ((jmSo (zsm v) (zgr v) (zP v) (zn v) (zst v) q (zP v - (q + 1)) (yrm t, yca t, yqu t)).2.1, (jmSo (zsm v) (zgr v) (zP v) (zn v) (zst v) q (zP v - (q + 1)) (yrm t, yca t, yqu t)).2.2, (jmSo (zsm v) (zgr v) (zP v) (zn v) (zst v) q (zP v - (q + 1)) (yrm t, yca t, yqu t)).1, ytb t))), (true, jRI cI 16 16 ro (yrm t), jRI cI 16 16 ro (yrm ((jmSo (zsm v) (zgr v) (zP v) (zn v) (zst v) q (zP v - (q + 1)) (yrm t, yca t, yqu t)).2.1, (jmSo (zsm v) (zgr v) (zP v) (zn v) (zst v) q (zP v - (q + 1)) (yrm t, yca t, yqu t)).2.2, (jmSo (zsm v) (zgr v) (zP v) (zn v) (zst v) q (zP v - (q + 1)) (yrm t, yca t, yqu t)).1, ytb t))), (false, jT cI cM g rt (zcs v) (zct v) (zjo v), jT cI cM g rt (zcs v) (zct v) (zjo v)), (false, jRL cL 8 8 rt (ytb t), jRL cL 8 8 rt (ytb ((jmSo (zsm v) (zgr v) (zP v) (zn v) (zst v) q (zP v - (q + 1)) (yrm t, yca t, yqu t)).2.1, (jmSo (zsm v) (zgr v) (zP v) (zn v) (zst v) q (zP v - (q + 1)) (yrm t, yca t, yqu t)).2.2, (jmSo (zsm v) (zgr v) (zP v) (zn v) (zst v) q (zP v - (q + 1)) (yrm t, yca t, yqu t)).1, ytb t))), (true, jP cI g (zpk v) (zcl v), jP cI g (zpk v) (zcl v)), (true, jD cI cO g rd (zle v) (zwk v) (zfa v), jD cI cO g rd (zle v) (zwk v) (zfa v)), (true, jRN cI 8 16 rd (zod v), jRN cI 8 16 rd (zod v)), (true, jC g (zrf v), jC g (zrf v))] h ?_ ?_ ?_ ?_ ?_ (fun s h => h.sub (tys' := [(cI, .int), (cO, .array .int)]) [0, 1] rfl) (fun r hr => ⟨jmSo_qu (by have := hw.1; omega) (t := (yrm t, yca t, yqu t)) ht _, rfl, hr⟩)
  · simp only [jzX, jzOl, List.append_assoc, List.append_nil]
  · simp only [jzSo, List.append_assoc, List.append_nil]
  · (simp only [jzSn, List.append_assoc, List.append_nil]) <;> rfl
  · show jzX cI cO cM cL g ro rt rd v ((jmSo (zsm v) (zgr v) (zP v) (zn v) (zst v) q (zP v - (q + 1)) (yrm t, yca t, yqu t)).2.1, (jmSo (zsm v) (zgr v) (zP v) (zn v) (zst v) q (zP v - (q + 1)) (yrm t, yca t, yqu t)).2.2, (jmSo (zsm v) (zgr v) (zP v) (zn v) (zst v) q (zP v - (q + 1)) (yrm t, yca t, yqu t)).1, ytb t) = _
    simp only [jzX, jzNw, List.append_assoc, List.append_nil]
  · (repeat (first | exact trivial | refine And.intro rfl ?_))

