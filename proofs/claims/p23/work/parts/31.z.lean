/-! own rows: the system's numbers as one value, apart from scratch; its world; what holds of it -/
abbrev jZ : Type := Nat × Nat × Nat × (Nat → Nat) × (Nat → Nat) × (Nat → Nat) × (Nat → Nat) × (Nat → Nat) × Nat × Nat × Nat × Nat × Nat × Nat × (Nat → Nat) × (Nat → Nat) × (Nat → Nat) × (Nat → Int32) × (Nat → Nat) × (Nat → Nat) × (Nat → Nat) × (Nat → Nat) × Nat × Int32 × (Nat → Nat) × Nat × (Nat → Nat) × (Nat → Nat) × Nat × (Nat → Int32) × (Nat → Nat → Nat) × Int32
abbrev jS : Type := (Nat → Int32) × (Nat → Nat) × jmM × jmL
def zP (v : jZ) : Nat := v.1
def zn (v : jZ) : Nat := v.2.1
def zst (v : jZ) : Nat := v.2.2.1
def zsm (v : jZ) : Nat → Nat := v.2.2.2.1
def zgr (v : jZ) : Nat → Nat := v.2.2.2.2.1
def zco (v : jZ) : Nat → Nat := v.2.2.2.2.2.1
def zen (v : jZ) : Nat → Nat := v.2.2.2.2.2.2.1
def zla (v : jZ) : Nat → Nat := v.2.2.2.2.2.2.2.1
def zfp (v : jZ) : Nat := v.2.2.2.2.2.2.2.2.1
def zfb (v : jZ) : Nat := v.2.2.2.2.2.2.2.2.2.1
def zfc (v : jZ) : Nat := v.2.2.2.2.2.2.2.2.2.2.1
def zfk (v : jZ) : Nat := v.2.2.2.2.2.2.2.2.2.2.2.1
def zfq (v : jZ) : Nat := v.2.2.2.2.2.2.2.2.2.2.2.2.1
def zft (v : jZ) : Nat := v.2.2.2.2.2.2.2.2.2.2.2.2.2.1
def zpa (v : jZ) : Nat → Nat := v.2.2.2.2.2.2.2.2.2.2.2.2.2.2.1
def zps (v : jZ) : Nat → Nat := v.2.2.2.2.2.2.2.2.2.2.2.2.2.2.2.1
def zfi (v : jZ) : Nat → Nat := v.2.2.2.2.2.2.2.2.2.2.2.2.2.2.2.2.1
def zbl (v : jZ) : Nat → Int32 := v.2.2.2.2.2.2.2.2.2.2.2.2.2.2.2.2.2.1
def zsp (v : jZ) : Nat → Nat := v.2.2.2.2.2.2.2.2.2.2.2.2.2.2.2.2.2.2.1
def zgp (v : jZ) : Nat → Nat := v.2.2.2.2.2.2.2.2.2.2.2.2.2.2.2.2.2.2.2.1
def zsw (v : jZ) : Nat → Nat := v.2.2.2.2.2.2.2.2.2.2.2.2.2.2.2.2.2.2.2.2.1
def zgw (v : jZ) : Nat → Nat := v.2.2.2.2.2.2.2.2.2.2.2.2.2.2.2.2.2.2.2.2.2.1
def zcs (v : jZ) : Nat := v.2.2.2.2.2.2.2.2.2.2.2.2.2.2.2.2.2.2.2.2.2.2.1
def zct (v : jZ) : Int32 := v.2.2.2.2.2.2.2.2.2.2.2.2.2.2.2.2.2.2.2.2.2.2.2.1
def zjo (v : jZ) : Nat → Nat := v.2.2.2.2.2.2.2.2.2.2.2.2.2.2.2.2.2.2.2.2.2.2.2.2.1
def zpk (v : jZ) : Nat := v.2.2.2.2.2.2.2.2.2.2.2.2.2.2.2.2.2.2.2.2.2.2.2.2.2.1
def zcl (v : jZ) : Nat → Nat := v.2.2.2.2.2.2.2.2.2.2.2.2.2.2.2.2.2.2.2.2.2.2.2.2.2.2.1
def zle (v : jZ) : Nat → Nat := v.2.2.2.2.2.2.2.2.2.2.2.2.2.2.2.2.2.2.2.2.2.2.2.2.2.2.2.1
def zwk (v : jZ) : Nat := v.2.2.2.2.2.2.2.2.2.2.2.2.2.2.2.2.2.2.2.2.2.2.2.2.2.2.2.2.1
def zfa (v : jZ) : Nat → Int32 := v.2.2.2.2.2.2.2.2.2.2.2.2.2.2.2.2.2.2.2.2.2.2.2.2.2.2.2.2.2.1
def zod (v : jZ) : Nat → Nat → Nat := v.2.2.2.2.2.2.2.2.2.2.2.2.2.2.2.2.2.2.2.2.2.2.2.2.2.2.2.2.2.2.1
def zrf (v : jZ) : Int32 := v.2.2.2.2.2.2.2.2.2.2.2.2.2.2.2.2.2.2.2.2.2.2.2.2.2.2.2.2.2.2.2
def yca (t : jS) : Nat → Int32 := t.1
def yqu (t : jS) : Nat → Nat := t.2.1
def yrm (t : jS) : jmM := t.2.2.1
def ytb (t : jS) : jmL := t.2.2.2
abbrev jzT (cI cO cM cL : ClassId) : List (ClassId × FieldType) := [(cI, .int), (cO, .array .int), (cM, .array .long), (cL, .long)]
def jzX (cI cO cM cL : ClassId) (g ro rt rd : Nat → Nat) (v : jZ) (t : jS) : va_W := jW cI g (zP v) (zn v) (zst v) (zsm v) (zgr v) (zco v) (zen v) (zla v) ++ jF cI g (zfp v) (zfb v) (zfc v) (zfk v) (zfq v) (zft v) (zpa v) (zps v) (zfi v) (zbl v) (zsp v) (zgp v) (zsw v) (zgw v) ++ jY cI cO g ro (yca t) (yqu t) ++ jRI cI 16 16 ro (yrm t) ++ jT cI cM g rt (zcs v) (zct v) (zjo v) ++ jRL cL 8 8 rt (ytb t) ++ jP cI g (zpk v) (zcl v) ++ jD cI cO g rd (zle v) (zwk v) (zfa v) ++ jRN cI 8 16 rd (zod v) ++ jC g (zrf v)
def jSok (t : jS) : Prop := ∀ j, j < 16 → yqu t j < 16
/-- what the mutators need: the web, the orders, the bounds of the arrays -/
def jzB (v : jZ) : Prop := jmWF (zP v) (zn v) (zst v) (zsm v) (zgr v) (zco v) (zen v) (zla v) ∧ (∀ q, zP v ≤ q → q < 8 → zla v q = 0) ∧ jmOX (zP v) (zn v) (zsm v) (zgr v) (zle v) (zod v) ∧ (∀ j, j < 8 → zpa v j < 256) ∧ (∀ j, j < 8 → zps v j < 256) ∧ (∀ j, j < 16 → zfi v j < 16) ∧ (∀ j, j < 8 → zjo v j < 256) ∧ ∀ j, j < 8 → zcl v j < 256
/-- what was learnt -/
def jzF (v : jZ) : Prop := zfp v = jmCPc (zen v) (2 ^ zP v - 1) (zst v) (zn v) (zP v) ∧ zfb v < 65536 ∧ zfc v < 65536 ∧ zfk v ≤ 16 ∧ zfq v ≤ 28 ∧ zft v ≤ 120 ∧ (∀ i, i < zn v → jmBok (zn v) (zst v) (zfb v) (zfk v) (zbl v) i) ∧ (∀ i, i < zn v → (zst v).testBit i = true → zcl v (zsm v i) ≠ zcl v (zgr v i)) ∧ zcs v < 65536
def jzD (v : jZ) : Prop := zwk v = (jmLn (zsm v) (zgr v) (zn v) (zst v) (zle v) (zod v)).1 ∧ zfa v = (jmLn (zsm v) (zgr v) (zn v) (zst v) (zle v) (zod v)).2
def jzI (v : jZ) : Prop := jzB v ∧ jzF v ∧ jzD v
def jzLearn (v : jZ) : jZ := (zP v, zn v, zst v, zsm v, zgr v, zco v, zen v, zla v, jmNPc (zen v) (zP v) (zn v) (zst v) (zP v), jmBr (zen v) (zP v) (zn v) (zst v) (jmNPc (zen v) (zP v) (zn v) (zst v) (zP v)) (zn v), jmCut (zen v) (zP v) (zn v) (zst v) (jmNPs (zen v) (zP v) (zn v) (zst v) (zps v) (zP v)) (zP v), (jmNB (zst v) (jmJBo (zen v) (zla v) (zsm v) (zgr v) (zP v) (zn v) (zst v) (zfi v) (zP v)) (zbl v) (zn v)).1, (jmRowO 28 (zP v) (fun x9 y9 => jmIsPair (zen v) (zP v) (zn v) (zst v) (jmCut (zen v) (zP v) (zn v) (zst v) (jmNPs (zen v) (zP v) (zn v) (zst v) (zps v) (zP v)) (zP v)) (jmNPa (zen v) (zP v) (zn v) (zst v) (zpa v) (zP v)) (jmNPs (zen v) (zP v) (zn v) (zst v) (zps v) (zP v)) x9 y9) (0, (zsp v), (zgp v)) (zP v)).1, (jmRowO 120 (zn v) (fun x9 y9 => jmAreTwins (zen v) (zP v) (zn v) (zst v) (jmBr (zen v) (zP v) (zn v) (zst v) (jmNPc (zen v) (zP v) (zn v) (zst v) (zP v)) (zn v)) (jmNPc (zen v) (zP v) (zn v) (zst v) (zP v)) x9 y9) (0, (zsw v), (zgw v)) (zn v)).1, jmNPa (zen v) (zP v) (zn v) (zst v) (zpa v) (zP v), jmNPs (zen v) (zP v) (zn v) (zst v) (zps v) (zP v), jmJBo (zen v) (zla v) (zsm v) (zgr v) (zP v) (zn v) (zst v) (zfi v) (zP v), (jmNB (zst v) (jmJBo (zen v) (zla v) (zsm v) (zgr v) (zP v) (zn v) (zst v) (zfi v) (zP v)) (zbl v) (zn v)).2, (jmRowO 28 (zP v) (fun x9 y9 => jmIsPair (zen v) (zP v) (zn v) (zst v) (jmCut (zen v) (zP v) (zn v) (zst v) (jmNPs (zen v) (zP v) (zn v) (zst v) (zps v) (zP v)) (zP v)) (jmNPa (zen v) (zP v) (zn v) (zst v) (zpa v) (zP v)) (jmNPs (zen v) (zP v) (zn v) (zst v) (zps v) (zP v)) x9 y9) (0, (zsp v), (zgp v)) (zP v)).2.1, (jmRowO 28 (zP v) (fun x9 y9 => jmIsPair (zen v) (zP v) (zn v) (zst v) (jmCut (zen v) (zP v) (zn v) (zst v) (jmNPs (zen v) (zP v) (zn v) (zst v) (zps v) (zP v)) (zP v)) (jmNPa (zen v) (zP v) (zn v) (zst v) (zpa v) (zP v)) (jmNPs (zen v) (zP v) (zn v) (zst v) (zps v) (zP v)) x9 y9) (0, (zsp v), (zgp v)) (zP v)).2.2, (jmRowO 120 (zn v) (fun x9 y9 => jmAreTwins (zen v) (zP v) (zn v) (zst v) (jmBr (zen v) (zP v) (zn v) (zst v) (jmNPc (zen v) (zP v) (zn v) (zst v) (zP v)) (zn v)) (jmNPc (zen v) (zP v) (zn v) (zst v) (zP v)) x9 y9) (0, (zsw v), (zgw v)) (zn v)).2.1, (jmRowO 120 (zn v) (fun x9 y9 => jmAreTwins (zen v) (zP v) (zn v) (zst v) (jmBr (zen v) (zP v) (zn v) (zst v) (jmNPc (zen v) (zP v) (zn v) (zst v) (zP v)) (zn v)) (jmNPc (zen v) (zP v) (zn v) (zst v) (zP v)) x9 y9) (0, (zsw v), (zgw v)) (zn v)).2.2, (jmFo (zen v) (zsm v) (zgr v) (zco v) (zP v) (zn v) (zst v) (zjo v)).1, (jmFo (zen v) (zsm v) (zgr v) (zco v) (zP v) (zn v) (zst v) (zjo v)).2.1, (jmFo (zen v) (zsm v) (zgr v) (zco v) (zP v) (zn v) (zst v) (zjo v)).2.2, (jmPe (zen v) (zla v) (zP v) (zn v) (zst v) (zpk v) ((zP v) + 1) 0 (zcl v)).1, (jmPe (zen v) (zla v) (zP v) (zn v) (zst v) (zpk v) ((zP v) + 1) 0 (zcl v)).2, zle v, (jmLn (zsm v) (zgr v) (zn v) (zst v) (zle v) (zod v)).1, (jmLn (zsm v) (zgr v) (zn v) (zst v) (zle v) (zod v)).2, zod v, zrf v)
def jzPt (v : jZ) : jZ := ((zP v) + 1, zn v, zst v, zsm v, zgr v, zco v, zen v, zla v, zfp v, zfb v, zfc v, zfk v, zfq v, zft v, zpa v, zps v, zfi v, zbl v, zsp v, zgp v, zsw v, zgw v, zcs v, zct v, zjo v, zpk v, zcl v, zle v, zwk v, zfa v, zod v, zrf v)
def jzLn (v : jZ) (a o x : Nat) : jZ := (zP v, (zn v) + 1, (zst v) ||| 2 ^ (zn v), jxUp (zsm v) (zn v) (min a o), jxUp (zgr v) (zn v) (max a o), jxUp (zco v) (zn v) x, jxUp (zen v) (zn v) (2 ^ (min a o) ||| 2 ^ (max a o)), jxUp (jxUp (zla v) (min a o) ((zla v) (min a o) ||| 2 ^ (zn v))) (max a o) ((jxUp (zla v) (min a o) ((zla v) (min a o) ||| 2 ^ (zn v))) (max a o) ||| 2 ^ (zn v)), zfp v, zfb v, zfc v, zfk v, zfq v, zft v, zpa v, zps v, zfi v, zbl v, zsp v, zgp v, zsw v, zgw v, zcs v, zct v, zjo v, zpk v, zcl v, jxUp (jxUp (zle v) a ((zle v) a + 1)) o ((jxUp (zle v) a ((zle v) a + 1)) o + 1), zwk v, zfa v, jxUp2 (jxUp2 (zod v) a ((zle v) a) (zn v)) o ((jxUp (zle v) a ((zle v) a + 1)) o) (zn v), zrf v)
def jzCt (v : jZ) (i : Nat) (is9 : Bool) : jZ := (zP v, zn v, if is9 = true then jxAN (zst v) (2 ^ i) else (zst v) ||| 2 ^ i, zsm v, zgr v, zco v, zen v, zla v, zfp v, zfb v, zfc v, zfk v, zfq v, zft v, zpa v, zps v, zfi v, zbl v, zsp v, zgp v, zsw v, zgw v, zcs v, zct v, zjo v, zpk v, zcl v, zle v, zwk v, zfa v, zod v, zrf v)
def jzPr (v : jZ) (i x : Nat) : jZ := (zP v, zn v, zst v, zsm v, zgr v, jxUp (zco v) i x, zen v, zla v, zfp v, zfb v, zfc v, zfk v, zfq v, zft v, zpa v, zps v, zfi v, zbl v, zsp v, zgp v, zsw v, zgw v, (jmFo (zen v) (zsm v) (zgr v) (jxUp (zco v) i x) (zP v) (zn v) (zst v) (zjo v)).1, (jmFo (zen v) (zsm v) (zgr v) (jxUp (zco v) i x) (zP v) (zn v) (zst v) (zjo v)).2.1, (jmFo (zen v) (zsm v) (zgr v) (jxUp (zco v) i x) (zP v) (zn v) (zst v) (zjo v)).2.2, zpk v, zcl v, zle v, zwk v, zfa v, zod v, zrf v)
def jzTn (v : jZ) (q k7 : Nat) : jZ := (zP v, zn v, zst v, zsm v, zgr v, zco v, zen v, zla v, zfp v, zfb v, zfc v, zfk v, zfq v, zft v, zpa v, zps v, zfi v, zbl v, zsp v, zgp v, zsw v, zgw v, zcs v, zct v, zjo v, zpk v, zcl v, zle v, (jmLn (zsm v) (zgr v) (zn v) (zst v) (zle v) (jmSw ((zle v) q) (zod v) q k7)).1, (jmLn (zsm v) (zgr v) (zn v) (zst v) (zle v) (jmSw ((zle v) q) (zod v) q k7)).2, jmSw ((zle v) q) (zod v) q k7, zrf v)

theorem jzI_learn {v : jZ} (h : jzB v) : jzI (jzLearn v) := by
  obtain ⟨h1, h2, h3, h4, h5, h6, h7, h8⟩ := h
  have hP8 := h1.1
  have hn16 := h1.2.1
  have hen := jmWF_en h1
  have hgr := jmWF_gr h1
  have hfo : jmKok (jmFo (zen v) (zsm v) (zgr v) (zco v) (zP v) (zn v) (zst v) (zjo v)) := jmFo_ok h7 hn16 hgr
  refine ⟨⟨h1, h2, h3, ?_, ?_, ?_, ?_, ?_⟩, ⟨?_, ?_, ?_, ?_, ?_, ?_, ?_, ?_, ?_⟩, rfl, rfl⟩
  · exact jmNPa_lt h4 hP8
  · exact jmNPs_lt hen h5 hP8
  · exact fun j hj => jmJBo_lt hn16 h6 j hj
  · exact hfo.2
  · exact jmPe_lt (zP v + 1) 0 (zcl v) (by omega) h8
  · exact mb_fp _ _ _ _
  · exact jmBr_lt hn16
  · exact jmCut_lt (by omega)
  · exact Nat.le_trans (jmNB_le _) hn16
  · exact jmRowO_le (Nat.zero_le _) _
  · exact jmRowO_le (Nat.zero_le _) _
  · exact mb_Bok h1 (zfi v) (zbl v)
  · exact mp_col h1 (zpk v) (zcl v)
  · exact hfo.1
theorem jzB_point {v : jZ} (h : jzB v) (hP : zP v < 8) : jzB (jzPt v) := by
  obtain ⟨h1, h2, h3, h4⟩ := h
  refine ⟨jmWF_point h1 hP (h2 _ (Nat.le_refl _) hP), fun q hq h8 => h2 q ?_ h8, jmOX_point h3 hP (fun j hj => ?_), h4⟩
  · have hq : zP v + 1 ≤ q := hq
    omega
  · have hj : j < zn v := hj
    have h9 := h1.2.2.2.1 j hj
    have e1 : zsm v j < zP v := by omega
    exact ⟨e1, h9.2.1⟩
theorem jzB_line {v : jZ} (h : jzB v) {a o x : Nat} (hn : zn v < 16) (ha : a < zP v) (ho : o < zP v) (hao : a ≠ o) (h1x : 1 ≤ x) (h2x : x ≤ 20) : jzB (jzLn v a o x) := by
  obtain ⟨h1, h2, h3, h4⟩ := h
  have hmm : (min a o = a ∧ max a o = o) ∨ (min a o = o ∧ max a o = a) := by omega
  have e1 : min a o < max a o := by omega
  have e2 : max a o < zP v := by omega
  exact ⟨jmWF_line h1 hn e1 e2 h1x h2x, jmLa0_line h2 (Nat.lt_trans e1 e2) e2, jmOX_line h3 ha ho hao hmm, h4⟩
theorem jzB_cut {v : jZ} (h : jzB v) {i : Nat} (hi : i < zn v) (b : Bool) : jzB (jzCt v i b) := by
  obtain ⟨h1, h2, h3, h4⟩ := h
  exact ⟨jmWF_cut h1 hi b, h2, h3, h4⟩
theorem jzI_price {v : jZ} (h : jzI v) {i x : Nat} (h1x : 1 ≤ x) (h2x : x ≤ 20) : jzI (jzPr v i x) := by
  obtain ⟨⟨h1, h2, h3, h4, h5, h6, h7, h8⟩, ⟨f1, f2, f3, f4, f5, f6, f7, f8, f9⟩, hd⟩ := h
  have hfo : jmKok (jmFo (zen v) (zsm v) (zgr v) (jxUp (zco v) i x) (zP v) (zn v) (zst v) (zjo v)) := jmFo_ok h7 h1.2.1 (jmWF_gr h1)
  exact ⟨⟨jmWF_price h1 h1x h2x, h2, h3, h4, h5, h6, hfo.2, h8⟩, ⟨f1, f2, f3, f4, f5, f6, f7, f8, hfo.1⟩, hd⟩
theorem jzI_turn {v : jZ} (h : jzI v) {q k7 : Nat} (hq : q < zP v) (hk : k7 < zle v q) : jzI (jzTn v q k7) := by
  obtain ⟨⟨h1, h2, h3, h4⟩, hf, hd⟩ := h
  exact ⟨⟨h1, h2, jmOX_swap h3 hq hk, h4⟩, hf, rfl, rfl⟩
/-- handles: as the formula has it, and never below none -/
theorem jz_handles {v : jZ} (h : jzI v) : ∃ k, k < 256 ∧ jmHandles (zla v) (zP v) (zst v) (zfp v) (zwk v) = nI k ∧ 2 * zfp v + jmPop (zst v) = 2 * k + zP v + (zwk v + jmIso (zla v) (zst v) (zP v)) := by
  obtain ⟨⟨h1, h2, h3, h4⟩, ⟨f1, -⟩, d1, -⟩ := h
  obtain ⟨k, hk⟩ := me_handles h1 h3
  have hP8 := h1.1
  have hfp : zfp v ≤ zP v := by rw [f1]; exact jmCPc_le _
  have hpop : jmPop (zst v) ≤ 16 := by
    rw [mx_pop_S]
    have h9 := ma_S_le (f := fun i => jB ((zst v).testBit i)) (g := fun _ => 1) (N := 16) (fun i _ => by have := jB_lt ((zst v).testBit i); omega)
    rw [ma_S_const] at h9
    exact h9
  rw [← f1, ← d1] at hk
  refine ⟨k, by omega, ?_, hk⟩
  unfold jmHandles
  rw [show nI (2 * zfp v) - nI (zP v) + nI (jmPop (zst v)) - nI (zwk v + jmIso (zla v) (zst v) (zP v)) = nI (2 * k) from ?_, pk_div (by omega) (by decide) (by decide)]
  · rw [Nat.mul_div_cancel_left k (by decide)]
  · have e1 : nI (2 * zfp v) - nI (zP v) + nI (jmPop (zst v)) = nI (2 * zfp v + jmPop (zst v)) - nI (zP v) := by
      rw [← nI_add, Int32.sub_eq_add_neg, Int32.sub_eq_add_neg, Int32.add_assoc, Int32.add_comm (-nI (zP v)), ← Int32.add_assoc]
    rw [e1, pk_sub (by omega), pk_sub (by omega)]
    exact congrArg nI (by omega)
