/-! own rows: what the law asks of two points, in numbers; the law's small helpers -/
theorem jzI_b {v : jZ} (h : jzI v) : zP v ≤ 8 ∧ zn v ≤ 16 := ⟨h.1.1.1, h.1.1.2.1⟩
theorem jz_le {v : jZ} (h : jzI v) {q : Nat} (hq : q < zP v) : zle v q ≤ 16 := Nat.le_trans (h.1.2.2.1.1 q hq) h.1.1.2.1
theorem jz_other {P one k : Nat} (h : one < P) (hk : k < P - 1) : (one + 1 + k) % P < P ∧ one ≠ (one + 1 + k) % P := by
  refine ⟨Nat.mod_lt _ (by omega), ?_⟩
  rcases Nat.lt_or_ge (one + 1 + k) P with h1 | h1
  · rw [Nat.mod_eq_of_lt h1]
    omega
  · rw [Nat.mod_eq_sub_mod h1, Nat.mod_eq_of_lt (by omega)]
    omega
theorem jB_e1 {b : Bool} (h : nI (jB b) = nI 1) : b = true := by
  cases b
  · exact absurd h (by decide)
  · rfl
theorem jB_n1 {b : Bool} (h : ¬ nI (jB b) = nI 1) : b = false := by
  cases b
  · rfl
  · exact absurd (by decide) h
theorem jxAN_0 (a : Nat) : jxAN a 0 = a := mc_ext (fun i => by rw [mc_an, Nat.zero_testBit]; simp)
theorem jz_tb {x n : Nat} (h : ∀ i, ¬ i < n → x.testBit i = false) : x < 2 ^ n := Nat.lt_pow_two_of_testBit x (fun i hi => h i (by omega))
/-- any two points -/
theorem jz_pair {v : jZ} (h : jzI v) {a o : Nat} (ha : a < zP v) (ho : o < zP v) (hne : a ≠ o) :
    jmWy (zsm v) (zgr v) (zst v) (zP v) (zn v) a o ≤ jmLy (zsm v) (zgr v) (zst v) (zn v) a o ∧ jmLy (zsm v) (zgr v) (zst v) (zn v) a o ≤ 16 ∧
    jmLy (zsm v) (zgr v) (zst v) (zn v) a o = jmPop (jmOut (zla v) (zst v) (jmSide (zla v) (zP v) (zst v) a o) (zP v)) ∧
    (jmSide (zla v) (zP v) (zst v) a o).testBit a = true ∧ (jmSide (zla v) (zP v) (zst v) a o).testBit o = false ∧ jmSide (zla v) (zP v) (zst v) a o < 256 ∧
    jmOut (zla v) (zst v) (jmSide (zla v) (zP v) (zst v) a o) (zP v) < 2 ^ zn v ∧
    zfp v + (if 0 < jmLy (zsm v) (zgr v) (zst v) (zn v) a o then 1 else 0) ≤ jmCPc (zen v) (jxAN (2 ^ zP v - 1) 0) (jxAN (zst v) (jmOut (zla v) (zst v) (jmSide (zla v) (zP v) (zst v) a o) (zP v))) (zn v) (zP v) ∧
    jmLy (zsm v) (zgr v) (zst v) (zn v) a o ≤ jmPop (zla v a &&& zst v) ∧ jmLy (zsm v) (zgr v) (zst v) (zn v) a o ≤ jmPop (zla v o &&& zst v) := by
  obtain ⟨⟨hw, -⟩, ⟨hfp, -⟩, -⟩ := h
  obtain ⟨s1, s2, s3⟩ := mx_side hw ha ho hne
  obtain ⟨d1, d2⟩ := md_L_deg hw ha ho hne
  have hsd : jmSide (zla v) (zP v) (zst v) a o < 2 ^ zP v := jmSideF_lt ha (Nat.le_refl _)
  refine ⟨(mx_Wok hw ha ho hne).2.2, jmLy_le _ _ _ _ _ _, s3, s1, s2, Nat.lt_of_lt_of_le hsd (Nat.pow_le_pow_right (n := 2) (by decide) hw.1), jz_tb (fun i hi => mx_out_hi hw hi _ (Nat.le_refl _)), ?_, d1, d2⟩
  rw [jxAN_0, hfp]
  exact md_out hw ha ho hne
theorem jz_pairL {v : jZ} (h : jzI v) {a o : Nat} (ha : a < zP v) (ho : o < zP v) (hne : a ≠ o) (hl : (jmLinked (zen v) (zla v) (zst v) (zn v) a).testBit o = true) :
    jmGap (zen v) (zla v) (zP v) (zn v) (zst v) a o = -1 ∧ jmDist (zen v) (zla v) (zP v) (zst v) (zn v) a o = nI 1 ∧ 0 < jmWy (zsm v) (zgr v) (zst v) (zP v) (zn v) a o := by
  obtain ⟨⟨hw, -⟩, -, -⟩ := h
  have hlk := (mx_linked hw ha).mp hl
  exact ⟨mx_gap1 hw ha hlk, (md_dist hw ha ho hne).1 hlk, (md_W_pos hw ha ho hne).mpr (md_lkC hw hlk).1⟩
theorem jz_pairO {v : jZ} (h : jzI v) {a o : Nat} (ha : a < zP v) (ho : o < zP v) (hne : a ≠ o) (hl : (jmLinked (zen v) (zla v) (zst v) (zn v) a).testBit o = false) :
    ∃ g, g < 256 ∧ g < 2 ^ zP v ∧ jmGap (zen v) (zla v) (zP v) (zn v) (zst v) a o = nI g ∧ jmPop g = jmWy (zsm v) (zgr v) (zst v) (zP v) (zn v) a o ∧ g.testBit a = false ∧ g.testBit o = false ∧ ¬ mc_C (zsm v) (zgr v) (jxAN (2 ^ zP v - 1) g) (zst v) (zn v) a o ∧ 2 ≤ jmCPc (zen v) (jxAN (2 ^ zP v - 1) g) (jxAN (zst v) 0) (zn v) (zP v) ∧
      ((jmWy (zsm v) (zgr v) (zst v) (zP v) (zn v) a o = 0 ∧ jmDist (zen v) (zla v) (zP v) (zst v) (zn v) a o = -1) ∨ (0 < jmWy (zsm v) (zgr v) (zst v) (zP v) (zn v) a o ∧ ∃ s, 2 ≤ s ∧ s < 8 ∧ jmDist (zen v) (zla v) (zP v) (zst v) (zn v) a o = nI s)) := by
  obtain ⟨⟨hw, -⟩, -, -⟩ := h
  have hlk : ¬ mx_lk (zsm v) (zgr v) (zst v) (zn v) a o := fun z => by
    have := (mx_linked hw ha).mpr z
    rw [hl] at this
    cases this
  obtain ⟨g, g1, g2, g3, g4, g5, g6⟩ := mx_gap hw ha ho hne hlk
  refine ⟨g, Nat.lt_of_lt_of_le g1 (Nat.pow_le_pow_right (n := 2) (by decide) hw.1), g1, g2, g3, g4, g5, g6, by rw [jxAN_0]; exact md_gap2 hw ha ho g4 g5 g6, ?_⟩
  rcases (md_dist hw ha ho hne).2 hlk with ⟨d1, d2⟩ | ⟨s, d1, d2, d3, d4⟩
  · left
    refine ⟨?_, d1⟩
    rcases Nat.eq_zero_or_pos (jmWy (zsm v) (zgr v) (zst v) (zP v) (zn v) a o) with e | e
    · exact e
    · exact absurd ((md_W_pos hw ha ho hne).mp e) d2
  · right
    exact ⟨(md_W_pos hw ha ho hne).mpr d4, s, d1, d2, d3⟩
/-- what was met from the one on, over none of a set -/
def jzSeen (v : jZ) (a gp x : Nat) : Prop := x < 256 ∧ x.testBit a = true ∧ ∀ k, x.testBit k = true → k < zP v ∧ gp.testBit k = false ∧ mc_C (zsm v) (zgr v) (jxAN (2 ^ zP v - 1) gp) (zst v) (zn v) a k
theorem jzSeen_0 {v : jZ} (h : jzI v) {a gp : Nat} (ha : a < zP v) (hg : gp.testBit a = false) : jzSeen v a gp (2 ^ a) := by
  have hP := (jzI_b h).1
  refine ⟨Nat.lt_of_lt_of_le (Nat.pow_lt_pow_right (by decide) (show a < 8 by omega)) (Nat.le_refl _), Nat.testBit_two_pow_self, fun k hk => ?_⟩
  rw [Nat.testBit_two_pow] at hk
  have e : a = k := of_decide_eq_true hk
  subst e
  exact ⟨ha, hg, fun _ _ => Iff.rfl⟩
theorem jzSeen_up {v : jZ} (h : jzI v) {a gp x k : Nat} (hs : jzSeen v a gp x) (hk : x.testBit k = true) : jzSeen v a gp (x ||| jxAN (jmLinked (zen v) (zla v) (zst v) (zn v) k) gp) := by
  obtain ⟨hw, -⟩ := h.1
  obtain ⟨s1, s2, s3⟩ := hs
  obtain ⟨k1, k2, k3⟩ := s3 k hk
  refine ⟨Nat.or_lt_two_pow (n := 8) s1 (jxAN_lt (jmLinked_lt (jmWF_en hw))), by rw [Nat.testBit_or, s2]; rfl, fun j hj => ?_⟩
  rw [Nat.testBit_or, Bool.or_eq_true] at hj
  rcases hj with hj | hj
  · exact s3 j hj
  · obtain ⟨j1, j2⟩ := mc_an.mp hj
    have hlk := (mx_linked hw k1).mp j1
    obtain ⟨-, -, j3, -⟩ := md_lkC hw hlk
    refine ⟨j3, j2, fun S hS => (k3 S hS).trans ?_⟩
    obtain ⟨i, i1, i2, i3⟩ := hlk
    have hb : ∀ z, z < zP v → gp.testBit z = false → (jxAN (2 ^ zP v - 1) gp).testBit z = true := fun z hz hg => mc_an.mpr ⟨by rw [Nat.testBit_two_pow_sub_one]; exact decide_eq_true hz, hg⟩
    rcases i3 with ⟨e1, e2⟩ | ⟨e1, e2⟩
    · have := hS i i1 i2 (by rw [e1]; exact hb _ k1 k2) (by rw [e2]; exact hb _ j3 j2)
      rw [e1, e2] at this
      exact this
    · have := hS i i1 i2 (by rw [e1]; exact hb _ j3 j2) (by rw [e2]; exact hb _ k1 k2)
      rw [e1, e2] at this
      exact this.symm
theorem jzSeen_o {v : jZ} {a gp x o : Nat} (hs : jzSeen v a gp x) (ho : ¬ mc_C (zsm v) (zgr v) (jxAN (2 ^ zP v - 1) gp) (zst v) (zn v) a o) : x.testBit o = false := by
  cases e : x.testBit o with
  | false => rfl
  | true => exact absurd (hs.2.2 o e).2.2 ho
/-- what below answers -/
def jzBl (x : Int32) (N : Nat) : Nat := x.toBitVec.toNat % 2 ^ 31 % N
theorem z_L_below (l : Launch) (D : va_G) (tys : List (ClassId × FieldType)) (X : va_W) (sz : Nat) (x : Int32) (N : Nat) (h0 : 0 < N) (hN9 : N < 2 ^ 31) : jzCi (U := Unit) l yL_below wsL_below ({ frames := 0, cells := 0, slots := 0, locals := 0 } : Room) D tys X [.int x, .int (nI N)] sz (fun _ => X) (fun r _ => ∃ k, k < N ∧ k = jzBl x N ∧ r = nI k) 0 0 := by
  refine jz_enterI (by decide) rfl (Nat.le_of_ble_eq_true rfl) ?_
  intro p e s m args below meth c Q A ls hx hb hml hts hown hN hP hK hD hA hl hQ
  have hown : s.vm.findClass RL = some m.cls := hown
  have hl : lv_has ls 2 [(0, .int x), (1, .int (nI N))] := hl
  obtain ⟨z, ezz⟩ : ∃ y : Nat, y = x.toBitVec.toNat % 2 ^ 31 := ⟨_, rfl⟩
  have ez : x &&& (2147483647 : Int32) = nI z := by rw [ezz]; exact pk_and x 31 (by decide +kernel)
  have hz : z < 2 ^ 31 := by rw [ezz]; exact Nat.mod_lt _ (by decide)
  refine lv_iload_n hx hb dL_below_0 rfl (lv_at hl 0 rfl) ?_
  refine lv_ldc (v := (2147483647 : Int32)) hx hb hown (hts (.constant RL 7 (2147483647)) (List.mem_of_getElem? (i := 1) (by decide +kernel))) dL_below_1 ?_
  refine lv_iand hx hb dL_below_3 ?_
  refine jx_val (z := nI z) ez ?_
  refine lv_iload_n hx hb dL_below_4 rfl (lv_at hl 1 rfl) ?_
  refine lv_irem hx hb dL_below_5 (nI_ne0 h0 hN9) ?_
  refine jx_val (z := nI (z % N)) (pk_rem hz h0 hN9) ?_
  exact hQ (nI (z % N)) () s.heap [] _ _ dL_below_6 ⟨_, Nat.mod_lt _ h0, by rw [ezz]; rfl, rfl⟩ hP va_S.rf
theorem z_L_cell (l : Launch) (D : va_G) (tys : List (ClassId × FieldType)) (X : va_W) (sz b : Nat) (k7 : Nat) (hk7 : k7 < 2 ^ 31) : Met l yL_cell wsL_cell ({ frames := 0, cells := 0, slots := 0, locals := 0 } : Room) (va_Pc [.ref b, .int (nI k7)] (jzMx D tys X sz b)) (va_Qi (S := Unit) (fun _ _ => True) (fun _ t => va_P D vwCl X t.heap) (va_A X sz)) 0 0 (va_A X sz) := by
  refine jz_enterX (XX := fun _ => X) (post := fun _ _ => True) (by decide) rfl (Nat.le_of_ble_eq_true rfl) ?_
  intro p e s m args below meth c Q A ls hx hb hml hts hown hN hP hK hD hXs hA hl hQ
  obtain ⟨L, xs, hL, hX⟩ := hXs
  have hown : s.vm.findClass RL = some m.cls := hown
  have hl : lv_has ls 2 [(0, .ref b), (1, .int (nI k7))] := hl
  have hbl : b < s.heap.size := by
    obtain ⟨scr, h1, -⟩ := hX
    exact (Array.getElem?_eq_some_iff.mp h1).1
  have hS : va_S (fun _ => False) s.heap s.heap [] := va_S.rf
  refine lv_iload_n hx hb dL_cell_0 rfl (lv_at hl 1 rfl) ?_
  refine lv_aload_n hx hb dL_cell_1 rfl (lv_at hl 0 rfl) ?_
  refine va_slen hx hb hX hbl (fun h => h) hS dL_cell_2 ?_
  refine lv_icmp_ge (tgt := 12) hx hb dL_cell_3 (by decide) (fun c3 => ?_) (fun c3 => ?_)
  · refine lv_ldc (v := (790386105 : Int32)) hx hb hown (hts (.constant RL 8 (790386105)) (List.mem_of_getElem? (i := 1) (by decide +kernel))) dL_cell_12 ?_
    refine lv_iload_n hx hb dL_cell_14 rfl (lv_at hl 1 rfl) ?_
    refine lv_iconst (v := nI 3) hx hb dL_cell_15 (by decide) ?_
    refine lv_iadd hx hb dL_cell_16 ?_
    refine lv_imul hx hb dL_cell_17 ?_
    exact hQ _ () s.heap [] _ _ dL_cell_18 trivial hP va_S.rf
  · have h9 : k7 < L := jx_nle hL hk7 c3
    refine lv_aload_n hx hb dL_cell_6 rfl (lv_at hl 0 rfl) ?_
    refine lv_iload_n hx hb dL_cell_7 rfl (lv_at hl 1 rfl) ?_
    refine va_sld hx hb hX hbl (fun h => h) hS (nI_in h9 hL) dL_cell_8 ?_
    refine lv_goto (tgt := 18) hx hb dL_cell_9 (by decide) ?_
    exact hQ _ () s.heap [] _ _ dL_cell_18 trivial hP va_S.rf
theorem z_bitCount (l : Launch) (D : va_G) (tys : List (ClassId × FieldType)) (X : va_W) (sz : Nat) (a : Nat) (ha : a < 65536) : jzCi (U := Unit) l yJ6_bitCount_0f7a4 wsJ6_bitCount_0f7a4 ({ frames := 0, cells := 0, slots := 0, locals := 0 } : Room) D tys X [.int (nI a)] sz (fun _ => X) (fun r _ => r = nI (jmPop a)) 0 0 :=
  jz_liftR (U := Unit) (XX := fun _ => X) () rfl (c_J6_bitCount_0f7a4 l D a ha) [] rfl (fun s h => h.sub [] rfl) (fun r h => h)
