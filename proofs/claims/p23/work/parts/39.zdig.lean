/-! own rows: the digest, a number that the state alone makes -/
def jzNF (v : jZ) (w : Nat) : Int64 := (jmNet (zen v) (zla v) (zP v) (zn v) (zst v) (zfp v) (zfb v) (zfc v) (zfk v) (zfq v) (zft v) (zct v) (zpk v) (zwk v) (zrf v) w).toInt64
def jzLFw (v : jZ) (i w : Nat) : Int64 := (jmOfL (zsm v) (zgr v) (zco v) (zst v) (zfb v) (zbl v) (zcs v) (zfa v) i w).toInt64
def jzFo (f : Nat → Int64) : Nat → Int64 → Int64
  | 0, d => d
  | k + 1, d => jzFo f k d * 31 + f k
noncomputable def jzMP (v : jZ) (q : Nat) (d : Int64) : Int64 := jmMP (zsm v) (zgr v) (zen v) (zla v) (zP v) (zn v) (zst v) (jmOfP (zen v) (zla v) (zn v) (zst v) (zfc v) (zpa v) (zbl v) (zcl v) (zle v)) (jmWTf (zsm v) (zgr v) (zla v) (zP v) (zn v) (zst v) (zle v) (zod v) (zwk v)) q d
noncomputable def jzPFd (v : jZ) : Nat → Int64 → Int64
  | 0, d => d
  | k + 1, d => jzMP v k (jzPFd v k d)
def jzLFd (v : jZ) : Nat → Int64 → Int64
  | 0, d => d
  | i + 1, d => jzFo (jzLFw v i) 9 (jzLFd v i d)
def jzVP (v : jZ) : Nat → Int64 → Int64
  | 0, d => d
  | k + 1, d => (jzVP v k d * 31 + (jmPV (zfq v) (zsp v) (zgp v) k false).toInt64) * 31 + (jmPV (zfq v) (zsp v) (zgp v) k true).toInt64
def jzVT (v : jZ) : Nat → Int64 → Int64
  | 0, d => d
  | k + 1, d => (jzVT v k d * 31 + (jmPV (zft v) (zsw v) (zgw v) k false).toInt64) * 31 + (jmPV (zft v) (zsw v) (zgw v) k true).toInt64
noncomputable def zDig (v : jZ) : Int64 := (jzVT v (zft v) (jzVP v (zfq v) (jzLFd v (zn v) (jzPFd v (zP v) (jzFo (jzNF v) 15 7901)))) * 31 + (jmTrees (zsm v) (zgr v) (zP v) (zn v) (zst v)).1) * 31 + 1
section JZD
variable {p : Program} {l : Launch} {e : Env} {R : Room} {s : State} {m : MethodId} {args : Array Value} {below : List Frame} {meth : Method} {c : Code} {H H0 : Heap} {locs : List Loc} {cells slots : Nat} {Q : State → Prop} {A0 : Nat → Prop}
variable {cc bytes : ByteArray} {pc nL maxL index n : Nat} {ls : Array Slot} {rest st0 As : List Value} {Ts wy : List Cond} {own : String} {y : MethodName} {ret : Option FieldType} {rm : Room} {D : va_G} {fl : Int64} {X : va_W} {tc : List (ClassId × FieldType)}
theorem jz_lval {x z : Int64} (h : x = z) (k : W p l e R s m args below meth c H locs cells slots Q (F0 m pc ls (.long z :: rest))) : W p l e R s m args below meth c H locs cells slots Q (F0 m pc ls (.long x :: rest)) := h ▸ k
theorem jz_pureSl (S : CallFix p m c cc nL s args Ts own) (hM : jzCl (U := Unit) l y wy rm D tc X As H.size (fun _ => X) (fun r _ => r = fl) 0 0) (cw : CallB R s args own index y bytes maxL ret wy rm 0 0 n ∧ (Cond.static y).before args s = true) (hN : jxNW s) (hP : va_P D vwCl X H) (hD : va_D A0 X) (hK : va_K D vwCl tc s) (hS : va_S A0 H0 H locs) (hA : ∀ q, H0.size ≤ q → A0 q)
    (hn : As.length = n) (hsize : ls.size = nL) (hstack : st0 = As.reverse ++ rest) (hW : (rest.map fun v => v.category).sum ≤ 8) (hdg : decode cc pc = .ok (.invokestatic index, 3)) (hf : cells ≤ R.cells ∧ slots ≤ R.slots)
    (kk : ∀ (H1 : Heap) (locs1 : List Loc), va_P D vwCl X H1 → va_S A0 H0 H1 locs1 → W p l e R s m args below meth c H1 locs1 cells slots Q (F0 m (pc + 3) ls (.long fl :: rest))) : W p l e R s m args below meth c H locs cells slots Q (F0 m pc ls st0) := by
  have hF := jz_free hD hS hA
  refine va_calll (va_runS S hM cw ⟨jxM_blind, fun V hV hW' => ⟨rfl, hN.warm hW', by rw [hV], by rw [hV]; exact hP, va_K.moved hW'.alike hK, hD.weaken (fun _ _ _ _ => trivial)⟩⟩ rfl hn hsize hstack (lv_room hW) hdg hf) hS (fun q _ h => hF q h) hF (fun r u t H1 locs1 ht hvm hw hB hz1 hk1 hS1 => ?_)
  have hB : va_P D vwCl X t.heap := hB
  rw [ht] at hB
  rw [show r = fl from hw]
  exact kk H1 locs1 hB hS1
end JZD
theorem z_X6_mixed (l : Launch) (D : va_G) (tys : List (ClassId × FieldType)) (X : va_W) (sz : Nat) (d9 v9 : Int64) : jzCl (U := Unit) l yX6_mixed wsX6_mixed ({ frames := 0, cells := 0, slots := 0, locals := 0 } : Room) D tys X [.long d9, .long v9] sz (fun _ => X) (fun r _ => r = d9 * 31 + v9) 0 0 :=
  jz_liftL (U := Unit) (XX := fun _ => X) (N := X.length) () (c_X6_mixed l D (fun _ => 0) sz d9 v9) [] (List.range X.length) rfl rfl rfl rfl rfl (fun k hk => Or.inr (List.mem_range.mpr hk)) (fun _ _ h => by cases h) (fun s h => h.sub [] rfl) (fun r h => h)
set_option maxRecDepth 20000 in
theorem in_X6_digest_6 : ∀ w ∈ wsX60, w ∈ wsX6_digest := by decide +kernel
set_option maxRecDepth 20000 in
theorem in_X6_digest_5 : ∀ w ∈ wsX50, w ∈ wsX6_digest := by decide +kernel
set_option maxRecDepth 20000 in
theorem in_X6_digest_1 : ∀ w ∈ wsX10, w ∈ wsX6_digest := by decide +kernel
set_option maxHeartbeats 1000000 in
set_option maxRecDepth 20000 in
theorem z_X6_digest (l : Launch) (D : va_G) (cI cO cM cL : ClassId) (g ro rt rd : Nat → Nat) (v : jZ) (t : jS) (sz : Nat) (hI : jzI v) (ht : jSok t)  : jzCl (U := jZ × jS) l yX6_digest wsX6_digest ({ frames := 8, cells := 0, slots := 0, locals := 200 } : Room) D (jzT cI cO cM cL) (jzX cI cO cM cL g ro rt rd v t) [.ref (g 60)] sz (fun u => jzX cI cO cM cL g ro rt rd u.1 u.2) (fun r u => jSok u.2 ∧ v = u.1 ∧ r = zDig v) 0 0 := by
  refine jz_enterL (by decide) rfl (Nat.le_of_ble_eq_true rfl) ?_
  intro p e s m args below meth c Q A ls hx hb hml hts hown hN hP hK hD hA hl hQ
  have hD0 := hD
  obtain ⟨H, hH⟩ : ∃ h, h = s.heap := ⟨_, rfl⟩
  have hS : va_S A s.heap H [] := by rw [hH]; exact va_S.rf
  rw [← hH] at hP ⊢
  obtain ⟨locs, hlocs⟩ : ∃ z : List Loc, z = [] := ⟨_, rfl⟩
  rw [← hlocs] at hS ⊢
  have hown : s.vm.findClass RX6 = some m.cls := hown
  have hl : lv_has ls 5 [(0, .ref (g 60))] := hl
  obtain ⟨hb1_v, hb2_v⟩ := jzI_b hI
  have hfq31 : zfq v < 2 ^ 31 := Nat.lt_of_le_of_lt hI.2.1.2.2.2.2.1 (by decide)
  have hft31 : zft v < 2 ^ 31 := Nat.lt_of_le_of_lt hI.2.1.2.2.2.2.2.1 (by decide)
  refine lv_ldc2 (v := (7901 : Int64)) hx hb hown (hts (.constantLong RX6 282 (7901)) (List.mem_of_getElem? (i := 1) (by decide +kernel))) dX6_digest_0 ?_
  refine lv_lstore_n (lv' := [(1, .long (7901 : Int64)), (0, .ref (g 60))]) hx hb dX6_digest_3 rfl hl (by decide) rfl (fun ls hl => ?_)
  refine lv_iconst (v := nI 0) hx hb dX6_digest_4 (by decide) ?_
  refine lv_istore_n (lv' := [(3, .int (nI 0)), (1, .long (7901 : Int64)), (0, .ref (g 60))]) hx hb dX6_digest_5 rfl hl (by decide) rfl (fun ls hl => ?_)
  have L6 : ∀ (k : Nat) (k1 : Nat) (tA : jS) (ht_tA : jSok tA) (hk1 : k1 ≤ 15), 15 - k1 < k → ∀ (H : Heap) (locs : List Loc), va_P D vwCl (jzX cI cO cM cL g ro rt rd v tA) H → va_S A s.heap H locs → ∀ ls : Array Slot, lv_has ls 5 [(0, .ref (g 60)), (1, .long (jzFo (jzNF v) k1 7901)), (3, .int (nI k1))] → W p l e ({ frames := 8, cells := 0, slots := 0, locals := 200 } : Room) s m args below meth c H locs 0 0 Q (F0 m 6 ls []) := by
    intro k
    induction k with
    | zero => intro k1 tA ht_tA hk1 hk; exact absurd hk (Nat.not_lt_zero _)
    | succ k ih6 =>
      intro k1 tA ht_tA hk1 hk H locs hP hS ls hl
      have hD : va_D A (jzX cI cO cM cL g ro rt rd v tA) := jzD_any hD0
      refine lv_iload_n hx hb dX6_digest_6 rfl (lv_at hl 2 rfl) ?_
      refine lv_bipush (v := nI 14) hx hb dX6_digest_7 (by decide) ?_
      refine lv_icmp_gt (tgt := 29) hx hb dX6_digest_9 (by decide) (fun c9 => ?_) (fun c9 => ?_)
      · have c9 : 14 < k1 := jx_lt (by decide) (by omega) c9
        have es_29 : 15 = k1 := (by omega)
        subst es_29
        refine lv_iconst (v := nI 0) hx hb dX6_digest_29 (by decide) ?_
        obtain ⟨d1, ed1⟩ : ∃ y : Int64, y = jzFo (jzNF v) 15 7901 := ⟨_, rfl⟩
        rw [← ed1] at hl
        refine lv_istore_n (lv' := [(3, .int (nI 0)), (0, .ref (g 60)), (1, .long d1)]) hx hb dX6_digest_30 rfl hl (by decide) rfl (fun ls hl => ?_)
        have L31 : ∀ (k : Nat) (q : Nat) (tB : jS) (ht_tB : jSok tB) (hq : q ≤ zP v), zP v - q < k → ∀ (H : Heap) (locs : List Loc), va_P D vwCl (jzX cI cO cM cL g ro rt rd v tB) H → va_S A s.heap H locs → ∀ ls : Array Slot, lv_has ls 5 [(0, .ref (g 60)), (1, .long (jzPFd v q d1)), (3, .int (nI q))] → W p l e ({ frames := 8, cells := 0, slots := 0, locals := 200 } : Room) s m args below meth c H locs 0 0 Q (F0 m 31 ls []) := by
          intro k
          induction k with
          | zero => intro q tB ht_tB hq hk; exact absurd hk (Nat.not_lt_zero _)
          | succ k ih31 =>
            intro q tB ht_tB hq hk H locs hP hS ls hl
            have hD : va_D A (jzX cI cO cM cL g ro rt rd v tB) := jzD_any hD0
            refine lv_iload_n hx hb dX6_digest_31 rfl (lv_at hl 2 rfl) ?_
            refine lv_aload_n hx hb dX6_digest_32 rfl (lv_at hl 0 rfl) ?_
            refine va_get (D := D) (ci := 6) (v := .ref (g 0)) (C := RX6) (T := TX6) (N := 7) hx hb hts in_X6_digest_6 hown hK hP 60 rfl rfl 0 (by decide) (hts (.fieldLink RX6 10 "Twincuts" "web" "LTwincuts$Web;") (List.mem_of_getElem? (i := 2) (by decide +kernel))) (fun _ h9 => h9) rfl dX6_digest_33 ?_
            refine va_getN (D := D) (ci := 5) (v := .int (nI (zP v))) (C := RX5) (T := TX5) (N := 8) hx hb hts in_X6_digest_5 hown hK hP 0 rfl rfl 0 (by decide) (hN.use 0 rfl) (fun _ h9 => h9) rfl dX6_digest_36 ?_
            refine lv_icmp_ge (tgt := 55) hx hb dX6_digest_39 (by decide) (fun c39 => ?_) (fun c39 => ?_)
            · have c39 : zP v ≤ q := jx_le (by omega) (by omega) c39
              have es_55 : q = (zP v) := (by omega)
              subst es_55
              refine lv_iconst (v := nI 0) hx hb dX6_digest_55 (by decide) ?_
              obtain ⟨d2, ed2⟩ : ∃ y : Int64, y = jzPFd v (zP v) d1 := ⟨_, rfl⟩
              rw [← ed2] at hl
              refine lv_istore_n (lv' := [(3, .int (nI 0)), (0, .ref (g 60)), (1, .long d2)]) hx hb dX6_digest_56 rfl hl (by decide) rfl (fun ls hl => ?_)
              have L57 : ∀ (k : Nat) (i : Nat) (tC : jS) (ht_tC : jSok tC) (hi : i ≤ zn v), zn v - i < k → ∀ (H : Heap) (locs : List Loc), va_P D vwCl (jzX cI cO cM cL g ro rt rd v tC) H → va_S A s.heap H locs → ∀ ls : Array Slot, lv_has ls 5 [(0, .ref (g 60)), (1, .long (jzLFd v i d2)), (3, .int (nI i))] → W p l e ({ frames := 8, cells := 0, slots := 0, locals := 200 } : Room) s m args below meth c H locs 0 0 Q (F0 m 57 ls []) := by
                intro k
                induction k with
                | zero => intro i tC ht_tC hi hk; exact absurd hk (Nat.not_lt_zero _)
                | succ k ih57 =>
                  intro i tC ht_tC hi hk H locs hP hS ls hl
                  have hD : va_D A (jzX cI cO cM cL g ro rt rd v tC) := jzD_any hD0
                  refine lv_iload_n hx hb dX6_digest_57 rfl (lv_at hl 2 rfl) ?_
                  refine lv_aload_n hx hb dX6_digest_58 rfl (lv_at hl 0 rfl) ?_
                  refine va_get (D := D) (ci := 6) (v := .ref (g 0)) (C := RX6) (T := TX6) (N := 7) hx hb hts in_X6_digest_6 hown hK hP 60 rfl rfl 0 (by decide) (hts (.fieldLink RX6 10 "Twincuts" "web" "LTwincuts$Web;") (List.mem_of_getElem? (i := 2) (by decide +kernel))) (fun _ h9 => h9) rfl dX6_digest_59 ?_
                  refine va_getN (D := D) (ci := 5) (v := .int (nI (zn v))) (C := RX5) (T := TX5) (N := 8) hx hb hts in_X6_digest_5 hown hK hP 0 rfl rfl 1 (by decide) (hN.use 8 rfl) (fun _ h9 => h9) rfl dX6_digest_62 ?_
                  refine lv_icmp_ge (tgt := 103) hx hb dX6_digest_65 (by decide) (fun c65 => ?_) (fun c65 => ?_)
                  · have c65 : zn v ≤ i := jx_le (by omega) (by omega) c65
                    have es_103 : i = (zn v) := (by omega)
                    subst es_103
                    refine lv_iconst (v := nI 0) hx hb dX6_digest_103 (by decide) ?_
                    obtain ⟨d3, ed3⟩ : ∃ y : Int64, y = jzLFd v (zn v) d2 := ⟨_, rfl⟩
                    rw [← ed3] at hl
                    refine lv_istore_n (lv' := [(3, .int (nI 0)), (0, .ref (g 60)), (1, .long d3)]) hx hb dX6_digest_104 rfl hl (by decide) rfl (fun ls hl => ?_)
                    have L105 : ∀ (k : Nat) (k2 : Nat) (tE : jS) (ht_tE : jSok tE) (hk2 : k2 ≤ zfq v), zfq v - k2 < k → ∀ (H : Heap) (locs : List Loc), va_P D vwCl (jzX cI cO cM cL g ro rt rd v tE) H → va_S A s.heap H locs → ∀ ls : Array Slot, lv_has ls 5 [(0, .ref (g 60)), (1, .long (jzVP v k2 d3)), (3, .int (nI k2))] → W p l e ({ frames := 8, cells := 0, slots := 0, locals := 200 } : Room) s m args below meth c H locs 0 0 Q (F0 m 105 ls []) := by
                      intro k
                      induction k with
                      | zero => intro k2 tE ht_tE hk2 hk; exact absurd hk (Nat.not_lt_zero _)
                      | succ k ih105 =>
                        intro k2 tE ht_tE hk2 hk H locs hP hS ls hl
                        have hD : va_D A (jzX cI cO cM cL g ro rt rd v tE) := jzD_any hD0
                        refine lv_iload_n hx hb dX6_digest_105 rfl (lv_at hl 2 rfl) ?_
                        refine lv_aload_n hx hb dX6_digest_106 rfl (lv_at hl 0 rfl) ?_
                        refine va_get (D := D) (ci := 6) (v := .ref (g 10)) (C := RX6) (T := TX6) (N := 7) hx hb hts in_X6_digest_6 hown hK hP 60 rfl rfl 1 (by decide) (hts (.fieldLink RX6 21 "Twincuts" "falls" "LTwincuts$Falls;") (List.mem_of_getElem? (i := 3) (by decide +kernel))) (fun _ h9 => h9) rfl dX6_digest_107 ?_
                        refine va_getN (D := D) (ci := 1) (v := .int (nI (zfq v))) (C := RX1) (T := TX1) (N := 15) hx hb hts in_X6_digest_1 hown hK hP 6 rfl rfl 5 (by decide) (hN.use 30 rfl) (fun _ h9 => h9) rfl dX6_digest_110 ?_
                        refine lv_icmp_ge (tgt := 144) hx hb dX6_digest_113 (by decide) (fun c113 => ?_) (fun c113 => ?_)
                        · have c113 : zfq v ≤ k2 := jx_le hfq31 (by omega) c113
                          have es_144 : k2 = (zfq v) := (by omega)
                          subst es_144
                          refine lv_iconst (v := nI 0) hx hb dX6_digest_144 (by decide) ?_
                          obtain ⟨d4, ed4⟩ : ∃ y : Int64, y = jzVP v (zfq v) d3 := ⟨_, rfl⟩
                          rw [← ed4] at hl
                          refine lv_istore_n (lv' := [(3, .int (nI 0)), (0, .ref (g 60)), (1, .long d4)]) hx hb dX6_digest_145 rfl hl (by decide) rfl (fun ls hl => ?_)
                          have L146 : ∀ (k : Nat) (k3 : Nat) (tF : jS) (ht_tF : jSok tF) (hk3 : k3 ≤ zft v), zft v - k3 < k → ∀ (H : Heap) (locs : List Loc), va_P D vwCl (jzX cI cO cM cL g ro rt rd v tF) H → va_S A s.heap H locs → ∀ ls : Array Slot, lv_has ls 5 [(0, .ref (g 60)), (1, .long (jzVT v k3 d4)), (3, .int (nI k3))] → W p l e ({ frames := 8, cells := 0, slots := 0, locals := 200 } : Room) s m args below meth c H locs 0 0 Q (F0 m 146 ls []) := by
                            intro k
                            induction k with
                            | zero => intro k3 tF ht_tF hk3 hk; exact absurd hk (Nat.not_lt_zero _)
                            | succ k ih146 =>
                              intro k3 tF ht_tF hk3 hk H locs hP hS ls hl
                              have hD : va_D A (jzX cI cO cM cL g ro rt rd v tF) := jzD_any hD0
                              refine lv_iload_n hx hb dX6_digest_146 rfl (lv_at hl 2 rfl) ?_
                              refine lv_aload_n hx hb dX6_digest_147 rfl (lv_at hl 0 rfl) ?_
                              refine va_get (D := D) (ci := 6) (v := .ref (g 10)) (C := RX6) (T := TX6) (N := 7) hx hb hts in_X6_digest_6 hown hK hP 60 rfl rfl 1 (by decide) (hts (.fieldLink RX6 21 "Twincuts" "falls" "LTwincuts$Falls;") (List.mem_of_getElem? (i := 3) (by decide +kernel))) (fun _ h9 => h9) rfl dX6_digest_148 ?_
                              refine va_getN (D := D) (ci := 1) (v := .int (nI (zft v))) (C := RX1) (T := TX1) (N := 15) hx hb hts in_X6_digest_1 hown hK hP 6 rfl rfl 6 (by decide) (hN.use 31 rfl) (fun _ h9 => h9) rfl dX6_digest_151 ?_
                              refine lv_icmp_ge (tgt := 185) hx hb dX6_digest_154 (by decide) (fun c154 => ?_) (fun c154 => ?_)
                              · have c154 : zft v ≤ k3 := jx_le hft31 (by omega) c154
                                have es_185 : k3 = (zft v) := (by omega)
                                subst es_185
                                refine lv_lload_n hx hb dX6_digest_185 rfl (lv_at hl 1 rfl) ?_
                                refine lv_aload_n hx hb dX6_digest_186 rfl (lv_at hl 0 rfl) ?_
                                refine jz_askVl (v := v) (t := tF) (As := []) (rest := [.long (jzVT v (zft v) d4)]) ⟨hx, hb, hml, hown, hts⟩ (z_X6_trees l D cI cO cM cL g ro rt rd v tF _ (by assumption) (by assumption) ) (cwV 0 hts gX6_digest_X6_trees rfl rfl rfl (by decide +kernel) ⟨Nat.le_of_ble_eq_true rfl, Nat.le_of_ble_eq_true rfl⟩) hN hP hD hK hS hA rfl hl.1 rfl (Nat.le_of_ble_eq_true rfl) dX6_digest_187 ⟨Nat.zero_le _, Nat.zero_le _⟩ (fun t_1 H locs ht_t_1 hP hD hS => ?_)
                                refine jz_pureSl (X := jzX cI cO cM cL g ro rt rd v t_1) (As := [.long (jzVT v (zft v) d4), .long ((jmTrees (zsm v) (zgr v) (zP v) (zn v) (zst v)).1)]) (rest := []) (fl := (jzVT v (zft v) d4) * 31 + ((jmTrees (zsm v) (zgr v) (zP v) (zn v) (zst v)).1)) ⟨hx, hb, hml, hown, hts⟩ (z_X6_mixed l D (jzT cI cO cM cL) (jzX cI cO cM cL g ro rt rd v t_1) _ (jzVT v (zft v) d4) ((jmTrees (zsm v) (zgr v) (zP v) (zn v) (zst v)).1)) (va_cwS 2 hts gX6_digest_X6_mixed rfl rfl rfl (by decide +kernel) ⟨Nat.le_of_ble_eq_true rfl, Nat.le_of_ble_eq_true rfl⟩) hN hP hD hK hS hA rfl hl.1 rfl (Nat.le_of_ble_eq_true rfl) dX6_digest_190 ⟨Nat.zero_le _, Nat.zero_le _⟩ (fun H locs hP hS => ?_)
                                refine lv_lstore_n (lv' := [(1, .long ((jzVT v (zft v) d4) * 31 + ((jmTrees (zsm v) (zgr v) (zP v) (zn v) (zst v)).1))), (0, .ref (g 60)), (3, .int (nI (zft v)))]) hx hb dX6_digest_193 rfl hl (by decide) rfl (fun ls hl => ?_)
                                refine lv_lload_n hx hb dX6_digest_194 rfl (lv_at hl 0 rfl) ?_
                                refine lv_aload_n hx hb dX6_digest_195 rfl (lv_at hl 1 rfl) ?_
                                refine jz_askVi (v := v) (t := t_1) (As := []) (rest := [.long ((jzVT v (zft v) d4) * 31 + ((jmTrees (zsm v) (zgr v) (zP v) (zn v) (zst v)).1))]) ⟨hx, hb, hml, hown, hts⟩ (z_X6_isSound l D cI cO cM cL g ro rt rd v t_1 _ (by assumption) (by assumption) ) (cwV 0 hts gX6_digest_X6_isSound rfl rfl rfl (by decide +kernel) ⟨Nat.le_of_ble_eq_true rfl, Nat.le_of_ble_eq_true rfl⟩) hN hP hD hK hS hA rfl hl.1 rfl (Nat.le_of_ble_eq_true rfl) dX6_digest_196 ⟨Nat.zero_le _, Nat.zero_le _⟩ (fun t_2 H locs ht_t_2 hP hD hS => ?_)
                                refine lv_if_eq (tgt := 206) hx hb dX6_digest_199 (by decide) (fun c => absurd c (by decide)) (fun _ => ?_)
                                refine lv_lconst (v := (1 : Int64)) hx hb dX6_digest_202 (by decide) ?_
                                refine lv_goto (tgt := 207) hx hb dX6_digest_203 (by decide) ?_
                                refine jz_pureSl (X := jzX cI cO cM cL g ro rt rd v t_2) (As := [.long ((jzVT v (zft v) d4) * 31 + ((jmTrees (zsm v) (zgr v) (zP v) (zn v) (zst v)).1)), .long (1 : Int64)]) (rest := []) (fl := ((jzVT v (zft v) d4) * 31 + ((jmTrees (zsm v) (zgr v) (zP v) (zn v) (zst v)).1)) * 31 + (1 : Int64)) ⟨hx, hb, hml, hown, hts⟩ (z_X6_mixed l D (jzT cI cO cM cL) (jzX cI cO cM cL g ro rt rd v t_2) _ ((jzVT v (zft v) d4) * 31 + ((jmTrees (zsm v) (zgr v) (zP v) (zn v) (zst v)).1)) (1 : Int64)) (va_cwS 2 hts gX6_digest_X6_mixed rfl rfl rfl (by decide +kernel) ⟨Nat.le_of_ble_eq_true rfl, Nat.le_of_ble_eq_true rfl⟩) hN hP hD hK hS hA rfl hl.1 rfl (Nat.le_of_ble_eq_true rfl) dX6_digest_207 ⟨Nat.zero_le _, Nat.zero_le _⟩ (fun H locs hP hS => ?_)
                                exact hQ (((jzVT v (zft v) d4) * 31 + ((jmTrees (zsm v) (zgr v) (zP v) (zn v) (zst v)).1)) * 31 + (1 : Int64)) (v, t_2) H locs _ _ dX6_digest_210 (show jSok t_2 ∧ v = v ∧ (((jzVT v (zft v) d4) * 31 + ((jmTrees (zsm v) (zgr v) (zP v) (zn v) (zst v)).1)) * 31 + (1 : Int64)) = zDig v from ⟨by assumption, rfl, by rw [ed4, ed3, ed2, ed1]; rfl⟩) hP hS
                              · have c154 : k3 < zft v := jx_nle hft31 (by omega) c154
                                refine lv_lload_n hx hb dX6_digest_157 rfl (lv_at hl 1 rfl) ?_
                                refine lv_aload_n hx hb dX6_digest_158 rfl (lv_at hl 0 rfl) ?_
                                refine lv_iload_n hx hb dX6_digest_159 rfl (lv_at hl 2 rfl) ?_
                                refine lv_iconst (v := nI 0) hx hb dX6_digest_160 (by decide) ?_
                                refine jz_askVi (v := v) (t := tF) (As := [.int (nI k3), .int (nI 0)]) (rest := [.long (jzVT v k3 d4)]) ⟨hx, hb, hml, hown, hts⟩ (z_X6_twin l D cI cO cM cL g ro rt rd v tF _ (by assumption) (by assumption) k3 false (by omega)) (cwV 2 hts gX6_digest_X6_twin rfl rfl rfl (by decide +kernel) ⟨Nat.le_of_ble_eq_true rfl, Nat.le_of_ble_eq_true rfl⟩) hN hP hD hK hS hA rfl hl.1 rfl (Nat.le_of_ble_eq_true rfl) dX6_digest_161 ⟨Nat.zero_le _, Nat.zero_le _⟩ (fun t_3 H locs ht_t_3 hP hD hS => ?_)
                                refine lv_i2l (v := ((jmPV (zft v) (zsw v) (zgw v) k3 false)).toInt64) hx hb dX6_digest_164 rfl ?_
                                refine jz_pureSl (X := jzX cI cO cM cL g ro rt rd v t_3) (As := [.long (jzVT v k3 d4), .long (((jmPV (zft v) (zsw v) (zgw v) k3 false)).toInt64)]) (rest := []) (fl := (jzVT v k3 d4) * 31 + (((jmPV (zft v) (zsw v) (zgw v) k3 false)).toInt64)) ⟨hx, hb, hml, hown, hts⟩ (z_X6_mixed l D (jzT cI cO cM cL) (jzX cI cO cM cL g ro rt rd v t_3) _ (jzVT v k3 d4) (((jmPV (zft v) (zsw v) (zgw v) k3 false)).toInt64)) (va_cwS 2 hts gX6_digest_X6_mixed rfl rfl rfl (by decide +kernel) ⟨Nat.le_of_ble_eq_true rfl, Nat.le_of_ble_eq_true rfl⟩) hN hP hD hK hS hA rfl hl.1 rfl (Nat.le_of_ble_eq_true rfl) dX6_digest_165 ⟨Nat.zero_le _, Nat.zero_le _⟩ (fun H locs hP hS => ?_)
                                refine lv_aload_n hx hb dX6_digest_168 rfl (lv_at hl 0 rfl) ?_
                                refine lv_iload_n hx hb dX6_digest_169 rfl (lv_at hl 2 rfl) ?_
                                refine lv_iconst (v := nI 1) hx hb dX6_digest_170 (by decide) ?_
                                refine jz_askVi (v := v) (t := t_3) (As := [.int (nI k3), .int (nI 1)]) (rest := [.long ((jzVT v k3 d4) * 31 + (((jmPV (zft v) (zsw v) (zgw v) k3 false)).toInt64))]) ⟨hx, hb, hml, hown, hts⟩ (z_X6_twin l D cI cO cM cL g ro rt rd v t_3 _ (by assumption) (by assumption) k3 true (by omega)) (cwV 2 hts gX6_digest_X6_twin rfl rfl rfl (by decide +kernel) ⟨Nat.le_of_ble_eq_true rfl, Nat.le_of_ble_eq_true rfl⟩) hN hP hD hK hS hA rfl hl.1 rfl (Nat.le_of_ble_eq_true rfl) dX6_digest_171 ⟨Nat.zero_le _, Nat.zero_le _⟩ (fun t_4 H locs ht_t_4 hP hD hS => ?_)
                                refine lv_i2l (v := ((jmPV (zft v) (zsw v) (zgw v) k3 true)).toInt64) hx hb dX6_digest_174 rfl ?_
                                refine jz_pureSl (X := jzX cI cO cM cL g ro rt rd v t_4) (As := [.long ((jzVT v k3 d4) * 31 + (((jmPV (zft v) (zsw v) (zgw v) k3 false)).toInt64)), .long (((jmPV (zft v) (zsw v) (zgw v) k3 true)).toInt64)]) (rest := []) (fl := ((jzVT v k3 d4) * 31 + (((jmPV (zft v) (zsw v) (zgw v) k3 false)).toInt64)) * 31 + (((jmPV (zft v) (zsw v) (zgw v) k3 true)).toInt64)) ⟨hx, hb, hml, hown, hts⟩ (z_X6_mixed l D (jzT cI cO cM cL) (jzX cI cO cM cL g ro rt rd v t_4) _ ((jzVT v k3 d4) * 31 + (((jmPV (zft v) (zsw v) (zgw v) k3 false)).toInt64)) (((jmPV (zft v) (zsw v) (zgw v) k3 true)).toInt64)) (va_cwS 2 hts gX6_digest_X6_mixed rfl rfl rfl (by decide +kernel) ⟨Nat.le_of_ble_eq_true rfl, Nat.le_of_ble_eq_true rfl⟩) hN hP hD hK hS hA rfl hl.1 rfl (Nat.le_of_ble_eq_true rfl) dX6_digest_175 ⟨Nat.zero_le _, Nat.zero_le _⟩ (fun H locs hP hS => ?_)
                                refine lv_lstore_n (lv' := [(1, .long (((jzVT v k3 d4) * 31 + (((jmPV (zft v) (zsw v) (zgw v) k3 false)).toInt64)) * 31 + (((jmPV (zft v) (zsw v) (zgw v) k3 true)).toInt64))), (0, .ref (g 60)), (3, .int (nI k3))]) hx hb dX6_digest_178 rfl hl (by decide) rfl (fun ls hl => ?_)
                                refine lv_iinc (v := nI (k3 + 1)) (lv' := [(3, .int (nI (k3 + 1))), (1, .long (((jzVT v k3 d4) * 31 + (((jmPV (zft v) (zsw v) (zgw v) k3 false)).toInt64)) * 31 + (((jmPV (zft v) (zsw v) (zgw v) k3 true)).toInt64))), (0, .ref (g 60))]) hx hb dX6_digest_179 hl (k := 2) rfl (jx_inc _) (by decide) rfl (fun ls hl => ?_)
                                refine lv_goto (tgt := 146) hx hb dX6_digest_182 (by decide) ?_
                                have ev_5 : ((jzVT v k3 d4) * 31 + (((jmPV (zft v) (zsw v) (zgw v) k3 false)).toInt64)) * 31 + (((jmPV (zft v) (zsw v) (zgw v) k3 true)).toInt64) = jzVT v (k3 + 1) d4 := by rfl
                                exact ih146 (k3 + 1) t_4 (by assumption) (by omega) (by omega) H locs hP hS ls (by rw [← ev_5]; exact lv_sub hl [2, 1, 0] rfl)
                          have ev_6 : d4 = jzVT v 0 d4 := by rfl
                          exact L146 ((zft v - 0) + 1) 0 tE (by assumption) (by omega) (Nat.lt_succ_self _) H locs hP hS ls (by rw [← ev_6]; exact lv_sub hl [1, 2, 0] rfl)
                        · have c113 : k2 < zfq v := jx_nle hfq31 (by omega) c113
                          refine lv_lload_n hx hb dX6_digest_116 rfl (lv_at hl 1 rfl) ?_
                          refine lv_aload_n hx hb dX6_digest_117 rfl (lv_at hl 0 rfl) ?_
                          refine lv_iload_n hx hb dX6_digest_118 rfl (lv_at hl 2 rfl) ?_
                          refine lv_iconst (v := nI 0) hx hb dX6_digest_119 (by decide) ?_
                          refine jz_askVi (v := v) (t := tE) (As := [.int (nI k2), .int (nI 0)]) (rest := [.long (jzVP v k2 d3)]) ⟨hx, hb, hml, hown, hts⟩ (z_X6_pair l D cI cO cM cL g ro rt rd v tE _ (by assumption) (by assumption) k2 false (by omega)) (cwV 2 hts gX6_digest_X6_pair rfl rfl rfl (by decide +kernel) ⟨Nat.le_of_ble_eq_true rfl, Nat.le_of_ble_eq_true rfl⟩) hN hP hD hK hS hA rfl hl.1 rfl (Nat.le_of_ble_eq_true rfl) dX6_digest_120 ⟨Nat.zero_le _, Nat.zero_le _⟩ (fun t_7 H locs ht_t_7 hP hD hS => ?_)
                          refine lv_i2l (v := ((jmPV (zfq v) (zsp v) (zgp v) k2 false)).toInt64) hx hb dX6_digest_123 rfl ?_
                          refine jz_pureSl (X := jzX cI cO cM cL g ro rt rd v t_7) (As := [.long (jzVP v k2 d3), .long (((jmPV (zfq v) (zsp v) (zgp v) k2 false)).toInt64)]) (rest := []) (fl := (jzVP v k2 d3) * 31 + (((jmPV (zfq v) (zsp v) (zgp v) k2 false)).toInt64)) ⟨hx, hb, hml, hown, hts⟩ (z_X6_mixed l D (jzT cI cO cM cL) (jzX cI cO cM cL g ro rt rd v t_7) _ (jzVP v k2 d3) (((jmPV (zfq v) (zsp v) (zgp v) k2 false)).toInt64)) (va_cwS 2 hts gX6_digest_X6_mixed rfl rfl rfl (by decide +kernel) ⟨Nat.le_of_ble_eq_true rfl, Nat.le_of_ble_eq_true rfl⟩) hN hP hD hK hS hA rfl hl.1 rfl (Nat.le_of_ble_eq_true rfl) dX6_digest_124 ⟨Nat.zero_le _, Nat.zero_le _⟩ (fun H locs hP hS => ?_)
                          refine lv_aload_n hx hb dX6_digest_127 rfl (lv_at hl 0 rfl) ?_
                          refine lv_iload_n hx hb dX6_digest_128 rfl (lv_at hl 2 rfl) ?_
                          refine lv_iconst (v := nI 1) hx hb dX6_digest_129 (by decide) ?_
                          refine jz_askVi (v := v) (t := t_7) (As := [.int (nI k2), .int (nI 1)]) (rest := [.long ((jzVP v k2 d3) * 31 + (((jmPV (zfq v) (zsp v) (zgp v) k2 false)).toInt64))]) ⟨hx, hb, hml, hown, hts⟩ (z_X6_pair l D cI cO cM cL g ro rt rd v t_7 _ (by assumption) (by assumption) k2 true (by omega)) (cwV 2 hts gX6_digest_X6_pair rfl rfl rfl (by decide +kernel) ⟨Nat.le_of_ble_eq_true rfl, Nat.le_of_ble_eq_true rfl⟩) hN hP hD hK hS hA rfl hl.1 rfl (Nat.le_of_ble_eq_true rfl) dX6_digest_130 ⟨Nat.zero_le _, Nat.zero_le _⟩ (fun t_8 H locs ht_t_8 hP hD hS => ?_)
                          refine lv_i2l (v := ((jmPV (zfq v) (zsp v) (zgp v) k2 true)).toInt64) hx hb dX6_digest_133 rfl ?_
                          refine jz_pureSl (X := jzX cI cO cM cL g ro rt rd v t_8) (As := [.long ((jzVP v k2 d3) * 31 + (((jmPV (zfq v) (zsp v) (zgp v) k2 false)).toInt64)), .long (((jmPV (zfq v) (zsp v) (zgp v) k2 true)).toInt64)]) (rest := []) (fl := ((jzVP v k2 d3) * 31 + (((jmPV (zfq v) (zsp v) (zgp v) k2 false)).toInt64)) * 31 + (((jmPV (zfq v) (zsp v) (zgp v) k2 true)).toInt64)) ⟨hx, hb, hml, hown, hts⟩ (z_X6_mixed l D (jzT cI cO cM cL) (jzX cI cO cM cL g ro rt rd v t_8) _ ((jzVP v k2 d3) * 31 + (((jmPV (zfq v) (zsp v) (zgp v) k2 false)).toInt64)) (((jmPV (zfq v) (zsp v) (zgp v) k2 true)).toInt64)) (va_cwS 2 hts gX6_digest_X6_mixed rfl rfl rfl (by decide +kernel) ⟨Nat.le_of_ble_eq_true rfl, Nat.le_of_ble_eq_true rfl⟩) hN hP hD hK hS hA rfl hl.1 rfl (Nat.le_of_ble_eq_true rfl) dX6_digest_134 ⟨Nat.zero_le _, Nat.zero_le _⟩ (fun H locs hP hS => ?_)
                          refine lv_lstore_n (lv' := [(1, .long (((jzVP v k2 d3) * 31 + (((jmPV (zfq v) (zsp v) (zgp v) k2 false)).toInt64)) * 31 + (((jmPV (zfq v) (zsp v) (zgp v) k2 true)).toInt64))), (0, .ref (g 60)), (3, .int (nI k2))]) hx hb dX6_digest_137 rfl hl (by decide) rfl (fun ls hl => ?_)
                          refine lv_iinc (v := nI (k2 + 1)) (lv' := [(3, .int (nI (k2 + 1))), (1, .long (((jzVP v k2 d3) * 31 + (((jmPV (zfq v) (zsp v) (zgp v) k2 false)).toInt64)) * 31 + (((jmPV (zfq v) (zsp v) (zgp v) k2 true)).toInt64))), (0, .ref (g 60))]) hx hb dX6_digest_138 hl (k := 2) rfl (jx_inc _) (by decide) rfl (fun ls hl => ?_)
                          refine lv_goto (tgt := 105) hx hb dX6_digest_141 (by decide) ?_
                          have ev_9 : ((jzVP v k2 d3) * 31 + (((jmPV (zfq v) (zsp v) (zgp v) k2 false)).toInt64)) * 31 + (((jmPV (zfq v) (zsp v) (zgp v) k2 true)).toInt64) = jzVP v (k2 + 1) d3 := by rfl
                          exact ih105 (k2 + 1) t_8 (by assumption) (by omega) (by omega) H locs hP hS ls (by rw [← ev_9]; exact lv_sub hl [2, 1, 0] rfl)
                    have ev_10 : d3 = jzVP v 0 d3 := by rfl
                    exact L105 ((zfq v - 0) + 1) 0 tC (by assumption) (by omega) (Nat.lt_succ_self _) H locs hP hS ls (by rw [← ev_10]; exact lv_sub hl [1, 2, 0] rfl)
                  · have c65 : i < zn v := jx_nle (by omega) (by omega) c65
                    refine lv_iconst (v := nI 0) hx hb dX6_digest_68 (by decide) ?_
                    refine lv_istore (lv' := [(4, .int (nI 0)), (0, .ref (g 60)), (1, .long (jzLFd v i d2)), (3, .int (nI i))]) hx hb dX6_digest_69 hl (by decide) rfl (fun ls hl => ?_)
                    have L71 : ∀ (k : Nat) (w9 : Nat) (tD : jS) (ht_tD : jSok tD) (hw9 : w9 ≤ 9), 9 - w9 < k → ∀ (H : Heap) (locs : List Loc), va_P D vwCl (jzX cI cO cM cL g ro rt rd v tD) H → va_S A s.heap H locs → ∀ ls : Array Slot, lv_has ls 5 [(0, .ref (g 60)), (1, .long (jzFo (jzLFw v i) w9 (jzLFd v i d2))), (3, .int (nI i)), (4, .int (nI w9))] → W p l e ({ frames := 8, cells := 0, slots := 0, locals := 200 } : Room) s m args below meth c H locs 0 0 Q (F0 m 71 ls []) := by
                      intro k
                      induction k with
                      | zero => intro w9 tD ht_tD hw9 hk; exact absurd hk (Nat.not_lt_zero _)
                      | succ k ih71 =>
                        intro w9 tD ht_tD hw9 hk H locs hP hS ls hl
                        have hD : va_D A (jzX cI cO cM cL g ro rt rd v tD) := jzD_any hD0
                        refine lv_iload hx hb dX6_digest_71 (lv_at hl 3 rfl) ?_
                        refine lv_bipush (v := nI 8) hx hb dX6_digest_73 (by decide) ?_
                        refine lv_icmp_gt (tgt := 97) hx hb dX6_digest_75 (by decide) (fun c75 => ?_) (fun c75 => ?_)
                        · have c75 : 8 < w9 := jx_lt (by decide) (by omega) c75
                          have es_97 : 9 = w9 := (by omega)
                          subst es_97
                          refine lv_iinc (v := nI (i + 1)) (lv' := [(3, .int (nI (i + 1))), (0, .ref (g 60)), (1, .long (jzFo (jzLFw v i) 9 (jzLFd v i d2))), (4, .int (nI 9))]) hx hb dX6_digest_97 hl (k := 2) rfl (jx_inc _) (by decide) rfl (fun ls hl => ?_)
                          refine lv_goto (tgt := 57) hx hb dX6_digest_100 (by decide) ?_
                          have ev_11 : jzFo (jzLFw v i) 9 (jzLFd v i d2) = jzLFd v (i + 1) d2 := by rfl
                          exact ih57 (i + 1) tD (by assumption) (by omega) (by omega) H locs hP hS ls (by rw [← ev_11]; exact lv_sub hl [1, 2, 0] rfl)
                        · have c75 : w9 ≤ 8 := jx_nlt (by decide) (by omega) c75
                          refine lv_lload_n hx hb dX6_digest_78 rfl (lv_at hl 1 rfl) ?_
                          refine lv_aload_n hx hb dX6_digest_79 rfl (lv_at hl 0 rfl) ?_
                          refine lv_iload_n hx hb dX6_digest_80 rfl (lv_at hl 2 rfl) ?_
                          refine lv_iload hx hb dX6_digest_81 (lv_at hl 3 rfl) ?_
                          refine jz_askVi (v := v) (t := tD) (As := [.int (nI i), .int (nI w9)]) (rest := [.long (jzFo (jzLFw v i) w9 (jzLFd v i d2))]) ⟨hx, hb, hml, hown, hts⟩ (z_X6_ofLine l D cI cO cM cL g ro rt rd v tD _ (by assumption) (by assumption) i (by omega) w9 (by omega)) (cwV 2 hts gX6_digest_X6_ofLine rfl rfl rfl (by decide +kernel) ⟨Nat.le_of_ble_eq_true rfl, Nat.le_of_ble_eq_true rfl⟩) hN hP hD hK hS hA rfl hl.1 rfl (Nat.le_of_ble_eq_true rfl) dX6_digest_83 ⟨Nat.zero_le _, Nat.zero_le _⟩ (fun t_12 H locs ht_t_12 hP hD hS => ?_)
                          refine lv_i2l (v := ((jmOfL (zsm v) (zgr v) (zco v) (zst v) (zfb v) (zbl v) (zcs v) (zfa v) i w9)).toInt64) hx hb dX6_digest_86 rfl ?_
                          refine jz_pureSl (X := jzX cI cO cM cL g ro rt rd v t_12) (As := [.long (jzFo (jzLFw v i) w9 (jzLFd v i d2)), .long (((jmOfL (zsm v) (zgr v) (zco v) (zst v) (zfb v) (zbl v) (zcs v) (zfa v) i w9)).toInt64)]) (rest := []) (fl := (jzFo (jzLFw v i) w9 (jzLFd v i d2)) * 31 + (((jmOfL (zsm v) (zgr v) (zco v) (zst v) (zfb v) (zbl v) (zcs v) (zfa v) i w9)).toInt64)) ⟨hx, hb, hml, hown, hts⟩ (z_X6_mixed l D (jzT cI cO cM cL) (jzX cI cO cM cL g ro rt rd v t_12) _ (jzFo (jzLFw v i) w9 (jzLFd v i d2)) (((jmOfL (zsm v) (zgr v) (zco v) (zst v) (zfb v) (zbl v) (zcs v) (zfa v) i w9)).toInt64)) (va_cwS 2 hts gX6_digest_X6_mixed rfl rfl rfl (by decide +kernel) ⟨Nat.le_of_ble_eq_true rfl, Nat.le_of_ble_eq_true rfl⟩) hN hP hD hK hS hA rfl hl.1 rfl (Nat.le_of_ble_eq_true rfl) dX6_digest_87 ⟨Nat.zero_le _, Nat.zero_le _⟩ (fun H locs hP hS => ?_)
                          refine lv_lstore_n (lv' := [(1, .long ((jzFo (jzLFw v i) w9 (jzLFd v i d2)) * 31 + (((jmOfL (zsm v) (zgr v) (zco v) (zst v) (zfb v) (zbl v) (zcs v) (zfa v) i w9)).toInt64))), (0, .ref (g 60)), (3, .int (nI i)), (4, .int (nI w9))]) hx hb dX6_digest_90 rfl hl (by decide) rfl (fun ls hl => ?_)
                          refine lv_iinc (v := nI (w9 + 1)) (lv' := [(4, .int (nI (w9 + 1))), (1, .long ((jzFo (jzLFw v i) w9 (jzLFd v i d2)) * 31 + (((jmOfL (zsm v) (zgr v) (zco v) (zst v) (zfb v) (zbl v) (zcs v) (zfa v) i w9)).toInt64))), (0, .ref (g 60)), (3, .int (nI i))]) hx hb dX6_digest_91 hl (k := 3) rfl (jx_inc _) (by decide) rfl (fun ls hl => ?_)
                          refine lv_goto (tgt := 71) hx hb dX6_digest_94 (by decide) ?_
                          have ev_13 : (jzFo (jzLFw v i) w9 (jzLFd v i d2)) * 31 + (((jmOfL (zsm v) (zgr v) (zco v) (zst v) (zfb v) (zbl v) (zcs v) (zfa v) i w9)).toInt64) = jzFo (jzLFw v i) (w9 + 1) (jzLFd v i d2) := by rfl
                          exact ih71 (w9 + 1) t_12 (by assumption) (by omega) (by omega) H locs hP hS ls (by rw [← ev_13]; exact lv_sub hl [2, 1, 3, 0] rfl)
                    have ev_14 : jzLFd v i d2 = jzFo (jzLFw v i) 0 (jzLFd v i d2) := by rfl
                    exact L71 ((9 - 0) + 1) 0 tC (by assumption) (by omega) (Nat.lt_succ_self _) H locs hP hS ls (by rw [← ev_14]; exact lv_sub hl [1, 2, 3, 0] rfl)
              have ev_15 : d2 = jzLFd v 0 d2 := by rfl
              exact L57 ((zn v - 0) + 1) 0 tB (by assumption) (by omega) (Nat.lt_succ_self _) H locs hP hS ls (by rw [← ev_15]; exact lv_sub hl [1, 2, 0] rfl)
            · have c39 : q < zP v := jx_nle (by omega) (by omega) c39
              refine lv_aload_n hx hb dX6_digest_42 rfl (lv_at hl 0 rfl) ?_
              refine lv_lload_n hx hb dX6_digest_43 rfl (lv_at hl 1 rfl) ?_
              refine lv_iload_n hx hb dX6_digest_44 rfl (lv_at hl 2 rfl) ?_
              refine jz_askVl (v := v) (t := tB) (As := [.long (jzPFd v q d1), .int (nI q)]) (rest := []) ⟨hx, hb, hml, hown, hts⟩ (z_X6_mixedPoint l D cI cO cM cL g ro rt rd v tB _ (by assumption) (by assumption) (jzPFd v q d1) q (by omega)) (cwV 2 hts gX6_digest_X6_mixedPoint rfl rfl rfl (by decide +kernel) ⟨Nat.le_of_ble_eq_true rfl, Nat.le_of_ble_eq_true rfl⟩) hN hP hD hK hS hA rfl hl.1 rfl (Nat.le_of_ble_eq_true rfl) dX6_digest_45 ⟨Nat.zero_le _, Nat.zero_le _⟩ (fun t_16 H locs ht_t_16 hP hD hS => ?_)
              refine jz_lval (z := jzMP v q (jzPFd v q d1)) rfl ?_
              refine lv_lstore_n (lv' := [(1, .long (jzMP v q (jzPFd v q d1))), (0, .ref (g 60)), (3, .int (nI q))]) hx hb dX6_digest_48 rfl hl (by decide) rfl (fun ls hl => ?_)
              refine lv_iinc (v := nI (q + 1)) (lv' := [(3, .int (nI (q + 1))), (1, .long (jzMP v q (jzPFd v q d1))), (0, .ref (g 60))]) hx hb dX6_digest_49 hl (k := 2) rfl (jx_inc _) (by decide) rfl (fun ls hl => ?_)
              refine lv_goto (tgt := 31) hx hb dX6_digest_52 (by decide) ?_
              have ev_17 : jzMP v q (jzPFd v q d1) = jzPFd v (q + 1) d1 := by rfl
              exact ih31 (q + 1) t_16 (by assumption) (by omega) (by omega) H locs hP hS ls (by rw [← ev_17]; exact lv_sub hl [2, 1, 0] rfl)
        have ev_18 : d1 = jzPFd v 0 d1 := by rfl
        exact L31 ((zP v - 0) + 1) 0 tA (by assumption) (by omega) (Nat.lt_succ_self _) H locs hP hS ls (by rw [← ev_18]; exact lv_sub hl [1, 2, 0] rfl)
      · have c9 : k1 ≤ 14 := jx_nlt (by decide) (by omega) c9
        refine lv_lload_n hx hb dX6_digest_12 rfl (lv_at hl 1 rfl) ?_
        refine lv_aload_n hx hb dX6_digest_13 rfl (lv_at hl 0 rfl) ?_
        refine lv_iload_n hx hb dX6_digest_14 rfl (lv_at hl 2 rfl) ?_
        refine jz_askVi (v := v) (t := tA) (As := [.int (nI k1)]) (rest := [.long (jzFo (jzNF v) k1 7901)]) ⟨hx, hb, hml, hown, hts⟩ (z_X6_net l D cI cO cM cL g ro rt rd v tA _ (by assumption) (by assumption) k1 (by omega)) (cwV 1 hts gX6_digest_X6_net rfl rfl rfl (by decide +kernel) ⟨Nat.le_of_ble_eq_true rfl, Nat.le_of_ble_eq_true rfl⟩) hN hP hD hK hS hA rfl hl.1 rfl (Nat.le_of_ble_eq_true rfl) dX6_digest_15 ⟨Nat.zero_le _, Nat.zero_le _⟩ (fun t_19 H locs ht_t_19 hP hD hS => ?_)
        refine lv_i2l (v := ((jmNet (zen v) (zla v) (zP v) (zn v) (zst v) (zfp v) (zfb v) (zfc v) (zfk v) (zfq v) (zft v) (zct v) (zpk v) (zwk v) (zrf v) k1)).toInt64) hx hb dX6_digest_18 rfl ?_
        refine jz_pureSl (X := jzX cI cO cM cL g ro rt rd v t_19) (As := [.long (jzFo (jzNF v) k1 7901), .long (((jmNet (zen v) (zla v) (zP v) (zn v) (zst v) (zfp v) (zfb v) (zfc v) (zfk v) (zfq v) (zft v) (zct v) (zpk v) (zwk v) (zrf v) k1)).toInt64)]) (rest := []) (fl := (jzFo (jzNF v) k1 7901) * 31 + (((jmNet (zen v) (zla v) (zP v) (zn v) (zst v) (zfp v) (zfb v) (zfc v) (zfk v) (zfq v) (zft v) (zct v) (zpk v) (zwk v) (zrf v) k1)).toInt64)) ⟨hx, hb, hml, hown, hts⟩ (z_X6_mixed l D (jzT cI cO cM cL) (jzX cI cO cM cL g ro rt rd v t_19) _ (jzFo (jzNF v) k1 7901) (((jmNet (zen v) (zla v) (zP v) (zn v) (zst v) (zfp v) (zfb v) (zfc v) (zfk v) (zfq v) (zft v) (zct v) (zpk v) (zwk v) (zrf v) k1)).toInt64)) (va_cwS 2 hts gX6_digest_X6_mixed rfl rfl rfl (by decide +kernel) ⟨Nat.le_of_ble_eq_true rfl, Nat.le_of_ble_eq_true rfl⟩) hN hP hD hK hS hA rfl hl.1 rfl (Nat.le_of_ble_eq_true rfl) dX6_digest_19 ⟨Nat.zero_le _, Nat.zero_le _⟩ (fun H locs hP hS => ?_)
        refine lv_lstore_n (lv' := [(1, .long ((jzFo (jzNF v) k1 7901) * 31 + (((jmNet (zen v) (zla v) (zP v) (zn v) (zst v) (zfp v) (zfb v) (zfc v) (zfk v) (zfq v) (zft v) (zct v) (zpk v) (zwk v) (zrf v) k1)).toInt64))), (0, .ref (g 60)), (3, .int (nI k1))]) hx hb dX6_digest_22 rfl hl (by decide) rfl (fun ls hl => ?_)
        refine lv_iinc (v := nI (k1 + 1)) (lv' := [(3, .int (nI (k1 + 1))), (1, .long ((jzFo (jzNF v) k1 7901) * 31 + (((jmNet (zen v) (zla v) (zP v) (zn v) (zst v) (zfp v) (zfb v) (zfc v) (zfk v) (zfq v) (zft v) (zct v) (zpk v) (zwk v) (zrf v) k1)).toInt64))), (0, .ref (g 60))]) hx hb dX6_digest_23 hl (k := 2) rfl (jx_inc _) (by decide) rfl (fun ls hl => ?_)
        refine lv_goto (tgt := 6) hx hb dX6_digest_26 (by decide) ?_
        have ev_20 : (jzFo (jzNF v) k1 7901) * 31 + (((jmNet (zen v) (zla v) (zP v) (zn v) (zst v) (zfp v) (zfb v) (zfc v) (zfk v) (zfq v) (zft v) (zct v) (zpk v) (zwk v) (zrf v) k1)).toInt64) = jzFo (jzNF v) (k1 + 1) 7901 := by rfl
        exact ih6 (k1 + 1) t_19 (by assumption) (by omega) (by omega) H locs hP hS ls (by rw [← ev_20]; exact lv_sub hl [2, 1, 0] rfl)
  have ev_21 : (7901 : Int64) = jzFo (jzNF v) 0 7901 := by rfl
  exact L6 ((15 - 0) + 1) 0 t (by assumption) (by omega) (Nat.lt_succ_self _) H locs hP hS ls (by rw [← ev_21]; exact lv_sub hl [2, 1, 0] rfl)
