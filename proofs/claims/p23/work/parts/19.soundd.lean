set_option maxHeartbeats 4000000 in
set_option maxRecDepth 100000 in
/-- mixed(d, v) -/
theorem c_X6_mixed (l : Launch) (D : va_G)  (g : Nat → Nat)  (sz : Nat) (d9 v9 : Int64) : jxWl l yX6_mixed wsX6_mixed ({ frames := 0, cells := 0, slots := 0, locals := 0 } : Room) D [] ([]) [.long d9, .long v9] sz (fun r => r = d9 * 31 + v9) ([]) := by
  refine jxw_enterL (by decide) rfl (Nat.le_of_ble_eq_true rfl) ?_
  intro p e s m args below meth c Q A ls hx hb hml hts hown hN hP hK hD hA hl hQ
  have hD0 := hD
  obtain ⟨H, hH⟩ : ∃ h, h = s.heap := ⟨_, rfl⟩
  have hS : va_S A s.heap H [] := by rw [hH]; exact va_S.rf
  rw [← hH] at hP ⊢
  obtain ⟨locs, hlocs⟩ : ∃ z : List Loc, z = [] := ⟨_, rfl⟩
  rw [← hlocs] at hS ⊢
  have hown : s.vm.findClass RX6 = some m.cls := hown
  have hl : lv_has ls 4 [(0, .long d9), (2, .long v9)] := hl
  refine lv_lload_n hx hb dX6_mixed_0 rfl (lv_at hl 0 rfl) ?_
  refine lv_ldc2 (v := (31 : Int64)) hx hb hown (hts (.constantLong RX6 321 (31)) (List.mem_of_getElem? (i := 1) (by decide +kernel))) dX6_mixed_1 ?_
  refine lv_lmul hx hb dX6_mixed_4 ?_
  refine lv_lload_n hx hb dX6_mixed_5 rfl (lv_at hl 1 rfl) ?_
  refine lv_ladd hx hb dX6_mixed_6 ?_
  exact hQ ((d9 * (31 : Int64)) + v9) H locs _ _ dX6_mixed_7 rfl hP hS
