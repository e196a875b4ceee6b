section
-- ===== PART A: goes FIRST, ahead of the names: the tables' words, and 'selects' of the private methods out of them =====
/-- a private method of a class that the tables say can be made, by its rows of tables_1 -/
def lw_okq (q : MethodName × Nat) : Prop := (q.1.cls ≠ "java/lang/invoke/MethodHandle" ∧ q.1.cls ≠ "java/lang/invoke/VarHandle") ∧ Cond.instantiable q.1.cls q.2 ∈ tables_1 ∧ Cond.privateMethod q.1 ∈ tables_1 ∧ Cond.instanceMethod q.1 ∈ tables_1
theorem lw_p0 : lw_okq (⟨"java/lang/Throwable", "fillInStackTrace", "(I)Ljava/lang/Throwable;"⟩, 6) := ⟨⟨by decide +kernel, by decide +kernel⟩, List.mem_of_getElem? (i := 64) (by decide +kernel), List.mem_of_getElem? (i := 62) (by decide +kernel), List.mem_of_getElem? (i := 63) (by decide +kernel)⟩
theorem lw_p1 : lw_okq (⟨"Twincuts", "handles", "()I"⟩, 7) := ⟨⟨by decide +kernel, by decide +kernel⟩, List.mem_of_getElem? (i := 110) (by decide +kernel), List.mem_of_getElem? (i := 108) (by decide +kernel), List.mem_of_getElem? (i := 109) (by decide +kernel)⟩
theorem lw_p2 : lw_okq (⟨"Twincuts$Web", "linkedWithAny", "(I)I"⟩, 8) := ⟨⟨by decide +kernel, by decide +kernel⟩, List.mem_of_getElem? (i := 126) (by decide +kernel), List.mem_of_getElem? (i := 124) (by decide +kernel), List.mem_of_getElem? (i := 125) (by decide +kernel)⟩
theorem lw_p3 : lw_okq (⟨"Twincuts", "areAllWaysSound", "()Z"⟩, 7) := ⟨⟨by decide +kernel, by decide +kernel⟩, List.mem_of_getElem? (i := 110) (by decide +kernel), List.mem_of_getElem? (i := 140) (by decide +kernel), List.mem_of_getElem? (i := 141) (by decide +kernel)⟩
theorem lw_p4 : lw_okq (⟨"Twincuts", "areWaysSound", "(II)Z"⟩, 7) := ⟨⟨by decide +kernel, by decide +kernel⟩, List.mem_of_getElem? (i := 110) (by decide +kernel), List.mem_of_getElem? (i := 144) (by decide +kernel), List.mem_of_getElem? (i := 145) (by decide +kernel)⟩
theorem lw_p5 : lw_okq (⟨"Twincuts$Ways", "clearRoom", "()V"⟩, 4) := ⟨⟨by decide +kernel, by decide +kernel⟩, List.mem_of_getElem? (i := 154) (by decide +kernel), List.mem_of_getElem? (i := 152) (by decide +kernel), List.mem_of_getElem? (i := 153) (by decide +kernel)⟩
theorem lw_p6 : lw_okq (⟨"Twincuts$Ways", "countFlow", "(II)I"⟩, 4) := ⟨⟨by decide +kernel, by decide +kernel⟩, List.mem_of_getElem? (i := 154) (by decide +kernel), List.mem_of_getElem? (i := 158) (by decide +kernel), List.mem_of_getElem? (i := 159) (by decide +kernel)⟩
theorem lw_p7 : lw_okq (⟨"Twincuts$Ways", "findsWay", "(II)Z"⟩, 4) := ⟨⟨by decide +kernel, by decide +kernel⟩, List.mem_of_getElem? (i := 154) (by decide +kernel), List.mem_of_getElem? (i := 162) (by decide +kernel), List.mem_of_getElem? (i := 163) (by decide +kernel)⟩
theorem lw_p8 : lw_okq (⟨"Twincuts$Ways", "fillWay", "(II)V"⟩, 4) := ⟨⟨by decide +kernel, by decide +kernel⟩, List.mem_of_getElem? (i := 154) (by decide +kernel), List.mem_of_getElem? (i := 166) (by decide +kernel), List.mem_of_getElem? (i := 167) (by decide +kernel)⟩
theorem lw_p9 : lw_okq (⟨"Twincuts$Ways", "isApartWithout", "(III)Z"⟩, 4) := ⟨⟨by decide +kernel, by decide +kernel⟩, List.mem_of_getElem? (i := 154) (by decide +kernel), List.mem_of_getElem? (i := 184) (by decide +kernel), List.mem_of_getElem? (i := 185) (by decide +kernel)⟩
theorem lw_p10 : lw_okq (⟨"Twincuts", "areTreesSound", "()Z"⟩, 7) := ⟨⟨by decide +kernel, by decide +kernel⟩, List.mem_of_getElem? (i := 110) (by decide +kernel), List.mem_of_getElem? (i := 202) (by decide +kernel), List.mem_of_getElem? (i := 203) (by decide +kernel)⟩
theorem lw_p11 : lw_okq (⟨"Twincuts$Forest", "fillTable", "()V"⟩, 5) := ⟨⟨by decide +kernel, by decide +kernel⟩, List.mem_of_getElem? (i := 212) (by decide +kernel), List.mem_of_getElem? (i := 210) (by decide +kernel), List.mem_of_getElem? (i := 211) (by decide +kernel)⟩
theorem lw_p12 : lw_okq (⟨"Twincuts$Forest", "addToTable", "(II)V"⟩, 5) := ⟨⟨by decide +kernel, by decide +kernel⟩, List.mem_of_getElem? (i := 212) (by decide +kernel), List.mem_of_getElem? (i := 216) (by decide +kernel), List.mem_of_getElem? (i := 217) (by decide +kernel)⟩
theorem lw_p13 : lw_okq (⟨"Twincuts$Forest", "countByTable", "()J"⟩, 5) := ⟨⟨by decide +kernel, by decide +kernel⟩, List.mem_of_getElem? (i := 212) (by decide +kernel), List.mem_of_getElem? (i := 220) (by decide +kernel), List.mem_of_getElem? (i := 221) (by decide +kernel)⟩
theorem lw_p14 : lw_okq (⟨"Twincuts", "isColouringSound", "()Z"⟩, 7) := ⟨⟨by decide +kernel, by decide +kernel⟩, List.mem_of_getElem? (i := 110) (by decide +kernel), List.mem_of_getElem? (i := 224) (by decide +kernel), List.mem_of_getElem? (i := 225) (by decide +kernel)⟩
theorem lw_p15 : lw_okq (⟨"Twincuts", "areBlocksSound", "()Z"⟩, 7) := ⟨⟨by decide +kernel, by decide +kernel⟩, List.mem_of_getElem? (i := 110) (by decide +kernel), List.mem_of_getElem? (i := 229) (by decide +kernel), List.mem_of_getElem? (i := 230) (by decide +kernel)⟩
def lw_privs_1 : List (MethodName × Nat) := [(⟨"java/lang/Throwable", "fillInStackTrace", "(I)Ljava/lang/Throwable;"⟩, 6), (⟨"Twincuts", "handles", "()I"⟩, 7), (⟨"Twincuts$Web", "linkedWithAny", "(I)I"⟩, 8), (⟨"Twincuts", "areAllWaysSound", "()Z"⟩, 7), (⟨"Twincuts", "areWaysSound", "(II)Z"⟩, 7), (⟨"Twincuts$Ways", "clearRoom", "()V"⟩, 4), (⟨"Twincuts$Ways", "countFlow", "(II)I"⟩, 4), (⟨"Twincuts$Ways", "findsWay", "(II)Z"⟩, 4), (⟨"Twincuts$Ways", "fillWay", "(II)V"⟩, 4), (⟨"Twincuts$Ways", "isApartWithout", "(III)Z"⟩, 4), (⟨"Twincuts", "areTreesSound", "()Z"⟩, 7), (⟨"Twincuts$Forest", "fillTable", "()V"⟩, 5), (⟨"Twincuts$Forest", "addToTable", "(II)V"⟩, 5), (⟨"Twincuts$Forest", "countByTable", "()J"⟩, 5), (⟨"Twincuts", "isColouringSound", "()Z"⟩, 7), (⟨"Twincuts", "areBlocksSound", "()Z"⟩, 7)]
theorem lw_r1 : ∀ q ∈ lw_privs_1, lw_okq q := List.forall_mem_cons.mpr ⟨lw_p0, List.forall_mem_cons.mpr ⟨lw_p1, List.forall_mem_cons.mpr ⟨lw_p2, List.forall_mem_cons.mpr ⟨lw_p3, List.forall_mem_cons.mpr ⟨lw_p4, List.forall_mem_cons.mpr ⟨lw_p5, List.forall_mem_cons.mpr ⟨lw_p6, List.forall_mem_cons.mpr ⟨lw_p7, List.forall_mem_cons.mpr ⟨lw_p8, List.forall_mem_cons.mpr ⟨lw_p9, List.forall_mem_cons.mpr ⟨lw_p10, List.forall_mem_cons.mpr ⟨lw_p11, List.forall_mem_cons.mpr ⟨lw_p12, List.forall_mem_cons.mpr ⟨lw_p13, List.forall_mem_cons.mpr ⟨lw_p14, List.forall_mem_cons.mpr ⟨lw_p15, fun _ h => absurd h List.not_mem_nil⟩⟩⟩⟩⟩⟩⟩⟩⟩⟩⟩⟩⟩⟩⟩⟩
theorem lw_p16 : lw_okq (⟨"Twincuts", "mixedPoint", "(JI)J"⟩, 7) := ⟨⟨by decide +kernel, by decide +kernel⟩, List.mem_of_getElem? (i := 110) (by decide +kernel), List.mem_of_getElem? (i := 247) (by decide +kernel), List.mem_of_getElem? (i := 248) (by decide +kernel)⟩
theorem lw_p17 : lw_okq (⟨"Twincuts", "demandPoint", "(I)V"⟩, 7) := ⟨⟨by decide +kernel, by decide +kernel⟩, List.mem_of_getElem? (i := 110) (by decide +kernel), List.mem_of_getElem? (i := 255) (by decide +kernel), List.mem_of_getElem? (i := 256) (by decide +kernel)⟩
theorem lw_p18 : lw_okq (⟨"Twincuts$Drawing", "placeBehind", "(II)I"⟩, 5) := ⟨⟨by decide +kernel, by decide +kernel⟩, List.mem_of_getElem? (i := 299) (by decide +kernel), List.mem_of_getElem? (i := 297) (by decide +kernel), List.mem_of_getElem? (i := 298) (by decide +kernel)⟩
theorem lw_p19 : lw_okq (⟨"Twincuts$Drawing", "walkBehind", "(I)I"⟩, 5) := ⟨⟨by decide +kernel, by decide +kernel⟩, List.mem_of_getElem? (i := 299) (by decide +kernel), List.mem_of_getElem? (i := 307) (by decide +kernel), List.mem_of_getElem? (i := 308) (by decide +kernel)⟩
theorem lw_p20 : lw_okq (⟨"Twincuts$Drawing", "placeOf", "(II)I"⟩, 5) := ⟨⟨by decide +kernel, by decide +kernel⟩, List.mem_of_getElem? (i := 299) (by decide +kernel), List.mem_of_getElem? (i := 311) (by decide +kernel), List.mem_of_getElem? (i := 312) (by decide +kernel)⟩
theorem lw_p21 : lw_okq (⟨"Twincuts", "demandLine", "(I)V"⟩, 7) := ⟨⟨by decide +kernel, by decide +kernel⟩, List.mem_of_getElem? (i := 110) (by decide +kernel), List.mem_of_getElem? (i := 328) (by decide +kernel), List.mem_of_getElem? (i := 329) (by decide +kernel)⟩
theorem lw_p22 : lw_okq (⟨"Twincuts", "learnAll", "()V"⟩, 7) := ⟨⟨by decide +kernel, by decide +kernel⟩, List.mem_of_getElem? (i := 110) (by decide +kernel), List.mem_of_getElem? (i := 625) (by decide +kernel), List.mem_of_getElem? (i := 626) (by decide +kernel)⟩
theorem lw_p23 : lw_okq (⟨"Twincuts$Falls", "numberParts", "()V"⟩, 15) := ⟨⟨by decide +kernel, by decide +kernel⟩, List.mem_of_getElem? (i := 427) (by decide +kernel), List.mem_of_getElem? (i := 633) (by decide +kernel), List.mem_of_getElem? (i := 634) (by decide +kernel)⟩
theorem lw_p24 : lw_okq (⟨"Twincuts$Falls", "putInPart", "(I)V"⟩, 15) := ⟨⟨by decide +kernel, by decide +kernel⟩, List.mem_of_getElem? (i := 427) (by decide +kernel), List.mem_of_getElem? (i := 639) (by decide +kernel), List.mem_of_getElem? (i := 640) (by decide +kernel)⟩
theorem lw_p25 : lw_okq (⟨"Twincuts$Falls", "findBridges", "()V"⟩, 15) := ⟨⟨by decide +kernel, by decide +kernel⟩, List.mem_of_getElem? (i := 427) (by decide +kernel), List.mem_of_getElem? (i := 643) (by decide +kernel), List.mem_of_getElem? (i := 644) (by decide +kernel)⟩
theorem lw_p26 : lw_okq (⟨"Twincuts$Falls", "findCutPoints", "()V"⟩, 15) := ⟨⟨by decide +kernel, by decide +kernel⟩, List.mem_of_getElem? (i := 427) (by decide +kernel), List.mem_of_getElem? (i := 652) (by decide +kernel), List.mem_of_getElem? (i := 653) (by decide +kernel)⟩
theorem lw_p27 : lw_okq (⟨"Twincuts$Falls", "joinBlocks", "()V"⟩, 15) := ⟨⟨by decide +kernel, by decide +kernel⟩, List.mem_of_getElem? (i := 427) (by decide +kernel), List.mem_of_getElem? (i := 656) (by decide +kernel), List.mem_of_getElem? (i := 657) (by decide +kernel)⟩
theorem lw_p28 : lw_okq (⟨"Twincuts$Falls", "joinAtPoint", "(II)V"⟩, 15) := ⟨⟨by decide +kernel, by decide +kernel⟩, List.mem_of_getElem? (i := 427) (by decide +kernel), List.mem_of_getElem? (i := 660) (by decide +kernel), List.mem_of_getElem? (i := 661) (by decide +kernel)⟩
theorem lw_p29 : lw_okq (⟨"Twincuts$Falls", "join", "(II)V"⟩, 15) := ⟨⟨by decide +kernel, by decide +kernel⟩, List.mem_of_getElem? (i := 427) (by decide +kernel), List.mem_of_getElem? (i := 668) (by decide +kernel), List.mem_of_getElem? (i := 669) (by decide +kernel)⟩
theorem lw_p30 : lw_okq (⟨"Twincuts$Falls", "numberBlocks", "()V"⟩, 15) := ⟨⟨by decide +kernel, by decide +kernel⟩, List.mem_of_getElem? (i := 427) (by decide +kernel), List.mem_of_getElem? (i := 675) (by decide +kernel), List.mem_of_getElem? (i := 676) (by decide +kernel)⟩
theorem lw_p31 : lw_okq (⟨"Twincuts$Falls", "findPairs", "()V"⟩, 15) := ⟨⟨by decide +kernel, by decide +kernel⟩, List.mem_of_getElem? (i := 427) (by decide +kernel), List.mem_of_getElem? (i := 679) (by decide +kernel), List.mem_of_getElem? (i := 680) (by decide +kernel)⟩
def lw_privs_2 : List (MethodName × Nat) := [(⟨"Twincuts", "mixedPoint", "(JI)J"⟩, 7), (⟨"Twincuts", "demandPoint", "(I)V"⟩, 7), (⟨"Twincuts$Drawing", "placeBehind", "(II)I"⟩, 5), (⟨"Twincuts$Drawing", "walkBehind", "(I)I"⟩, 5), (⟨"Twincuts$Drawing", "placeOf", "(II)I"⟩, 5), (⟨"Twincuts", "demandLine", "(I)V"⟩, 7), (⟨"Twincuts", "learnAll", "()V"⟩, 7), (⟨"Twincuts$Falls", "numberParts", "()V"⟩, 15), (⟨"Twincuts$Falls", "putInPart", "(I)V"⟩, 15), (⟨"Twincuts$Falls", "findBridges", "()V"⟩, 15), (⟨"Twincuts$Falls", "findCutPoints", "()V"⟩, 15), (⟨"Twincuts$Falls", "joinBlocks", "()V"⟩, 15), (⟨"Twincuts$Falls", "joinAtPoint", "(II)V"⟩, 15), (⟨"Twincuts$Falls", "join", "(II)V"⟩, 15), (⟨"Twincuts$Falls", "numberBlocks", "()V"⟩, 15), (⟨"Twincuts$Falls", "findPairs", "()V"⟩, 15)]
theorem lw_r2 : ∀ q ∈ lw_privs_2, lw_okq q := List.forall_mem_cons.mpr ⟨lw_p16, List.forall_mem_cons.mpr ⟨lw_p17, List.forall_mem_cons.mpr ⟨lw_p18, List.forall_mem_cons.mpr ⟨lw_p19, List.forall_mem_cons.mpr ⟨lw_p20, List.forall_mem_cons.mpr ⟨lw_p21, List.forall_mem_cons.mpr ⟨lw_p22, List.forall_mem_cons.mpr ⟨lw_p23, List.forall_mem_cons.mpr ⟨lw_p24, List.forall_mem_cons.mpr ⟨lw_p25, List.forall_mem_cons.mpr ⟨lw_p26, List.forall_mem_cons.mpr ⟨lw_p27, List.forall_mem_cons.mpr ⟨lw_p28, List.forall_mem_cons.mpr ⟨lw_p29, List.forall_mem_cons.mpr ⟨lw_p30, List.forall_mem_cons.mpr ⟨lw_p31, fun _ h => absurd h List.not_mem_nil⟩⟩⟩⟩⟩⟩⟩⟩⟩⟩⟩⟩⟩⟩⟩⟩
theorem lw_p32 : lw_okq (⟨"Twincuts$Falls", "isPair", "(II)Z"⟩, 15) := ⟨⟨by decide +kernel, by decide +kernel⟩, List.mem_of_getElem? (i := 427) (by decide +kernel), List.mem_of_getElem? (i := 683) (by decide +kernel), List.mem_of_getElem? (i := 684) (by decide +kernel)⟩
theorem lw_p33 : lw_okq (⟨"Twincuts$Falls", "findTwins", "()V"⟩, 15) := ⟨⟨by decide +kernel, by decide +kernel⟩, List.mem_of_getElem? (i := 427) (by decide +kernel), List.mem_of_getElem? (i := 687) (by decide +kernel), List.mem_of_getElem? (i := 688) (by decide +kernel)⟩
theorem lw_p34 : lw_okq (⟨"Twincuts$Falls", "areTwins", "(II)Z"⟩, 15) := ⟨⟨by decide +kernel, by decide +kernel⟩, List.mem_of_getElem? (i := 427) (by decide +kernel), List.mem_of_getElem? (i := 691) (by decide +kernel), List.mem_of_getElem? (i := 692) (by decide +kernel)⟩
theorem lw_p35 : lw_okq (⟨"Twincuts$Forest", "takeCheapest", "()V"⟩, 5) := ⟨⟨by decide +kernel, by decide +kernel⟩, List.mem_of_getElem? (i := 212) (by decide +kernel), List.mem_of_getElem? (i := 701) (by decide +kernel), List.mem_of_getElem? (i := 702) (by decide +kernel)⟩
theorem lw_p36 : lw_okq (⟨"Twincuts$Forest", "takeIfNew", "(I)V"⟩, 5) := ⟨⟨by decide +kernel, by decide +kernel⟩, List.mem_of_getElem? (i := 212) (by decide +kernel), List.mem_of_getElem? (i := 705) (by decide +kernel), List.mem_of_getElem? (i := 706) (by decide +kernel)⟩
theorem lw_p37 : lw_okq (⟨"Twincuts$Palette", "paintsFrom", "(III)Z"⟩, 3) := ⟨⟨by decide +kernel, by decide +kernel⟩, List.mem_of_getElem? (i := 533) (by decide +kernel), List.mem_of_getElem? (i := 713) (by decide +kernel), List.mem_of_getElem? (i := 714) (by decide +kernel)⟩
theorem lw_p38 : lw_okq (⟨"Twincuts$Palette", "isFree", "(III)Z"⟩, 3) := ⟨⟨by decide +kernel, by decide +kernel⟩, List.mem_of_getElem? (i := 533) (by decide +kernel), List.mem_of_getElem? (i := 718) (by decide +kernel), List.mem_of_getElem? (i := 719) (by decide +kernel)⟩
theorem lw_p39 : lw_okq (⟨"Twincuts", "demandPlace", "(II)V"⟩, 7) := ⟨⟨by decide +kernel, by decide +kernel⟩, List.mem_of_getElem? (i := 110) (by decide +kernel), List.mem_of_getElem? (i := 763) (by decide +kernel), List.mem_of_getElem? (i := 764) (by decide +kernel)⟩
def lw_privs_3 : List (MethodName × Nat) := [(⟨"Twincuts$Falls", "isPair", "(II)Z"⟩, 15), (⟨"Twincuts$Falls", "findTwins", "()V"⟩, 15), (⟨"Twincuts$Falls", "areTwins", "(II)Z"⟩, 15), (⟨"Twincuts$Forest", "takeCheapest", "()V"⟩, 5), (⟨"Twincuts$Forest", "takeIfNew", "(I)V"⟩, 5), (⟨"Twincuts$Palette", "paintsFrom", "(III)Z"⟩, 3), (⟨"Twincuts$Palette", "isFree", "(III)Z"⟩, 3), (⟨"Twincuts", "demandPlace", "(II)V"⟩, 7)]
theorem lw_r3 : ∀ q ∈ lw_privs_3, lw_okq q := List.forall_mem_cons.mpr ⟨lw_p32, List.forall_mem_cons.mpr ⟨lw_p33, List.forall_mem_cons.mpr ⟨lw_p34, List.forall_mem_cons.mpr ⟨lw_p35, List.forall_mem_cons.mpr ⟨lw_p36, List.forall_mem_cons.mpr ⟨lw_p37, List.forall_mem_cons.mpr ⟨lw_p38, List.forall_mem_cons.mpr ⟨lw_p39, fun _ h => absurd h List.not_mem_nil⟩⟩⟩⟩⟩⟩⟩⟩
def lw_privs : List (MethodName × Nat) := lw_privs_1 ++ (lw_privs_2 ++ (lw_privs_3))
def lw_tbl : List Cond := k2_sels lw_privs ++ tables_1
theorem lw_privs_ok : ∀ q ∈ lw_privs, lw_okq q := by
  show ∀ q ∈ lw_privs_1 ++ (lw_privs_2 ++ (lw_privs_3)), lw_okq q
  exact List.forall_mem_append.mpr ⟨lw_r1, List.forall_mem_append.mpr ⟨lw_r2, lw_r3⟩⟩
end
section
/-! ===== BEGIN words of one list among another's, by their places ===== -/
theorem goodIn_r {big : List Cond} (ws : List Cond) (ps : List Nat) (hp : ws = ps.filterMap (fun i => big[i]?)) (h : ws.all goodWord = true) : GoodIn big ws := by
  intro w hw
  have h1 := List.all_eq_true.mp h w hw
  rw [hp] at hw
  obtain ⟨i, -, hi⟩ := List.mem_filterMap.mp hw
  have hm : w ∈ big := by first | exact List.mem_of_getElem? hi | exact List.getElem?_mem hi
  exact ⟨hm, good_of_word h1⟩
theorem goodIn_app {big a b : List Cond} (ha : GoodIn big a) (hb : GoodIn big b) : GoodIn big (a ++ b) := fun w h => (List.mem_append.mp h).elim (ha w) (hb w)
theorem goodIn_ca {big a b : List Cond} {c : Cond} (ha : GoodIn big (c :: a)) (hb : GoodIn big b) : GoodIn big (c :: (a ++ b)) := fun w h => (List.mem_cons.mp h).elim (fun e => ha w (List.mem_cons.mpr (Or.inl e))) (fun h => (List.mem_append.mp h).elim (fun h => ha w (List.mem_cons.mpr (Or.inr h))) (hb w))
theorem goodIn_sub {big ws : List Cond} (hm : ∀ w ∈ ws, w ∈ big) (h : ws.all goodWord = true) : GoodIn big ws := fun w hw => ⟨hm w hw, good_of_word (List.all_eq_true.mp h w hw)⟩
/-! ===== END ===== -/

/-! own rows: what the tables say of an array over arrays (the kit's printed text names va_AOA and va_AOA.use, and has neither) -/
def va_AOA (ty : FieldType) (U : State) : Prop := (Cond.arrayOver (.array ty)).before #[] U = true
theorem va_AOA.of {ty : FieldType} {A : Array Value} {U : State} (h : (Cond.arrayOver (.array ty)).before A U = true) : va_AOA ty U := h
theorem va_AOA.use {ty : FieldType} {A : Array Value} {U : State} (h : va_AOA ty U) : (Cond.arrayOver (.array ty)).before A U = true := h
/-! ===== BEGIN new T[n][m]: the outer array a place, the inner ones among the pooled ===== -/
/-- f, but v at every address of l -/
def vr_up {α : Type} (f : Nat → α) (l : List Nat) (v : α) : Nat → α := fun a => if a ∈ l then v else f a
theorem vr_up_in {α : Type} {f : Nat → α} {l : List Nat} {v : α} {a : Nat} (h : a ∈ l) : vr_up f l v a = v := if_pos h
theorem vr_up_ne {α : Type} {f : Nat → α} {l : List Nat} {v : α} {a : Nat} (h : a ∉ l) : vr_up f l v a = f a := if_neg h
theorem vr_rows {L l : List Nat} {f : Nat → va_E} {e : va_E} (h : ∀ a, a ∈ l → a ∉ L) : va_pl L f ++ l.map (fun a => (a, e)) = va_pl (L ++ l) (vr_up f l e) := by
  unfold va_pl
  rw [List.map_append]
  congr 1
  · apply List.map_congr_left
    intro a ha
    rw [vr_up_ne (fun q => h a q ha)]
  · apply List.map_congr_left
    intro a ha
    rw [vr_up_in ha]
theorem vr_lay {X rows : va_W} {x : Nat × va_E} {pl : va_W} {D : va_G} {cl : List vw_C} {H : Heap} (hP : va_P D cl (((X ++ pl) ++ [x]) ++ rows) H) : va_P D cl ((X ++ [x]) ++ (pl ++ rows)) H := by
  rw [List.append_assoc (X ++ pl)] at hP
  have h := va_P.swap hP
  rw [← List.append_assoc X] at h
  have h2 := va_P.swap h
  rw [List.append_assoc (X ++ [x])] at h2
  exact h2
theorem vr_layD {X rows : va_W} {x : Nat × va_E} {pl : va_W} {A : Nat → Prop} (hD : va_D A (((X ++ pl) ++ [x]) ++ rows)) : va_D A ((X ++ [x]) ++ (pl ++ rows)) := by
  rw [List.append_assoc (X ++ pl)] at hD
  have h := va_D.swap hD
  rw [← List.append_assoc X] at h
  have h2 := va_D.swap h
  rw [List.append_assoc (X ++ [x])] at h2
  exact h2
theorem vr_outer (c : ClassId) (N h0 : Nat) : ∀ i : Nat, Jvm.Free.Multi.outerC c N h0 i = arrV c N (fun j => va_rf (if j < i then some (h0 + 1 + j) else none))
  | 0 => by
    show ({ cls := c, slots := Array.replicate N .null, vm := .none } : Cell) = _
    rw [arrV_new]
    refine congrArg (arrV c N) (funext fun j => ?_)
    simp [va_rf]
  | i + 1 => by
    show (Jvm.Free.Multi.outerC c N h0 i).setSlot i (.ref (h0 + 1 + i)) = _
    rw [vr_outer c N h0 i, arrV_store]
    refine congrArg (arrV c N) (funext fun j => ?_)
    by_cases e : j = i
    · subst e
      simp [updV, va_rf]
    · by_cases h : j < i
      · simp [updV, e, h, Nat.lt_succ_of_lt h]
      · simp [updV, e, h, show ¬ j < i + 1 by omega]
section VGM
variable {p : Program} {l : Launch} {e : Env} {R : Room} {s : State} {m : MethodId} {args : Array Value} {below : List Frame} {meth : Method} {c : Code} {H : Heap} {locs : List Loc} {cells slots : Nat} {Q : State → Prop}
variable {cc : ByteArray} {pc : Nat} {ls : Array Slot} {rest : List Value} {D : va_G} {cl : List vw_C} {A : Nat → Prop} {a : Nat} {tys : List (ClassId × FieldType)} {ws : va_W} {H0 : Heap}
theorem va_mna {X : va_W} {L : List Nat} {f : Nat → va_E} {cc : ByteArray} (hexec : p.tables.exec = Jvm.exec) (hb : c.code = cc) {own : String} {index : Nat} {ty : FieldType} {cy : ClassId} (hown : s.vm.findClass own = some m.cls) (hclink : (Cond.classLink own index ("[" ++ (FieldType.array ty).toString)).before args s = true) (hover : va_AOA ty s) (harr : (Cond.arrayClass ty).before args s = true) (hcy : s.vm.findClass (FieldType.array ty).toString = some cy)
    (hK : va_K D cl tys s) (hP : va_P D cl (X ++ va_pl L f) H) (hD : va_D A (X ++ va_pl L f)) (hS : va_S A H0 H locs) (hA : ∀ q, H0.size ≤ q → A q) {n k : Int32} {N' K' : Nat} {z : vp_A} (hn : ¬ n < 0) (hk : ¬ k < 0) (hN : n.toNatClampNeg = N') (hM : k.toNatClampNeg = K')
    (hb1 : N' * 4 ≤ 536870912) (hb2 : K' * componentBytes ty ≤ 536870912) (hb3 : K' ≤ 536870912) (hdf : fits ty (defaultValue ty) = true) (hdd : (defaultValue ty).isDefault = true) (hcells : cells + (1 + N') ≤ R.cells) (hslots : slots + (N' + N' * K') ≤ R.slots) (hz : ∀ c : ClassId, Jvm.Free.Multi.innerC c K' (defaultValue ty) = vp_cell c z) (hdg : decode cc pc = .ok (.multianewarray index 2, 4))
    (kk : ∀ (q : Nat) (r : Nat → Nat) (cA : ClassId) (H1 : Heap), (∀ i j : Nat, i < N' → j < N' → r i = r j → i = j) → (∀ i : Nat, i < N' → r i ∉ L) → va_K D cl (tys ++ [(cA, .array ty)]) s →
      va_P D cl ((X ++ [(q, .inl (cA, N', .inr (.inr (.inr (.inr (fun i => if i < N' then some (r i) else none))))))]) ++ va_pl (L ++ (List.range N').map r) (vr_up f ((List.range N').map r) (.inl (cy, z)))) H1 → va_D A ((X ++ [(q, .inl (cA, N', .inr (.inr (.inr (.inr (fun i => if i < N' then some (r i) else none))))))]) ++ va_pl (L ++ (List.range N').map r) (vr_up f ((List.range N').map r) (.inl (cy, z)))) → va_S A H0 H1 locs →
      W p l e R s m args below meth c H1 locs (cells + 1 + N') (slots + N' + N' * K') Q (F0 m (pc + 4) ls (.ref q :: rest))) : W p l e R s m args below meth c H locs cells slots Q (F0 m pc ls (.int k :: .int n :: rest)) := by
  subst hN
  subst hM
  intro T hT Xs
  obtain ⟨vm₁, cA, comp, -, fA, fC, hO, -, X', step⟩ := Xs.multianewarray2F hexec hown hclink (va_AOA.use hover) harr (g := F0 m pc ls (.int k :: .int n :: rest)) rfl (by rw [hb]; exact hdg) rfl hn hk hb1 hb2 hb3 hdf hdd hcells hslots
  have ec : some cy = some comp := hcy.symm.trans fC
  cases ec
  generalize hF : Jvm.Free.Multi.fill (T.setVm vm₁) cA cy n.toNatClampNeg k.toNatClampNeg (defaultValue ty) n.toNatClampNeg = F at X' step
  have hTh : (T.setVm vm₁).heap = H := hT
  obtain ⟨f1, f2, -, -⟩ := Jvm.Free.Multi.fill_facts (T.setVm vm₁) cA cy n.toNatClampNeg k.toNatClampNeg (defaultValue ty) n.toNatClampNeg
  rw [hF, hTh] at f1 f2
  have hold : ∀ x : Nat, x < H.size → F.heap[x]? = H[x]? := fun x hx => by
    have := Jvm.Free.Multi.fill_old (T.setVm vm₁) cA cy n.toNatClampNeg k.toNatClampNeg (defaultValue ty) (a := x) (by rw [hTh]; exact hx) n.toNatClampNeg
    rw [hF, hTh] at this
    exact this
  have hrow : ∀ j : Nat, j < n.toNatClampNeg → F.heap[H.size + 1 + j]? = some (vp_cell cy z) := fun j hj => by
    have := Jvm.Free.Multi.fill_inner (T.setVm vm₁) cA cy n.toNatClampNeg k.toNatClampNeg (defaultValue ty) n.toNatClampNeg j hj
    rw [hF, hTh, hz] at this
    exact this
  have hout : Jvm.Free.Multi.outerC cA n.toNatClampNeg H.size n.toNatClampNeg = vp_cell cA (n.toNatClampNeg, .inr (.inr (.inr (.inr (fun i => if i < n.toNatClampNeg then some (H.size + 1 + i) else none))))) := by
    rw [vp_cell_q]
    exact vr_outer cA n.toNatClampNeg H.size n.toNatClampNeg
  rw [hout] at f2
  have hlt : ∀ a, a ∈ L → a < H.size := fun a ha => by
    obtain ⟨k9, hk9⟩ := va_pl_get (X := X) (f := f) ha
    exact (hP k9 _ hk9).lt
  have hnl : ∀ i : Nat, i < n.toNatClampNeg → H.size + 1 + i ∉ L := fun i _ h => by
    have := hlt _ h
    omega
  have hnm : ∀ a, a ∈ (List.range n.toNatClampNeg).map (fun i => H.size + 1 + i) → a ∉ L := fun a ha h => by
    obtain ⟨i, -, rfl⟩ := List.mem_map.mp ha
    have := hlt _ h
    omega
  have hP0 : va_P D cl (X ++ va_pl L f) F.heap := hP.kept (fun k9 x hx => hold x.1 ((hP k9 x hx).lt))
  have hP1 : va_P D cl ((X ++ va_pl L f) ++ [(H.size, .inl (cA, n.toNatClampNeg, .inr (.inr (.inr (.inr (fun i => if i < n.toNatClampNeg then some (H.size + 1 + i) else none))))))]) F.heap := hP0.app (fun k9 x hx => by
    have h0 : k9 < 1 := (List.getElem?_eq_some_iff.mp hx).1
    rw [show k9 = 0 by omega] at hx
    cases hx
    exact f2)
  have hP2 : va_P D cl (((X ++ va_pl L f) ++ [(H.size, .inl (cA, n.toNatClampNeg, .inr (.inr (.inr (.inr (fun i => if i < n.toNatClampNeg then some (H.size + 1 + i) else none))))))]) ++ ((List.range n.toNatClampNeg).map (fun i => H.size + 1 + i)).map (fun a => (a, .inl (cy, z)))) F.heap := hP1.app (fun k9 x hx => by
    obtain ⟨a, ha, rfl⟩ := List.mem_map.mp (List.mem_of_getElem? hx)
    obtain ⟨i, hi, rfl⟩ := List.mem_map.mp ha
    exact hrow i (List.mem_range.mp hi))
  have hD2 : va_D A (((X ++ va_pl L f) ++ [(H.size, .inl (cA, n.toNatClampNeg, .inr (.inr (.inr (.inr (fun i => if i < n.toNatClampNeg then some (H.size + 1 + i) else none))))))]) ++ ((List.range n.toNatClampNeg).map (fun i => H.size + 1 + i)).map (fun a => (a, .inl (cy, z)))) := by
    have hD1 := hD.push (e := .inl (cA, n.toNatClampNeg, .inr (.inr (.inr (.inr (fun i => if i < n.toNatClampNeg then some (H.size + 1 + i) else none)))))) hP rfl (hA _ hS.1)
    generalize hW1 : (X ++ va_pl L f) ++ [(H.size, .inl (cA, n.toNatClampNeg, .inr (.inr (.inr (.inr (fun i => if i < n.toNatClampNeg then some (H.size + 1 + i) else none))))))] = W1 at hD1 hP1 ⊢
    have hle : ∀ (k9 : Nat) (x : Nat × va_E), W1[k9]? = some x → x.1 ≤ H.size := fun k9 x hx => by
      rw [← hW1] at hx
      by_cases hl : k9 < (X ++ va_pl L f).length
      · rw [List.getElem?_append_left hl] at hx
        exact Nat.le_of_lt ((hP k9 x hx).lt)
      · rw [List.getElem?_append_right (by omega)] at hx
        have h0 : k9 - (X ++ va_pl L f).length < 1 := (List.getElem?_eq_some_iff.mp hx).1
        rw [show k9 - (X ++ va_pl L f).length = 0 by omega] at hx
        cases hx
        exact Nat.le_refl _
    have hr : ∀ (k9 : Nat) (x : Nat × va_E), (((List.range n.toNatClampNeg).map (fun i => H.size + 1 + i)).map (fun a => ((a, .inl (cy, z)) : Nat × va_E)))[k9]? = some x → x.1 = H.size + 1 + k9 := fun k9 x hx => by
      rw [List.getElem?_map, List.getElem?_map] at hx
      by_cases h9 : k9 < n.toNatClampNeg
      · rw [List.getElem?_range h9] at hx
        cases hx
        rfl
      · have hn0 : (List.range n.toNatClampNeg)[k9]? = none := List.getElem?_eq_none (by rw [List.length_range]; omega)
        rw [hn0] at hx
        cases hx
    refine ⟨fun i j x y hi hj hxy => ?_, fun k9 x hx => ?_⟩
    · by_cases h1 : i < W1.length <;> by_cases h2 : j < W1.length
      · rw [List.getElem?_append_left h1] at hi
        rw [List.getElem?_append_left h2] at hj
        exact hD1.1 i j x y hi hj hxy
      · rw [List.getElem?_append_left h1] at hi
        rw [List.getElem?_append_right (by omega)] at hj
        have := hle _ _ hi
        have := hr _ _ hj
        omega
      · rw [List.getElem?_append_right (by omega)] at hi
        rw [List.getElem?_append_left h2] at hj
        have := hle _ _ hj
        have := hr _ _ hi
        omega
      · rw [List.getElem?_append_right (by omega)] at hi hj
        have := hr _ _ hi
        have := hr _ _ hj
        omega
    · by_cases h1 : k9 < W1.length
      · rw [List.getElem?_append_left h1] at hx
        exact hD1.2 k9 x hx
      · rw [List.getElem?_append_right (by omega)] at hx
        have := hr _ _ hx
        exact hA _ (by have := hS.1; omega)
  have hAr : ArrOfT s cA (.array ty) := fun N9 z9 => by
    obtain ⟨-, k9, hk9, cm9, hkk9⟩ := (hO 0 0 0).1
    exact ⟨(fun q hq => by cases hq), k9, hk9, cm9, hkk9⟩
  have hK2 : va_K D cl (tys ++ [(cA, .array ty)]) s := ⟨hK.1, fun k9 x hx => by
    by_cases hl : k9 < tys.length
    · rw [List.getElem?_append_left hl] at hx
      exact hK.2 k9 x hx
    · rw [List.getElem?_append_right (by omega)] at hx
      have h0 : k9 - tys.length < 1 := (List.getElem?_eq_some_iff.mp hx).1
      rw [show k9 - tys.length = 0 by omega] at hx
      cases hx
      exact ⟨hAr, fA⟩⟩
  obtain ⟨t, a1, b1⟩ := kk H.size (fun i => H.size + 1 + i) cA F.heap (fun i j _ _ h => by have h9 : H.size + 1 + i = H.size + 1 + j := h; omega) hnl hK2 (by rw [← vr_rows hnm]; exact vr_lay hP2) (by rw [← vr_rows hnm]; exact vr_layD hD2) ⟨by rw [f1]; have := hS.1; omega, fun x h1 h2 => (hold x (Nat.lt_of_lt_of_le h1 hS.1)).trans (hS.2.1 x h1 h2), hS.2.2⟩ F rfl X'
  refine ⟨t, step t ?_, b1⟩
  have e : T.heap.size = H.size := by rw [hT]
  rw [e]
  exact a1
end VGM
/-! ===== END ===== -/

/-! ===== BEGIN exceptions that leave a method, and their catching by the caller (launches without stack traces) ===== -/
section VXA
/-! The laws vx_back, vx_callV, vx_callS, vx_callSW, vx_throw0, vx_throwS follow proofs of the library, with one case more: JvmDerived/Free/Laws.lean (Back.of_free), Shelf42/LK1.lean (callV, callS), Shelf/KitTraced.lean (throwNew0V, throwNewS). -/
/-- where a method has thrown q: the class by its name, the cell, what was written, the world -/
def vx_T (XC : String → State → State → Prop) (st : State) (q : Addr) (t : State) (mc ms : Nat) (free : Addr → Prop) : Prop :=
  ∃ (E : String) (ce : Cell) (L : List Loc), XC E st t ∧ t.heap[q]? = some ce ∧ ce.vm = .none ∧ st.vm.findClass E = some ce.cls ∧ st.WarmedH t.vm ∧ st.sameButNew ({ t with vm := st.vm } : State) L mc ms ∧ ∀ z ∈ L, free z.base
def vx_Q (Qc : Array Value → State → Outcome → State → Prop) (XC : String → State → State → Prop) (mc ms : Nat) (free : Addr → Prop) : Array Value → State → Outcome → State → Prop := fun a st o t =>
  (Qc a st o t ∧ ∃ L, FrameEnd st o t L mc ms ∧ ∀ q ∈ L, free q.base) ∨ ∃ q, o = .threw q ∧ vx_T XC st q t mc ms free
/-- a callee that returns or throws -/
def vx_Met (l : Launch) (y : MethodName) (ws : List Cond) (rm : Room) (Pc : Array Value → State → Prop) (Qc : Array Value → State → Outcome → State → Prop) (XC : String → State → State → Prop) (mc ms : Nat) (free : Addr → Prop) : Prop :=
  MetFree l y (headSpec ws rm) Pc (fun _ _ _ _ _ => True) (vx_Q Qc XC mc ms free)
def vx_Post (XC : String → State → State → Prop) (mc ms : Nat) (free : Addr → Prop) : Pt → Array Value → Addr → Pt → Prop := fun A a q B =>
  ∃ (g : JFrame) (mk : MethodId) (t : State) (L : List Loc) (E : String) (ce : Cell), B.U.heap = t.heap ∧ B.U.vm = t.vm ∧ XC E (A.U.calling g mk a) t ∧ t.heap[q]? = some ce ∧ ce.vm = .none ∧ A.U.vm.findClass E = some ce.cls ∧ B.locs = A.locs ++ L ∧ (∀ z ∈ L, free z.base) ∧ B.cells = A.cells + mc ∧ B.slots = A.slots + ms
def vx_Back (l : Launch) (R : Room) (p : Program) (e : Env) (below : List Frame) (s : State) (sargs : Array Value) (y : MethodName) (len W9 : Nat)
    (Pre : Pt → Array Value → Prop) (Post : Pt → Array Value → Option Value → Pt → Prop) (PostX : Pt → Array Value → Addr → Pt → Prop) : Prop :=
  ∀ (m : MethodId) (meth : Method) (c : Code) (A : Pt) (g : JFrame) (ig : Instr) (mk : MethodId) (a : Array Value),
    Stand p l e R s m sargs below meth c A.U A.locs A.cells A.slots → g.method = m → g.locals.size = c.maxLocals → decode c.code g.pc = .ok (ig, len) →
    2 * g.monitorRoom + (g.stack.map fun v => v.category).sum ≤ W9 → A.U.methodNamed? y = some mk → Pre A a →
    (∃ (v : Option Value) (B : Pt), Stand p l e R s m sargs below meth c B.U B.locs B.cells B.slots ∧ Post A a v B ∧
      Steps p.tables e below (doInvoke e (A.U.setTop g) [] mk a).1 (B.U.setTop { g with pc := g.pc + len, stack := v.toList ++ g.stack })) ∨
    (∃ (q : Addr) (B : Pt), Stand p l e R s m sargs below meth c B.U B.locs B.cells B.slots ∧ PostX A a q B ∧
      Steps p.tables e below (doInvoke e (A.U.setTop g) [] mk a).1 ((B.U.setTop g).pushFrame (.throwing q)))
section Payer
variable {l : Launch} {R : Room} {p : Program} {e : Env} {below : List Frame} {s : State} {sargs : Array Value} {y : MethodName} {len W9 : Nat}
theorem vx_back {ws : List Cond} {rm : Room} {Pc : Array Value → State → Prop} {Qc : Array Value → State → Outcome → State → Prop} {XC : String → State → State → Prop} {mc ms : Nat} {free : Addr → Prop} {bytes : ByteArray} {maxL : Nat} {ret : Option FieldType}
    (hM : vx_Met l y ws rm Pc Qc XC mc ms free) (hblind : FrameBlind Pc) (hrc : rm.cells = mc) (hrs : rm.slots = ms)
    (hframes : rm.frames + 1 ≤ R.frames) (hlocals : W9 + (maxL + 11) + rm.locals ≤ R.locals)
    (hws : ∀ w ∈ ws, ∀ a' U, s.WarmedH U.vm → w.before a' U = true) (hcode : Cond.code y bytes maxL ret ∈ ws) (hinit : ∀ a' U, s.WarmedH U.vm → (Cond.initialized y.cls).before a' U = true) :
    vx_Back l R p e below s sargs y len W9 (PreOf R mc ms Pc) (PostOf Qc mc ms free) (vx_Post XC mc ms free) := by
  intro m meth c A g ig mk a X hg hsize hdg hW hn hp
  have h1 : (headSpec ws rm).pre.before a A.U = true := atoms_intro fun w hw => hws w hw _ _ X.warmed
  have h2 : (Cond.code y bytes maxL ret).before a A.U = true := hws _ hcode _ _ X.warmed
  have h3 : (Cond.initialized y.cls).before a A.U = true := hinit _ _ X.warmed
  have h4 : A.cells + (headSpec ws rm).room.cells ≤ R.cells := by rw [show (headSpec ws rm).room.cells = mc from hrc]; exact hp.1
  have h5 : A.slots + (headSpec ws rm).room.slots ≤ R.slots := by rw [show (headSpec ws rm).room.slots = ms from hrs]; exact hp.2.1
  have hPc : Pc a (A.U.calling g mk a) := hblind _ _ _ _ hp.2.2
  obtain ⟨U, Ls, c0, s0⟩ := A
  dsimp only [Pt.U, Pt.locs, Pt.cells, Pt.slots] at h1 h2 h3 h4 h5 X hn hPc ⊢
  obtain ⟨methY, cY, hmY, hcY, -, hlY, -, -, -, -⟩ := Cond.code_spec hn h2
  obtain ⟨kY, hkY, -⟩ := className_of_methodNamed hn
  have hinitY : kY.init = .initialized := Cond.initialized_spec (findClass_of_methodNamed hn) hkY h3
  have h : At U g.method c below := by rw [hg]; exact X.here
  have hlocals9 : W9 + (maxL + 11) + (headSpec ws rm).room.locals ≤ R.locals := hlocals
  have happ : (headSpec ws rm).appliesLoose y e.platform (U.calling g mk a) = true :=
    Spec.appliesLoose_calling (g := g) h hdg hn hkY hinitY
      (X.room_calling (g := g) (R' := (headSpec ws rm).room) hsize hmY hcY hframes (by rw [hlY]; omega) h4 h5) h1
  obtain ⟨mid, hmid⟩ := h.above
  have hfr : (U.setTop g).frames = (.java g :: mid) ++ below := by rw [State.frames_setTop' g h.top, hmid]; rfl
  obtain ⟨o, s₂, hsteps, -, hend, hq⟩ := Steps.callFree hM p X.admits X.cas X.clock (acts := []) hfr happ hPc trivial
  have hq' : vx_Q Qc XC mc ms free a (U.calling g mk a) o s₂ := hq
  rw [State.frames_setTop' g h.top] at hend
  obtain ⟨g₀, hg0⟩ := Option.isSome_iff_exists.mp h.top
  obtain ⟨r, hr⟩ := State.topJava?_eq_some.mp hg0
  have hr' : (({ U with heap := s₂.heap, slotsUsed := s₂.slotsUsed } : State).setVm s₂.vm).frames = .java g₀ :: r := hr
  rcases hq' with ⟨hqc, L, hfe, hL⟩ | ⟨q, rfl, E, ce, L, hx, hce, hcv, hcl, hW₂, hsm, hL⟩
  · obtain ⟨⟨v, rfl⟩, hW₂, e2, q2, q3, q4, q5, q6⟩ := id hfe
    have e3 : s₂ = ({ (U.calling g mk a).setFrames s₂.frames with heap := s₂.heap, slotsUsed := s₂.slotsUsed } : State).setVm s₂.vm := by
      have : s₂ = ({ s₂ with vm := (U.calling g mk a).vm } : State).setVm s₂.vm := rfl
      rw [e2] at this
      exact this
    obtain ⟨c₂, i₂, len₂, hc₂, hd₂, hf₂⟩ := hend
    have hW' : U.WarmedH s₂.vm := hW₂
    have hcc : c₂ = c := by
      have h1 : s₂.code? g.method = U.code? g.method := by
        rw [State.code?_eq, State.code?_eq, hW'.alike.method?]
      exact Option.some.inj (hc₂.symm.trans (h1.trans h.code))
    subst hcc
    have hlen : len₂ = len := by rw [hdg] at hd₂; cases hd₂; rfl
    subst hlen
    have hs₂ : s₂ = (({ U with heap := s₂.heap, slotsUsed := s₂.slotsUsed } : State).setVm s₂.vm).setTop { g with pc := g.pc + len₂, stack := v.toList ++ g.stack } := by
      refine e3.trans ?_
      rw [hf₂, State.calling_eq h.top, State.setFrames_setFrames, State.setTop_of_frames _ hr', hr]
      rfl
    have hsame : U.sameButNew ({ U with heap := s₂.heap, slotsUsed := s₂.slotsUsed } : State) L mc ms := by
      refine ⟨?_, q2, q3, q4, q5, q6⟩
      obtain ⟨t, ht, -⟩ := State.frames_cons hr
      show ({ U with heap := s₂.heap, slotsUsed := s₂.slotsUsed } : State) = { U.setFrames U.frames with heap := s₂.heap, slotsUsed := s₂.slotsUsed }
      rw [State.setFrames_self ht]
    subst hg
    refine Or.inl ⟨v, ⟨(({ U with heap := s₂.heap, slotsUsed := s₂.slotsUsed } : State).setVm s₂.vm), Ls ++ L, c0 + mc, s0 + ms⟩,
      ⟨X.admits, X.cas, X.clock, X.frames, X.room, X.hears, X.method, X.code, (X.here.setHeapUsed s₂.heap s₂.slotsUsed).setVm hW'.alike, X.tail, State.WarmedH.trans X.warmed hW', X.limits, X.bytes, X.same.trans (hsame.setVm s.vm)⟩,
      ⟨g, mk, s₂, L, rfl, rfl, hqc, rfl, hL, rfl, rfl⟩, ?_⟩
    show Steps p.tables e below _ ((({ U with heap := s₂.heap, slotsUsed := s₂.slotsUsed } : State).setVm s₂.vm).setTop { g with pc := g.pc + len₂, stack := v.toList ++ g.stack })
    rw [← hs₂]
    exact hsteps
  · obtain ⟨e2, q2, q3, q4, q5, q6⟩ := id hsm
    have e3 : s₂ = ({ (U.calling g mk a).setFrames s₂.frames with heap := s₂.heap, slotsUsed := s₂.slotsUsed } : State).setVm s₂.vm := by
      have : s₂ = ({ s₂ with vm := (U.calling g mk a).vm } : State).setVm s₂.vm := rfl
      rw [e2] at this
      exact this
    have hf₂ : s₂.frames = .throwing q :: .java g :: U.frames.tail := hend
    have hW' : U.WarmedH s₂.vm := hW₂
    have hs₂ : s₂ = ((({ U with heap := s₂.heap, slotsUsed := s₂.slotsUsed } : State).setVm s₂.vm).setTop g).pushFrame (.throwing q) := by
      refine e3.trans ?_
      rw [hf₂, State.calling_eq h.top, State.setFrames_setFrames, State.pushFrame, State.frames_setTop _ hr', State.setTop_of_frames _ hr', State.setFrames_setFrames, hr]
      rfl
    have hsame : U.sameButNew ({ U with heap := s₂.heap, slotsUsed := s₂.slotsUsed } : State) L mc ms := by
      refine ⟨?_, q2, q3, q4, q5, q6⟩
      obtain ⟨t, ht, -⟩ := State.frames_cons hr
      show ({ U with heap := s₂.heap, slotsUsed := s₂.slotsUsed } : State) = { U.setFrames U.frames with heap := s₂.heap, slotsUsed := s₂.slotsUsed }
      rw [State.setFrames_self ht]
    subst hg
    refine Or.inr ⟨q, ⟨(({ U with heap := s₂.heap, slotsUsed := s₂.slotsUsed } : State).setVm s₂.vm), Ls ++ L, c0 + mc, s0 + ms⟩,
      ⟨X.admits, X.cas, X.clock, X.frames, X.room, X.hears, X.method, X.code, (X.here.setHeapUsed s₂.heap s₂.slotsUsed).setVm hW'.alike, X.tail, State.WarmedH.trans X.warmed hW', X.limits, X.bytes, X.same.trans (hsame.setVm s.vm)⟩,
      ⟨g, mk, s₂, L, E, ce, rfl, rfl, hx, hce, hcv, hcl, rfl, hL, rfl, rfl⟩, ?_⟩
    show Steps p.tables e below _ (((({ U with heap := s₂.heap, slotsUsed := s₂.slotsUsed } : State).setVm s₂.vm).setTop g).pushFrame (.throwing q))
    rw [← hs₂]
    exact hsteps
end Payer
section Calls
variable {p : Program} {l : Launch} {e : Env} {R : Room} {s : State} {m : MethodId} {args : Array Value} {below : List Frame} {meth : Method} {c : Code} {T : State} {locs : List Loc} {cells slots : Nat}
theorem vx_callV (X : Stand p l e R s m args below meth c T locs cells slots) (hexec : p.tables.exec = Jvm.exec) {own C : String} {index : Nat} {y : MethodName} {bytes : ByteArray} {maxL : Nat} {ret : Option FieldType}
    (hown : s.vm.findClass own = some m.cls) (hlink : (Cond.methodLink own index y).before args s = true) (hinst : (Cond.instanceMethod y).before args s = true) (hsel : (Cond.selects C y y).before args s = true)
    (hcode : (Cond.code y bytes maxL ret).before args s = true) (hy : y.cls ≠ "java/lang/invoke/MethodHandle" ∧ y.cls ≠ "java/lang/invoke/VarHandle")
    {W9 : Nat} {Pre : Pt → Array Value → Prop} {Post : Pt → Array Value → Option Value → Pt → Prop} {PostX : Pt → Array Value → Addr → Pt → Prop} (hK : vx_Back l R p e below s args y 3 W9 Pre Post PostX)
    {b : Addr} {cellB : Cell} (hcell : T.heap[b]? = some cellB) (hobj : cellB.vm.isStatics = false) (hcls : s.vm.findClass C = some cellB.cls)
    {g : JFrame} (hg : g.method = m) (hsize : g.locals.size = c.maxLocals) {argsL rest : List Value} (hlen : ∀ sig, parseMethodDescriptor y.desc = some sig → argsL.length = sig.parameters.length)
    (hstack : g.stack = argsL.reverse ++ .ref b :: rest) (hW : 2 * g.monitorRoom + (rest.map fun v => v.category).sum ≤ W9) (hdg : decode c.code g.pc = .ok (.invokevirtual index, 3))
    (hpre : ∀ vm₁, s.WarmedH vm₁ → Pre ⟨T.setVm vm₁, locs, cells, slots⟩ (Value.ref b :: argsL).toArray) :
    (∃ (v : Option Value) (vm₁ : Vm) (B : Pt), s.WarmedH vm₁ ∧ Stand p l e R s m args below meth c B.U B.locs B.cells B.slots ∧ Post ⟨T.setVm vm₁, locs, cells, slots⟩ (Value.ref b :: argsL).toArray v B ∧
      ∀ target, Steps p.tables e below (B.U.setTop { g with pc := g.pc + 3, stack := v.toList ++ rest }) target → Steps p.tables e below (T.setTop g) target) ∨
    (∃ (q : Addr) (vm₁ : Vm) (B : Pt), s.WarmedH vm₁ ∧ Stand p l e R s m args below meth c B.U B.locs B.cells B.slots ∧ PostX ⟨T.setVm vm₁, locs, cells, slots⟩ (Value.ref b :: argsL).toArray q B ∧
      Steps p.tables e below (T.setTop g) ((B.U.setTop { g with stack := rest }).pushFrame (.throwing q))) := by
  obtain ⟨mk, methM, hnamed, hmethM, hstM, habM⟩ := Cond.instanceMethod_spec hinst
  obtain ⟨methM', cM, hmethM', -, -, -, -, -, -, hsigM⟩ := Cond.code_spec hnamed hcode
  cases hmethM.symm.trans hmethM'
  obtain ⟨c2, r2, m2, q1, q2, q3, q4, kP, hkP, hkPi⟩ := Cond.selects_spec hsel
  cases hcls.symm.trans q1
  cases (State.methodFound?_of_named hnamed hy).symm.trans q2
  cases hnamed.symm.trans q3
  have hselP : selectMethod e.platform s.vm cellB.cls mk = .method mk := by rw [Launch.admits_selectMethod X.admits]; exact q4
  obtain ⟨vm₁, X₁, hstep₁⟩ := X.invokevirtual hexec hown hlink hnamed hmethM hstM hkP hkPi hy (a := b) (cell := cellB) hcell
    (fun z h => by rw [h] at hobj; cases hobj) hselP hmethM habM hkP hkPi (g := g) hg (argsL := argsL) (rest := rest) (hlen _ hsigM) hstack hdg
  rcases hK m meth c ⟨T.setVm vm₁, locs, cells, slots⟩ { g with stack := rest } (.invokevirtual index) mk (Value.ref b :: argsL).toArray X₁ hg hsize hdg hW (X₁.named hnamed) (hpre vm₁ X₁.warmed) with ⟨v, B, X', hpost, hsteps⟩ | ⟨q, B, X', hpost, hsteps⟩
  · exact Or.inl ⟨v, vm₁, B, X₁.warmed, X', hpost, fun target h => hstep₁ _ fun acts => by rw [doInvoke_state]; exact hsteps.trans h⟩
  · exact Or.inr ⟨q, vm₁, B, X₁.warmed, X', hpost, hstep₁ _ fun acts => by rw [doInvoke_state]; exact hsteps⟩
theorem vx_callS (X : Stand p l e R s m args below meth c T locs cells slots) (hexec : p.tables.exec = Jvm.exec) {own : String} {index : Nat} {y : MethodName} {bytes : ByteArray} {maxL : Nat} {ret : Option FieldType}
    (hown : s.vm.findClass own = some m.cls) (hlink : (Cond.methodLink own index y).before args s = true) (hstat : (Cond.static y).before args s = true) (hinit : (Cond.initialized y.cls).before args s = true)
    (hcode : (Cond.code y bytes maxL ret).before args s = true) (hy : y.cls ≠ "java/lang/invoke/MethodHandle" ∧ y.cls ≠ "java/lang/invoke/VarHandle")
    {W9 : Nat} {Pre : Pt → Array Value → Prop} {Post : Pt → Array Value → Option Value → Pt → Prop} {PostX : Pt → Array Value → Addr → Pt → Prop} (hK : vx_Back l R p e below s args y 3 W9 Pre Post PostX)
    {g : JFrame} (hg : g.method = m) (hsize : g.locals.size = c.maxLocals) {argsL rest : List Value} (hlen : ∀ sig, parseMethodDescriptor y.desc = some sig → argsL.length = sig.parameters.length)
    (hstack : g.stack = argsL.reverse ++ rest) (hW : 2 * g.monitorRoom + (rest.map fun v => v.category).sum ≤ W9) (hdg : decode c.code g.pc = .ok (.invokestatic index, 3))
    (hpre : ∀ vm₁, s.WarmedH vm₁ → Pre ⟨T.setVm vm₁, locs, cells, slots⟩ argsL.toArray) :
    (∃ (v : Option Value) (vm₁ : Vm) (B : Pt), s.WarmedH vm₁ ∧ Stand p l e R s m args below meth c B.U B.locs B.cells B.slots ∧ Post ⟨T.setVm vm₁, locs, cells, slots⟩ argsL.toArray v B ∧
      ∀ target, Steps p.tables e below (B.U.setTop { g with pc := g.pc + 3, stack := v.toList ++ rest }) target → Steps p.tables e below (T.setTop g) target) ∨
    (∃ (q : Addr) (vm₁ : Vm) (B : Pt), s.WarmedH vm₁ ∧ Stand p l e R s m args below meth c B.U B.locs B.cells B.slots ∧ PostX ⟨T.setVm vm₁, locs, cells, slots⟩ argsL.toArray q B ∧
      Steps p.tables e below (T.setTop g) ((B.U.setTop { g with stack := rest }).pushFrame (.throwing q))) := by
  obtain ⟨mk, hnamed⟩ := Cond.code_named hcode
  obtain ⟨methM, cM, hmethM, -, -, -, -, -, -, hsigM⟩ := Cond.code_spec hnamed hcode
  have hstatic : methM.isStatic = true := Cond.static_spec hnamed hmethM hstat
  obtain ⟨kP, hkP, -⟩ := className_of_methodNamed hnamed
  have hinitP : kP.init = .initialized := Cond.initialized_spec (findClass_of_methodNamed hnamed) hkP hinit
  obtain ⟨vm₁, X₁, hstep₁⟩ := X.invokestatic hexec hown hlink hnamed hmethM hstatic hkP hinitP hy (g := g) hg (argsL := argsL) (rest := rest) (hlen _ hsigM) hstack hdg
  rcases hK m meth c ⟨T.setVm vm₁, locs, cells, slots⟩ { g with stack := rest } (.invokestatic index) mk argsL.toArray X₁ hg hsize hdg hW (X₁.named hnamed) (hpre vm₁ X₁.warmed) with ⟨v, B, X', hpost, hsteps⟩ | ⟨q, B, X', hpost, hsteps⟩
  · exact Or.inl ⟨v, vm₁, B, X₁.warmed, X', hpost, fun target h => hstep₁ _ fun acts => by rw [doInvoke_state]; exact hsteps.trans h⟩
  · exact Or.inr ⟨q, vm₁, B, X₁.warmed, X', hpost, hstep₁ _ fun acts => by rw [doInvoke_state]; exact hsteps⟩
end Calls
theorem vx_cls {s : State} {T : State} {vm₁ : Vm} {E : String} {k : ClassId} (hW : s.WarmedH vm₁) (h : (T.setVm vm₁).vm.findClass E = some k) : s.vm.findClass E = some k := by
  have h1 : vm₁.findClass E = some k := h
  rw [hW.alike.findClass] at h1
  exact h1
/-- the method's frame g, with q thrown over it -/
def vx_W (p : Program) (l : Launch) (e : Env) (R : Room) (s : State) (m : MethodId) (args : Array Value) (below : List Frame) (meth : Method) (c : Code) (H : Heap) (locs : List Loc) (cells slots : Nat) (Q : State → Prop) (g : JFrame) (q : Addr) : Prop :=
  ∀ T : State, T.heap = H → Stand p l e R s m args below meth c T locs cells slots → ∃ t, Steps p.tables e below ((T.setTop g).pushFrame (.throwing q)) t ∧ Q t
def vx_Run (p : Program) (l : Launch) (e : Env) (R : Room) (s : State) (m : MethodId) (args : Array Value) (below : List Frame) (meth : Method) (c : Code) (H : Heap) (locs : List Loc) (cells slots mc ms : Nat) (g : JFrame) (rest : List Value) (Qa : State → Outcome → State → Prop) (XC : String → State → State → Prop) (free : Addr → Prop) : Prop :=
  ∀ T : State, T.heap = H → Stand p l e R s m args below meth c T locs cells slots →
    (∃ (v : Option Value) (st₀ t T' : State) (L : List Loc), st₀.heap = H ∧ Stand p l e R s m args below meth c T' (locs ++ L) (cells + mc) (slots + ms) ∧ (∀ q ∈ L, free q.base) ∧ T'.heap = t.heap ∧ T'.vm = t.vm ∧ Qa st₀ (.returned v) t ∧
      Goes p e below T g T' { g with pc := g.pc + 3, stack := v.toList ++ rest }) ∨
    (∃ (q : Addr) (st₀ t T' : State) (L : List Loc) (E : String) (ce : Cell), st₀.heap = H ∧ Stand p l e R s m args below meth c T' (locs ++ L) (cells + mc) (slots + ms) ∧ (∀ z ∈ L, free z.base) ∧ T'.heap = t.heap ∧ T'.vm = t.vm ∧ XC E st₀ t ∧ t.heap[q]? = some ce ∧ ce.vm = .none ∧ s.vm.findClass E = some ce.cls ∧
      Steps p.tables e below (T.setTop g) ((T'.setTop { g with stack := rest }).pushFrame (.throwing q)))
def vx_X {S : Type} (px : S → Prop) (B : String → S → State → Prop) (A : Nat → Prop) : String → State → State → Prop := fun E st t => ∃ u : S, px u ∧ B E u t ∧ va_F A st t
section Runs
variable {p : Program} {l : Launch} {e : Env} {R : Room} {s : State} {m : MethodId} {args : Array Value} {below : List Frame} {meth : Method} {c : Code} {H : Heap} {locs : List Loc} {cells slots : Nat}
variable {y : MethodName} {bytes cc : ByteArray} {maxL nL mc ms n index : Nat} {ret : Option FieldType} {ws : List Cond} {rm : Room} {Pc : Array Value → State → Prop} {Qc : Array Value → State → Outcome → State → Prop} {XC : String → State → State → Prop} {free : Addr → Prop} {Ts : List Cond} {own C : String} {b : Addr} {As rest : List Value} {g : JFrame}
theorem vx_callBack (cb : CallB R s args own index y bytes maxL ret ws rm mc ms n) (hM : vx_Met l y ws rm Pc Qc XC mc ms free) (hbl : FrameBlind Pc) : vx_Back l R p e below s args y 3 8 (PreOf R mc ms Pc) (PostOf Qc mc ms free) (vx_Post XC mc ms free) := by
  obtain ⟨hrc, hrs, hfr, hlo, hws, hcw, -, hini, -⟩ := cb
  exact vx_back (bytes := bytes) (maxL := maxL) (ret := ret) hM hbl hrc hrs hfr hlo hws hcw (fun a' U hW => word_at hW (Or.inl (by first | rfl | simp [Cond.onTables, Cond.keeps, Cond.steady])) hini)
theorem vx_runV (S : CallFix p m c cc nL s args Ts own) (hM : vx_Met l y ws rm Pc Qc XC mc ms free) (cw : CallW R s args own C index y bytes maxL ret ws rm mc ms n) (hp : PreV s H C b Pc As)
    (hg : g.method = m) (hn : As.length = n) (hsize : g.locals.size = nL) (hstack : g.stack = As.reverse ++ .ref b :: rest) (hW : 2 * g.monitorRoom + (rest.map fun v => v.category).sum ≤ 8) (hdg : decode cc g.pc = .ok (.invokevirtual index, 3)) (hf : cells + mc ≤ R.cells ∧ slots + ms ≤ R.slots) :
    vx_Run p l e R s m args below meth c H locs cells slots mc ms g rest (Qc (Value.ref b :: As).toArray) XC free := by
  have hK : vx_Back l R p e below s args y 3 8 (PreOf R mc ms Pc) (PostOf Qc mc ms free) (vx_Post XC mc ms free) := vx_callBack cw.1 hM hp.1
  obtain ⟨⟨-, -, -, -, -, -, hcode, -, hy, hlen, hl⟩, hin, hse⟩ := cw
  obtain ⟨hx, hb, hml, ho, -⟩ := S
  obtain ⟨-, ⟨cellB, hcB, hoB, hclB⟩, hPc⟩ := hp
  intro T hT X
  rcases vx_callV X hx (C := C) (bytes := bytes) (maxL := maxL) (ret := ret) ho hl hin hse hcode hy hK (by rw [hT]; exact hcB) hoB hclB hg (hsize.trans hml.symm) (argsL := As) (rest := rest) (fun sig h => hn.trans (hlen sig h)) hstack hW (by rw [hb]; exact hdg)
    (fun vm₁ hW₁ => ⟨hf.1, hf.2, hPc (T.setVm vm₁) hT hW₁⟩) with ⟨v, vm₁, ⟨U', l2, c2, s2⟩, hW₁, X', ⟨g', mk, t, L, e1, e2, hq, h1, hL, h2, h3⟩, st⟩ | ⟨q, vm₁, ⟨U', l2, c2, s2⟩, hW₁, X', ⟨g', mk, t, L, E, ce, e1, e2, hq, hce, hcv, hcl, h1, hL, h2, h3⟩, st⟩
  · dsimp only [Pt.U, Pt.locs, Pt.cells, Pt.slots] at X' e1 e2 h1 h2 h3 st
    subst h1; subst h2; subst h3
    exact Or.inl ⟨v, (T.setVm vm₁).calling g' mk (Value.ref b :: As).toArray, t, U', L, hT, X', hL, e1, e2, hq, st⟩
  · dsimp only [Pt.U, Pt.locs, Pt.cells, Pt.slots] at X' e1 e2 h1 h2 h3 st hcl
    subst h1; subst h2; subst h3
    exact Or.inr ⟨q, (T.setVm vm₁).calling g' mk (Value.ref b :: As).toArray, t, U', L, E, ce, hT, X', hL, e1, e2, hq, hce, hcv, vx_cls hW₁ hcl, st⟩
theorem vx_runS (S : CallFix p m c cc nL s args Ts own) (hM : vx_Met l y ws rm Pc Qc XC mc ms free) (cw : CallB R s args own index y bytes maxL ret ws rm mc ms n ∧ (Cond.static y).before args s = true) (hp : PreS s H Pc As)
    (hg : g.method = m) (hn : As.length = n) (hsize : g.locals.size = nL) (hstack : g.stack = As.reverse ++ rest) (hW : 2 * g.monitorRoom + (rest.map fun v => v.category).sum ≤ 8) (hdg : decode cc g.pc = .ok (.invokestatic index, 3)) (hf : cells + mc ≤ R.cells ∧ slots + ms ≤ R.slots) :
    vx_Run p l e R s m args below meth c H locs cells slots mc ms g rest (Qc As.toArray) XC free := by
  have hK : vx_Back l R p e below s args y 3 8 (PreOf R mc ms Pc) (PostOf Qc mc ms free) (vx_Post XC mc ms free) := vx_callBack cw.1 hM hp.1
  obtain ⟨⟨-, -, -, -, -, -, hcode, hini, hy, hlen, hl⟩, hstt⟩ := cw
  obtain ⟨hx, hb, hml, ho, -⟩ := S
  intro T hT X
  rcases vx_callS X hx (bytes := bytes) (maxL := maxL) (ret := ret) ho hl hstt hini hcode hy hK hg (hsize.trans hml.symm) (argsL := As) (rest := rest) (fun sig h => hn.trans (hlen sig h)) hstack hW (by rw [hb]; exact hdg)
    (fun vm₁ hW₁ => ⟨hf.1, hf.2, hp.2 (T.setVm vm₁) hT hW₁⟩) with ⟨v, vm₁, ⟨U', l2, c2, s2⟩, hW₁, X', ⟨g', mk, t, L, e1, e2, hq, h1, hL, h2, h3⟩, st⟩ | ⟨q, vm₁, ⟨U', l2, c2, s2⟩, hW₁, X', ⟨g', mk, t, L, E, ce, e1, e2, hq, hce, hcv, hcl, h1, hL, h2, h3⟩, st⟩
  · dsimp only [Pt.U, Pt.locs, Pt.cells, Pt.slots] at X' e1 e2 h1 h2 h3 st
    subst h1; subst h2; subst h3
    exact Or.inl ⟨v, (T.setVm vm₁).calling g' mk As.toArray, t, U', L, hT, X', hL, e1, e2, hq, st⟩
  · dsimp only [Pt.U, Pt.locs, Pt.cells, Pt.slots] at X' e1 e2 h1 h2 h3 st hcl
    subst h1; subst h2; subst h3
    exact Or.inr ⟨q, (T.setVm vm₁).calling g' mk As.toArray, t, U', L, E, ce, hT, X', hL, e1, e2, hq, hce, hcv, vx_cls hW₁ hcl, st⟩
end Runs
section Rows
variable {p : Program} {l : Launch} {e : Env} {R : Room} {s : State} {m : MethodId} {args : Array Value} {below : List Frame} {meth : Method} {c : Code} {H : Heap} {locs : List Loc} {cells slots : Nat} {Q : State → Prop}
variable {mc ms : Nat} {free : Addr → Prop} {A0 A1 : Nat → Prop} {H0 : Heap} {a : Array Value} {pc : Nat} {ls : Array Slot} {st0 rest : List Value}
theorem vx_keep {st₀ t T' : State} {L : List Loc} (h0 : st₀.heap = H) (e1 : T'.heap = t.heap) (hS : va_S A0 H0 H locs) (hA : ∀ q, q < H.size → A1 q → A0 q) (hf : ∀ q, free q → A0 q) (hL : ∀ q ∈ L, free q.base) (hF : va_F A1 st₀ t) :
    H.size ≤ T'.heap.size ∧ (∀ q : Nat, q < H.size → ¬ A1 q → T'.heap[q]? = H[q]?) ∧ va_S A0 H0 T'.heap (locs ++ L) := by
  obtain ⟨hz, hk⟩ := hF
  rw [h0] at hz hk
  exact ⟨by rw [e1]; exact hz, fun q h1 h2 => by rw [e1]; exact hk q h1 h2,
    ⟨Nat.le_trans hS.1 (by rw [e1]; exact hz), fun q h1 h2 => by rw [e1, hk q (Nat.lt_of_lt_of_le h1 hS.1) (fun z => h2 (hA q (Nat.lt_of_lt_of_le h1 hS.1) z))]; exact hS.2.1 q h1 h2, fun q hq => by
      rcases List.mem_append.mp hq with h | h
      · exact hS.2.2 q h
      · exact hf _ (hL q h)⟩⟩
theorem vx_calli {S SX : Type} {post : Int32 → S → Prop} {px : SX → Prop} {B : S → State → Prop} {BX : String → SX → State → Prop} {AX : Nat → Prop} (hr : vx_Run p l e R s m args below meth c H locs cells slots mc ms (F0 m pc ls st0) rest (va_Qi post B A1 a) (vx_X px BX AX) free) (hS : va_S A0 H0 H locs) (hA : ∀ q, q < H.size → A1 q → A0 q) (hf : ∀ q, free q → A0 q) (hAX : ∀ q, q < H.size → AX q → A0 q)
    (kx : ∀ (E : String) (ce : Cell) (q9 : Addr) (u : SX) (t : State) (H1 : Heap) (locs1 : List Loc), t.heap = H1 → s.vm.Alike t.vm → px u → BX E u t → H.size ≤ H1.size → (∀ q : Nat, q < H.size → ¬ AX q → H1[q]? = H[q]?) → va_S A0 H0 H1 locs1 → H1[q9]? = some ce → ce.vm = .none → s.vm.findClass E = some ce.cls → vx_W p l e R s m args below meth c H1 locs1 (cells + mc) (slots + ms) Q (F0 m pc ls rest) q9)
    (kk : ∀ (r : Int32) (u : S) (t : State) (H1 : Heap) (locs1 : List Loc), t.heap = H1 → s.vm.Alike t.vm → post r u → B u t → H.size ≤ H1.size → (∀ q : Nat, q < H.size → ¬ A1 q → H1[q]? = H[q]?) → va_S A0 H0 H1 locs1 → W p l e R s m args below meth c H1 locs1 (cells + mc) (slots + ms) Q (F0 m (pc + 3) ls (.int r :: rest))) : W p l e R s m args below meth c H locs cells slots Q (F0 m pc ls st0) := by
  intro T hT X
  rcases hr T hT X with ⟨v, st₀, t, T', L, h0, X', hL, e1, e2, ⟨⟨r, u, hv, hp, hb⟩, hF⟩, st⟩ | ⟨q, st₀, t, T', L, E, ce, h0, X', hL, e1, e2, ⟨u, hp, hb, hF⟩, hce, hcv, hcl, st⟩
  · cases hv
    obtain ⟨k1, k2, k3⟩ := vx_keep h0 e1 hS hA hf hL hF
    obtain ⟨t2, a1, b1⟩ := kk r u t T'.heap (locs ++ L) e1.symm (by rw [← e2]; exact X'.warmed.alike) hp hb k1 k2 k3 T' rfl X'
    exact ⟨t2, st t2 a1, b1⟩
  · obtain ⟨k1, k2, k3⟩ := vx_keep h0 e1 hS hAX hf hL hF
    obtain ⟨t2, a1, b1⟩ := kx E ce q u t T'.heap (locs ++ L) e1.symm (by rw [← e2]; exact X'.warmed.alike) hp hb k1 k2 k3 (by rw [e1]; exact hce) hcv hcl T' rfl X'
    exact ⟨t2, st.trans a1, b1⟩
theorem vx_calll {S SX : Type} {post : Int64 → S → Prop} {px : SX → Prop} {B : S → State → Prop} {BX : String → SX → State → Prop} {AX : Nat → Prop} (hr : vx_Run p l e R s m args below meth c H locs cells slots mc ms (F0 m pc ls st0) rest (va_Ql post B A1 a) (vx_X px BX AX) free) (hS : va_S A0 H0 H locs) (hA : ∀ q, q < H.size → A1 q → A0 q) (hf : ∀ q, free q → A0 q) (hAX : ∀ q, q < H.size → AX q → A0 q)
    (kx : ∀ (E : String) (ce : Cell) (q9 : Addr) (u : SX) (t : State) (H1 : Heap) (locs1 : List Loc), t.heap = H1 → s.vm.Alike t.vm → px u → BX E u t → H.size ≤ H1.size → (∀ q : Nat, q < H.size → ¬ AX q → H1[q]? = H[q]?) → va_S A0 H0 H1 locs1 → H1[q9]? = some ce → ce.vm = .none → s.vm.findClass E = some ce.cls → vx_W p l e R s m args below meth c H1 locs1 (cells + mc) (slots + ms) Q (F0 m pc ls rest) q9)
    (kk : ∀ (r : Int64) (u : S) (t : State) (H1 : Heap) (locs1 : List Loc), t.heap = H1 → s.vm.Alike t.vm → post r u → B u t → H.size ≤ H1.size → (∀ q : Nat, q < H.size → ¬ A1 q → H1[q]? = H[q]?) → va_S A0 H0 H1 locs1 → W p l e R s m args below meth c H1 locs1 (cells + mc) (slots + ms) Q (F0 m (pc + 3) ls (.long r :: rest))) : W p l e R s m args below meth c H locs cells slots Q (F0 m pc ls st0) := by
  intro T hT X
  rcases hr T hT X with ⟨v, st₀, t, T', L, h0, X', hL, e1, e2, ⟨⟨r, u, hv, hp, hb⟩, hF⟩, st⟩ | ⟨q, st₀, t, T', L, E, ce, h0, X', hL, e1, e2, ⟨u, hp, hb, hF⟩, hce, hcv, hcl, st⟩
  · cases hv
    obtain ⟨k1, k2, k3⟩ := vx_keep h0 e1 hS hA hf hL hF
    obtain ⟨t2, a1, b1⟩ := kk r u t T'.heap (locs ++ L) e1.symm (by rw [← e2]; exact X'.warmed.alike) hp hb k1 k2 k3 T' rfl X'
    exact ⟨t2, st t2 a1, b1⟩
  · obtain ⟨k1, k2, k3⟩ := vx_keep h0 e1 hS hAX hf hL hF
    obtain ⟨t2, a1, b1⟩ := kx E ce q u t T'.heap (locs ++ L) e1.symm (by rw [← e2]; exact X'.warmed.alike) hp hb k1 k2 k3 (by rw [e1]; exact hce) hcv hcl T' rfl X'
    exact ⟨t2, st.trans a1, b1⟩
theorem vx_callf {S SX : Type} {post : UInt32 → S → Prop} {px : SX → Prop} {B : S → State → Prop} {BX : String → SX → State → Prop} {AX : Nat → Prop} (hr : vx_Run p l e R s m args below meth c H locs cells slots mc ms (F0 m pc ls st0) rest (va_Qf post B A1 a) (vx_X px BX AX) free) (hS : va_S A0 H0 H locs) (hA : ∀ q, q < H.size → A1 q → A0 q) (hf : ∀ q, free q → A0 q) (hAX : ∀ q, q < H.size → AX q → A0 q)
    (kx : ∀ (E : String) (ce : Cell) (q9 : Addr) (u : SX) (t : State) (H1 : Heap) (locs1 : List Loc), t.heap = H1 → s.vm.Alike t.vm → px u → BX E u t → H.size ≤ H1.size → (∀ q : Nat, q < H.size → ¬ AX q → H1[q]? = H[q]?) → va_S A0 H0 H1 locs1 → H1[q9]? = some ce → ce.vm = .none → s.vm.findClass E = some ce.cls → vx_W p l e R s m args below meth c H1 locs1 (cells + mc) (slots + ms) Q (F0 m pc ls rest) q9)
    (kk : ∀ (r : UInt32) (u : S) (t : State) (H1 : Heap) (locs1 : List Loc), t.heap = H1 → s.vm.Alike t.vm → post r u → B u t → H.size ≤ H1.size → (∀ q : Nat, q < H.size → ¬ A1 q → H1[q]? = H[q]?) → va_S A0 H0 H1 locs1 → W p l e R s m args below meth c H1 locs1 (cells + mc) (slots + ms) Q (F0 m (pc + 3) ls (.float r :: rest))) : W p l e R s m args below meth c H locs cells slots Q (F0 m pc ls st0) := by
  intro T hT X
  rcases hr T hT X with ⟨v, st₀, t, T', L, h0, X', hL, e1, e2, ⟨⟨r, u, hv, hp, hb⟩, hF⟩, st⟩ | ⟨q, st₀, t, T', L, E, ce, h0, X', hL, e1, e2, ⟨u, hp, hb, hF⟩, hce, hcv, hcl, st⟩
  · cases hv
    obtain ⟨k1, k2, k3⟩ := vx_keep h0 e1 hS hA hf hL hF
    obtain ⟨t2, a1, b1⟩ := kk r u t T'.heap (locs ++ L) e1.symm (by rw [← e2]; exact X'.warmed.alike) hp hb k1 k2 k3 T' rfl X'
    exact ⟨t2, st t2 a1, b1⟩
  · obtain ⟨k1, k2, k3⟩ := vx_keep h0 e1 hS hAX hf hL hF
    obtain ⟨t2, a1, b1⟩ := kx E ce q u t T'.heap (locs ++ L) e1.symm (by rw [← e2]; exact X'.warmed.alike) hp hb k1 k2 k3 (by rw [e1]; exact hce) hcv hcl T' rfl X'
    exact ⟨t2, st.trans a1, b1⟩
theorem vx_calld {S SX : Type} {post : UInt64 → S → Prop} {px : SX → Prop} {B : S → State → Prop} {BX : String → SX → State → Prop} {AX : Nat → Prop} (hr : vx_Run p l e R s m args below meth c H locs cells slots mc ms (F0 m pc ls st0) rest (va_Qd post B A1 a) (vx_X px BX AX) free) (hS : va_S A0 H0 H locs) (hA : ∀ q, q < H.size → A1 q → A0 q) (hf : ∀ q, free q → A0 q) (hAX : ∀ q, q < H.size → AX q → A0 q)
    (kx : ∀ (E : String) (ce : Cell) (q9 : Addr) (u : SX) (t : State) (H1 : Heap) (locs1 : List Loc), t.heap = H1 → s.vm.Alike t.vm → px u → BX E u t → H.size ≤ H1.size → (∀ q : Nat, q < H.size → ¬ AX q → H1[q]? = H[q]?) → va_S A0 H0 H1 locs1 → H1[q9]? = some ce → ce.vm = .none → s.vm.findClass E = some ce.cls → vx_W p l e R s m args below meth c H1 locs1 (cells + mc) (slots + ms) Q (F0 m pc ls rest) q9)
    (kk : ∀ (r : UInt64) (u : S) (t : State) (H1 : Heap) (locs1 : List Loc), t.heap = H1 → s.vm.Alike t.vm → post r u → B u t → H.size ≤ H1.size → (∀ q : Nat, q < H.size → ¬ A1 q → H1[q]? = H[q]?) → va_S A0 H0 H1 locs1 → W p l e R s m args below meth c H1 locs1 (cells + mc) (slots + ms) Q (F0 m (pc + 3) ls (.double r :: rest))) : W p l e R s m args below meth c H locs cells slots Q (F0 m pc ls st0) := by
  intro T hT X
  rcases hr T hT X with ⟨v, st₀, t, T', L, h0, X', hL, e1, e2, ⟨⟨r, u, hv, hp, hb⟩, hF⟩, st⟩ | ⟨q, st₀, t, T', L, E, ce, h0, X', hL, e1, e2, ⟨u, hp, hb, hF⟩, hce, hcv, hcl, st⟩
  · cases hv
    obtain ⟨k1, k2, k3⟩ := vx_keep h0 e1 hS hA hf hL hF
    obtain ⟨t2, a1, b1⟩ := kk r u t T'.heap (locs ++ L) e1.symm (by rw [← e2]; exact X'.warmed.alike) hp hb k1 k2 k3 T' rfl X'
    exact ⟨t2, st t2 a1, b1⟩
  · obtain ⟨k1, k2, k3⟩ := vx_keep h0 e1 hS hAX hf hL hF
    obtain ⟨t2, a1, b1⟩ := kx E ce q u t T'.heap (locs ++ L) e1.symm (by rw [← e2]; exact X'.warmed.alike) hp hb k1 k2 k3 (by rw [e1]; exact hce) hcv hcl T' rfl X'
    exact ⟨t2, st.trans a1, b1⟩
theorem vx_callv {S SX : Type} {post : S → Prop} {px : SX → Prop} {B : S → State → Prop} {BX : String → SX → State → Prop} {AX : Nat → Prop} (hr : vx_Run p l e R s m args below meth c H locs cells slots mc ms (F0 m pc ls st0) rest (va_Qv post B A1 a) (vx_X px BX AX) free) (hS : va_S A0 H0 H locs) (hA : ∀ q, q < H.size → A1 q → A0 q) (hf : ∀ q, free q → A0 q) (hAX : ∀ q, q < H.size → AX q → A0 q)
    (kx : ∀ (E : String) (ce : Cell) (q9 : Addr) (u : SX) (t : State) (H1 : Heap) (locs1 : List Loc), t.heap = H1 → s.vm.Alike t.vm → px u → BX E u t → H.size ≤ H1.size → (∀ q : Nat, q < H.size → ¬ AX q → H1[q]? = H[q]?) → va_S A0 H0 H1 locs1 → H1[q9]? = some ce → ce.vm = .none → s.vm.findClass E = some ce.cls → vx_W p l e R s m args below meth c H1 locs1 (cells + mc) (slots + ms) Q (F0 m pc ls rest) q9)
    (kk : ∀ (u : S) (t : State) (H1 : Heap) (locs1 : List Loc), t.heap = H1 → s.vm.Alike t.vm → post u → B u t → H.size ≤ H1.size → (∀ q : Nat, q < H.size → ¬ A1 q → H1[q]? = H[q]?) → va_S A0 H0 H1 locs1 → W p l e R s m args below meth c H1 locs1 (cells + mc) (slots + ms) Q (F0 m (pc + 3) ls (rest))) : W p l e R s m args below meth c H locs cells slots Q (F0 m pc ls st0) := by
  intro T hT X
  rcases hr T hT X with ⟨v, st₀, t, T', L, h0, X', hL, e1, e2, ⟨⟨u, hv, hp, hb⟩, hF⟩, st⟩ | ⟨q, st₀, t, T', L, E, ce, h0, X', hL, e1, e2, ⟨u, hp, hb, hF⟩, hce, hcv, hcl, st⟩
  · cases hv
    obtain ⟨k1, k2, k3⟩ := vx_keep h0 e1 hS hA hf hL hF
    obtain ⟨t2, a1, b1⟩ := kk u t T'.heap (locs ++ L) e1.symm (by rw [← e2]; exact X'.warmed.alike) hp hb k1 k2 k3 T' rfl X'
    exact ⟨t2, st t2 a1, b1⟩
  · obtain ⟨k1, k2, k3⟩ := vx_keep h0 e1 hS hAX hf hL hF
    obtain ⟨t2, a1, b1⟩ := kx E ce q u t T'.heap (locs ++ L) e1.symm (by rw [← e2]; exact X'.warmed.alike) hp hb k1 k2 k3 (by rw [e1]; exact hce) hcv hcl T' rfl X'
    exact ⟨t2, st.trans a1, b1⟩
/-- caught by the row x of this method's table; the rows ahead don't take it -/
theorem vx_catch {own name : String} {E : String} {ce : Cell} {q : Addr} (hown : s.vm.findClass own = some m.cls) (pre : List ExceptionTableEntry) (x : ExceptionTableEntry) (suf : List ExceptionTableEntry) (hsplit : c.exceptionTable.toList = pre ++ x :: suf)
    (hpass : ∀ z ∈ pre, covers z pc = false ∨ (z.catchType ≠ 0 ∧ ∃ nm : String, (Cond.classLink own z.catchType nm).before args s = true ∧ va_Nc E nm s)) (hx : covers x pc = true) (h0 : x.catchType ≠ 0)
    (hlink : (Cond.classLink own x.catchType name).before args s = true) (hcast : (Cond.castable E name).before args s = true) (hcell : H[q]? = some ce) (hv : ce.vm = .none) (hcl : s.vm.findClass E = some ce.cls)
    (kk : W p l e R s m args below meth c H locs cells slots Q (F0 m x.handlerPc ls [.ref q])) : vx_W p l e R s m args below meth c H locs cells slots Q (F0 m pc ls rest) q := by
  intro T hT X
  have hpl : e.platform.magicAccessors = ({} : Platform).magicAccessors := by rw [X.admits.platform]
  obtain ⟨c3, c4, hc3, hc4, hasg⟩ := Cond.castable_spec hcast
  cases Option.some.inj (hc3.symm.trans hcl)
  obtain ⟨c5, hc5, hcl5⟩ := Cond.classLink_spec hown hlink e.platform hpl
  cases Option.some.inj (hc4.symm.trans hc5)
  obtain ⟨vm', X', st⟩ := X.thenCaughtThrough q (g := F0 m pc ls rest) rfl (Steps.refl _) (by rw [hT]; exact hcell) (by rw [hv]; rfl) (by obtain ⟨k9, h9, -⟩ := Vm.findClass_spec hcl; exact ⟨k9, h9⟩) pre x suf hsplit
    (fun z hz => by
      rcases hpass z hz with h | ⟨hz0, nm, hl1, hn1⟩
      · exact Or.inl h
      · obtain ⟨c6, hc6, hcl6⟩ := Cond.classLink_spec hown hl1 e.platform hpl
        obtain ⟨a8, b8, h1, h2, h3⟩ := hn1
        cases Option.some.inj (h1.symm.trans hcl)
        cases Option.some.inj (h2.symm.trans hc6)
        exact Or.inr ⟨hz0, _, hcl6, h3⟩) hx (Or.inr ⟨h0, c4, hcl5, hasg⟩)
  obtain ⟨t, a1, b1⟩ := kk (T.setVm vm') hT X'
  exact ⟨t, st.trans a1, b1⟩
end Rows
section Ends
variable {p : Program} {l : Launch} {e : Env} {R : Room} {s : State} {m : MethodId} {args : Array Value} {below : List Frame} {meth : Method} {c : Code} {H : Heap} {locs : List Loc} {cells slots : Nat} {Q : State → Prop}
variable {mc ms : Nat} {free : Addr → Prop} {A0 A1 : Nat → Prop} {H0 : Heap} {a : Array Value} {ls : Array Slot} {st0 rest : List Value}
variable {Qc : Array Value → State → Outcome → State → Prop} {XC : String → State → State → Prop}
/-- what a body that may throw owes at its end -/
def vx_MQ (below : List Frame) (Qc : Array Value → State → Outcome → State → Prop) (XC : String → State → State → Prop) (a : Array Value) (s : State) (mc ms : Nat) (free : Addr → Prop) : State → Prop := fun t =>
  ∃ o, t.status = .running ∧ Ended t below o ∧ vx_Q Qc XC mc ms free a s o t
theorem vx_ret {g : JFrame} {mc ms : Nat} (k : W p l e R s m args below meth c H locs cells slots (MQ below Qc args s mc ms free) g) : W p l e R s m args below meth c H locs cells slots (vx_MQ below Qc XC args s mc ms free) g := by
  intro T hT X
  obtain ⟨t, a1, o, b1, b2, b3, b4⟩ := k T hT X
  exact ⟨t, a1, o, b1, b2, Or.inl ⟨b3, b4⟩⟩
/-- not caught here: it goes on to the caller -/
theorem vx_widen {g : JFrame} {q : Addr} {k n : Nat} (h1 : cells ≤ k) (h2 : slots ≤ n) (kk : vx_W p l e R s m args below meth c H locs k n Q g q) : vx_W p l e R s m args below meth c H locs cells slots Q g q := fun T hT X => kk T hT (stand_widen X h1 h2)
theorem vx_out {pc : Nat} {E : String} {ce : Cell} {q : Addr} {mc ms : Nat} (hout : ∀ x ∈ c.exceptionTable.toList, covers x pc = false) (hlocks : meth.locks = false) (hcell : H[q]? = some ce) (hv : ce.vm = .none) (hcl : s.vm.findClass E = some ce.cls)
    (hx : ∀ t : State, t.heap = H → s.vm.Alike t.vm → XC E s t) (hf : ∀ z ∈ locs, free z.base) (hc : cells ≤ mc) (hs : slots ≤ ms) :
    vx_W p l e R s m args below meth c H locs cells slots (vx_MQ below Qc XC args s mc ms free) (F0 m pc ls rest) q := by
  intro T hT X
  obtain ⟨st1, hrun, hend, hW, hsm⟩ := X.leaveThrown q (g := F0 m pc ls rest) rfl rfl rfl hout hlocks
  have hcell9 : (T.setFrames (.throwing q :: below)).heap[q]? = some ce := by
    show T.heap[q]? = some ce
    rw [hT]; exact hcell
  exact ⟨_, st1, .threw q, hrun, hend, Or.inr ⟨q, rfl, E, ce, locs, hx _ hT hW.alike, hcell9, hv, hcl, hW, hsm.mono hc hs, hf⟩⟩
theorem vx_frame {U : State} {k n : Nat} (h : s.sameButNew ({ U with vm := s.vm } : State) locs k n) : s.heap.size ≤ U.heap.size ∧ ∀ q : Nat, q < s.heap.size → (∀ z ∈ locs, z.base ≠ q) → U.heap[q]? = s.heap[q]? := by
  obtain ⟨-, h2, -, -, -, h6⟩ := h
  refine ⟨h2, fun q hq hz => ?_⟩
  obtain ⟨c9, e1, e2, e3, e4⟩ := h6 q _ (Array.getElem?_eq_getElem hq)
  have hs : c9.slots = (s.heap[q]).slots := Array.ext_getElem? fun i => e4 i fun hm => hz _ hm rfl
  have h9 : c9 = s.heap[q] := by
    rw [hs] at e2
    exact e2
  have e5 : U.heap[q]? = some c9 := e1
  rw [e5, h9, Array.getElem?_eq_getElem hq]
/-- the words of a throw but the four that speak of the heap -/
def vx_no (w : Cond) : Bool := decide (w ≠ .isRef (.static Bundle.tN "UNASSIGNED_STACK" Bundle.steD)) && decide (w ≠ .isRef (.static Bundle.tN "SUPPRESSED_SENTINEL" Bundle.listD)) && decide (w ≠ .laysStatic Bundle.tN "UNASSIGNED_STACK" Bundle.steD) && decide (w ≠ .laysStatic Bundle.tN "SUPPRESSED_SENTINEL" Bundle.listD)
def vx_at0 (own : String) (ic : Nat) (X : String) (names : List String) : List Cond := (Bundle.ownAtoms0 own ic X names).filter vx_no
def vx_atS (own : String) (ic : Nat) (X : String) (names : List String) : List Cond := (Bundle.ownAtoms own ic X names).filter vx_no
/-- a word that the tables alone decide, or a good one -/
def vx_ot (w : Cond) : Bool := w.onTables || goodWord w
theorem vx_ot_at {args a' : Array Value} {s U : State} {w : Cond} (hW : s.WarmedH U.vm) (hvm : s.vm = U.vm) (hg : vx_ot w = true) (h : w.before args s = true) : w.before a' U = true := by
  simp only [vx_ot, Bool.or_eq_true] at hg
  rcases hg with hg | hg
  · exact va_tabs hg hvm h
  · exact word_at hW (good_of_word hg) h
/-- a list's words: the good ones out of the method's own list, the others by premises of their own -/
theorem vx_hat {args : Array Value} {s : State} {L B : List Cond} (h1 : ∀ w ∈ L.filter goodWord, w.before args s = true) (h2 : ∀ w ∈ L.filter (fun w => !goodWord w), w ∈ B) (h3 : ∀ w ∈ B, w.before args s = true) : ∀ w ∈ L, w.before args s = true := by
  intro w hw
  by_cases g : goodWord w = true
  · exact h1 w (List.mem_filter.mpr ⟨hw, g⟩)
  · refine h3 w (h2 w (List.mem_filter.mpr ⟨hw, ?_⟩))
    show (!goodWord w) = true
    cases hgw : goodWord w
    · rfl
    · exact absurd hgw g
theorem vx_c {args : Array Value} {s : State} {w : Cond} {B : List Cond} (h : w.before args s = true) (t : ∀ w ∈ B, w.before args s = true) : ∀ w' ∈ w :: B, w'.before args s = true := fun w' h' => (List.mem_cons.mp h').elim (fun e => by rw [e]; exact h) (t w')
theorem vx_n {args : Array Value} {s : State} : ∀ w ∈ ([] : List Cond), w.before args s = true := fun _ h => nomatch h
theorem vx_own {args : Array Value} {s : State} {L : List Cond} (h1 : ∀ w ∈ L.filter vx_no, w.before args s = true)
    (hU : (Cond.isRef (.static Bundle.tN "UNASSIGNED_STACK" Bundle.steD)).before args s = true) (hN : (Cond.isRef (.static Bundle.tN "SUPPRESSED_SENTINEL" Bundle.listD)).before args s = true)
    (lU : (Cond.laysStatic Bundle.tN "UNASSIGNED_STACK" Bundle.steD).before args s = true) (lN : (Cond.laysStatic Bundle.tN "SUPPRESSED_SENTINEL" Bundle.listD).before args s = true) : ∀ w ∈ L, w.before args s = true := by
  intro w hw
  by_cases e1 : w = .isRef (.static Bundle.tN "UNASSIGNED_STACK" Bundle.steD)
  · rw [e1]; exact hU
  · by_cases e2 : w = .isRef (.static Bundle.tN "SUPPRESSED_SENTINEL" Bundle.listD)
    · rw [e2]; exact hN
    · by_cases e3 : w = .laysStatic Bundle.tN "UNASSIGNED_STACK" Bundle.steD
      · rw [e3]; exact lU
      · by_cases e4 : w = .laysStatic Bundle.tN "SUPPRESSED_SENTINEL" Bundle.listD
        · rw [e4]; exact lN
        · exact h1 w (List.mem_filter.mpr ⟨hw, by unfold vx_no; rw [decide_eq_true e1, decide_eq_true e2, decide_eq_true e3, decide_eq_true e4]; rfl⟩)
/-- where a static field lies, its class's statics cell in H -/
def vx_L (C n d : String) (A : Nat → Prop) (U : State) (H : Heap) : Prop := ∃ (c : ClassId) (k : Class) (i : Nat) (f : Field) (a : Nat) (cell : Cell), U.vm.findClass C = some c ∧ U.fieldFound? C n d = some (c, k, i, f) ∧ f.isStatic = true ∧ k.statics = some a ∧ H[a]? = some cell ∧ cell.vm.isStatics = true ∧ cell.cls = c ∧ f.slot < cell.slots.size ∧ k.staticTypes[f.slot]? = some f.type ∧ ¬ A a
theorem vx_L.moved {C n d : String} {A : Nat → Prop} {u U : State} {H : Heap} (hvm : u.vm.Alike U.vm) (h : vx_L C n d A u H) : vx_L C n d A U H := by
  obtain ⟨c, k, i, f, a, cell, h1, h2, h3, h4, h5, h6, h7, h8, h9, h10⟩ := h
  obtain ⟨k', hi', he⟩ := State.fieldFound?_setVm hvm h2
  exact ⟨c, k', i, f, a, cell, by rw [hvm.findClass]; exact h1, hi', h3, by rw [he]; exact h4, h5, h6, h7, h8, by rw [he]; exact h9, h10⟩
theorem vx_L.kept {C n d : String} {A : Nat → Prop} {U : State} {H H1 : Heap} (h : vx_L C n d A U H) (hq : ∀ a : Nat, a < H.size → ¬ A a → H1[a]? = H[a]?) : vx_L C n d A U H1 := by
  obtain ⟨c, k, i, f, a, cell, h1, h2, h3, h4, h5, h6, h7, h8, h9, h10⟩ := h
  exact ⟨c, k, i, f, a, cell, h1, h2, h3, h4, by rw [hq a (Array.getElem?_eq_some_iff.mp h5).1 h10]; exact h5, h6, h7, h8, h9, h10⟩
theorem vx_L.narrow {C n d : String} {A B : Nat → Prop} {U : State} {H : Heap} (h : vx_L C n d A U H) (hAB : ∀ q, B q → A q) : vx_L C n d B U H := by
  obtain ⟨c, k, i, f, a, cell, h1, h2, h3, h4, h5, h6, h7, h8, h9, h10⟩ := h
  exact ⟨c, k, i, f, a, cell, h1, h2, h3, h4, h5, h6, h7, h8, h9, fun z => h10 (hAB _ z)⟩
theorem vx_L.word {C n d : String} {A : Nat → Prop} {s : State} {args : Array Value} (h : vx_L C n d A s s.heap) : (Cond.laysStatic C n d).before args s = true := by
  obtain ⟨c, k, i, f, a, cell, h1, h2, h3, h4, h5, h6, h7, h8, h9, -⟩ := h
  show (Cond.laysStatic C n d).holds args s none s [] = true
  exact Cond.laysStatic_of h1 h2 h3 h4 h5 h6 h7 h8 h9
/-- .. and what it holds: null or some reference -/
def vx_Zq (C n d : String) (A : Nat → Prop) (U : State) (H : Heap) : Prop := va_Zq C n d A U H ∧ vx_L C n d A U H
theorem vx_Zq.moved {C n d : String} {A : Nat → Prop} {u U : State} {H : Heap} (hvm : u.vm.Alike U.vm) (h : vx_Zq C n d A u H) : vx_Zq C n d A U H := ⟨va_Zq.moved hvm h.1, vx_L.moved hvm h.2⟩
theorem vx_Zq.kept {C n d : String} {A : Nat → Prop} {U : State} {H H1 : Heap} (h : vx_Zq C n d A U H) (hq : ∀ a : Nat, a < H.size → ¬ A a → H1[a]? = H[a]?) : vx_Zq C n d A U H1 := ⟨va_Zq.kept h.1 hq, vx_L.kept h.2 hq⟩
theorem vx_Zq.narrow {C n d : String} {A B : Nat → Prop} {U : State} {H : Heap} (h : vx_Zq C n d A U H) (hAB : ∀ q, B q → A q) : vx_Zq C n d B U H := ⟨va_Zq.narrow h.1 hAB, vx_L.narrow h.2 hAB⟩
theorem vx_Zqof {args : Array Value} {s : State} {C n d : String} {A : Nat → Prop} (hl : (Cond.laysStatic C n d).before args s = true) (hini : (Cond.initialized C).before args s = true) (h : (Cond.isRef (.static C n d)).before args s = true) (hA : ∀ a : Nat, a < s.heap.size → ¬ A a) : vx_Zq C n d A s s.heap := by
  refine ⟨va_Zqof hl hini h hA, ?_⟩
  obtain ⟨c, k, i, f, a, cell, h1, h2, h3, h4, h5, h6, h7, h8, h9⟩ := Cond.laysStatic_spec hl
  exact ⟨c, k, i, f, a, cell, h1, h2, h3, h4, h5, h6, h7, h8, h9, hA a (Array.getElem?_eq_some_iff.mp h5).1⟩
theorem vx_isRef {C n d : String} {v : Value} {A : Nat → Prop} {s : State} {args : Array Value} (h : va_Z C n d v A s s.heap) (hv : v.isRef = true) : (Cond.isRef (.static C n d)).before args s = true := by
  obtain ⟨cf, kf, fi, f, a, cell, h1, h2, h3, h4, h5, h6, h7, -⟩ := h
  have he : (Term.static C n d).eval args s none [] s = some v := by
    simp [Term.eval, State.fieldNamed?, h1, h2, h4, h5, h6, h7]
  simp only [Cond.before, Cond.holds, Cond.value, he]
  cases v <;> simp_all [Value.isRef]
theorem vx_isRefq {C n d : String} {A : Nat → Prop} {s : State} {args : Array Value} (h : va_Zq C n d A s s.heap) : (Cond.isRef (.static C n d)).before args s = true := by
  rcases h with h | ⟨t, h⟩
  · exact vx_isRef h rfl
  · exact vx_isRef h rfl
/-- the same frame, seen from here: as if the method were called anew in this heap -/
theorem vx_rebase {T : State} (X : Stand p l e R s m args below meth c T locs cells slots) {R' : Room} (hf : R'.frames ≤ R.frames) (hl : R'.locals ≤ R.locals) (hc : cells + R'.cells ≤ R.cells) (hs : slots + R'.slots ≤ R.slots) :
    Stand p l e R' ((T.setVm s.vm).setFrames (.invoking m args :: below)) m args below meth c T [] 0 0 := by
  have htop : (T.setVm s.vm).topJava?.isSome := X.here.top
  have hF : ((T.setVm s.vm).setFrames (.invoking m args :: below)).frames = .invoking m args :: below := State.frames_setFrames _ (State.cur_lt_of_top htop)
  obtain ⟨g₀, hg0⟩ := Option.isSome_iff_exists.mp htop
  obtain ⟨r, hr⟩ := State.topJava?_eq_some.mp hg0
  have hl9 : e.platform.stackLimits (T.setVm s.vm).me = e.platform.stackLimits s.me := X.limits
  have hb9 : (T.setVm s.vm).me.stackBytes = s.me.stackBytes := X.bytes
  refine ⟨X.admits, X.cas, X.clock, hF, ?_, X.hears, X.method, X.code, X.here, X.tail, X.warmed, ?_, ?_, ?_⟩
  · have h := X.room
    have hU : ((T.setVm s.vm).setFrames (.invoking m args :: below)).localsInUse = s.localsInUse := by
      rw [State.localsInUse_invoking hF (meth := meth) (c := c) X.method X.code, State.localsInUse_invoking X.frames X.method X.code]
    simp only [State.hasRoom, Bool.and_eq_true, decide_eq_true_eq] at h ⊢
    obtain ⟨⟨⟨⟨h1, h2, h3, h4, h5, h6⟩, h7⟩, h8⟩, h9⟩ := h
    rw [X.frames, List.length_cons] at h2 h3
    have q1 := X.heapSize
    have q2 := X.used
    simp only [hF, hU, List.length_cons, State.stackLimits_setFrames, State.stackBytes_setFrames, hl9, hb9]
    refine ⟨⟨⟨⟨by omega, by omega, by omega, by omega, by omega, h6⟩, ?_⟩, ?_⟩, X.book⟩
    · show T.heap.size + R'.cells ≤ e.platform.maxCells
      omega
    · show T.slotsUsed + R'.slots ≤ e.platform.maxSlots
      omega
  · rw [State.stackLimits_setFrames]; rfl
  · rw [State.stackBytes_setFrames]; rfl
  · refine ⟨?_, Nat.le_refl _, Nat.le_refl _, ?_, ?_, fun a c9 h9 => ⟨c9, h9, rfl, rfl, fun _ _ => rfl⟩⟩
    · obtain ⟨t, ht, -⟩ := State.frames_cons hr
      show T.setVm s.vm = { ((T.setVm s.vm).setFrames (.invoking m args :: below)).setFrames (T.setVm s.vm).frames with heap := T.heap, slotsUsed := T.slotsUsed }
      rw [State.setFrames_setFrames, State.setFrames_self ht]
      rfl
    · show T.slotsUsed = T.slotsUsed + ((T.heap.toList.drop T.heap.size).map (·.slots.size)).sum
      rw [List.drop_eq_nil_of_le (Nat.le_of_eq Array.length_toList)]
      rfl
    · show ((T.heap.toList.drop T.heap.size).map (·.slots.size)).sum ≤ 0
      rw [List.drop_eq_nil_of_le (Nat.le_of_eq Array.length_toList)]
      exact Nat.le_refl _
/-- 'throw new E()': new; dup; invokespecial; athrow -/
theorem vx_throw0 {cc : ByteArray} {pc : Nat} (hexec : p.tables.exec = Jvm.exec) (hb : c.code = cc) (hl : l.stackTraces = false) {own cls : String} {names : List String} {ik ic mc ms : Nat} {A : Nat → Prop}
    (hown : s.vm.findClass own = some m.cls) (hcls : Bundle.fit cls = true) (hnames : ∀ n ∈ names, Bundle.fit n = true)
    (hk : (Cond.classLink own ik cls).before args s = true) (hini : (Cond.initialized cls).before args s = true) (hat : ∀ w ∈ vx_at0 own ic cls names, w.before args s = true)
    (hgood : ∀ w ∈ Cond.classLink own ik cls :: Cond.initialized cls :: vx_at0 own ic cls names, vx_ot w = true)
    (hU : vx_Zq Bundle.tN "UNASSIGNED_STACK" Bundle.steD A s s.heap) (hN : vx_Zq Bundle.tN "SUPPRESSED_SENTINEL" Bundle.listD A s s.heap) (hS : va_S A s.heap H locs) (hsize : ls.size = c.maxLocals)
    (d0 : decode cc pc = .ok (.new ik, 3)) (d3 : decode cc (pc + 3) = .ok (.dup, 1)) (d4 : decode cc (pc + 4) = .ok (.invokespecial ic, 3)) (d7 : decode cc (pc + 7) = .ok (.athrow, 1))
    (hout : ∀ x ∈ c.exceptionTable.toList, covers x (pc + 7) = false)
    (hRframes : names.length + 3 < R.frames) (hRlocals : (rest.map fun v => v.category).sum + (13 * (names.length + 1) + 42) ≤ R.locals) (hRcells : cells + 1 ≤ R.cells) (hRslots : slots + 6 ≤ R.slots) (hlocks : meth.locks = false)
    (hx : ∀ t : State, s.vm.Alike t.vm → H.size ≤ t.heap.size → (∀ q : Nat, q < H.size → t.heap[q]? = H[q]?) → XC cls s t)
    (hf : ∀ z ∈ locs, free z.base) (hc : cells + 1 ≤ mc) (hs : slots + 6 ≤ ms) :
    W p l e R s m args below meth c H locs cells slots (vx_MQ below Qc XC args s mc ms free) (F0 m pc ls rest) := by
  intro T hT X
  have htr : e.platform.stackTraces = false := (show e.platform.stackTraces = l.stackTraces by rw [X.admits.platform]).trans hl
  have Y := vx_rebase X (R' := { frames := R.frames, locals := R.locals, cells := 1, slots := 6 }) (Nat.le_refl _) (Nat.le_refl _) hRcells hRslots
  obtain ⟨s', hA⟩ : ∃ z, z = (T.setVm s.vm).setFrames (.invoking m args :: below) := ⟨_, rfl⟩
  rw [← hA] at Y
  have hvm : s'.vm = s.vm := by rw [hA]; rfl
  have hhp : s'.heap = H := by rw [hA]; exact hT
  have hW0 : s.WarmedH s'.vm := by rw [hvm]; exact State.WarmedH.refl s
  have hat' : ∀ w ∈ vx_at0 own ic cls names, w.before args s' = true := fun w hw => vx_ot_at hW0 hvm.symm (hgood w (List.mem_cons_of_mem _ (List.mem_cons_of_mem _ hw))) (hat w hw)
  have hk' : (Cond.classLink own ik cls).before args s' = true := vx_ot_at hW0 hvm.symm (hgood _ List.mem_cons_self) hk
  have hini' : (Cond.initialized cls).before args s' = true := vx_ot_at hW0 hvm.symm (hgood _ (List.mem_cons_of_mem _ List.mem_cons_self)) hini
  have hU' : vx_Zq Bundle.tN "UNASSIGNED_STACK" Bundle.steD A s' s'.heap := by rw [hhp]; exact vx_Zq.moved hW0.alike (hU.kept hS.2.1)
  have hN' : vx_Zq Bundle.tN "SUPPRESSED_SENTINEL" Bundle.listD A s' s'.heap := by rw [hhp]; exact vx_Zq.moved hW0.alike (hN.kept hS.2.1)
  have h : ∀ w ∈ Bundle.ownAtoms0 own ic cls names, w.before args s' = true := vx_own hat' (vx_isRefq hU'.1) (vx_isRefq hN'.1) hU'.2.word hN'.2.word
  have hown' : s'.vm.findClass own = some m.cls := by rw [hvm]; exact hown
  have hins : (Cond.instantiable cls 6).before args s' = true := h _ (by simp [Bundle.ownAtoms0])
  obtain ⟨vm₁, cX, kX, hfX, hkX, -, -, X₁, st1⟩ := Y.newCold hexec (own := own) (C := cls) (index := ik) (n := 6) hown' hk' hins hini'
    (g := F0 m pc ls rest) rfl (by rw [hb]; exact d0) (Nat.le_refl _) (Nat.le_refl _)
  generalize hT1 : (T.setVm vm₁).pushCell { cls := cX, slots := kX.instanceTypes.map defaultValue, vm := .none } = T1 at X₁ st1
  have hcat : (Value.ref T.heap.size).category = 1 := rfl
  have hcellA : T1.heap[T.heap.size]? = some (freshCell cX kX) := by rw [← hT1]; exact State.heap_pushCell_size _ _
  have d3' : decode c.code (pc + 3) = .ok (.dup, 1) := by rw [hb]; exact d3
  obtain ⟨U, hsteps, hrun, hend, hW, hsame, ce, hce, hO⟩ := X₁.ctorThrow0 hexec htr (own := own) (cls := cls) (names := names) (ic := ic) hown' hcls hnames h (fun x hx => nomatch hx) hfX hkX hcellA (by rw [hhp, hT]; exact Nat.le_refl _)
    (g := { method := m, pc := pc + 4, locals := ls, stack := .ref T.heap.size :: .ref T.heap.size :: rest, locked := none }) rfl hsize rfl rfl (rest := rest) rfl
    (by rw [hb]; exact d4) (by rw [hb]; exact d7) hout hRframes (by simp only [List.map_cons, List.sum_cons, hcat]; omega) hlocks
  obtain ⟨f1, f2⟩ := vx_frame hsame
  rw [hhp] at f1 f2
  have hWs : s.WarmedH U.vm := State.WarmedH.trans hW0 hW
  have hcl : s.vm.findClass cls = some ce.cls := by
    have h9 := hO.cls
    rw [hvm] at h9
    exact h9
  have hall : s.sameButNew ({ U with vm := s.vm } : State) locs mc ms := by
    subst hA
    obtain ⟨e1, e2⟩ := hsame
    rw [State.setFrames_setFrames] at e1
    have h2 : (T.setVm s.vm).sameButNew ({ U with vm := s.vm } : State) [] (0 + 1) (0 + 6) := ⟨e1, e2⟩
    have h3 := X.same.trans h2
    rw [List.append_nil] at h3
    exact h3.mono hc hs
  refine ⟨U, ?_, .threw T.heap.size, hrun, hend, Or.inr ⟨T.heap.size, rfl, cls, ce, locs, hx U hWs.alike f1 (fun q hq => f2 q hq (fun z hz => nomatch hz)), hce, hO.vm, hcl, hWs, hall, hf⟩⟩
  refine st1 _ ?_
  show Steps p.tables e below (T1.setTop { method := m, pc := pc + 3, locals := ls, stack := .ref T.heap.size :: rest, locked := none }) _
  jvm_step X₁.here [X₁.here.top, hexec, d3', Value.category]
  exact hsteps
/-- 'throw new E("text")': new; dup; ldc; invokespecial; athrow -/
theorem vx_throwS {cc : ByteArray} {pc : Nat} (hexec : p.tables.exec = Jvm.exec) (hb : c.code = cc) (hl : l.stackTraces = false) {own cls text : String} {names : List String} {ik is ic mc ms sa : Nat} {A : Nat → Prop}
    (hown : s.vm.findClass own = some m.cls) (hcls : Bundle.fit cls = true) (hnames : ∀ n ∈ names, Bundle.fit n = true)
    (hk : (Cond.classLink own ik cls).before args s = true) (hini : (Cond.initialized cls).before args s = true) (hstr : vk_R own is text sa s) (hat : ∀ w ∈ vx_atS own ic cls names, w.before args s = true)
    (hgood : ∀ w ∈ Cond.classLink own ik cls :: Cond.initialized cls :: vx_atS own ic cls names, vx_ot w = true)
    (hU : vx_Zq Bundle.tN "UNASSIGNED_STACK" Bundle.steD A s s.heap) (hN : vx_Zq Bundle.tN "SUPPRESSED_SENTINEL" Bundle.listD A s s.heap) (hS : va_S A s.heap H locs) (hsize : ls.size = c.maxLocals)
    (d0 : decode cc pc = .ok (.new ik, 3)) (d3 : decode cc (pc + 3) = .ok (.dup, 1)) (d4 : decode cc (pc + 4) = .ok (.ldc is, 2)) (d6 : decode cc (pc + 6) = .ok (.invokespecial ic, 3)) (d9 : decode cc (pc + 9) = .ok (.athrow, 1))
    (hout : ∀ x ∈ c.exceptionTable.toList, covers x (pc + 9) = false)
    (hRframes : names.length + 3 < R.frames) (hRlocals : (rest.map fun v => v.category).sum + (13 * (names.length + 1) + 43) ≤ R.locals) (hRcells : cells + 1 ≤ R.cells) (hRslots : slots + 6 ≤ R.slots) (hlocks : meth.locks = false)
    (hx : ∀ t : State, s.vm.Alike t.vm → H.size ≤ t.heap.size → (∀ q : Nat, q < H.size → t.heap[q]? = H[q]?) → XC cls s t)
    (hf : ∀ z ∈ locs, free z.base) (hc : cells + 1 ≤ mc) (hs : slots + 6 ≤ ms) :
    W p l e R s m args below meth c H locs cells slots (vx_MQ below Qc XC args s mc ms free) (F0 m pc ls rest) := by
  intro T hT X
  have htr : e.platform.stackTraces = false := (show e.platform.stackTraces = l.stackTraces by rw [X.admits.platform]).trans hl
  have Y := vx_rebase X (R' := { frames := R.frames, locals := R.locals, cells := 1, slots := 6 }) (Nat.le_refl _) (Nat.le_refl _) hRcells hRslots
  obtain ⟨s', hA⟩ : ∃ z, z = (T.setVm s.vm).setFrames (.invoking m args :: below) := ⟨_, rfl⟩
  rw [← hA] at Y
  have hvm : s'.vm = s.vm := by rw [hA]; rfl
  have hhp : s'.heap = H := by rw [hA]; exact hT
  have hW0 : s.WarmedH s'.vm := by rw [hvm]; exact State.WarmedH.refl s
  have hat' : ∀ w ∈ vx_atS own ic cls names, w.before args s' = true := fun w hw => vx_ot_at hW0 hvm.symm (hgood w (List.mem_cons_of_mem _ (List.mem_cons_of_mem _ hw))) (hat w hw)
  have hk' : (Cond.classLink own ik cls).before args s' = true := vx_ot_at hW0 hvm.symm (hgood _ List.mem_cons_self) hk
  have hini' : (Cond.initialized cls).before args s' = true := vx_ot_at hW0 hvm.symm (hgood _ (List.mem_cons_of_mem _ List.mem_cons_self)) hini
  have hU' : vx_Zq Bundle.tN "UNASSIGNED_STACK" Bundle.steD A s' s'.heap := by rw [hhp]; exact vx_Zq.moved hW0.alike (hU.kept hS.2.1)
  have hN' : vx_Zq Bundle.tN "SUPPRESSED_SENTINEL" Bundle.listD A s' s'.heap := by rw [hhp]; exact vx_Zq.moved hW0.alike (hN.kept hS.2.1)
  have h : ∀ w ∈ Bundle.ownAtoms own ic cls names, w.before args s' = true := vx_own hat' (vx_isRefq hU'.1) (vx_isRefq hN'.1) hU'.2.word hN'.2.word
  have hown' : s'.vm.findClass own = some m.cls := by rw [hvm]; exact hown
  have hins : (Cond.instantiable cls 6).before args s' = true := h _ (by simp [Bundle.ownAtoms])
  obtain ⟨vm₁, cX, kX, hfX, hkX, -, -, X₁, st1⟩ := Y.newCold hexec (own := own) (C := cls) (index := ik) (n := 6) hown' hk' hins hini'
    (g := F0 m pc ls rest) rfl (by rw [hb]; exact d0) (Nat.le_refl _) (Nat.le_refl _)
  generalize hT1 : (T.setVm vm₁).pushCell { cls := cX, slots := kX.instanceTypes.map defaultValue, vm := .none } = T1 at X₁ st1
  have hcat : (Value.ref T.heap.size).category = 1 := rfl
  have hcellA : T1.heap[T.heap.size]? = some (freshCell cX kX) := by rw [← hT1]; exact State.heap_pushCell_size _ _
  have d3' : decode c.code (pc + 3) = .ok (.dup, 1) := by rw [hb]; exact d3
  have d4' : decode c.code (pc + 4) = .ok (.ldc is, 2) := by rw [hb]; exact d4
  have hstr' : vk_R own is text sa s' := vk_R.warm hW0 hstr
  obtain ⟨U, hsteps, hrun, hend, hW, hsame, ce, hce, hO⟩ := X₁.ctorThrowS hexec htr (own := own) (cls := cls) (names := names) (ic := ic) hown' hcls hnames h (fun x hx => nomatch hx) hfX hkX hcellA (by rw [hhp, hT]; exact Nat.le_refl _) (msg := .ref sa) rfl
    (g := { method := m, pc := pc + 6, locals := ls, stack := .ref sa :: .ref T.heap.size :: .ref T.heap.size :: rest, locked := none }) rfl hsize rfl rfl (rest := rest) rfl
    (by rw [hb]; exact d6) (by rw [hb]; exact d9) hout hRframes (by simp only [List.map_cons, List.sum_cons, hcat]; omega) hlocks
  obtain ⟨f1, f2⟩ := vx_frame hsame
  rw [hhp] at f1 f2
  have hWs : s.WarmedH U.vm := State.WarmedH.trans hW0 hW
  have hcl : s.vm.findClass cls = some ce.cls := by
    have h9 := hO.cls
    rw [hvm] at h9
    exact h9
  have hall : s.sameButNew ({ U with vm := s.vm } : State) locs mc ms := by
    subst hA
    obtain ⟨e1, e2⟩ := hsame
    rw [State.setFrames_setFrames] at e1
    have h2 : (T.setVm s.vm).sameButNew ({ U with vm := s.vm } : State) [] (0 + 1) (0 + 6) := ⟨e1, e2⟩
    have h3 := X.same.trans h2
    rw [List.append_nil] at h3
    exact h3.mono hc hs
  refine ⟨U, ?_, .threw T.heap.size, hrun, hend, Or.inr ⟨T.heap.size, rfl, cls, ce, locs, hx U hWs.alike f1 (fun q hq => f2 q hq (fun z hz => nomatch hz)), hce, hO.vm, hcl, hWs, hall, hf⟩⟩
  refine st1 _ ?_
  show Steps p.tables e below (T1.setTop { method := m, pc := pc + 3, locals := ls, stack := .ref T.heap.size :: rest, locked := none }) _
  jvm_step X₁.here [X₁.here.top, hexec, d3', Value.category]
  exact X₁.ldcString hexec (own := own) (text := text) (index := is) (a := sa) hown' hstr'.1 hstr'.2
    (g := { method := m, pc := pc + 4, locals := ls, stack := .ref T.heap.size :: .ref T.heap.size :: rest, locked := none }) rfl d4' _ hsteps
/-- 'throw new E("text")', the text by a wide index -/
theorem vx_throwSW {cc : ByteArray} {pc : Nat} (hexec : p.tables.exec = Jvm.exec) (hb : c.code = cc) (hl : l.stackTraces = false) {own cls text : String} {names : List String} {ik is ic mc ms sa : Nat} {A : Nat → Prop}
    (hown : s.vm.findClass own = some m.cls) (hcls : Bundle.fit cls = true) (hnames : ∀ n ∈ names, Bundle.fit n = true)
    (hk : (Cond.classLink own ik cls).before args s = true) (hini : (Cond.initialized cls).before args s = true) (hstr : vk_R own is text sa s) (hat : ∀ w ∈ vx_atS own ic cls names, w.before args s = true)
    (hgood : ∀ w ∈ Cond.classLink own ik cls :: Cond.initialized cls :: vx_atS own ic cls names, vx_ot w = true)
    (hU : vx_Zq Bundle.tN "UNASSIGNED_STACK" Bundle.steD A s s.heap) (hN : vx_Zq Bundle.tN "SUPPRESSED_SENTINEL" Bundle.listD A s s.heap) (hS : va_S A s.heap H locs) (hsize : ls.size = c.maxLocals)
    (d0 : decode cc pc = .ok (.new ik, 3)) (d3 : decode cc (pc + 3) = .ok (.dup, 1)) (d4 : decode cc (pc + 4) = .ok (.ldc_w is, 3)) (d7 : decode cc (pc + 7) = .ok (.invokespecial ic, 3)) (d10 : decode cc (pc + 10) = .ok (.athrow, 1))
    (hout : ∀ x ∈ c.exceptionTable.toList, covers x (pc + 10) = false)
    (hRframes : names.length + 3 < R.frames) (hRlocals : (rest.map fun v => v.category).sum + (13 * (names.length + 1) + 43) ≤ R.locals) (hRcells : cells + 1 ≤ R.cells) (hRslots : slots + 6 ≤ R.slots) (hlocks : meth.locks = false)
    (hx : ∀ t : State, s.vm.Alike t.vm → H.size ≤ t.heap.size → (∀ q : Nat, q < H.size → t.heap[q]? = H[q]?) → XC cls s t)
    (hf : ∀ z ∈ locs, free z.base) (hc : cells + 1 ≤ mc) (hs : slots + 6 ≤ ms) :
    W p l e R s m args below meth c H locs cells slots (vx_MQ below Qc XC args s mc ms free) (F0 m pc ls rest) := by
  intro T hT X
  have htr : e.platform.stackTraces = false := (show e.platform.stackTraces = l.stackTraces by rw [X.admits.platform]).trans hl
  have Y := vx_rebase X (R' := { frames := R.frames, locals := R.locals, cells := 1, slots := 6 }) (Nat.le_refl _) (Nat.le_refl _) hRcells hRslots
  obtain ⟨s', hA⟩ : ∃ z, z = (T.setVm s.vm).setFrames (.invoking m args :: below) := ⟨_, rfl⟩
  rw [← hA] at Y
  have hvm : s'.vm = s.vm := by rw [hA]; rfl
  have hhp : s'.heap = H := by rw [hA]; exact hT
  have hW0 : s.WarmedH s'.vm := by rw [hvm]; exact State.WarmedH.refl s
  have hat' : ∀ w ∈ vx_atS own ic cls names, w.before args s' = true := fun w hw => vx_ot_at hW0 hvm.symm (hgood w (List.mem_cons_of_mem _ (List.mem_cons_of_mem _ hw))) (hat w hw)
  have hk' : (Cond.classLink own ik cls).before args s' = true := vx_ot_at hW0 hvm.symm (hgood _ List.mem_cons_self) hk
  have hini' : (Cond.initialized cls).before args s' = true := vx_ot_at hW0 hvm.symm (hgood _ (List.mem_cons_of_mem _ List.mem_cons_self)) hini
  have hU' : vx_Zq Bundle.tN "UNASSIGNED_STACK" Bundle.steD A s' s'.heap := by rw [hhp]; exact vx_Zq.moved hW0.alike (hU.kept hS.2.1)
  have hN' : vx_Zq Bundle.tN "SUPPRESSED_SENTINEL" Bundle.listD A s' s'.heap := by rw [hhp]; exact vx_Zq.moved hW0.alike (hN.kept hS.2.1)
  have h : ∀ w ∈ Bundle.ownAtoms own ic cls names, w.before args s' = true := vx_own hat' (vx_isRefq hU'.1) (vx_isRefq hN'.1) hU'.2.word hN'.2.word
  have hown' : s'.vm.findClass own = some m.cls := by rw [hvm]; exact hown
  have hins : (Cond.instantiable cls 6).before args s' = true := h _ (by simp [Bundle.ownAtoms])
  obtain ⟨vm₁, cX, kX, hfX, hkX, -, -, X₁, st1⟩ := Y.newCold hexec (own := own) (C := cls) (index := ik) (n := 6) hown' hk' hins hini'
    (g := F0 m pc ls rest) rfl (by rw [hb]; exact d0) (Nat.le_refl _) (Nat.le_refl _)
  generalize hT1 : (T.setVm vm₁).pushCell { cls := cX, slots := kX.instanceTypes.map defaultValue, vm := .none } = T1 at X₁ st1
  have hcat : (Value.ref T.heap.size).category = 1 := rfl
  have hcellA : T1.heap[T.heap.size]? = some (freshCell cX kX) := by rw [← hT1]; exact State.heap_pushCell_size _ _
  have d3' : decode c.code (pc + 3) = .ok (.dup, 1) := by rw [hb]; exact d3
  have d4' : decode c.code (pc + 4) = .ok (.ldc_w is, 3) := by rw [hb]; exact d4
  have hstr' : vk_R own is text sa s' := vk_R.warm hW0 hstr
  obtain ⟨U, hsteps, hrun, hend, hW, hsame, ce, hce, hO⟩ := X₁.ctorThrowS hexec htr (own := own) (cls := cls) (names := names) (ic := ic) hown' hcls hnames h (fun x hx => nomatch hx) hfX hkX hcellA (by rw [hhp, hT]; exact Nat.le_refl _) (msg := .ref sa) rfl
    (g := { method := m, pc := pc + 7, locals := ls, stack := .ref sa :: .ref T.heap.size :: .ref T.heap.size :: rest, locked := none }) rfl hsize rfl rfl (rest := rest) rfl
    (by rw [hb]; exact d7) (by rw [hb]; exact d10) hout hRframes (by simp only [List.map_cons, List.sum_cons, hcat]; omega) hlocks
  obtain ⟨f1, f2⟩ := vx_frame hsame
  rw [hhp] at f1 f2
  have hWs : s.WarmedH U.vm := State.WarmedH.trans hW0 hW
  have hcl : s.vm.findClass cls = some ce.cls := by
    have h9 := hO.cls
    rw [hvm] at h9
    exact h9
  have hall : s.sameButNew ({ U with vm := s.vm } : State) locs mc ms := by
    subst hA
    obtain ⟨e1, e2⟩ := hsame
    rw [State.setFrames_setFrames] at e1
    have h2 : (T.setVm s.vm).sameButNew ({ U with vm := s.vm } : State) [] (0 + 1) (0 + 6) := ⟨e1, e2⟩
    have h3 := X.same.trans h2
    rw [List.append_nil] at h3
    exact h3.mono hc hs
  refine ⟨U, ?_, .threw T.heap.size, hrun, hend, Or.inr ⟨T.heap.size, rfl, cls, ce, locs, hx U hWs.alike f1 (fun q hq => f2 q hq (fun z hz => nomatch hz)), hce, hO.vm, hcl, hWs, hall, hf⟩⟩
  refine st1 _ ?_
  show Steps p.tables e below (T1.setTop { method := m, pc := pc + 3, locals := ls, stack := .ref T.heap.size :: rest, locked := none }) _
  jvm_step X₁.here [X₁.here.top, hexec, d3', Value.category]
  exact X₁.ldcStringW hexec (own := own) (text := text) (index := is) (a := sa) hown' hstr'.1 hstr'.2
    (g := { method := m, pc := pc + 4, locals := ls, stack := .ref T.heap.size :: .ref T.heap.size :: rest, locked := none }) rfl d4' _ hsteps
end Ends
section Bodies
variable {l : Launch}
theorem vx_ofW {y : MethodName} {ws ws' : List Cond} {rm : Room} {Pc : Array Value → State → Prop} {Qc : Array Value → State → Outcome → State → Prop} {XC : String → State → State → Prop} {mc ms : Nat} {free : Addr → Prop} {cc : ByteArray} {maxL : Nat} {ret : Option FieldType}
    (hy : plainName y.cls = true) (hw : ws = Cond.code y cc maxL ret :: ws')
    (body : ∀ p e s m args below meth c s₁, BodyLoose p l y (headSpec ws rm) cc maxL ret e s m args below meth c s₁ → c.maxLocals = maxL → (∀ x ∈ c.exceptionTable.toList, False) → Pc args s →
      W p l e (headSpec ws rm).room s m args below meth c s.heap [] 0 0 (vx_MQ below Qc XC args s mc ms free) (entryFrame m args maxL)) : vx_Met l y ws rm Pc Qc XC mc ms free := by
  refine MetFree.of_bodyS (code := cc) (maxLocals := maxL) (ret := ret) hy ?_ ?_
  · intro args s m h hn
    obtain ⟨meth, c, h1, h2, h3, h4, h5, h6, -, -⟩ := Cond.code_spec hn (atoms_spec (ws := ws) h _ (by rw [hw]; exact List.mem_cons_self))
    exact ⟨meth, c, h1, h2, h3, h4, h5, h6⟩
  · intro p e s m args below meth c s₁ B hml hP _
    have hh0 : s₁.heap = s.heap := by rw [B.state]; rfl
    have ht : ∀ x ∈ c.exceptionTable.toList, False := by
      obtain ⟨meth9, c9, h1, h2, -, -, -, -, h7, -⟩ := Cond.code_spec B.named (atoms_spec (ws := ws) B.pre _ (by rw [hw]; exact List.mem_cons_self))
      cases Option.some.inj (h1.symm.trans B.method)
      cases Option.some.inj (h2.symm.trans (Stand.of_body B).code)
      intro x hx
      rw [Array.isEmpty_iff.mp h7] at hx
      cases hx
    obtain ⟨t, a1, o, b1, b2, b3⟩ := body p e s m args below meth c s₁ B hml ht hP s₁ hh0 (Stand.of_body B)
    exact ⟨t, o, a1, b1, b2, b3⟩
/-- the table of a body with handlers -/
theorem vx_table {p : Program} {x y : MethodName} {S : Spec} {cc bytes : ByteArray} {maxL maxL' : Nat} {ret ret' : Option FieldType} {e : Env} {s s₁ : State} {m : MethodId} {args : Array Value} {below : List Frame} {meth : Method} {c : Code} {hh : List (Nat × Nat × Nat × Nat)}
    (B : BodyLoose p l y S cc maxL ret e s m args below meth c s₁) (h : (Cond.codeWith y bytes maxL' ret' hh).before args s = true) : c.exceptionTable.toList = tableOf hh := by
  obtain ⟨m9, meth9, c9, hn9, h1, h2, -, -, h6, -⟩ := Cond.codeWith_spec h
  cases Option.some.inj (hn9.symm.trans B.named)
  cases Option.some.inj (h1.symm.trans B.method)
  cases Option.some.inj (h2.symm.trans (Stand.of_body B).code)
  rw [← h6, table_eq]
end Bodies
end VXA
/-! ===== END ===== -/
/-! ===== BEGIN a static call of a method with an exception table ===== -/
section VXS
variable {p : Program} {l : Launch} {e : Env} {R : Room} {s : State} {m : MethodId} {args : Array Value} {below : List Frame} {meth : Method} {c : Code} {T : State} {H : Heap} {locs : List Loc} {cells slots : Nat}
abbrev vx_CSW (R : Room) (s : State) (args : Array Value) (own : String) (index : Nat) (y : MethodName) (bytes : ByteArray) (maxL : Nat) (ret : Option FieldType) (hh : List (Nat × Nat × Nat × Nat)) (ws : List Cond) (rm : Room) (mc ms n : Nat) : Prop :=
  (rm.cells = mc ∧ rm.slots = ms ∧ rm.frames + 1 ≤ R.frames ∧ 8 + (maxL + 11) + rm.locals ≤ R.locals ∧ (∀ w ∈ ws, ∀ (a' : Array Value) (U : State), s.WarmedH U.vm → w.before a' U = true) ∧ Cond.codeWith y bytes maxL ret hh ∈ ws) ∧
  (Cond.codeWith y bytes maxL ret hh).before args s = true ∧ (Cond.initialized y.cls).before args s = true ∧ (y.cls ≠ "java/lang/invoke/MethodHandle" ∧ y.cls ≠ "java/lang/invoke/VarHandle") ∧
  (∀ sig, parseMethodDescriptor y.desc = some sig → n = sig.parameters.length) ∧ (Cond.methodLink own index y).before args s = true ∧ (Cond.static y).before args s = true
theorem vx_cwSW {own : String} {index maxL mc ms : Nat} {y : MethodName} {bytes : ByteArray} {ret : Option FieldType} {hh : List (Nat × Nat × Nat × Nat)} {Ts ws ws' : List Cond} {rm : Room} (n : Nat) (ht : ∀ w ∈ Ts, w.before args s = true) (hT : GoodIn Ts (va_wsS own index y ws)) (hw : ws = Cond.codeWith y bytes maxL ret hh :: ws') (hrc : rm.cells = mc) (hrs : rm.slots = ms)
    (hd : y.cls ≠ "java/lang/invoke/MethodHandle" ∧ y.cls ≠ "java/lang/invoke/VarHandle" ∧ (parseMethodDescriptor y.desc).map (fun d => d.parameters.length) = some n) (hR : rm.frames + 1 ≤ R.frames ∧ 8 + (maxL + 11) + rm.locals ≤ R.locals) :
    vx_CSW R s args own index y bytes maxL ret hh ws rm mc ms n := by
  have ok : ∀ w ∈ va_wsS own index y ws, w.before args s = true := fun w h => ht w (hT w h).1
  have hG : GoodIn Ts ws := fun w h => hT w (by unfold va_wsS; exact List.mem_append_right _ h)
  have hc : Cond.codeWith y bytes maxL ret hh ∈ ws := by rw [hw]; exact List.mem_cons_self
  refine ⟨⟨hrc, hrs, hR.1, hR.2, pay_in ht hG, hc⟩, ht _ (hG _ hc).1, ok _ (by simp [va_wsS]), ⟨hd.1, hd.2.1⟩, fun sig h => ?_, ok _ (by simp [va_wsS]), ok _ (by simp [va_wsS])⟩
  have h2 := hd.2.2
  rw [h] at h2
  exact (Option.some.inj h2).symm
theorem vx_callSW (X : Stand p l e R s m args below meth c T locs cells slots) (hexec : p.tables.exec = Jvm.exec) {own : String} {index : Nat} {y : MethodName} {bytes : ByteArray} {maxL : Nat} {ret : Option FieldType} {hh : List (Nat × Nat × Nat × Nat)}
    (hown : s.vm.findClass own = some m.cls) (hlink : (Cond.methodLink own index y).before args s = true) (hstat : (Cond.static y).before args s = true) (hinit : (Cond.initialized y.cls).before args s = true)
    (hcode : (Cond.codeWith y bytes maxL ret hh).before args s = true) (hy : y.cls ≠ "java/lang/invoke/MethodHandle" ∧ y.cls ≠ "java/lang/invoke/VarHandle")
    {W9 : Nat} {Pre : Pt → Array Value → Prop} {Post : Pt → Array Value → Option Value → Pt → Prop} (hK : Back l R p e below s args y 3 W9 Pre Post)
    {g : JFrame} (hg : g.method = m) (hsize : g.locals.size = c.maxLocals) {argsL rest : List Value} (hlen : ∀ sig, parseMethodDescriptor y.desc = some sig → argsL.length = sig.parameters.length)
    (hstack : g.stack = argsL.reverse ++ rest) (hW : 2 * g.monitorRoom + (rest.map fun v => v.category).sum ≤ W9) (hdg : decode c.code g.pc = .ok (.invokestatic index, 3))
    (hpre : ∀ vm₁, s.WarmedH vm₁ → Pre ⟨T.setVm vm₁, locs, cells, slots⟩ argsL.toArray) :
    ∃ (v : Option Value) (vm₁ : Vm) (B : Pt), s.WarmedH vm₁ ∧ Stand p l e R s m args below meth c B.U B.locs B.cells B.slots ∧ Post ⟨T.setVm vm₁, locs, cells, slots⟩ argsL.toArray v B ∧
      ∀ target, Steps p.tables e below (B.U.setTop { g with pc := g.pc + 3, stack := v.toList ++ rest }) target → Steps p.tables e below (T.setTop g) target := by
  obtain ⟨mk, methM, cM, hnamed, hmethM, -, -, -, -, -, -, hsigM⟩ := Cond.codeWith_spec hcode
  have hstatic : methM.isStatic = true := Cond.static_spec hnamed hmethM hstat
  obtain ⟨kP, hkP, -⟩ := className_of_methodNamed hnamed
  have hinitP : kP.init = .initialized := Cond.initialized_spec (findClass_of_methodNamed hnamed) hkP hinit
  obtain ⟨vm₁, X₁, hstep₁⟩ := X.invokestatic hexec hown hlink hnamed hmethM hstatic hkP hinitP hy (g := g) hg (argsL := argsL) (rest := rest) (hlen _ hsigM) hstack hdg
  obtain ⟨v, B, X', hpost, hsteps⟩ := hK m meth c ⟨T.setVm vm₁, locs, cells, slots⟩ { g with stack := rest } (.invokestatic index) mk argsL.toArray X₁ hg hsize hdg hW (X₁.named hnamed) (hpre vm₁ X₁.warmed)
  exact ⟨v, vm₁, B, X₁.warmed, X', hpost, fun target h => hstep₁ _ fun acts => by rw [doInvoke_state]; exact hsteps.trans h⟩
theorem vx_runSW {y : MethodName} {bytes cc : ByteArray} {maxL nL mc ms n index : Nat} {ret : Option FieldType} {hh : List (Nat × Nat × Nat × Nat)} {ws : List Cond} {rm : Room} {Pc : Array Value → State → Prop} {Qc : Array Value → State → Outcome → State → Prop} {free : Addr → Prop} {Ts : List Cond} {own : String} {As rest : List Value} {g : JFrame}
    (S : CallFix p m c cc nL s args Ts own) (hM : Met l y ws rm Pc Qc mc ms free) (cw : vx_CSW R s args own index y bytes maxL ret hh ws rm mc ms n) (hp : PreS s H Pc As)
    (hg : g.method = m) (hn : As.length = n) (hsize : g.locals.size = nL) (hstack : g.stack = As.reverse ++ rest) (hW : 2 * g.monitorRoom + (rest.map fun v => v.category).sum ≤ 8) (hdg : decode cc g.pc = .ok (.invokestatic index, 3)) (hf : cells + mc ≤ R.cells ∧ slots + ms ≤ R.slots) :
    va_Run p l e R s m args below meth c H locs cells slots mc ms g rest (Qc As.toArray) (free) := by
  obtain ⟨⟨hrc, hrs, hfr, hlo, hws, hcw⟩, hcode, hini, hy, hlen, hl, hstt⟩ := cw
  have hK : Back l R p e below s args y 3 8 (PreOf R mc ms Pc) (PostOf Qc mc ms free) := va_backW (hh := hh) (bytes := bytes) (maxL := maxL) (ret := ret) hM hp.1 hrc hrs hfr hlo hws hcw (fun a' U hW => word_at hW (Or.inl (by first | rfl | simp [Cond.onTables, Cond.keeps, Cond.steady])) hini)
  obtain ⟨hx, hb, hml, ho, -⟩ := S
  intro T hT X
  obtain ⟨v, vm₁, ⟨U', l2, c2, s2⟩, hW₁, X', ⟨g', mk, t, L, e1, e2, hq, h1, hL, h2, h3⟩, st⟩ := vx_callSW X hx (hh := hh) (bytes := bytes) (maxL := maxL) (ret := ret) ho hl hstt hini hcode hy hK hg (hsize.trans hml.symm) (argsL := As) (rest := rest) (fun sig h => hn.trans (hlen sig h)) hstack hW (by rw [hb]; exact hdg)
    (fun vm₁ hW₁ => ⟨hf.1, hf.2, hp.2 (T.setVm vm₁) hT hW₁⟩)
  dsimp only [Pt.U, Pt.locs, Pt.cells, Pt.slots] at X' e1 e2 h1 h2 h3 st
  subst h1; subst h2; subst h3
  exact ⟨v, (T.setVm vm₁).calling g' mk As.toArray, t, U', L, hT, X', hL, e1, e2, hq, st⟩
/-- not caught here, past rows that name other classes: it goes on to the caller -/
theorem vx_outP {p : Program} {l : Launch} {e : Env} {R : Room} {s : State} {m : MethodId} {args : Array Value} {below : List Frame} {meth : Method} {c : Code} {H : Heap} {locs : List Loc} {cells slots : Nat} {free : Addr → Prop} {ls : Array Slot} {rest : List Value} {Qc : Array Value → State → Outcome → State → Prop} {XC : String → State → State → Prop}
    {pc : Nat} {own E : String} {ce : Cell} {q : Addr} {mc ms : Nat} (hown : s.vm.findClass own = some m.cls) (hlocks : meth.locks = false)
    (hpass : ∀ z ∈ c.exceptionTable.toList, covers z pc = false ∨ (z.catchType ≠ 0 ∧ ∃ nm : String, (Cond.classLink own z.catchType nm).before args s = true ∧ va_Nc E nm s)) (hcell : H[q]? = some ce) (hv : ce.vm = .none) (hcl : s.vm.findClass E = some ce.cls)
    (hx : ∀ t : State, t.heap = H → s.vm.Alike t.vm → XC E s t) (hf : ∀ z ∈ locs, free z.base) (hc : cells ≤ mc) (hs : slots ≤ ms) :
    vx_W p l e R s m args below meth c H locs cells slots (vx_MQ below Qc XC args s mc ms free) (F0 m pc ls rest) q := by
  intro T hT X
  have hpl : e.platform.magicAccessors = ({} : Platform).magicAccessors := by rw [X.admits.platform]
  obtain ⟨vm', hW', X', st⟩ := X.outThrough hlocks q (g := F0 m pc ls rest) rfl rfl rfl (cell := ce) (by rw [hT]; exact hcell) (by rw [hv]; rfl)
    (by obtain ⟨k9, h9, -⟩ := Vm.findClass_spec hcl; exact ⟨k9, h9⟩) (fun z hz => by
      rcases hpass z hz with h | ⟨hz0, nm, hl1, hn1⟩
      · exact Or.inl h
      · obtain ⟨c6, hc6, hcl6⟩ := Cond.classLink_spec hown hl1 e.platform hpl
        obtain ⟨a8, b8, h1, h2, h3⟩ := hn1
        cases Option.some.inj (h1.symm.trans hcl)
        cases Option.some.inj (h2.symm.trans hc6)
        exact Or.inr ⟨hz0, _, hcl6, h3⟩)
  obtain ⟨g₀, hfr⟩ := X'.frames_eq
  have hcell9 : ((T.setVm vm').setFrames (.throwing q :: below)).heap[q]? = some ce := by
    show T.heap[q]? = some ce
    rw [hT]; exact hcell
  have hend : Ended ((T.setVm vm').setFrames (.throwing q :: below)) below (.threw q) := State.frames_setFrames _ (State.cur_lt_of_frames hfr)
  refine ⟨(T.setVm vm').setFrames (.throwing q :: below), ?_, .threw q, X'.here.running, hend, Or.inr ⟨q, rfl, E, ce, locs, hx _ hT (X'.ends _).1.alike, hcell9, hv, hcl, (X'.ends _).1, (X'.ends _).2.mono hc hs, hf⟩⟩
  rw [X.pushThrowing_eq]
  exact st
/-- a thing of a world lies in the heap -/
theorem vx_lt {D : va_G} {cl : List vw_C} {ws : va_W} {H1 : Heap} (h : va_P D cl ws H1) {k : Nat} {q : Nat × va_E} (hk : ws[k]? = some q) : q.1 < H1.size := (h k q hk).lt
end VXS
/-! ===== END ===== -/
/-! ===== BEGIN methods with a table of their own: called by a name, returning or throwing ===== -/
section VXH
/-! vx_backW, vx_callVX, vx_callSX, vx_callVW, vx_runVW, vx_runVX, vx_runSX, vx_ofWH follow the same proofs as their sisters above (Free/Laws.lean, Shelf42/LK1.lean); vx_outP calls Shelf42/NT130.lean (outThrough). -/
section
variable {l : Launch} {R : Room} {p : Program} {e : Env} {below : List Frame} {s : State} {sargs : Array Value} {y : MethodName} {len W9 : Nat}
theorem vx_backW {ws : List Cond} {rm : Room} {Pc : Array Value → State → Prop} {Qc : Array Value → State → Outcome → State → Prop} {XC : String → State → State → Prop} {mc ms : Nat} {free : Addr → Prop} {bytes : ByteArray} {maxL : Nat} {ret : Option FieldType} {hh : List (Nat × Nat × Nat × Nat)}
    (hM : vx_Met l y ws rm Pc Qc XC mc ms free) (hblind : FrameBlind Pc) (hrc : rm.cells = mc) (hrs : rm.slots = ms)
    (hframes : rm.frames + 1 ≤ R.frames) (hlocals : W9 + (maxL + 11) + rm.locals ≤ R.locals)
    (hws : ∀ w ∈ ws, ∀ a' U, s.WarmedH U.vm → w.before a' U = true) (hcode : Cond.codeWith y bytes maxL ret hh ∈ ws) (hinit : ∀ a' U, s.WarmedH U.vm → (Cond.initialized y.cls).before a' U = true) :
    vx_Back l R p e below s sargs y len W9 (PreOf R mc ms Pc) (PostOf Qc mc ms free) (vx_Post XC mc ms free) := by
  intro m meth c A g ig mk a X hg hsize hdg hW hn hp
  have h1 : (headSpec ws rm).pre.before a A.U = true := atoms_intro fun w hw => hws w hw _ _ X.warmed
  have h2 : (Cond.codeWith y bytes maxL ret hh).before a A.U = true := hws _ hcode _ _ X.warmed
  have h3 : (Cond.initialized y.cls).before a A.U = true := hinit _ _ X.warmed
  have h4 : A.cells + (headSpec ws rm).room.cells ≤ R.cells := by rw [show (headSpec ws rm).room.cells = mc from hrc]; exact hp.1
  have h5 : A.slots + (headSpec ws rm).room.slots ≤ R.slots := by rw [show (headSpec ws rm).room.slots = ms from hrs]; exact hp.2.1
  have hPc : Pc a (A.U.calling g mk a) := hblind _ _ _ _ hp.2.2
  obtain ⟨U, Ls, c0, s0⟩ := A
  dsimp only [Pt.U, Pt.locs, Pt.cells, Pt.slots] at h1 h2 h3 h4 h5 X hn hPc ⊢
  obtain ⟨m9, methY, cY, hn9, hmY, hcY, -, hlY, -⟩ := Cond.codeWith_spec h2
  cases Option.some.inj (hn9.symm.trans hn)
  obtain ⟨kY, hkY, -⟩ := className_of_methodNamed hn
  have hinitY : kY.init = .initialized := Cond.initialized_spec (findClass_of_methodNamed hn) hkY h3
  have h : At U g.method c below := by rw [hg]; exact X.here
  have hlocals9 : W9 + (maxL + 11) + (headSpec ws rm).room.locals ≤ R.locals := hlocals
  have happ : (headSpec ws rm).appliesLoose y e.platform (U.calling g mk a) = true :=
    Spec.appliesLoose_calling (g := g) h hdg hn hkY hinitY
      (X.room_calling (g := g) (R' := (headSpec ws rm).room) hsize hmY hcY hframes (by rw [hlY]; omega) h4 h5) h1
  obtain ⟨mid, hmid⟩ := h.above
  have hfr : (U.setTop g).frames = (.java g :: mid) ++ below := by rw [State.frames_setTop' g h.top, hmid]; rfl
  obtain ⟨o, s₂, hsteps, -, hend, hq⟩ := Steps.callFree hM p X.admits X.cas X.clock (acts := []) hfr happ hPc trivial
  have hq' : vx_Q Qc XC mc ms free a (U.calling g mk a) o s₂ := hq
  rw [State.frames_setTop' g h.top] at hend
  obtain ⟨g₀, hg0⟩ := Option.isSome_iff_exists.mp h.top
  obtain ⟨r, hr⟩ := State.topJava?_eq_some.mp hg0
  have hr' : (({ U with heap := s₂.heap, slotsUsed := s₂.slotsUsed } : State).setVm s₂.vm).frames = .java g₀ :: r := hr
  rcases hq' with ⟨hqc, L, hfe, hL⟩ | ⟨q, rfl, E, ce, L, hx, hce, hcv, hcl, hW₂, hsm, hL⟩
  · obtain ⟨⟨v, rfl⟩, hW₂, e2, q2, q3, q4, q5, q6⟩ := id hfe
    have e3 : s₂ = ({ (U.calling g mk a).setFrames s₂.frames with heap := s₂.heap, slotsUsed := s₂.slotsUsed } : State).setVm s₂.vm := by
      have : s₂ = ({ s₂ with vm := (U.calling g mk a).vm } : State).setVm s₂.vm := rfl
      rw [e2] at this
      exact this
    obtain ⟨c₂, i₂, len₂, hc₂, hd₂, hf₂⟩ := hend
    have hW' : U.WarmedH s₂.vm := hW₂
    have hcc : c₂ = c := by
      have h1 : s₂.code? g.method = U.code? g.method := by
        rw [State.code?_eq, State.code?_eq, hW'.alike.method?]
      exact Option.some.inj (hc₂.symm.trans (h1.trans h.code))
    subst hcc
    have hlen : len₂ = len := by rw [hdg] at hd₂; cases hd₂; rfl
    subst hlen
    have hs₂ : s₂ = (({ U with heap := s₂.heap, slotsUsed := s₂.slotsUsed } : State).setVm s₂.vm).setTop { g with pc := g.pc + len₂, stack := v.toList ++ g.stack } := by
      refine e3.trans ?_
      rw [hf₂, State.calling_eq h.top, State.setFrames_setFrames, State.setTop_of_frames _ hr', hr]
      rfl
    have hsame : U.sameButNew ({ U with heap := s₂.heap, slotsUsed := s₂.slotsUsed } : State) L mc ms := by
      refine ⟨?_, q2, q3, q4, q5, q6⟩
      obtain ⟨t, ht, -⟩ := State.frames_cons hr
      show ({ U with heap := s₂.heap, slotsUsed := s₂.slotsUsed } : State) = { U.setFrames U.frames with heap := s₂.heap, slotsUsed := s₂.slotsUsed }
      rw [State.setFrames_self ht]
    subst hg
    refine Or.inl ⟨v, ⟨(({ U with heap := s₂.heap, slotsUsed := s₂.slotsUsed } : State).setVm s₂.vm), Ls ++ L, c0 + mc, s0 + ms⟩,
      ⟨X.admits, X.cas, X.clock, X.frames, X.room, X.hears, X.method, X.code, (X.here.setHeapUsed s₂.heap s₂.slotsUsed).setVm hW'.alike, X.tail, State.WarmedH.trans X.warmed hW', X.limits, X.bytes, X.same.trans (hsame.setVm s.vm)⟩,
      ⟨g, mk, s₂, L, rfl, rfl, hqc, rfl, hL, rfl, rfl⟩, ?_⟩
    show Steps p.tables e below _ ((({ U with heap := s₂.heap, slotsUsed := s₂.slotsUsed } : State).setVm s₂.vm).setTop { g with pc := g.pc + len₂, stack := v.toList ++ g.stack })
    rw [← hs₂]
    exact hsteps
  · obtain ⟨e2, q2, q3, q4, q5, q6⟩ := id hsm
    have e3 : s₂ = ({ (U.calling g mk a).setFrames s₂.frames with heap := s₂.heap, slotsUsed := s₂.slotsUsed } : State).setVm s₂.vm := by
      have : s₂ = ({ s₂ with vm := (U.calling g mk a).vm } : State).setVm s₂.vm := rfl
      rw [e2] at this
      exact this
    have hf₂ : s₂.frames = .throwing q :: .java g :: U.frames.tail := hend
    have hW' : U.WarmedH s₂.vm := hW₂
    have hs₂ : s₂ = ((({ U with heap := s₂.heap, slotsUsed := s₂.slotsUsed } : State).setVm s₂.vm).setTop g).pushFrame (.throwing q) := by
      refine e3.trans ?_
      rw [hf₂, State.calling_eq h.top, State.setFrames_setFrames, State.pushFrame, State.frames_setTop _ hr', State.setTop_of_frames _ hr', State.setFrames_setFrames, hr]
      rfl
    have hsame : U.sameButNew ({ U with heap := s₂.heap, slotsUsed := s₂.slotsUsed } : State) L mc ms := by
      refine ⟨?_, q2, q3, q4, q5, q6⟩
      obtain ⟨t, ht, -⟩ := State.frames_cons hr
      show ({ U with heap := s₂.heap, slotsUsed := s₂.slotsUsed } : State) = { U.setFrames U.frames with heap := s₂.heap, slotsUsed := s₂.slotsUsed }
      rw [State.setFrames_self ht]
    subst hg
    refine Or.inr ⟨q, ⟨(({ U with heap := s₂.heap, slotsUsed := s₂.slotsUsed } : State).setVm s₂.vm), Ls ++ L, c0 + mc, s0 + ms⟩,
      ⟨X.admits, X.cas, X.clock, X.frames, X.room, X.hears, X.method, X.code, (X.here.setHeapUsed s₂.heap s₂.slotsUsed).setVm hW'.alike, X.tail, State.WarmedH.trans X.warmed hW', X.limits, X.bytes, X.same.trans (hsame.setVm s.vm)⟩,
      ⟨g, mk, s₂, L, E, ce, rfl, rfl, hx, hce, hcv, hcl, rfl, hL, rfl, rfl⟩, ?_⟩
    show Steps p.tables e below _ (((({ U with heap := s₂.heap, slotsUsed := s₂.slotsUsed } : State).setVm s₂.vm).setTop g).pushFrame (.throwing q))
    rw [← hs₂]
    exact hsteps
end
variable {p : Program} {l : Launch} {e : Env} {R : Room} {s : State} {m : MethodId} {args : Array Value} {below : List Frame} {meth : Method} {c : Code} {T : State} {H : Heap} {locs : List Loc} {cells slots : Nat}
theorem vx_callVX (X : Stand p l e R s m args below meth c T locs cells slots) (hexec : p.tables.exec = Jvm.exec) {own C : String} {index : Nat} {y : MethodName} {bytes : ByteArray} {maxL : Nat} {ret : Option FieldType} {hh : List (Nat × Nat × Nat × Nat)}
    (hown : s.vm.findClass own = some m.cls) (hlink : (Cond.methodLink own index y).before args s = true) (hinst : (Cond.instanceMethod y).before args s = true) (hsel : (Cond.selects C y y).before args s = true)
    (hcode : (Cond.codeWith y bytes maxL ret hh).before args s = true) (hy : y.cls ≠ "java/lang/invoke/MethodHandle" ∧ y.cls ≠ "java/lang/invoke/VarHandle")
    {W9 : Nat} {Pre : Pt → Array Value → Prop} {Post : Pt → Array Value → Option Value → Pt → Prop} {PostX : Pt → Array Value → Addr → Pt → Prop} (hK : vx_Back l R p e below s args y 3 W9 Pre Post PostX)
    {b : Addr} {cellB : Cell} (hcell : T.heap[b]? = some cellB) (hobj : cellB.vm.isStatics = false) (hcls : s.vm.findClass C = some cellB.cls)
    {g : JFrame} (hg : g.method = m) (hsize : g.locals.size = c.maxLocals) {argsL rest : List Value} (hlen : ∀ sig, parseMethodDescriptor y.desc = some sig → argsL.length = sig.parameters.length)
    (hstack : g.stack = argsL.reverse ++ .ref b :: rest) (hW : 2 * g.monitorRoom + (rest.map fun v => v.category).sum ≤ W9) (hdg : decode c.code g.pc = .ok (.invokevirtual index, 3))
    (hpre : ∀ vm₁, s.WarmedH vm₁ → Pre ⟨T.setVm vm₁, locs, cells, slots⟩ (Value.ref b :: argsL).toArray) :
    (∃ (v : Option Value) (vm₁ : Vm) (B : Pt), s.WarmedH vm₁ ∧ Stand p l e R s m args below meth c B.U B.locs B.cells B.slots ∧ Post ⟨T.setVm vm₁, locs, cells, slots⟩ (Value.ref b :: argsL).toArray v B ∧
      ∀ target, Steps p.tables e below (B.U.setTop { g with pc := g.pc + 3, stack := v.toList ++ rest }) target → Steps p.tables e below (T.setTop g) target) ∨
    (∃ (q : Addr) (vm₁ : Vm) (B : Pt), s.WarmedH vm₁ ∧ Stand p l e R s m args below meth c B.U B.locs B.cells B.slots ∧ PostX ⟨T.setVm vm₁, locs, cells, slots⟩ (Value.ref b :: argsL).toArray q B ∧
      Steps p.tables e below (T.setTop g) ((B.U.setTop { g with stack := rest }).pushFrame (.throwing q))) := by
  obtain ⟨mk, methM, hnamed, hmethM, hstM, habM⟩ := Cond.instanceMethod_spec hinst
  obtain ⟨m8, methM', cM, hn8, hmethM', -, -, -, -, -, -, hsigM⟩ := Cond.codeWith_spec hcode
  cases Option.some.inj (hn8.symm.trans hnamed)
  cases hmethM.symm.trans hmethM'
  obtain ⟨c2, r2, m2, q1, q2, q3, q4, kP, hkP, hkPi⟩ := Cond.selects_spec hsel
  cases hcls.symm.trans q1
  cases (State.methodFound?_of_named hnamed hy).symm.trans q2
  cases hnamed.symm.trans q3
  have hselP : selectMethod e.platform s.vm cellB.cls mk = .method mk := by rw [Launch.admits_selectMethod X.admits]; exact q4
  obtain ⟨vm₁, X₁, hstep₁⟩ := X.invokevirtual hexec hown hlink hnamed hmethM hstM hkP hkPi hy (a := b) (cell := cellB) hcell
    (fun z h => by rw [h] at hobj; cases hobj) hselP hmethM habM hkP hkPi (g := g) hg (argsL := argsL) (rest := rest) (hlen _ hsigM) hstack hdg
  rcases hK m meth c ⟨T.setVm vm₁, locs, cells, slots⟩ { g with stack := rest } (.invokevirtual index) mk (Value.ref b :: argsL).toArray X₁ hg hsize hdg hW (X₁.named hnamed) (hpre vm₁ X₁.warmed) with ⟨v, B, X', hpost, hsteps⟩ | ⟨q, B, X', hpost, hsteps⟩
  · exact Or.inl ⟨v, vm₁, B, X₁.warmed, X', hpost, fun target h => hstep₁ _ fun acts => by rw [doInvoke_state]; exact hsteps.trans h⟩
  · exact Or.inr ⟨q, vm₁, B, X₁.warmed, X', hpost, hstep₁ _ fun acts => by rw [doInvoke_state]; exact hsteps⟩
theorem vx_callSX (X : Stand p l e R s m args below meth c T locs cells slots) (hexec : p.tables.exec = Jvm.exec) {own : String} {index : Nat} {y : MethodName} {bytes : ByteArray} {maxL : Nat} {ret : Option FieldType} {hh : List (Nat × Nat × Nat × Nat)}
    (hown : s.vm.findClass own = some m.cls) (hlink : (Cond.methodLink own index y).before args s = true) (hstat : (Cond.static y).before args s = true) (hinit : (Cond.initialized y.cls).before args s = true)
    (hcode : (Cond.codeWith y bytes maxL ret hh).before args s = true) (hy : y.cls ≠ "java/lang/invoke/MethodHandle" ∧ y.cls ≠ "java/lang/invoke/VarHandle")
    {W9 : Nat} {Pre : Pt → Array Value → Prop} {Post : Pt → Array Value → Option Value → Pt → Prop} {PostX : Pt → Array Value → Addr → Pt → Prop} (hK : vx_Back l R p e below s args y 3 W9 Pre Post PostX)
    {g : JFrame} (hg : g.method = m) (hsize : g.locals.size = c.maxLocals) {argsL rest : List Value} (hlen : ∀ sig, parseMethodDescriptor y.desc = some sig → argsL.length = sig.parameters.length)
    (hstack : g.stack = argsL.reverse ++ rest) (hW : 2 * g.monitorRoom + (rest.map fun v => v.category).sum ≤ W9) (hdg : decode c.code g.pc = .ok (.invokestatic index, 3))
    (hpre : ∀ vm₁, s.WarmedH vm₁ → Pre ⟨T.setVm vm₁, locs, cells, slots⟩ argsL.toArray) :
    (∃ (v : Option Value) (vm₁ : Vm) (B : Pt), s.WarmedH vm₁ ∧ Stand p l e R s m args below meth c B.U B.locs B.cells B.slots ∧ Post ⟨T.setVm vm₁, locs, cells, slots⟩ argsL.toArray v B ∧
      ∀ target, Steps p.tables e below (B.U.setTop { g with pc := g.pc + 3, stack := v.toList ++ rest }) target → Steps p.tables e below (T.setTop g) target) ∨
    (∃ (q : Addr) (vm₁ : Vm) (B : Pt), s.WarmedH vm₁ ∧ Stand p l e R s m args below meth c B.U B.locs B.cells B.slots ∧ PostX ⟨T.setVm vm₁, locs, cells, slots⟩ argsL.toArray q B ∧
      Steps p.tables e below (T.setTop g) ((B.U.setTop { g with stack := rest }).pushFrame (.throwing q))) := by
  obtain ⟨mk, methM, cM, hnamed, hmethM, -, -, -, -, -, -, hsigM⟩ := Cond.codeWith_spec hcode
  have hstatic : methM.isStatic = true := Cond.static_spec hnamed hmethM hstat
  obtain ⟨kP, hkP, -⟩ := className_of_methodNamed hnamed
  have hinitP : kP.init = .initialized := Cond.initialized_spec (findClass_of_methodNamed hnamed) hkP hinit
  obtain ⟨vm₁, X₁, hstep₁⟩ := X.invokestatic hexec hown hlink hnamed hmethM hstatic hkP hinitP hy (g := g) hg (argsL := argsL) (rest := rest) (hlen _ hsigM) hstack hdg
  rcases hK m meth c ⟨T.setVm vm₁, locs, cells, slots⟩ { g with stack := rest } (.invokestatic index) mk argsL.toArray X₁ hg hsize hdg hW (X₁.named hnamed) (hpre vm₁ X₁.warmed) with ⟨v, B, X', hpost, hsteps⟩ | ⟨q, B, X', hpost, hsteps⟩
  · exact Or.inl ⟨v, vm₁, B, X₁.warmed, X', hpost, fun target h => hstep₁ _ fun acts => by rw [doInvoke_state]; exact hsteps.trans h⟩
  · exact Or.inr ⟨q, vm₁, B, X₁.warmed, X', hpost, hstep₁ _ fun acts => by rw [doInvoke_state]; exact hsteps⟩
theorem vx_callVW (X : Stand p l e R s m args below meth c T locs cells slots) (hexec : p.tables.exec = Jvm.exec) {own C : String} {index : Nat} {y : MethodName} {bytes : ByteArray} {maxL : Nat} {ret : Option FieldType} {hh : List (Nat × Nat × Nat × Nat)}
    (hown : s.vm.findClass own = some m.cls) (hlink : (Cond.methodLink own index y).before args s = true) (hinst : (Cond.instanceMethod y).before args s = true) (hsel : (Cond.selects C y y).before args s = true)
    (hcode : (Cond.codeWith y bytes maxL ret hh).before args s = true) (hy : y.cls ≠ "java/lang/invoke/MethodHandle" ∧ y.cls ≠ "java/lang/invoke/VarHandle")
    {W9 : Nat} {Pre : Pt → Array Value → Prop} {Post : Pt → Array Value → Option Value → Pt → Prop} (hK : Back l R p e below s args y 3 W9 Pre Post)
    {b : Addr} {cellB : Cell} (hcell : T.heap[b]? = some cellB) (hobj : cellB.vm.isStatics = false) (hcls : s.vm.findClass C = some cellB.cls)
    {g : JFrame} (hg : g.method = m) (hsize : g.locals.size = c.maxLocals) {argsL rest : List Value} (hlen : ∀ sig, parseMethodDescriptor y.desc = some sig → argsL.length = sig.parameters.length)
    (hstack : g.stack = argsL.reverse ++ .ref b :: rest) (hW : 2 * g.monitorRoom + (rest.map fun v => v.category).sum ≤ W9) (hdg : decode c.code g.pc = .ok (.invokevirtual index, 3))
    (hpre : ∀ vm₁, s.WarmedH vm₁ → Pre ⟨T.setVm vm₁, locs, cells, slots⟩ (Value.ref b :: argsL).toArray) :
    ∃ (v : Option Value) (vm₁ : Vm) (B : Pt), s.WarmedH vm₁ ∧ Stand p l e R s m args below meth c B.U B.locs B.cells B.slots ∧ Post ⟨T.setVm vm₁, locs, cells, slots⟩ (Value.ref b :: argsL).toArray v B ∧
      ∀ target, Steps p.tables e below (B.U.setTop { g with pc := g.pc + 3, stack := v.toList ++ rest }) target → Steps p.tables e below (T.setTop g) target := by
  obtain ⟨mk, methM, hnamed, hmethM, hstM, habM⟩ := Cond.instanceMethod_spec hinst
  obtain ⟨m8, methM', cM, hn8, hmethM', -, -, -, -, -, -, hsigM⟩ := Cond.codeWith_spec hcode
  cases Option.some.inj (hn8.symm.trans hnamed)
  cases hmethM.symm.trans hmethM'
  obtain ⟨c2, r2, m2, q1, q2, q3, q4, kP, hkP, hkPi⟩ := Cond.selects_spec hsel
  cases hcls.symm.trans q1
  cases (State.methodFound?_of_named hnamed hy).symm.trans q2
  cases hnamed.symm.trans q3
  have hselP : selectMethod e.platform s.vm cellB.cls mk = .method mk := by rw [Launch.admits_selectMethod X.admits]; exact q4
  obtain ⟨vm₁, X₁, hstep₁⟩ := X.invokevirtual hexec hown hlink hnamed hmethM hstM hkP hkPi hy (a := b) (cell := cellB) hcell
    (fun z h => by rw [h] at hobj; cases hobj) hselP hmethM habM hkP hkPi (g := g) hg (argsL := argsL) (rest := rest) (hlen _ hsigM) hstack hdg
  obtain ⟨v, B, X', hpost, hsteps⟩ := hK m meth c ⟨T.setVm vm₁, locs, cells, slots⟩ { g with stack := rest } (.invokevirtual index) mk (Value.ref b :: argsL).toArray X₁ hg hsize hdg hW (X₁.named hnamed) (hpre vm₁ X₁.warmed)
  exact ⟨v, vm₁, B, X₁.warmed, X', hpost, fun target h => hstep₁ _ fun acts => by rw [doInvoke_state]; exact hsteps.trans h⟩
abbrev vx_CVW (R : Room) (s : State) (args : Array Value) (own C : String) (index : Nat) (y : MethodName) (bytes : ByteArray) (maxL : Nat) (ret : Option FieldType) (hh : List (Nat × Nat × Nat × Nat)) (ws : List Cond) (rm : Room) (mc ms n : Nat) : Prop :=
  (rm.cells = mc ∧ rm.slots = ms ∧ rm.frames + 1 ≤ R.frames ∧ 8 + (maxL + 11) + rm.locals ≤ R.locals ∧ (∀ w ∈ ws, ∀ (a' : Array Value) (U : State), s.WarmedH U.vm → w.before a' U = true) ∧ Cond.codeWith y bytes maxL ret hh ∈ ws) ∧
  (Cond.codeWith y bytes maxL ret hh).before args s = true ∧ (Cond.initialized y.cls).before args s = true ∧ (y.cls ≠ "java/lang/invoke/MethodHandle" ∧ y.cls ≠ "java/lang/invoke/VarHandle") ∧
  (∀ sig, parseMethodDescriptor y.desc = some sig → n = sig.parameters.length) ∧ (Cond.methodLink own index y).before args s = true ∧ (Cond.instanceMethod y).before args s = true ∧ (Cond.selects C y y).before args s = true
theorem vx_cwVW {own C : String} {index maxL mc ms : Nat} {y : MethodName} {bytes : ByteArray} {ret : Option FieldType} {hh : List (Nat × Nat × Nat × Nat)} {Ts ws ws' : List Cond} {rm : Room} (n : Nat) (ht : ∀ w ∈ Ts, w.before args s = true) (hT : GoodIn Ts (wsV own index C y ws)) (hw : ws = Cond.codeWith y bytes maxL ret hh :: ws') (hrc : rm.cells = mc) (hrs : rm.slots = ms)
    (hd : y.cls = C ∧ y.cls ≠ "java/lang/invoke/MethodHandle" ∧ y.cls ≠ "java/lang/invoke/VarHandle" ∧ (parseMethodDescriptor y.desc).map (fun d => d.parameters.length) = some n) (hR : rm.frames + 1 ≤ R.frames ∧ 8 + (maxL + 11) + rm.locals ≤ R.locals) :
    vx_CVW R s args own C index y bytes maxL ret hh ws rm mc ms n := by
  obtain ⟨hC, hd⟩ := hd
  subst hC
  have ok : ∀ w ∈ wsV own index y.cls y ws, w.before args s = true := fun w h => ht w (hT w h).1
  have hG : GoodIn Ts ws := fun w h => hT w (by unfold wsV; exact List.mem_append_right _ h)
  have hc : Cond.codeWith y bytes maxL ret hh ∈ ws := by rw [hw]; exact List.mem_cons_self
  refine ⟨⟨hrc, hrs, hR.1, hR.2, pay_in ht hG, hc⟩, ht _ (hG _ hc).1, ok _ (by simp [wsV]), ⟨hd.1, hd.2.1⟩, fun sig h => ?_, ok _ (by simp [wsV]), ok _ (by simp [wsV]), ok _ (by simp [wsV])⟩
  have h2 := hd.2.2
  rw [h] at h2
  exact (Option.some.inj h2).symm
theorem vx_runVW {y : MethodName} {bytes cc : ByteArray} {maxL nL mc ms n index : Nat} {ret : Option FieldType} {hh : List (Nat × Nat × Nat × Nat)} {ws : List Cond} {rm : Room} {Pc : Array Value → State → Prop} {Qc : Array Value → State → Outcome → State → Prop} {free : Addr → Prop} {Ts : List Cond} {own C : String} {b : Addr} {As rest : List Value} {g : JFrame}
    (S : CallFix p m c cc nL s args Ts own) (hM : Met l y ws rm Pc Qc mc ms free) (cw : vx_CVW R s args own C index y bytes maxL ret hh ws rm mc ms n) (hp : PreV s H C b Pc As)
    (hg : g.method = m) (hn : As.length = n) (hsize : g.locals.size = nL) (hstack : g.stack = As.reverse ++ .ref b :: rest) (hW : 2 * g.monitorRoom + (rest.map fun v => v.category).sum ≤ 8) (hdg : decode cc g.pc = .ok (.invokevirtual index, 3)) (hf : cells + mc ≤ R.cells ∧ slots + ms ≤ R.slots) :
    va_Run p l e R s m args below meth c H locs cells slots mc ms g rest (Qc (Value.ref b :: As).toArray) free := by
  obtain ⟨⟨hrc, hrs, hfr, hlo, hws, hcw⟩, hcode, hini, hy, hlen, hl, hin, hse⟩ := cw
  have hK : Back l R p e below s args y 3 8 (PreOf R mc ms Pc) (PostOf Qc mc ms free) := va_backW (hh := hh) (bytes := bytes) (maxL := maxL) (ret := ret) hM hp.1 hrc hrs hfr hlo hws hcw (fun a' U hW => word_at hW (Or.inl (by first | rfl | simp [Cond.onTables, Cond.keeps, Cond.steady])) hini)
  obtain ⟨hx, hb, hml, ho, -⟩ := S
  obtain ⟨-, ⟨cellB, hcB, hoB, hclB⟩, hPc⟩ := hp
  intro T hT X
  obtain ⟨v, vm₁, ⟨U', l2, c2, s2⟩, hW₁, X', ⟨g', mk, t, L, e1, e2, hq, h1, hL, h2, h3⟩, st⟩ := vx_callVW X hx (C := C) (hh := hh) (bytes := bytes) (maxL := maxL) (ret := ret) ho hl hin hse hcode hy hK (by rw [hT]; exact hcB) hoB hclB hg (hsize.trans hml.symm) (argsL := As) (rest := rest) (fun sig h => hn.trans (hlen sig h)) hstack hW (by rw [hb]; exact hdg)
    (fun vm₁ hW₁ => ⟨hf.1, hf.2, hPc (T.setVm vm₁) hT hW₁⟩)
  dsimp only [Pt.U, Pt.locs, Pt.cells, Pt.slots] at X' e1 e2 h1 h2 h3 st
  subst h1; subst h2; subst h3
  exact ⟨v, (T.setVm vm₁).calling g' mk (Value.ref b :: As).toArray, t, U', L, hT, X', hL, e1, e2, hq, st⟩
section
variable {y : MethodName} {bytes cc : ByteArray} {maxL nL mc ms n index : Nat} {ret : Option FieldType} {ws : List Cond} {rm : Room} {Pc : Array Value → State → Prop} {Qc : Array Value → State → Outcome → State → Prop} {XC : String → State → State → Prop} {free : Addr → Prop} {Ts : List Cond} {own C : String} {b : Addr} {As rest : List Value} {g : JFrame}
theorem vx_runVX {hh : List (Nat × Nat × Nat × Nat)} (S : CallFix p m c cc nL s args Ts own) (hM : vx_Met l y ws rm Pc Qc XC mc ms free) (cw : vx_CVW R s args own C index y bytes maxL ret hh ws rm mc ms n) (hp : PreV s H C b Pc As)
    (hg : g.method = m) (hn : As.length = n) (hsize : g.locals.size = nL) (hstack : g.stack = As.reverse ++ .ref b :: rest) (hW : 2 * g.monitorRoom + (rest.map fun v => v.category).sum ≤ 8) (hdg : decode cc g.pc = .ok (.invokevirtual index, 3)) (hf : cells + mc ≤ R.cells ∧ slots + ms ≤ R.slots) :
    vx_Run p l e R s m args below meth c H locs cells slots mc ms g rest (Qc (Value.ref b :: As).toArray) XC free := by
  obtain ⟨⟨hrc, hrs, hfr, hlo, hws, hcw⟩, hcode, hini, hy, hlen, hl, hin, hse⟩ := cw
  have hK : vx_Back l R p e below s args y 3 8 (PreOf R mc ms Pc) (PostOf Qc mc ms free) (vx_Post XC mc ms free) := vx_backW (hh := hh) (bytes := bytes) (maxL := maxL) (ret := ret) hM hp.1 hrc hrs hfr hlo hws hcw (fun a' U hW => word_at hW (Or.inl (by first | rfl | simp [Cond.onTables, Cond.keeps, Cond.steady])) hini)
  obtain ⟨hx, hb, hml, ho, -⟩ := S
  obtain ⟨-, ⟨cellB, hcB, hoB, hclB⟩, hPc⟩ := hp
  intro T hT X
  rcases vx_callVX X hx (C := C) (hh := hh) (bytes := bytes) (maxL := maxL) (ret := ret) ho hl hin hse hcode hy hK (by rw [hT]; exact hcB) hoB hclB hg (hsize.trans hml.symm) (argsL := As) (rest := rest) (fun sig h => hn.trans (hlen sig h)) hstack hW (by rw [hb]; exact hdg)
    (fun vm₁ hW₁ => ⟨hf.1, hf.2, hPc (T.setVm vm₁) hT hW₁⟩) with ⟨v, vm₁, ⟨U', l2, c2, s2⟩, hW₁, X', ⟨g', mk, t, L, e1, e2, hq, h1, hL, h2, h3⟩, st⟩ | ⟨q, vm₁, ⟨U', l2, c2, s2⟩, hW₁, X', ⟨g', mk, t, L, E, ce, e1, e2, hq, hce, hcv, hcl, h1, hL, h2, h3⟩, st⟩
  · dsimp only [Pt.U, Pt.locs, Pt.cells, Pt.slots] at X' e1 e2 h1 h2 h3 st
    subst h1; subst h2; subst h3
    exact Or.inl ⟨v, (T.setVm vm₁).calling g' mk (Value.ref b :: As).toArray, t, U', L, hT, X', hL, e1, e2, hq, st⟩
  · dsimp only [Pt.U, Pt.locs, Pt.cells, Pt.slots] at X' e1 e2 h1 h2 h3 st hcl
    subst h1; subst h2; subst h3
    exact Or.inr ⟨q, (T.setVm vm₁).calling g' mk (Value.ref b :: As).toArray, t, U', L, E, ce, hT, X', hL, e1, e2, hq, hce, hcv, vx_cls hW₁ hcl, st⟩
theorem vx_runSX {hh : List (Nat × Nat × Nat × Nat)} (S : CallFix p m c cc nL s args Ts own) (hM : vx_Met l y ws rm Pc Qc XC mc ms free) (cw : vx_CSW R s args own index y bytes maxL ret hh ws rm mc ms n) (hp : PreS s H Pc As)
    (hg : g.method = m) (hn : As.length = n) (hsize : g.locals.size = nL) (hstack : g.stack = As.reverse ++ rest) (hW : 2 * g.monitorRoom + (rest.map fun v => v.category).sum ≤ 8) (hdg : decode cc g.pc = .ok (.invokestatic index, 3)) (hf : cells + mc ≤ R.cells ∧ slots + ms ≤ R.slots) :
    vx_Run p l e R s m args below meth c H locs cells slots mc ms g rest (Qc As.toArray) XC free := by
  obtain ⟨⟨hrc, hrs, hfr, hlo, hws, hcw⟩, hcode, hini, hy, hlen, hl, hstt⟩ := cw
  have hK : vx_Back l R p e below s args y 3 8 (PreOf R mc ms Pc) (PostOf Qc mc ms free) (vx_Post XC mc ms free) := vx_backW (hh := hh) (bytes := bytes) (maxL := maxL) (ret := ret) hM hp.1 hrc hrs hfr hlo hws hcw (fun a' U hW => word_at hW (Or.inl (by first | rfl | simp [Cond.onTables, Cond.keeps, Cond.steady])) hini)
  obtain ⟨hx, hb, hml, ho, -⟩ := S
  intro T hT X
  rcases vx_callSX X hx (hh := hh) (bytes := bytes) (maxL := maxL) (ret := ret) ho hl hstt hini hcode hy hK hg (hsize.trans hml.symm) (argsL := As) (rest := rest) (fun sig h => hn.trans (hlen sig h)) hstack hW (by rw [hb]; exact hdg)
    (fun vm₁ hW₁ => ⟨hf.1, hf.2, hp.2 (T.setVm vm₁) hT hW₁⟩) with ⟨v, vm₁, ⟨U', l2, c2, s2⟩, hW₁, X', ⟨g', mk, t, L, e1, e2, hq, h1, hL, h2, h3⟩, st⟩ | ⟨q, vm₁, ⟨U', l2, c2, s2⟩, hW₁, X', ⟨g', mk, t, L, E, ce, e1, e2, hq, hce, hcv, hcl, h1, hL, h2, h3⟩, st⟩
  · dsimp only [Pt.U, Pt.locs, Pt.cells, Pt.slots] at X' e1 e2 h1 h2 h3 st
    subst h1; subst h2; subst h3
    exact Or.inl ⟨v, (T.setVm vm₁).calling g' mk As.toArray, t, U', L, hT, X', hL, e1, e2, hq, st⟩
  · dsimp only [Pt.U, Pt.locs, Pt.cells, Pt.slots] at X' e1 e2 h1 h2 h3 st hcl
    subst h1; subst h2; subst h3
    exact Or.inr ⟨q, (T.setVm vm₁).calling g' mk As.toArray, t, U', L, E, ce, hT, X', hL, e1, e2, hq, hce, hcv, vx_cls hW₁ hcl, st⟩
end
end VXH
theorem vx_ofWH {l : Launch} {y : MethodName} {ws ws' : List Cond} {rm : Room} {Pc : Array Value → State → Prop} {Qc : Array Value → State → Outcome → State → Prop} {XC : String → State → State → Prop} {mc ms : Nat} {free : Addr → Prop} {cc : ByteArray} {maxL : Nat} {ret : Option FieldType} {hh : List (Nat × Nat × Nat × Nat)}
    (hy : plainName y.cls = true) (hw : ws = Cond.codeWith y cc maxL ret hh :: ws')
    (body : ∀ p e s m args below meth c s₁, BodyLoose p l y (headSpec ws rm) cc maxL ret e s m args below meth c s₁ → c.maxLocals = maxL → Pc args s →
      W p l e (headSpec ws rm).room s m args below meth c s.heap [] 0 0 (vx_MQ below Qc XC args s mc ms free) (entryFrame m args maxL)) : vx_Met l y ws rm Pc Qc XC mc ms free := by
  refine MetFree.of_bodyS (code := cc) (maxLocals := maxL) (ret := ret) hy ?_ ?_
  · intro args s m h hn
    obtain ⟨m9, meth, c, hn9, h1, h2, h3, h4, -, h5, h6, -⟩ := Cond.codeWith_spec (atoms_spec (ws := ws) h _ (by rw [hw]; exact List.mem_cons_self))
    cases hn.symm.trans hn9
    exact ⟨meth, c, h1, h2, h3, h4, h5, h6⟩
  · intro p e s m args below meth c s₁ B hml hP _
    have hh0 : s₁.heap = s.heap := by rw [B.state]; rfl
    obtain ⟨t, a1, o, b1, b2, b3⟩ := body p e s m args below meth c s₁ B hml hP s₁ hh0 (Stand.of_body B)
    exact ⟨t, o, a1, b1, b2, b3⟩
/-! ===== END ===== -/
end
section
def RX0 : String := "Twincuts$Drawing"
def TX0 : u_T := fun k => match k with
  | 0 => ("Twincuts$Drawing", "web", "LTwincuts$Web;", true)
  | 1 => ("Twincuts$Drawing", "order", "[[I", true)
  | 2 => ("Twincuts$Drawing", "length", "[I", true)
  | 3 => ("Twincuts$Drawing", "walked", "I", false)
  | _ => ("Twincuts$Drawing", "face", "[I", true)
def tyX0 : Nat → FieldType := fun k => match k with
  | 0 => .object "Twincuts$Web"
  | 1 => .array (.array .int)
  | 2 => .array .int
  | 3 => .int
  | _ => .array .int
abbrev wsX00 : List Cond := u_ws RX0 TX0 5
theorem nmX0 : ∀ a, a < 5 → ∀ b, b < 5 → a ≠ b → (TX0 a).2.1 ≠ (TX0 b).2.1 := by decide +kernel
theorem tyX0_ok : ∀ k, k < 5 → parseFieldDescriptor (TX0 k).2.2.1 = some (tyX0 k) := by decide +kernel
abbrev cX0_init : ByteArray := prog_2_method_1_code
def yX0_init : MethodName := ⟨RX0, "<init>", "(LTwincuts$Web;)V"⟩
abbrev cX0_append : ByteArray := prog_2_method_2_code
def yX0_append : MethodName := ⟨RX0, "append", "(II)V"⟩
abbrev cX0_swap : ByteArray := prog_2_method_3_code
def yX0_swap : MethodName := ⟨RX0, "swap", "(II)V"⟩
abbrev cX0_learn : ByteArray := prog_2_method_5_code
def yX0_learn : MethodName := ⟨RX0, "learn", "()V"⟩
abbrev cX0_walkBehind : ByteArray := prog_2_method_6_code
def yX0_walkBehind : MethodName := ⟨RX0, "walkBehind", "(I)I"⟩
abbrev cX0_placeOf : ByteArray := prog_2_method_7_code
def yX0_placeOf : MethodName := ⟨RX0, "placeOf", "(II)I"⟩
abbrev cX0_placeBehind : ByteArray := prog_2_method_8_code
def yX0_placeBehind : MethodName := ⟨RX0, "placeBehind", "(II)I"⟩
abbrev cX0_allFaces : ByteArray := prog_2_method_9_code
def yX0_allFaces : MethodName := ⟨RX0, "allFaces", "()I"⟩
abbrev cX0_bestPlace : ByteArray := prog_2_method_10_code
def yX0_bestPlace : MethodName := ⟨RX0, "bestPlace", "(I)I"⟩
def RX1 : String := "Twincuts$Falls"
def TX1 : u_T := fun k => match k with
  | 0 => ("Twincuts$Falls", "web", "LTwincuts$Web;", true)
  | 1 => ("Twincuts$Falls", "parts", "I", false)
  | 2 => ("Twincuts$Falls", "bridgeSet", "I", false)
  | 3 => ("Twincuts$Falls", "cutPointSet", "I", false)
  | 4 => ("Twincuts$Falls", "blocks", "I", false)
  | 5 => ("Twincuts$Falls", "pairs", "I", false)
  | 6 => ("Twincuts$Falls", "twins", "I", false)
  | 7 => ("Twincuts$Falls", "part", "[I", true)
  | 8 => ("Twincuts$Falls", "partSet", "[I", true)
  | 9 => ("Twincuts$Falls", "first", "[I", true)
  | 10 => ("Twincuts$Falls", "block", "[I", true)
  | 11 => ("Twincuts$Falls", "smallerOfPair", "[I", true)
  | 12 => ("Twincuts$Falls", "greaterOfPair", "[I", true)
  | 13 => ("Twincuts$Falls", "smallerOfTwins", "[I", true)
  | _ => ("Twincuts$Falls", "greaterOfTwins", "[I", true)
def tyX1 : Nat → FieldType := fun k => match k with
  | 0 => .object "Twincuts$Web"
  | 1 => .int
  | 2 => .int
  | 3 => .int
  | 4 => .int
  | 5 => .int
  | 6 => .int
  | 7 => .array .int
  | 8 => .array .int
  | 9 => .array .int
  | 10 => .array .int
  | 11 => .array .int
  | 12 => .array .int
  | 13 => .array .int
  | _ => .array .int
abbrev wsX10 : List Cond := u_ws RX1 TX1 15
theorem nmX1 : ∀ a, a < 15 → ∀ b, b < 15 → a ≠ b → (TX1 a).2.1 ≠ (TX1 b).2.1 := by decide +kernel
theorem tyX1_ok : ∀ k, k < 15 → parseFieldDescriptor (TX1 k).2.2.1 = some (tyX1 k) := by decide +kernel
abbrev cX1_init : ByteArray := prog_3_method_1_code
def yX1_init : MethodName := ⟨RX1, "<init>", "(LTwincuts$Web;)V"⟩
abbrev cX1_learn : ByteArray := prog_3_method_2_code
def yX1_learn : MethodName := ⟨RX1, "learn", "()V"⟩
abbrev cX1_blocksAt : ByteArray := prog_3_method_3_code
def yX1_blocksAt : MethodName := ⟨RX1, "blocksAt", "(I)I"⟩
abbrev cX1_isAloneInBlock : ByteArray := prog_3_method_4_code
def yX1_isAloneInBlock : MethodName := ⟨RX1, "isAloneInBlock", "(I)Z"⟩
abbrev cX1_pairPoint : ByteArray := prog_3_method_5_code
def yX1_pairPoint : MethodName := ⟨RX1, "pairPoint", "(IZ)I"⟩
abbrev cX1_twinLine : ByteArray := prog_3_method_6_code
def yX1_twinLine : MethodName := ⟨RX1, "twinLine", "(IZ)I"⟩
abbrev cX1_numberParts : ByteArray := prog_3_method_7_code
def yX1_numberParts : MethodName := ⟨RX1, "numberParts", "()V"⟩
abbrev cX1_putInPart : ByteArray := prog_3_method_8_code
def yX1_putInPart : MethodName := ⟨RX1, "putInPart", "(I)V"⟩
abbrev cX1_findBridges : ByteArray := prog_3_method_9_code
def yX1_findBridges : MethodName := ⟨RX1, "findBridges", "()V"⟩
abbrev cX1_findCutPoints : ByteArray := prog_3_method_10_code
def yX1_findCutPoints : MethodName := ⟨RX1, "findCutPoints", "()V"⟩
abbrev cX1_joinBlocks : ByteArray := prog_3_method_11_code
def yX1_joinBlocks : MethodName := ⟨RX1, "joinBlocks", "()V"⟩
abbrev cX1_joinAtPoint : ByteArray := prog_3_method_12_code
def yX1_joinAtPoint : MethodName := ⟨RX1, "joinAtPoint", "(II)V"⟩
abbrev cX1_join : ByteArray := prog_3_method_13_code
def yX1_join : MethodName := ⟨RX1, "join", "(II)V"⟩
abbrev cX1_numberBlocks : ByteArray := prog_3_method_14_code
def yX1_numberBlocks : MethodName := ⟨RX1, "numberBlocks", "()V"⟩
abbrev cX1_findPairs : ByteArray := prog_3_method_15_code
def yX1_findPairs : MethodName := ⟨RX1, "findPairs", "()V"⟩
abbrev cX1_isPair : ByteArray := prog_3_method_16_code
def yX1_isPair : MethodName := ⟨RX1, "isPair", "(II)Z"⟩
abbrev cX1_findTwins : ByteArray := prog_3_method_17_code
def yX1_findTwins : MethodName := ⟨RX1, "findTwins", "()V"⟩
abbrev cX1_areTwins : ByteArray := prog_3_method_18_code
def yX1_areTwins : MethodName := ⟨RX1, "areTwins", "(II)Z"⟩
def RX2 : String := "Twincuts$Forest"
def TX2 : u_T := fun k => match k with
  | 0 => ("Twincuts$Forest", "web", "LTwincuts$Web;", true)
  | 1 => ("Twincuts$Forest", "table", "[[J", true)
  | 2 => ("Twincuts$Forest", "cheapestSet", "I", false)
  | 3 => ("Twincuts$Forest", "cheapestCost", "I", false)
  | _ => ("Twincuts$Forest", "joined", "[I", true)
def tyX2 : Nat → FieldType := fun k => match k with
  | 0 => .object "Twincuts$Web"
  | 1 => .array (.array .long)
  | 2 => .int
  | 3 => .int
  | _ => .array .int
abbrev wsX20 : List Cond := u_ws RX2 TX2 5
theorem nmX2 : ∀ a, a < 5 → ∀ b, b < 5 → a ≠ b → (TX2 a).2.1 ≠ (TX2 b).2.1 := by decide +kernel
theorem tyX2_ok : ∀ k, k < 5 → parseFieldDescriptor (TX2 k).2.2.1 = some (tyX2 k) := by decide +kernel
abbrev cX2_init : ByteArray := prog_4_method_1_code
def yX2_init : MethodName := ⟨RX2, "<init>", "(LTwincuts$Web;)V"⟩
abbrev cX2_countTrees : ByteArray := prog_4_method_2_code
def yX2_countTrees : MethodName := ⟨RX2, "countTrees", "()J"⟩
abbrev cX2_fillTable : ByteArray := prog_4_method_4_code
def yX2_fillTable : MethodName := ⟨RX2, "fillTable", "()V"⟩
abbrev cX2_addToTable : ByteArray := prog_4_method_5_code
def yX2_addToTable : MethodName := ⟨RX2, "addToTable", "(II)V"⟩
abbrev cX2_countByTable : ByteArray := prog_4_method_6_code
def yX2_countByTable : MethodName := ⟨RX2, "countByTable", "()J"⟩
abbrev cX2_learn : ByteArray := prog_4_method_7_code
def yX2_learn : MethodName := ⟨RX2, "learn", "()V"⟩
abbrev cX2_takeCheapest : ByteArray := prog_4_method_8_code
def yX2_takeCheapest : MethodName := ⟨RX2, "takeCheapest", "()V"⟩
abbrev cX2_takeIfNew : ByteArray := prog_4_method_9_code
def yX2_takeIfNew : MethodName := ⟨RX2, "takeIfNew", "(I)V"⟩
def RX3 : String := "Twincuts$Palette"
def TX3 : u_T := fun k => match k with
  | 0 => ("Twincuts$Palette", "web", "LTwincuts$Web;", true)
  | 1 => ("Twincuts$Palette", "colours", "I", false)
  | _ => ("Twincuts$Palette", "colour", "[I", true)
def tyX3 : Nat → FieldType := fun k => match k with
  | 0 => .object "Twincuts$Web"
  | 1 => .int
  | _ => .array .int
abbrev wsX30 : List Cond := u_ws RX3 TX3 3
theorem nmX3 : ∀ a, a < 3 → ∀ b, b < 3 → a ≠ b → (TX3 a).2.1 ≠ (TX3 b).2.1 := by decide +kernel
theorem tyX3_ok : ∀ k, k < 3 → parseFieldDescriptor (TX3 k).2.2.1 = some (tyX3 k) := by decide +kernel
abbrev cX3_init : ByteArray := prog_5_method_1_code
def yX3_init : MethodName := ⟨RX3, "<init>", "(LTwincuts$Web;)V"⟩
abbrev cX3_learn : ByteArray := prog_5_method_2_code
def yX3_learn : MethodName := ⟨RX3, "learn", "()V"⟩
abbrev cX3_paintsFrom : ByteArray := prog_5_method_3_code
def yX3_paintsFrom : MethodName := ⟨RX3, "paintsFrom", "(III)Z"⟩
abbrev cX3_isFree : ByteArray := prog_5_method_4_code
def yX3_isFree : MethodName := ⟨RX3, "isFree", "(III)Z"⟩
def RX4 : String := "Twincuts$Ways"
def TX4 : u_T := fun k => match k with
  | 0 => ("Twincuts$Ways", "web", "LTwincuts$Web;", true)
  | 1 => ("Twincuts$Ways", "room", "[[I", true)
  | 2 => ("Twincuts$Ways", "cameFrom", "[I", true)
  | _ => ("Twincuts$Ways", "queue", "[I", true)
def tyX4 : Nat → FieldType := fun k => match k with
  | 0 => .object "Twincuts$Web"
  | 1 => .array (.array .int)
  | 2 => .array .int
  | _ => .array .int
abbrev wsX40 : List Cond := u_ws RX4 TX4 4
theorem nmX4 : ∀ a, a < 4 → ∀ b, b < 4 → a ≠ b → (TX4 a).2.1 ≠ (TX4 b).2.1 := by decide +kernel
theorem tyX4_ok : ∀ k, k < 4 → parseFieldDescriptor (TX4 k).2.2.1 = some (tyX4 k) := by decide +kernel
abbrev cX4_init : ByteArray := prog_6_method_1_code
def yX4_init : MethodName := ⟨RX4, "<init>", "(LTwincuts$Web;)V"⟩
abbrev cX4_countWays : ByteArray := prog_6_method_2_code
def yX4_countWays : MethodName := ⟨RX4, "countWays", "(II)I"⟩
abbrev cX4_countLineWays : ByteArray := prog_6_method_3_code
def yX4_countLineWays : MethodName := ⟨RX4, "countLineWays", "(II)I"⟩
abbrev cX4_clearRoom : ByteArray := prog_6_method_4_code
def yX4_clearRoom : MethodName := ⟨RX4, "clearRoom", "()V"⟩
abbrev cX4_countFlow : ByteArray := prog_6_method_5_code
def yX4_countFlow : MethodName := ⟨RX4, "countFlow", "(II)I"⟩
abbrev cX4_findsWay : ByteArray := prog_6_method_6_code
def yX4_findsWay : MethodName := ⟨RX4, "findsWay", "(II)Z"⟩
abbrev cX4_fillWay : ByteArray := prog_6_method_7_code
def yX4_fillWay : MethodName := ⟨RX4, "fillWay", "(II)V"⟩
abbrev cX4_gap : ByteArray := prog_6_method_8_code
def yX4_gap : MethodName := ⟨RX4, "gap", "(II)I"⟩
abbrev cX4_isApartWithout : ByteArray := prog_6_method_9_code
def yX4_isApartWithout : MethodName := ⟨RX4, "isApartWithout", "(III)Z"⟩
abbrev cX4_side : ByteArray := prog_6_method_10_code
def yX4_side : MethodName := ⟨RX4, "side", "(II)I"⟩
def RX5 : String := "Twincuts$Web"
def TX5 : u_T := fun k => match k with
  | 0 => ("Twincuts$Web", "points", "I", false)
  | 1 => ("Twincuts$Web", "lines", "I", false)
  | 2 => ("Twincuts$Web", "standing", "I", false)
  | 3 => ("Twincuts$Web", "smaller", "[I", true)
  | 4 => ("Twincuts$Web", "greater", "[I", true)
  | 5 => ("Twincuts$Web", "cost", "[I", true)
  | 6 => ("Twincuts$Web", "ends", "[I", true)
  | _ => ("Twincuts$Web", "linesAt", "[I", true)
def tyX5 : Nat → FieldType := fun k => match k with
  | 0 => .int
  | 1 => .int
  | 2 => .int
  | 3 => .array .int
  | 4 => .array .int
  | 5 => .array .int
  | 6 => .array .int
  | _ => .array .int
abbrev wsX50 : List Cond := u_ws RX5 TX5 8
theorem nmX5 : ∀ a, a < 8 → ∀ b, b < 8 → a ≠ b → (TX5 a).2.1 ≠ (TX5 b).2.1 := by decide +kernel
theorem tyX5_ok : ∀ k, k < 8 → parseFieldDescriptor (TX5 k).2.2.1 = some (tyX5 k) := by decide +kernel
abbrev cX5_init : ByteArray := prog_7_method_1_code
def yX5_init : MethodName := ⟨RX5, "<init>", "()V"⟩
abbrev cX5_addPoint : ByteArray := prog_7_method_2_code
def yX5_addPoint : MethodName := ⟨RX5, "addPoint", "()I"⟩
abbrev cX5_addLine : ByteArray := prog_7_method_3_code
def yX5_addLine : MethodName := ⟨RX5, "addLine", "(III)I"⟩
abbrev cX5_setCut : ByteArray := prog_7_method_4_code
def yX5_setCut : MethodName := ⟨RX5, "setCut", "(IZ)V"⟩
abbrev cX5_allPoints : ByteArray := prog_7_method_5_code
def yX5_allPoints : MethodName := ⟨RX5, "allPoints", "()I"⟩
abbrev cX5_standingAt : ByteArray := prog_7_method_6_code
def yX5_standingAt : MethodName := ⟨RX5, "standingAt", "(I)I"⟩
abbrev cX5_otherEnd : ByteArray := prog_7_method_7_code
def yX5_otherEnd : MethodName := ⟨RX5, "otherEnd", "(II)I"⟩
abbrev cX5_linkedWith : ByteArray := prog_7_method_8_code
def yX5_linkedWith : MethodName := ⟨RX5, "linkedWith", "(I)I"⟩
abbrev cX5_reach : ByteArray := prog_7_method_9_code
def yX5_reach : MethodName := ⟨RX5, "reach", "(III)I"⟩
abbrev cX5_countParts : ByteArray := prog_7_method_10_code
def yX5_countParts : MethodName := ⟨RX5, "countParts", "(II)I"⟩
abbrev cX5_distance : ByteArray := prog_7_method_11_code
def yX5_distance : MethodName := ⟨RX5, "distance", "(II)I"⟩
abbrev cX5_linkedWithAny : ByteArray := prog_7_method_12_code
def yX5_linkedWithAny : MethodName := ⟨RX5, "linkedWithAny", "(I)I"⟩
abbrev cX5_greatestDistance : ByteArray := prog_7_method_13_code
def yX5_greatestDistance : MethodName := ⟨RX5, "greatestDistance", "()I"⟩
abbrev cX5_linesOutOf : ByteArray := prog_7_method_14_code
def yX5_linesOutOf : MethodName := ⟨RX5, "linesOutOf", "(I)I"⟩
def RX6 : String := "Twincuts"
def TX6 : u_T := fun k => match k with
  | 0 => ("Twincuts", "web", "LTwincuts$Web;", true)
  | 1 => ("Twincuts", "falls", "LTwincuts$Falls;", true)
  | 2 => ("Twincuts", "ways", "LTwincuts$Ways;", true)
  | 3 => ("Twincuts", "forest", "LTwincuts$Forest;", true)
  | 4 => ("Twincuts", "palette", "LTwincuts$Palette;", true)
  | 5 => ("Twincuts", "drawing", "LTwincuts$Drawing;", true)
  | _ => ("Twincuts", "refused", "I", false)
def tyX6 : Nat → FieldType := fun k => match k with
  | 0 => .object "Twincuts$Web"
  | 1 => .object "Twincuts$Falls"
  | 2 => .object "Twincuts$Ways"
  | 3 => .object "Twincuts$Forest"
  | 4 => .object "Twincuts$Palette"
  | 5 => .object "Twincuts$Drawing"
  | _ => .int
abbrev wsX60 : List Cond := u_ws RX6 TX6 7
theorem nmX6 : ∀ a, a < 7 → ∀ b, b < 7 → a ≠ b → (TX6 a).2.1 ≠ (TX6 b).2.1 := by decide +kernel
theorem tyX6_ok : ∀ k, k < 7 → parseFieldDescriptor (TX6 k).2.2.1 = some (tyX6 k) := by decide +kernel
abbrev cX6_init : ByteArray := prog_1_method_1_code
def yX6_init : MethodName := ⟨RX6, "<init>", "()V"⟩
abbrev cX6_point : ByteArray := prog_1_method_2_code
def yX6_point : MethodName := ⟨RX6, "point", "()I"⟩
abbrev cX6_line : ByteArray := prog_1_method_3_code
def yX6_line : MethodName := ⟨RX6, "line", "(III)I"⟩
abbrev cX6_cut : ByteArray := prog_1_method_4_code
def yX6_cut : MethodName := ⟨RX6, "cut", "(IZ)I"⟩
abbrev cX6_price : ByteArray := prog_1_method_5_code
def yX6_price : MethodName := ⟨RX6, "price", "(II)I"⟩
abbrev cX6_turn : ByteArray := prog_1_method_6_code
def yX6_turn : MethodName := ⟨RX6, "turn", "(II)I"⟩
abbrev cX6_ofPoint : ByteArray := prog_1_method_8_code
def yX6_ofPoint : MethodName := ⟨RX6, "ofPoint", "(II)I"⟩
abbrev cX6_ofLine : ByteArray := prog_1_method_9_code
def yX6_ofLine : MethodName := ⟨RX6, "ofLine", "(II)I"⟩
abbrev cX6_net : ByteArray := prog_1_method_10_code
def yX6_net : MethodName := ⟨RX6, "net", "(I)I"⟩
abbrev cX6_pair : ByteArray := prog_1_method_11_code
def yX6_pair : MethodName := ⟨RX6, "pair", "(IZ)I"⟩
abbrev cX6_twin : ByteArray := prog_1_method_12_code
def yX6_twin : MethodName := ⟨RX6, "twin", "(IZ)I"⟩
abbrev cX6_between : ByteArray := prog_1_method_13_code
def yX6_between : MethodName := ⟨RX6, "between", "(III)I"⟩
abbrev cX6_trees : ByteArray := prog_1_method_14_code
def yX6_trees : MethodName := ⟨RX6, "trees", "()J"⟩
abbrev cX6_without : ByteArray := prog_1_method_17_code
def yX6_without : MethodName := ⟨RX6, "without", "(II)I"⟩
abbrev cX6_wouldTurn : ByteArray := prog_1_method_19_code
def yX6_wouldTurn : MethodName := ⟨RX6, "wouldTurn", "(I)I"⟩
abbrev cX6_isSound : ByteArray := prog_1_method_20_code
def yX6_isSound : MethodName := ⟨RX6, "isSound", "()Z"⟩
abbrev cX6_digest : ByteArray := prog_1_method_21_code
def yX6_digest : MethodName := ⟨RX6, "digest", "()J"⟩
abbrev cX6_learnAll : ByteArray := prog_1_method_22_code
def yX6_learnAll : MethodName := ⟨RX6, "learnAll", "()V"⟩
abbrev cX6_mixedPoint : ByteArray := prog_1_method_23_code
def yX6_mixedPoint : MethodName := ⟨RX6, "mixedPoint", "(JI)J"⟩
abbrev cX6_mixed : ByteArray := prog_1_method_24_code
def yX6_mixed : MethodName := ⟨RX6, "mixed", "(JJ)J"⟩
abbrev cX6_handles : ByteArray := prog_1_method_25_code
def yX6_handles : MethodName := ⟨RX6, "handles", "()I"⟩
abbrev cX6_areAllWaysSound : ByteArray := prog_1_method_26_code
def yX6_areAllWaysSound : MethodName := ⟨RX6, "areAllWaysSound", "()Z"⟩
abbrev cX6_areWaysSound : ByteArray := prog_1_method_27_code
def yX6_areWaysSound : MethodName := ⟨RX6, "areWaysSound", "(II)Z"⟩
abbrev cX6_areTreesSound : ByteArray := prog_1_method_28_code
def yX6_areTreesSound : MethodName := ⟨RX6, "areTreesSound", "()Z"⟩
abbrev cX6_isColouringSound : ByteArray := prog_1_method_29_code
def yX6_isColouringSound : MethodName := ⟨RX6, "isColouringSound", "()Z"⟩
abbrev cX6_areBlocksSound : ByteArray := prog_1_method_30_code
def yX6_areBlocksSound : MethodName := ⟨RX6, "areBlocksSound", "()Z"⟩
abbrev cX6_demandPoint : ByteArray := prog_1_method_31_code
def yX6_demandPoint : MethodName := ⟨RX6, "demandPoint", "(I)V"⟩
abbrev cX6_demandLine : ByteArray := prog_1_method_32_code
def yX6_demandLine : MethodName := ⟨RX6, "demandLine", "(I)V"⟩
abbrev cX6_demandPlace : ByteArray := prog_1_method_33_code
def yX6_demandPlace : MethodName := ⟨RX6, "demandPlace", "(II)V"⟩
abbrev cX6_demandUnlike : ByteArray := prog_1_method_34_code
def yX6_demandUnlike : MethodName := ⟨RX6, "demandUnlike", "(II)V"⟩
abbrev cX6_demandCost : ByteArray := prog_1_method_35_code
def yX6_demandCost : MethodName := ⟨RX6, "demandCost", "(I)V"⟩
abbrev cX6_demandWhat : ByteArray := prog_1_method_36_code
def yX6_demandWhat : MethodName := ⟨RX6, "demandWhat", "(II)V"⟩
abbrev cX6_demandNth : ByteArray := prog_1_method_37_code
def yX6_demandNth : MethodName := ⟨RX6, "demandNth", "(I)V"⟩
abbrev cX6_has : ByteArray := prog_1_method_38_code
def yX6_has : MethodName := ⟨RX6, "has", "(II)Z"⟩
def RX7 : String := "TwincutsModel$Line"
def TX7 : u_T := fun k => match k with
  | _ => ("", "", "", false)
def tyX7 : Nat → FieldType := fun k => match k with
  | _ => .int
abbrev wsX70 : List Cond := u_ws RX7 TX7 0
theorem nmX7 : ∀ a, a < 0 → ∀ b, b < 0 → a ≠ b → (TX7 a).2.1 ≠ (TX7 b).2.1 := by decide +kernel
theorem tyX7_ok : ∀ k, k < 0 → parseFieldDescriptor (TX7 k).2.2.1 = some (tyX7 k) := by decide +kernel
def RX8 : String := "TwincutsModel"
def TX8 : u_T := fun k => match k with
  | _ => ("", "", "", false)
def tyX8 : Nat → FieldType := fun k => match k with
  | _ => .int
abbrev wsX80 : List Cond := u_ws RX8 TX8 0
theorem nmX8 : ∀ a, a < 0 → ∀ b, b < 0 → a ≠ b → (TX8 a).2.1 ≠ (TX8 b).2.1 := by decide +kernel
theorem tyX8_ok : ∀ k, k < 0 → parseFieldDescriptor (TX8 k).2.2.1 = some (tyX8 k) := by decide +kernel
def RJx145de : String := "java/io/Serializable"
def TJx145de : u_T := fun k => match k with
  | _ => ("", "", "", false)
def tyJx145de : Nat → FieldType := fun k => match k with
  | _ => .int
abbrev wsJx145de0 : List Cond := u_ws RJx145de TJx145de 0
theorem nmJx145de : ∀ a, a < 0 → ∀ b, b < 0 → a ≠ b → (TJx145de a).2.1 ≠ (TJx145de b).2.1 := by decide +kernel
theorem tyJx145de_ok : ∀ k, k < 0 → parseFieldDescriptor (TJx145de k).2.2.1 = some (tyJx145de k) := by decide +kernel
def RJ6 : String := "java/lang/Integer"
def TJ6 : u_T := fun k => match k with
  | _ => ("", "", "", false)
def tyJ6 : Nat → FieldType := fun k => match k with
  | _ => .int
abbrev wsJ60 : List Cond := u_ws RJ6 TJ6 0
theorem nmJ6 : ∀ a, a < 0 → ∀ b, b < 0 → a ≠ b → (TJ6 a).2.1 ≠ (TJ6 b).2.1 := by decide +kernel
theorem tyJ6_ok : ∀ k, k < 0 → parseFieldDescriptor (TJ6 k).2.2.1 = some (tyJ6 k) := by decide +kernel
abbrev cJ6_bitCount_0f7a4 : ByteArray := prog_15_method_49_code
def yJ6_bitCount_0f7a4 : MethodName := ⟨RJ6, "bitCount", "(I)I"⟩
def RJ9 : String := "java/lang/Math"
def TJ9 : u_T := fun k => match k with
  | _ => ("", "", "", false)
def tyJ9 : Nat → FieldType := fun k => match k with
  | _ => .int
abbrev wsJ90 : List Cond := u_ws RJ9 TJ9 0
theorem nmJ9 : ∀ a, a < 0 → ∀ b, b < 0 → a ≠ b → (TJ9 a).2.1 ≠ (TJ9 b).2.1 := by decide +kernel
theorem tyJ9_ok : ∀ k, k < 0 → parseFieldDescriptor (TJ9 k).2.2.1 = some (tyJ9 k) := by decide +kernel
abbrev cJ9_max_7cf53 : ByteArray := prog_16_method_65_code
def yJ9_max_7cf53 : MethodName := ⟨RJ9, "max", "(II)I"⟩
abbrev cJ9_min_7cf53 : ByteArray := prog_16_method_69_code
def yJ9_min_7cf53 : MethodName := ⟨RJ9, "min", "(II)I"⟩
def RJ0 : String := "java/lang/String"
def TJ0 : u_T := fun k => match k with
  | _ => ("", "", "", false)
def tyJ0 : Nat → FieldType := fun k => match k with
  | _ => .int
abbrev wsJ00 : List Cond := u_ws RJ0 TJ0 0
theorem nmJ0 : ∀ a, a < 0 → ∀ b, b < 0 → a ≠ b → (TJ0 a).2.1 ≠ (TJ0 b).2.1 := by decide +kernel
theorem tyJ0_ok : ∀ k, k < 0 → parseFieldDescriptor (TJ0 k).2.2.1 = some (tyJ0 k) := by decide +kernel
def RL : String := "TwincutsLaw"
abbrev cL_below : ByteArray := method_2_code
def yL_below : MethodName := ⟨RL, "below", "(II)I"⟩
abbrev cL_cell : ByteArray := method_3_code
def yL_cell : MethodName := ⟨RL, "cell", "([II)I"⟩
abbrev cL_net : ByteArray := method_4_code
def yL_net : MethodName := ⟨RL, "net", "([I)LTwincuts;"⟩
abbrev cL_add : ByteArray := method_5_code
def yL_add : MethodName := ⟨RL, "add", "(LTwincuts;I)V"⟩
abbrev cL_turned : ByteArray := method_6_code
def yL_turned : MethodName := ⟨RL, "turned", "(LTwincuts;I)V"⟩
abbrev cL_isDone : ByteArray := method_7_code
def yL_isDone : MethodName := ⟨RL, "isDone", "(LTwincuts;I)Z"⟩
abbrev cL_law : ByteArray := code
def yL_law : MethodName := ⟨RL, "law", "([I)Z"⟩
abbrev cL_isParted : ByteArray := method_10_code
def yL_isParted : MethodName := ⟨RL, "isParted", "(LTwincuts;II)Z"⟩
abbrev cL_areOff : ByteArray := method_11_code
def yL_areOff : MethodName := ⟨RL, "areOff", "(LTwincuts;III)Z"⟩
def wsX0_init : List Cond := .code yX0_init cX0_init 2 none :: ([.methodLink RX0 3 objectInit, .instanceMethod objectInit, .code objectInit ⟨#[0xb1]⟩ 1 none, .classLink RX0 9 "[[I", .arrayClass .int, .fieldLink RX0 11 "Twincuts$Drawing" "order" "[[I", .fieldLink RX0 16 "Twincuts$Drawing" "length" "[I", .fieldLink RX0 20 "Twincuts$Drawing" "walked" "I", .fieldLink RX0 24 "Twincuts$Drawing" "face" "[I", .fieldLink RX0 27 "Twincuts$Drawing" "web" "LTwincuts$Web;"] ++ wsX00)
def wsX0_append : List Cond := .code yX0_append cX0_append 3 none :: ([.fieldLink RX0 16 "Twincuts$Drawing" "length" "[I", .fieldLink RX0 11 "Twincuts$Drawing" "order" "[[I"] ++ wsX00)
def wsX0_placeBehind : List Cond := .code yX0_placeBehind cX0_placeBehind 3 (some .int) :: ([.fieldLink RX0 16 "Twincuts$Drawing" "length" "[I"] ++ wsX00)
def wsX0_swap : List Cond := .code yX0_swap cX0_swap 5 none :: ([.fieldLink RX0 11 "Twincuts$Drawing" "order" "[[I", .methodLink RX0 31 yX0_placeBehind, .instanceMethod yX0_placeBehind, .selects RX0 yX0_placeBehind yX0_placeBehind, .initialized RX0, .code yX0_placeBehind cX0_placeBehind 3 (some .int), .fieldLink RX0 16 "Twincuts$Drawing" "length" "[I"] ++ wsX00)
def wsX6_has : List Cond := .code yX6_has cX6_has 2 (some .boolean) :: ([])
def wsX0_placeOf : List Cond := .code yX0_placeOf cX0_placeOf 4 (some .int) :: ([.fieldLink RX0 16 "Twincuts$Drawing" "length" "[I", .fieldLink RX0 11 "Twincuts$Drawing" "order" "[[I"] ++ wsX00)
def wsX0_walkBehind : List Cond := .code yX0_walkBehind cX0_walkBehind 7 (some .int) :: ([.fieldLink RX0 27 "Twincuts$Drawing" "web" "LTwincuts$Web;", .fieldLink RX0 16 "Twincuts$Drawing" "length" "[I", .fieldLink RX0 11 "Twincuts$Drawing" "order" "[[I", .methodLink RX0 74 yX0_placeOf, .instanceMethod yX0_placeOf, .selects RX0 yX0_placeOf yX0_placeOf, .initialized RX0, .code yX0_placeOf cX0_placeOf 4 (some .int), .methodLink RX0 31 yX0_placeBehind, .instanceMethod yX0_placeBehind, .selects RX0 yX0_placeBehind yX0_placeBehind, .code yX0_placeBehind cX0_placeBehind 3 (some .int), .static yX6_has, .initialized RX6, .code yX6_has cX6_has 2 (some .boolean)] ++ wsX00 ++ wsX50)
def wsX0_learn : List Cond := .code yX0_learn cX0_learn 4 none :: ([.fieldLink RX0 20 "Twincuts$Drawing" "walked" "I", .fieldLink RX0 24 "Twincuts$Drawing" "face" "[I", .fieldLink RX0 27 "Twincuts$Drawing" "web" "LTwincuts$Web;", .static yX6_has, .initialized RX6, .code yX6_has cX6_has 2 (some .boolean), .methodLink RX0 64 yX0_walkBehind, .instanceMethod yX0_walkBehind, .selects RX0 yX0_walkBehind yX0_walkBehind, .initialized RX0, .code yX0_walkBehind cX0_walkBehind 7 (some .int), .fieldLink RX0 16 "Twincuts$Drawing" "length" "[I", .fieldLink RX0 11 "Twincuts$Drawing" "order" "[[I", .methodLink RX0 74 yX0_placeOf, .instanceMethod yX0_placeOf, .selects RX0 yX0_placeOf yX0_placeOf, .code yX0_placeOf cX0_placeOf 4 (some .int), .methodLink RX0 31 yX0_placeBehind, .instanceMethod yX0_placeBehind, .selects RX0 yX0_placeBehind yX0_placeBehind, .code yX0_placeBehind cX0_placeBehind 3 (some .int)] ++ wsX00 ++ wsX50)
def wsX5_standingAt : List Cond := .code yX5_standingAt cX5_standingAt 2 (some .int) :: ([.fieldLink RX5 34 "Twincuts$Web" "linesAt" "[I", .fieldLink RX5 18 "Twincuts$Web" "standing" "I"] ++ wsX50)
def wsX0_allFaces : List Cond := .code yX0_allFaces cX0_allFaces 3 (some .int) :: ([.fieldLink RX0 20 "Twincuts$Drawing" "walked" "I", .fieldLink RX0 27 "Twincuts$Drawing" "web" "LTwincuts$Web;", .methodLink RX0 80 yX5_standingAt, .instanceMethod yX5_standingAt, .selects RX5 yX5_standingAt yX5_standingAt, .initialized RX5, .code yX5_standingAt cX5_standingAt 2 (some .int), .fieldLink RX5 34 "Twincuts$Web" "linesAt" "[I", .fieldLink RX5 18 "Twincuts$Web" "standing" "I"] ++ wsX00 ++ wsX50)
def wsX0_bestPlace_r1 : List Cond := [Cond.fieldLink RX0 16 "Twincuts$Drawing" "length" "[I", Cond.methodLink RX0 83 yX0_allFaces, Cond.instanceMethod yX0_allFaces, Cond.selects RX0 yX0_allFaces yX0_allFaces, Cond.initialized RX0, Cond.code yX0_allFaces cX0_allFaces 3 (some .int), Cond.fieldLink RX0 20 "Twincuts$Drawing" "walked" "I", Cond.fieldLink RX0 27 "Twincuts$Drawing" "web" "LTwincuts$Web;", Cond.methodLink RX0 80 yX5_standingAt, Cond.instanceMethod yX5_standingAt, Cond.selects RX5 yX5_standingAt yX5_standingAt, Cond.initialized RX5, Cond.code yX5_standingAt cX5_standingAt 2 (some .int), Cond.fieldLink RX5 34 "Twincuts$Web" "linesAt" "[I", Cond.fieldLink RX5 18 "Twincuts$Web" "standing" "I", Cond.methodLink RX0 87 yX0_swap, Cond.instanceMethod yX0_swap, Cond.selects RX0 yX0_swap yX0_swap, Cond.code yX0_swap cX0_swap 5 none, Cond.fieldLink RX0 11 "Twincuts$Drawing" "order" "[[I", Cond.methodLink RX0 31 yX0_placeBehind, Cond.instanceMethod yX0_placeBehind, Cond.selects RX0 yX0_placeBehind yX0_placeBehind, Cond.code yX0_placeBehind cX0_placeBehind 3 (some .int)]
def wsX0_bestPlace_r2 : List Cond := [Cond.methodLink RX0 91 yX0_learn, Cond.instanceMethod yX0_learn, Cond.selects RX0 yX0_learn yX0_learn, Cond.code yX0_learn cX0_learn 4 none, Cond.fieldLink RX0 24 "Twincuts$Drawing" "face" "[I", Cond.static yX6_has, Cond.initialized RX6, Cond.code yX6_has cX6_has 2 (some .boolean), Cond.methodLink RX0 64 yX0_walkBehind, Cond.instanceMethod yX0_walkBehind, Cond.selects RX0 yX0_walkBehind yX0_walkBehind, Cond.code yX0_walkBehind cX0_walkBehind 7 (some .int), Cond.methodLink RX0 74 yX0_placeOf, Cond.instanceMethod yX0_placeOf, Cond.selects RX0 yX0_placeOf yX0_placeOf, Cond.code yX0_placeOf cX0_placeOf 4 (some .int)]
def wsX0_bestPlace : List Cond := .code yX0_bestPlace cX0_bestPlace 5 (some .int) :: ((wsX0_bestPlace_r1 ++ wsX0_bestPlace_r2) ++ wsX00 ++ wsX50)
def wsX1_init : List Cond := .code yX1_init cX1_init 2 none :: ([.methodLink RX1 3 objectInit, .instanceMethod objectInit, .code objectInit ⟨#[0xb1]⟩ 1 none, .fieldLink RX1 9 "Twincuts$Falls" "parts" "I", .fieldLink RX1 15 "Twincuts$Falls" "bridgeSet" "I", .fieldLink RX1 18 "Twincuts$Falls" "cutPointSet" "I", .fieldLink RX1 21 "Twincuts$Falls" "blocks" "I", .fieldLink RX1 24 "Twincuts$Falls" "pairs" "I", .fieldLink RX1 27 "Twincuts$Falls" "twins" "I", .arrayClass .int, .fieldLink RX1 30 "Twincuts$Falls" "part" "[I", .fieldLink RX1 34 "Twincuts$Falls" "partSet" "[I", .fieldLink RX1 37 "Twincuts$Falls" "first" "[I", .fieldLink RX1 40 "Twincuts$Falls" "block" "[I", .fieldLink RX1 43 "Twincuts$Falls" "smallerOfPair" "[I", .fieldLink RX1 46 "Twincuts$Falls" "greaterOfPair" "[I", .fieldLink RX1 49 "Twincuts$Falls" "smallerOfTwins" "[I", .fieldLink RX1 52 "Twincuts$Falls" "greaterOfTwins" "[I", .fieldLink RX1 55 "Twincuts$Falls" "web" "LTwincuts$Web;"] ++ wsX10)
def wsX5_allPoints : List Cond := .code yX5_allPoints cX5_allPoints 1 (some .int) :: ([.fieldLink RX5 9 "Twincuts$Web" "points" "I"] ++ wsX50)
def wsX5_reach : List Cond := .code yX5_reach cX5_reach 9 (some .int) :: ([.fieldLink RX5 15 "Twincuts$Web" "lines" "I", .fieldLink RX5 31 "Twincuts$Web" "ends" "[I"] ++ wsX50)
def wsX1_putInPart : List Cond := .code yX1_putInPart cX1_putInPart 3 none :: ([.fieldLink RX1 55 "Twincuts$Falls" "web" "LTwincuts$Web;", .fieldLink RX1 30 "Twincuts$Falls" "part" "[I", .fieldLink RX1 9 "Twincuts$Falls" "parts" "I", .fieldLink RX1 34 "Twincuts$Falls" "partSet" "[I", .static yX6_has, .initialized RX6, .code yX6_has cX6_has 2 (some .boolean)] ++ wsX10 ++ wsX50)
def wsX1_numberParts : List Cond := .code yX1_numberParts cX1_numberParts 4 none :: ([.fieldLink RX1 9 "Twincuts$Falls" "parts" "I", .fieldLink RX1 55 "Twincuts$Falls" "web" "LTwincuts$Web;", .static yX6_has, .initialized RX6, .code yX6_has cX6_has 2 (some .boolean), .methodLink RX1 101 yX5_allPoints, .instanceMethod yX5_allPoints, .selects RX5 yX5_allPoints yX5_allPoints, .initialized RX5, .code yX5_allPoints cX5_allPoints 1 (some .int), .fieldLink RX5 9 "Twincuts$Web" "points" "I", .methodLink RX1 108 yX5_reach, .instanceMethod yX5_reach, .selects RX5 yX5_reach yX5_reach, .code yX5_reach cX5_reach 9 (some .int), .fieldLink RX5 15 "Twincuts$Web" "lines" "I", .fieldLink RX5 31 "Twincuts$Web" "ends" "[I", .methodLink RX1 112 yX1_putInPart, .instanceMethod yX1_putInPart, .selects RX1 yX1_putInPart yX1_putInPart, .initialized RX1, .code yX1_putInPart cX1_putInPart 3 none, .fieldLink RX1 30 "Twincuts$Falls" "part" "[I", .fieldLink RX1 34 "Twincuts$Falls" "partSet" "[I"] ++ wsX10 ++ wsX50)
def wsX5_countParts : List Cond := .code yX5_countParts cX5_countParts 6 (some .int) :: ([.fieldLink RX5 9 "Twincuts$Web" "points" "I", .static yX6_has, .initialized RX6, .code yX6_has cX6_has 2 (some .boolean), .methodLink RX5 41 yX5_reach, .instanceMethod yX5_reach, .selects RX5 yX5_reach yX5_reach, .initialized RX5, .code yX5_reach cX5_reach 9 (some .int), .fieldLink RX5 15 "Twincuts$Web" "lines" "I", .fieldLink RX5 31 "Twincuts$Web" "ends" "[I"] ++ wsX50)
def wsX1_findBridges : List Cond := .code yX1_findBridges cX1_findBridges 3 none :: ([.fieldLink RX1 15 "Twincuts$Falls" "bridgeSet" "I", .fieldLink RX1 55 "Twincuts$Falls" "web" "LTwincuts$Web;", .fieldLink RX1 9 "Twincuts$Falls" "parts" "I", .static yX6_has, .initialized RX6, .code yX6_has cX6_has 2 (some .boolean), .methodLink RX1 101 yX5_allPoints, .instanceMethod yX5_allPoints, .selects RX5 yX5_allPoints yX5_allPoints, .initialized RX5, .code yX5_allPoints cX5_allPoints 1 (some .int), .fieldLink RX5 9 "Twincuts$Web" "points" "I", .methodLink RX1 116 yX5_countParts, .instanceMethod yX5_countParts, .selects RX5 yX5_countParts yX5_countParts, .code yX5_countParts cX5_countParts 6 (some .int), .methodLink RX5 41 yX5_reach, .instanceMethod yX5_reach, .selects RX5 yX5_reach yX5_reach, .code yX5_reach cX5_reach 9 (some .int), .fieldLink RX5 15 "Twincuts$Web" "lines" "I", .fieldLink RX5 31 "Twincuts$Web" "ends" "[I"] ++ wsX10 ++ wsX50)
def wsX1_findCutPoints : List Cond := .code yX1_findCutPoints cX1_findCutPoints 2 none :: ([.fieldLink RX1 18 "Twincuts$Falls" "cutPointSet" "I", .fieldLink RX1 55 "Twincuts$Falls" "web" "LTwincuts$Web;", .fieldLink RX1 34 "Twincuts$Falls" "partSet" "[I", .methodLink RX1 116 yX5_countParts, .instanceMethod yX5_countParts, .selects RX5 yX5_countParts yX5_countParts, .initialized RX5, .code yX5_countParts cX5_countParts 6 (some .int), .fieldLink RX5 9 "Twincuts$Web" "points" "I", .static yX6_has, .initialized RX6, .code yX6_has cX6_has 2 (some .boolean), .methodLink RX5 41 yX5_reach, .instanceMethod yX5_reach, .selects RX5 yX5_reach yX5_reach, .code yX5_reach cX5_reach 9 (some .int), .fieldLink RX5 15 "Twincuts$Web" "lines" "I", .fieldLink RX5 31 "Twincuts$Web" "ends" "[I"] ++ wsX10 ++ wsX50)
def wsX5_otherEnd : List Cond := .code yX5_otherEnd cX5_otherEnd 3 (some .int) :: ([.fieldLink RX5 21 "Twincuts$Web" "smaller" "[I", .fieldLink RX5 25 "Twincuts$Web" "greater" "[I"] ++ wsX50)
def wsX1_join : List Cond := .code yX1_join cX1_join 5 none :: ([.methodLink RX1 130 Lib.Math.min.name, .static Lib.Math.min.name, .initialized "java/lang/Math", .code Lib.Math.min.name Lib.Math.min.code 2 (some .int), .fieldLink RX1 55 "Twincuts$Falls" "web" "LTwincuts$Web;", .fieldLink RX1 37 "Twincuts$Falls" "first" "[I"] ++ wsX10 ++ wsX50)
def wsX1_joinAtPoint_r1 : List Cond := [Cond.fieldLink RX1 55 "Twincuts$Falls" "web" "LTwincuts$Web;", Cond.fieldLink RX1 37 "Twincuts$Falls" "first" "[I", Cond.methodLink RX1 101 yX5_allPoints, Cond.instanceMethod yX5_allPoints, Cond.selects RX5 yX5_allPoints yX5_allPoints, Cond.initialized RX5, Cond.code yX5_allPoints cX5_allPoints 1 (some .int), Cond.fieldLink RX5 9 "Twincuts$Web" "points" "I", Cond.methodLink RX1 124 yX5_otherEnd, Cond.instanceMethod yX5_otherEnd, Cond.selects RX5 yX5_otherEnd yX5_otherEnd, Cond.code yX5_otherEnd cX5_otherEnd 3 (some .int), Cond.fieldLink RX5 21 "Twincuts$Web" "smaller" "[I", Cond.fieldLink RX5 25 "Twincuts$Web" "greater" "[I", Cond.methodLink RX1 108 yX5_reach, Cond.instanceMethod yX5_reach, Cond.selects RX5 yX5_reach yX5_reach, Cond.code yX5_reach cX5_reach 9 (some .int), Cond.fieldLink RX5 15 "Twincuts$Web" "lines" "I", Cond.fieldLink RX5 31 "Twincuts$Web" "ends" "[I", Cond.methodLink RX1 85 yX5_standingAt, Cond.instanceMethod yX5_standingAt, Cond.selects RX5 yX5_standingAt yX5_standingAt, Cond.code yX5_standingAt cX5_standingAt 2 (some .int)]
def wsX1_joinAtPoint_r2 : List Cond := [Cond.fieldLink RX5 34 "Twincuts$Web" "linesAt" "[I", Cond.fieldLink RX5 18 "Twincuts$Web" "standing" "I", Cond.static yX6_has, Cond.initialized RX6, Cond.code yX6_has cX6_has 2 (some .boolean), Cond.methodLink RX1 127 yX1_join, Cond.instanceMethod yX1_join, Cond.selects RX1 yX1_join yX1_join, Cond.initialized RX1, Cond.code yX1_join cX1_join 5 none, Cond.methodLink RX1 130 Lib.Math.min.name, Cond.static Lib.Math.min.name, Cond.initialized "java/lang/Math", Cond.code Lib.Math.min.name Lib.Math.min.code 2 (some .int)]
def wsX1_joinAtPoint : List Cond := .code yX1_joinAtPoint cX1_joinAtPoint 6 none :: ((wsX1_joinAtPoint_r1 ++ wsX1_joinAtPoint_r2) ++ wsX10 ++ wsX50)
def wsX1_joinBlocks_r1 : List Cond := [Cond.fieldLink RX1 55 "Twincuts$Falls" "web" "LTwincuts$Web;", Cond.fieldLink RX1 37 "Twincuts$Falls" "first" "[I", Cond.methodLink RX1 85 yX5_standingAt, Cond.instanceMethod yX5_standingAt, Cond.selects RX5 yX5_standingAt yX5_standingAt, Cond.initialized RX5, Cond.code yX5_standingAt cX5_standingAt 2 (some .int), Cond.fieldLink RX5 34 "Twincuts$Web" "linesAt" "[I", Cond.fieldLink RX5 18 "Twincuts$Web" "standing" "I", Cond.static yX6_has, Cond.initialized RX6, Cond.code yX6_has cX6_has 2 (some .boolean), Cond.methodLink RX1 120 yX1_joinAtPoint, Cond.instanceMethod yX1_joinAtPoint, Cond.selects RX1 yX1_joinAtPoint yX1_joinAtPoint, Cond.initialized RX1, Cond.code yX1_joinAtPoint cX1_joinAtPoint 6 none, Cond.methodLink RX1 101 yX5_allPoints, Cond.instanceMethod yX5_allPoints, Cond.selects RX5 yX5_allPoints yX5_allPoints, Cond.code yX5_allPoints cX5_allPoints 1 (some .int), Cond.fieldLink RX5 9 "Twincuts$Web" "points" "I", Cond.methodLink RX1 124 yX5_otherEnd, Cond.instanceMethod yX5_otherEnd]
def wsX1_joinBlocks_r2 : List Cond := [Cond.selects RX5 yX5_otherEnd yX5_otherEnd, Cond.code yX5_otherEnd cX5_otherEnd 3 (some .int), Cond.fieldLink RX5 21 "Twincuts$Web" "smaller" "[I", Cond.fieldLink RX5 25 "Twincuts$Web" "greater" "[I", Cond.methodLink RX1 108 yX5_reach, Cond.instanceMethod yX5_reach, Cond.selects RX5 yX5_reach yX5_reach, Cond.code yX5_reach cX5_reach 9 (some .int), Cond.fieldLink RX5 15 "Twincuts$Web" "lines" "I", Cond.fieldLink RX5 31 "Twincuts$Web" "ends" "[I", Cond.methodLink RX1 127 yX1_join, Cond.instanceMethod yX1_join, Cond.selects RX1 yX1_join yX1_join, Cond.code yX1_join cX1_join 5 none, Cond.methodLink RX1 130 Lib.Math.min.name, Cond.static Lib.Math.min.name, Cond.initialized "java/lang/Math", Cond.code Lib.Math.min.name Lib.Math.min.code 2 (some .int)]
def wsX1_joinBlocks : List Cond := .code yX1_joinBlocks cX1_joinBlocks 3 none :: ((wsX1_joinBlocks_r1 ++ wsX1_joinBlocks_r2) ++ wsX10 ++ wsX50)
def wsX1_numberBlocks : List Cond := .code yX1_numberBlocks cX1_numberBlocks 2 none :: ([.fieldLink RX1 21 "Twincuts$Falls" "blocks" "I", .fieldLink RX1 55 "Twincuts$Falls" "web" "LTwincuts$Web;", .fieldLink RX1 40 "Twincuts$Falls" "block" "[I", .fieldLink RX1 37 "Twincuts$Falls" "first" "[I", .static yX6_has, .initialized RX6, .code yX6_has cX6_has 2 (some .boolean)] ++ wsX10 ++ wsX50)
def wsX1_isPair : List Cond := .code yX1_isPair cX1_isPair 4 (some .boolean) :: ([.fieldLink RX1 30 "Twincuts$Falls" "part" "[I", .fieldLink RX1 18 "Twincuts$Falls" "cutPointSet" "I", .fieldLink RX1 55 "Twincuts$Falls" "web" "LTwincuts$Web;", .fieldLink RX1 34 "Twincuts$Falls" "partSet" "[I", .methodLink RX1 116 yX5_countParts, .instanceMethod yX5_countParts, .selects RX5 yX5_countParts yX5_countParts, .initialized RX5, .code yX5_countParts cX5_countParts 6 (some .int), .fieldLink RX5 9 "Twincuts$Web" "points" "I", .static yX6_has, .initialized RX6, .code yX6_has cX6_has 2 (some .boolean), .methodLink RX5 41 yX5_reach, .instanceMethod yX5_reach, .selects RX5 yX5_reach yX5_reach, .code yX5_reach cX5_reach 9 (some .int), .fieldLink RX5 15 "Twincuts$Web" "lines" "I", .fieldLink RX5 31 "Twincuts$Web" "ends" "[I"] ++ wsX10 ++ wsX50)
def wsX1_findPairs_r1 : List Cond := [Cond.fieldLink RX1 24 "Twincuts$Falls" "pairs" "I", Cond.fieldLink RX1 55 "Twincuts$Falls" "web" "LTwincuts$Web;", Cond.fieldLink RX1 43 "Twincuts$Falls" "smallerOfPair" "[I", Cond.fieldLink RX1 46 "Twincuts$Falls" "greaterOfPair" "[I", Cond.methodLink RX1 135 yX1_isPair, Cond.instanceMethod yX1_isPair, Cond.selects RX1 yX1_isPair yX1_isPair, Cond.initialized RX1, Cond.code yX1_isPair cX1_isPair 4 (some .boolean), Cond.fieldLink RX1 30 "Twincuts$Falls" "part" "[I", Cond.fieldLink RX1 18 "Twincuts$Falls" "cutPointSet" "I", Cond.fieldLink RX1 34 "Twincuts$Falls" "partSet" "[I", Cond.methodLink RX1 116 yX5_countParts, Cond.instanceMethod yX5_countParts, Cond.selects RX5 yX5_countParts yX5_countParts, Cond.initialized RX5, Cond.code yX5_countParts cX5_countParts 6 (some .int), Cond.fieldLink RX5 9 "Twincuts$Web" "points" "I", Cond.static yX6_has, Cond.initialized RX6, Cond.code yX6_has cX6_has 2 (some .boolean), Cond.methodLink RX5 41 yX5_reach, Cond.instanceMethod yX5_reach, Cond.selects RX5 yX5_reach yX5_reach]
def wsX1_findPairs_r2 : List Cond := [Cond.code yX5_reach cX5_reach 9 (some .int), Cond.fieldLink RX5 15 "Twincuts$Web" "lines" "I", Cond.fieldLink RX5 31 "Twincuts$Web" "ends" "[I"]
def wsX1_findPairs : List Cond := .code yX1_findPairs cX1_findPairs 3 none :: ((wsX1_findPairs_r1 ++ wsX1_findPairs_r2) ++ wsX10 ++ wsX50)
def wsX1_areTwins : List Cond := .code yX1_areTwins cX1_areTwins 4 (some .boolean) :: ([.fieldLink RX1 55 "Twincuts$Falls" "web" "LTwincuts$Web;", .fieldLink RX1 15 "Twincuts$Falls" "bridgeSet" "I", .fieldLink RX1 9 "Twincuts$Falls" "parts" "I", .methodLink RX1 101 yX5_allPoints, .instanceMethod yX5_allPoints, .selects RX5 yX5_allPoints yX5_allPoints, .initialized RX5, .code yX5_allPoints cX5_allPoints 1 (some .int), .fieldLink RX5 9 "Twincuts$Web" "points" "I", .methodLink RX1 116 yX5_countParts, .instanceMethod yX5_countParts, .selects RX5 yX5_countParts yX5_countParts, .code yX5_countParts cX5_countParts 6 (some .int), .static yX6_has, .initialized RX6, .code yX6_has cX6_has 2 (some .boolean), .methodLink RX5 41 yX5_reach, .instanceMethod yX5_reach, .selects RX5 yX5_reach yX5_reach, .code yX5_reach cX5_reach 9 (some .int), .fieldLink RX5 15 "Twincuts$Web" "lines" "I", .fieldLink RX5 31 "Twincuts$Web" "ends" "[I"] ++ wsX10 ++ wsX50)
def wsX1_findTwins_r1 : List Cond := [Cond.fieldLink RX1 27 "Twincuts$Falls" "twins" "I", Cond.fieldLink RX1 55 "Twincuts$Falls" "web" "LTwincuts$Web;", Cond.fieldLink RX1 49 "Twincuts$Falls" "smallerOfTwins" "[I", Cond.fieldLink RX1 52 "Twincuts$Falls" "greaterOfTwins" "[I", Cond.methodLink RX1 138 yX1_areTwins, Cond.instanceMethod yX1_areTwins, Cond.selects RX1 yX1_areTwins yX1_areTwins, Cond.initialized RX1, Cond.code yX1_areTwins cX1_areTwins 4 (some .boolean), Cond.fieldLink RX1 15 "Twincuts$Falls" "bridgeSet" "I", Cond.fieldLink RX1 9 "Twincuts$Falls" "parts" "I", Cond.methodLink RX1 101 yX5_allPoints, Cond.instanceMethod yX5_allPoints, Cond.selects RX5 yX5_allPoints yX5_allPoints, Cond.initialized RX5, Cond.code yX5_allPoints cX5_allPoints 1 (some .int), Cond.fieldLink RX5 9 "Twincuts$Web" "points" "I", Cond.methodLink RX1 116 yX5_countParts, Cond.instanceMethod yX5_countParts, Cond.selects RX5 yX5_countParts yX5_countParts, Cond.code yX5_countParts cX5_countParts 6 (some .int), Cond.static yX6_has, Cond.initialized RX6, Cond.code yX6_has cX6_has 2 (some .boolean)]
def wsX1_findTwins_r2 : List Cond := [Cond.methodLink RX5 41 yX5_reach, Cond.instanceMethod yX5_reach, Cond.selects RX5 yX5_reach yX5_reach, Cond.code yX5_reach cX5_reach 9 (some .int), Cond.fieldLink RX5 15 "Twincuts$Web" "lines" "I", Cond.fieldLink RX5 31 "Twincuts$Web" "ends" "[I"]
def wsX1_findTwins : List Cond := .code yX1_findTwins cX1_findTwins 3 none :: ((wsX1_findTwins_r1 ++ wsX1_findTwins_r2) ++ wsX10 ++ wsX50)
def wsX1_learn_r1 : List Cond := [Cond.methodLink RX1 59 yX1_numberParts, Cond.instanceMethod yX1_numberParts, Cond.selects RX1 yX1_numberParts yX1_numberParts, Cond.initialized RX1, Cond.code yX1_numberParts cX1_numberParts 4 none, Cond.fieldLink RX1 9 "Twincuts$Falls" "parts" "I", Cond.fieldLink RX1 55 "Twincuts$Falls" "web" "LTwincuts$Web;", Cond.static yX6_has, Cond.initialized RX6, Cond.code yX6_has cX6_has 2 (some .boolean), Cond.methodLink RX1 101 yX5_allPoints, Cond.instanceMethod yX5_allPoints, Cond.selects RX5 yX5_allPoints yX5_allPoints, Cond.initialized RX5, Cond.code yX5_allPoints cX5_allPoints 1 (some .int), Cond.fieldLink RX5 9 "Twincuts$Web" "points" "I", Cond.methodLink RX1 108 yX5_reach, Cond.instanceMethod yX5_reach, Cond.selects RX5 yX5_reach yX5_reach, Cond.code yX5_reach cX5_reach 9 (some .int), Cond.fieldLink RX5 15 "Twincuts$Web" "lines" "I", Cond.fieldLink RX5 31 "Twincuts$Web" "ends" "[I", Cond.methodLink RX1 112 yX1_putInPart, Cond.instanceMethod yX1_putInPart]
def wsX1_learn_r2 : List Cond := [Cond.selects RX1 yX1_putInPart yX1_putInPart, Cond.code yX1_putInPart cX1_putInPart 3 none, Cond.fieldLink RX1 30 "Twincuts$Falls" "part" "[I", Cond.fieldLink RX1 34 "Twincuts$Falls" "partSet" "[I", Cond.methodLink RX1 62 yX1_findBridges, Cond.instanceMethod yX1_findBridges, Cond.selects RX1 yX1_findBridges yX1_findBridges, Cond.code yX1_findBridges cX1_findBridges 3 none, Cond.fieldLink RX1 15 "Twincuts$Falls" "bridgeSet" "I", Cond.methodLink RX1 116 yX5_countParts, Cond.instanceMethod yX5_countParts, Cond.selects RX5 yX5_countParts yX5_countParts, Cond.code yX5_countParts cX5_countParts 6 (some .int), Cond.methodLink RX5 41 yX5_reach, Cond.methodLink RX1 65 yX1_findCutPoints, Cond.instanceMethod yX1_findCutPoints, Cond.selects RX1 yX1_findCutPoints yX1_findCutPoints, Cond.code yX1_findCutPoints cX1_findCutPoints 2 none, Cond.fieldLink RX1 18 "Twincuts$Falls" "cutPointSet" "I", Cond.methodLink RX1 68 yX1_joinBlocks, Cond.instanceMethod yX1_joinBlocks, Cond.selects RX1 yX1_joinBlocks yX1_joinBlocks, Cond.code yX1_joinBlocks cX1_joinBlocks 3 none, Cond.fieldLink RX1 37 "Twincuts$Falls" "first" "[I"]
def wsX1_learn_r3 : List Cond := [Cond.methodLink RX1 85 yX5_standingAt, Cond.instanceMethod yX5_standingAt, Cond.selects RX5 yX5_standingAt yX5_standingAt, Cond.code yX5_standingAt cX5_standingAt 2 (some .int), Cond.fieldLink RX5 34 "Twincuts$Web" "linesAt" "[I", Cond.fieldLink RX5 18 "Twincuts$Web" "standing" "I", Cond.methodLink RX1 120 yX1_joinAtPoint, Cond.instanceMethod yX1_joinAtPoint, Cond.selects RX1 yX1_joinAtPoint yX1_joinAtPoint, Cond.code yX1_joinAtPoint cX1_joinAtPoint 6 none, Cond.methodLink RX1 124 yX5_otherEnd, Cond.instanceMethod yX5_otherEnd, Cond.selects RX5 yX5_otherEnd yX5_otherEnd, Cond.code yX5_otherEnd cX5_otherEnd 3 (some .int), Cond.fieldLink RX5 21 "Twincuts$Web" "smaller" "[I", Cond.fieldLink RX5 25 "Twincuts$Web" "greater" "[I", Cond.methodLink RX1 127 yX1_join, Cond.instanceMethod yX1_join, Cond.selects RX1 yX1_join yX1_join, Cond.code yX1_join cX1_join 5 none, Cond.methodLink RX1 130 Lib.Math.min.name, Cond.static Lib.Math.min.name, Cond.initialized "java/lang/Math", Cond.code Lib.Math.min.name Lib.Math.min.code 2 (some .int)]
def wsX1_learn_r4 : List Cond := [Cond.methodLink RX1 71 yX1_numberBlocks, Cond.instanceMethod yX1_numberBlocks, Cond.selects RX1 yX1_numberBlocks yX1_numberBlocks, Cond.code yX1_numberBlocks cX1_numberBlocks 2 none, Cond.fieldLink RX1 21 "Twincuts$Falls" "blocks" "I", Cond.fieldLink RX1 40 "Twincuts$Falls" "block" "[I", Cond.methodLink RX1 74 yX1_findPairs, Cond.instanceMethod yX1_findPairs, Cond.selects RX1 yX1_findPairs yX1_findPairs, Cond.code yX1_findPairs cX1_findPairs 3 none, Cond.fieldLink RX1 24 "Twincuts$Falls" "pairs" "I", Cond.fieldLink RX1 43 "Twincuts$Falls" "smallerOfPair" "[I", Cond.fieldLink RX1 46 "Twincuts$Falls" "greaterOfPair" "[I", Cond.methodLink RX1 135 yX1_isPair, Cond.instanceMethod yX1_isPair, Cond.selects RX1 yX1_isPair yX1_isPair, Cond.code yX1_isPair cX1_isPair 4 (some .boolean), Cond.methodLink RX1 77 yX1_findTwins, Cond.instanceMethod yX1_findTwins, Cond.selects RX1 yX1_findTwins yX1_findTwins, Cond.code yX1_findTwins cX1_findTwins 3 none, Cond.fieldLink RX1 27 "Twincuts$Falls" "twins" "I", Cond.fieldLink RX1 49 "Twincuts$Falls" "smallerOfTwins" "[I", Cond.fieldLink RX1 52 "Twincuts$Falls" "greaterOfTwins" "[I"]
def wsX1_learn_r5 : List Cond := [Cond.methodLink RX1 138 yX1_areTwins, Cond.instanceMethod yX1_areTwins, Cond.selects RX1 yX1_areTwins yX1_areTwins, Cond.code yX1_areTwins cX1_areTwins 4 (some .boolean)]
def wsX1_learn : List Cond := .code yX1_learn cX1_learn 1 none :: ((wsX1_learn_r1 ++ (wsX1_learn_r2 ++ (wsX1_learn_r3 ++ (wsX1_learn_r4 ++ wsX1_learn_r5)))) ++ wsX10 ++ wsX50)
def wsJ6_bitCount_0f7a4 : List Cond := .code yJ6_bitCount_0f7a4 cJ6_bitCount_0f7a4 1 (some .int) :: ([.constant RJ6 265 (1431655765), .constant RJ6 266 (858993459), .constant RJ6 267 (252645135)])
def wsX1_blocksAt : List Cond := .code yX1_blocksAt cX1_blocksAt 4 (some .int) :: ([.fieldLink RX1 55 "Twincuts$Falls" "web" "LTwincuts$Web;", .fieldLink RX1 40 "Twincuts$Falls" "block" "[I", .methodLink RX1 85 yX5_standingAt, .instanceMethod yX5_standingAt, .selects RX5 yX5_standingAt yX5_standingAt, .initialized RX5, .code yX5_standingAt cX5_standingAt 2 (some .int), .fieldLink RX5 34 "Twincuts$Web" "linesAt" "[I", .fieldLink RX5 18 "Twincuts$Web" "standing" "I", .static yX6_has, .initialized RX6, .code yX6_has cX6_has 2 (some .boolean), .methodLink RX1 93 yJ6_bitCount_0f7a4, .static yJ6_bitCount_0f7a4, .initialized RJ6, .code yJ6_bitCount_0f7a4 cJ6_bitCount_0f7a4 1 (some .int), .constant RJ6 265 (1431655765), .constant RJ6 266 (858993459), .constant RJ6 267 (252645135)] ++ wsX10 ++ wsX50)
def wsX1_isAloneInBlock : List Cond := .code yX1_isAloneInBlock cX1_isAloneInBlock 3 (some .boolean) :: ([.fieldLink RX1 55 "Twincuts$Falls" "web" "LTwincuts$Web;", .fieldLink RX1 40 "Twincuts$Falls" "block" "[I"] ++ wsX10 ++ wsX50)
def wsX1_pairPoint : List Cond := .code yX1_pairPoint cX1_pairPoint 3 (some .int) :: ([.fieldLink RX1 24 "Twincuts$Falls" "pairs" "I", .fieldLink RX1 46 "Twincuts$Falls" "greaterOfPair" "[I", .fieldLink RX1 43 "Twincuts$Falls" "smallerOfPair" "[I"] ++ wsX10)
def wsX1_twinLine : List Cond := .code yX1_twinLine cX1_twinLine 3 (some .int) :: ([.fieldLink RX1 27 "Twincuts$Falls" "twins" "I", .fieldLink RX1 52 "Twincuts$Falls" "greaterOfTwins" "[I", .fieldLink RX1 49 "Twincuts$Falls" "smallerOfTwins" "[I"] ++ wsX10)
def wsX2_init : List Cond := .code yX2_init cX2_init 2 none :: ([.methodLink RX2 3 objectInit, .instanceMethod objectInit, .code objectInit ⟨#[0xb1]⟩ 1 none, .classLink RX2 9 "[[J", .arrayClass .long, .fieldLink RX2 11 "Twincuts$Forest" "table" "[[J", .fieldLink RX2 16 "Twincuts$Forest" "cheapestSet" "I", .fieldLink RX2 20 "Twincuts$Forest" "cheapestCost" "I", .arrayClass .int, .fieldLink RX2 23 "Twincuts$Forest" "joined" "[I", .fieldLink RX2 27 "Twincuts$Forest" "web" "LTwincuts$Web;"] ++ wsX20)
def wsX2_addToTable : List Cond := .code yX2_addToTable cX2_addToTable 3 none :: ([.fieldLink RX2 11 "Twincuts$Forest" "table" "[[J"] ++ wsX20)
def wsX2_fillTable : List Cond := .code yX2_fillTable cX2_fillTable 3 none :: ([.fieldLink RX2 11 "Twincuts$Forest" "table" "[[J", .fieldLink RX2 27 "Twincuts$Forest" "web" "LTwincuts$Web;", .static yX6_has, .initialized RX6, .code yX6_has cX6_has 2 (some .boolean), .methodLink RX2 38 yX2_addToTable, .instanceMethod yX2_addToTable, .selects RX2 yX2_addToTable yX2_addToTable, .initialized RX2, .code yX2_addToTable cX2_addToTable 3 none] ++ wsX20 ++ wsX50)
def wsX2_countByTable : List Cond := .code yX2_countByTable cX2_countByTable 10 (some .long) :: ([.fieldLink RX2 27 "Twincuts$Forest" "web" "LTwincuts$Web;", .fieldLink RX2 11 "Twincuts$Forest" "table" "[[J"] ++ wsX20 ++ wsX50)
def wsX2_countTrees : List Cond := .code yX2_countTrees cX2_countTrees 1 (some .long) :: ([.methodLink RX2 31 yX2_fillTable, .instanceMethod yX2_fillTable, .selects RX2 yX2_fillTable yX2_fillTable, .initialized RX2, .code yX2_fillTable cX2_fillTable 3 none, .fieldLink RX2 11 "Twincuts$Forest" "table" "[[J", .fieldLink RX2 27 "Twincuts$Forest" "web" "LTwincuts$Web;", .static yX6_has, .initialized RX6, .code yX6_has cX6_has 2 (some .boolean), .methodLink RX2 38 yX2_addToTable, .instanceMethod yX2_addToTable, .selects RX2 yX2_addToTable yX2_addToTable, .code yX2_addToTable cX2_addToTable 3 none, .methodLink RX2 34 yX2_countByTable, .instanceMethod yX2_countByTable, .selects RX2 yX2_countByTable yX2_countByTable, .code yX2_countByTable cX2_countByTable 10 (some .long)] ++ wsX20 ++ wsX50)
def wsX2_takeIfNew : List Cond := .code yX2_takeIfNew cX2_takeIfNew 5 none :: ([.fieldLink RX2 23 "Twincuts$Forest" "joined" "[I", .fieldLink RX2 27 "Twincuts$Forest" "web" "LTwincuts$Web;", .fieldLink RX2 16 "Twincuts$Forest" "cheapestSet" "I", .fieldLink RX2 20 "Twincuts$Forest" "cheapestCost" "I", .static yX6_has, .initialized RX6, .code yX6_has cX6_has 2 (some .boolean)] ++ wsX20 ++ wsX50)
def wsX2_takeCheapest : List Cond := .code yX2_takeCheapest cX2_takeCheapest 3 none :: ([.fieldLink RX2 20 "Twincuts$Forest" "cheapestCost" "I", .fieldLink RX2 27 "Twincuts$Forest" "web" "LTwincuts$Web;", .fieldLink RX2 23 "Twincuts$Forest" "joined" "[I", .static yX6_has, .initialized RX6, .code yX6_has cX6_has 2 (some .boolean), .methodLink RX2 77 yX2_takeIfNew, .instanceMethod yX2_takeIfNew, .selects RX2 yX2_takeIfNew yX2_takeIfNew, .initialized RX2, .code yX2_takeIfNew cX2_takeIfNew 5 none, .fieldLink RX2 16 "Twincuts$Forest" "cheapestSet" "I"] ++ wsX20 ++ wsX50)
def wsX2_learn_r1 : List Cond := [Cond.fieldLink RX2 16 "Twincuts$Forest" "cheapestSet" "I", Cond.fieldLink RX2 20 "Twincuts$Forest" "cheapestCost" "I", Cond.fieldLink RX2 27 "Twincuts$Forest" "web" "LTwincuts$Web;", Cond.methodLink RX2 63 yX5_allPoints, Cond.instanceMethod yX5_allPoints, Cond.selects RX5 yX5_allPoints yX5_allPoints, Cond.initialized RX5, Cond.code yX5_allPoints cX5_allPoints 1 (some .int), Cond.fieldLink RX5 9 "Twincuts$Web" "points" "I", Cond.methodLink RX2 67 yX5_countParts, Cond.instanceMethod yX5_countParts, Cond.selects RX5 yX5_countParts yX5_countParts, Cond.code yX5_countParts cX5_countParts 6 (some .int), Cond.static yX6_has, Cond.initialized RX6, Cond.code yX6_has cX6_has 2 (some .boolean), Cond.methodLink RX5 41 yX5_reach, Cond.instanceMethod yX5_reach, Cond.selects RX5 yX5_reach yX5_reach, Cond.code yX5_reach cX5_reach 9 (some .int), Cond.fieldLink RX5 15 "Twincuts$Web" "lines" "I", Cond.fieldLink RX5 31 "Twincuts$Web" "ends" "[I", Cond.methodLink RX2 71 yX2_takeCheapest, Cond.instanceMethod yX2_takeCheapest]
def wsX2_learn_r2 : List Cond := [Cond.selects RX2 yX2_takeCheapest yX2_takeCheapest, Cond.initialized RX2, Cond.code yX2_takeCheapest cX2_takeCheapest 3 none, Cond.fieldLink RX2 23 "Twincuts$Forest" "joined" "[I", Cond.methodLink RX2 77 yX2_takeIfNew, Cond.instanceMethod yX2_takeIfNew, Cond.selects RX2 yX2_takeIfNew yX2_takeIfNew, Cond.code yX2_takeIfNew cX2_takeIfNew 5 none]
def wsX2_learn : List Cond := .code yX2_learn cX2_learn 1 none :: ((wsX2_learn_r1 ++ wsX2_learn_r2) ++ wsX20 ++ wsX50)
def wsX3_init : List Cond := .code yX3_init cX3_init 2 none :: ([.methodLink RX3 3 objectInit, .instanceMethod objectInit, .code objectInit ⟨#[0xb1]⟩ 1 none, .fieldLink RX3 9 "Twincuts$Palette" "colours" "I", .arrayClass .int, .fieldLink RX3 15 "Twincuts$Palette" "colour" "[I", .fieldLink RX3 19 "Twincuts$Palette" "web" "LTwincuts$Web;"] ++ wsX30)
def wsX5_linkedWith : List Cond := .code yX5_linkedWith cX5_linkedWith 4 (some .int) :: ([.fieldLink RX5 15 "Twincuts$Web" "lines" "I", .fieldLink RX5 34 "Twincuts$Web" "linesAt" "[I", .fieldLink RX5 18 "Twincuts$Web" "standing" "I", .fieldLink RX5 31 "Twincuts$Web" "ends" "[I", .static yX6_has, .initialized RX6, .code yX6_has cX6_has 2 (some .boolean)] ++ wsX50)
def wsX3_isFree : List Cond := .code yX3_isFree cX3_isFree 5 (some .boolean) :: ([.fieldLink RX3 15 "Twincuts$Palette" "colour" "[I", .static yX6_has, .initialized RX6, .code yX6_has cX6_has 2 (some .boolean)] ++ wsX30)
def wsX3_paintsFrom_r1 : List Cond := [Cond.fieldLink RX3 19 "Twincuts$Palette" "web" "LTwincuts$Web;", Cond.fieldLink RX3 15 "Twincuts$Palette" "colour" "[I", Cond.methodLink RX3 39 Lib.Math.max.name, Cond.static Lib.Math.max.name, Cond.initialized "java/lang/Math", Cond.code Lib.Math.max.name Lib.Math.max.code 2 (some .int), Cond.methodLink RX3 32 yX5_linkedWith, Cond.instanceMethod yX5_linkedWith, Cond.selects RX5 yX5_linkedWith yX5_linkedWith, Cond.initialized RX5, Cond.code yX5_linkedWith cX5_linkedWith 4 (some .int), Cond.fieldLink RX5 15 "Twincuts$Web" "lines" "I", Cond.fieldLink RX5 34 "Twincuts$Web" "linesAt" "[I", Cond.fieldLink RX5 18 "Twincuts$Web" "standing" "I", Cond.fieldLink RX5 31 "Twincuts$Web" "ends" "[I", Cond.static yX6_has, Cond.initialized RX6, Cond.code yX6_has cX6_has 2 (some .boolean), Cond.methodLink RX3 36 yX3_isFree, Cond.instanceMethod yX3_isFree, Cond.selects RX3 yX3_isFree yX3_isFree, Cond.initialized RX3, Cond.code yX3_isFree cX3_isFree 5 (some .boolean), Cond.methodLink RX3 28 yX3_paintsFrom]
def wsX3_paintsFrom_r2 : List Cond := [Cond.instanceMethod yX3_paintsFrom, Cond.selects RX3 yX3_paintsFrom yX3_paintsFrom]
def wsX3_paintsFrom : List Cond := .code yX3_paintsFrom cX3_paintsFrom 6 (some .boolean) :: ((wsX3_paintsFrom_r1 ++ wsX3_paintsFrom_r2) ++ wsX30 ++ wsX50)
def wsX3_learn_r1 : List Cond := [Cond.fieldLink RX3 19 "Twincuts$Palette" "web" "LTwincuts$Web;", Cond.fieldLink RX3 9 "Twincuts$Palette" "colours" "I", Cond.methodLink RX3 28 yX3_paintsFrom, Cond.instanceMethod yX3_paintsFrom, Cond.selects RX3 yX3_paintsFrom yX3_paintsFrom, Cond.initialized RX3, Cond.code yX3_paintsFrom cX3_paintsFrom 6 (some .boolean), Cond.fieldLink RX3 15 "Twincuts$Palette" "colour" "[I", Cond.methodLink RX3 39 Lib.Math.max.name, Cond.static Lib.Math.max.name, Cond.initialized "java/lang/Math", Cond.code Lib.Math.max.name Lib.Math.max.code 2 (some .int), Cond.methodLink RX3 32 yX5_linkedWith, Cond.instanceMethod yX5_linkedWith, Cond.selects RX5 yX5_linkedWith yX5_linkedWith, Cond.initialized RX5, Cond.code yX5_linkedWith cX5_linkedWith 4 (some .int), Cond.fieldLink RX5 15 "Twincuts$Web" "lines" "I", Cond.fieldLink RX5 34 "Twincuts$Web" "linesAt" "[I", Cond.fieldLink RX5 18 "Twincuts$Web" "standing" "I", Cond.fieldLink RX5 31 "Twincuts$Web" "ends" "[I", Cond.static yX6_has, Cond.initialized RX6, Cond.code yX6_has cX6_has 2 (some .boolean)]
def wsX3_learn_r2 : List Cond := [Cond.methodLink RX3 36 yX3_isFree, Cond.instanceMethod yX3_isFree, Cond.selects RX3 yX3_isFree yX3_isFree, Cond.code yX3_isFree cX3_isFree 5 (some .boolean)]
def wsX3_learn : List Cond := .code yX3_learn cX3_learn 2 none :: ((wsX3_learn_r1 ++ wsX3_learn_r2) ++ wsX30 ++ wsX50)
def wsX4_init : List Cond := .code yX4_init cX4_init 2 none :: ([.methodLink RX4 3 objectInit, .instanceMethod objectInit, .code objectInit ⟨#[0xb1]⟩ 1 none, .classLink RX4 11 "[[I", .arrayClass .int, .fieldLink RX4 13 "Twincuts$Ways" "room" "[[I", .fieldLink RX4 16 "Twincuts$Ways" "cameFrom" "[I", .fieldLink RX4 20 "Twincuts$Ways" "queue" "[I", .fieldLink RX4 23 "Twincuts$Ways" "web" "LTwincuts$Web;"] ++ wsX40)
def wsX4_clearRoom : List Cond := .code yX4_clearRoom cX4_clearRoom 3 none :: ([.fieldLink RX4 13 "Twincuts$Ways" "room" "[[I"] ++ wsX40)
def wsX4_findsWay : List Cond := .code yX4_findsWay cX4_findsWay 7 (some .boolean) :: ([.fieldLink RX4 16 "Twincuts$Ways" "cameFrom" "[I", .fieldLink RX4 20 "Twincuts$Ways" "queue" "[I", .fieldLink RX4 13 "Twincuts$Ways" "room" "[[I"] ++ wsX40)
def wsX4_fillWay : List Cond := .code yX4_fillWay cX4_fillWay 6 none :: ([.fieldLink RX4 16 "Twincuts$Ways" "cameFrom" "[I", .fieldLink RX4 13 "Twincuts$Ways" "room" "[[I"] ++ wsX40)
def wsX4_countFlow : List Cond := .code yX4_countFlow cX4_countFlow 5 (some .int) :: ([.methodLink RX4 56 yX4_findsWay, .instanceMethod yX4_findsWay, .selects RX4 yX4_findsWay yX4_findsWay, .initialized RX4, .code yX4_findsWay cX4_findsWay 7 (some .boolean), .fieldLink RX4 16 "Twincuts$Ways" "cameFrom" "[I", .fieldLink RX4 20 "Twincuts$Ways" "queue" "[I", .fieldLink RX4 13 "Twincuts$Ways" "room" "[[I", .methodLink RX4 59 yX4_fillWay, .instanceMethod yX4_fillWay, .selects RX4 yX4_fillWay yX4_fillWay, .code yX4_fillWay cX4_fillWay 6 none] ++ wsX40)
def wsX4_countWays : List Cond := .code yX4_countWays cX4_countWays 5 (some .int) :: ([.fieldLink RX4 23 "Twincuts$Ways" "web" "LTwincuts$Web;", .fieldLink RX4 13 "Twincuts$Ways" "room" "[[I", .methodLink RX4 27 yX4_clearRoom, .instanceMethod yX4_clearRoom, .selects RX4 yX4_clearRoom yX4_clearRoom, .initialized RX4, .code yX4_clearRoom cX4_clearRoom 3 none, .static yX6_has, .initialized RX6, .code yX6_has cX6_has 2 (some .boolean), .methodLink RX4 52 yX4_countFlow, .instanceMethod yX4_countFlow, .selects RX4 yX4_countFlow yX4_countFlow, .code yX4_countFlow cX4_countFlow 5 (some .int), .methodLink RX4 56 yX4_findsWay, .instanceMethod yX4_findsWay, .selects RX4 yX4_findsWay yX4_findsWay, .code yX4_findsWay cX4_findsWay 7 (some .boolean), .fieldLink RX4 16 "Twincuts$Ways" "cameFrom" "[I", .fieldLink RX4 20 "Twincuts$Ways" "queue" "[I", .methodLink RX4 59 yX4_fillWay, .instanceMethod yX4_fillWay, .selects RX4 yX4_fillWay yX4_fillWay, .code yX4_fillWay cX4_fillWay 6 none] ++ wsX40 ++ wsX50)
def wsX4_countLineWays : List Cond := .code yX4_countLineWays cX4_countLineWays 4 (some .int) :: ([.fieldLink RX4 23 "Twincuts$Ways" "web" "LTwincuts$Web;", .fieldLink RX4 13 "Twincuts$Ways" "room" "[[I", .methodLink RX4 27 yX4_clearRoom, .instanceMethod yX4_clearRoom, .selects RX4 yX4_clearRoom yX4_clearRoom, .initialized RX4, .code yX4_clearRoom cX4_clearRoom 3 none, .static yX6_has, .initialized RX6, .code yX6_has cX6_has 2 (some .boolean), .methodLink RX4 52 yX4_countFlow, .instanceMethod yX4_countFlow, .selects RX4 yX4_countFlow yX4_countFlow, .code yX4_countFlow cX4_countFlow 5 (some .int), .methodLink RX4 56 yX4_findsWay, .instanceMethod yX4_findsWay, .selects RX4 yX4_findsWay yX4_findsWay, .code yX4_findsWay cX4_findsWay 7 (some .boolean), .fieldLink RX4 16 "Twincuts$Ways" "cameFrom" "[I", .fieldLink RX4 20 "Twincuts$Ways" "queue" "[I", .methodLink RX4 59 yX4_fillWay, .instanceMethod yX4_fillWay, .selects RX4 yX4_fillWay yX4_fillWay, .code yX4_fillWay cX4_fillWay 6 none] ++ wsX40 ++ wsX50)
def wsX4_isApartWithout : List Cond := .code yX4_isApartWithout cX4_isApartWithout 4 (some .boolean) :: ([.fieldLink RX4 23 "Twincuts$Ways" "web" "LTwincuts$Web;", .methodLink RX4 67 yX5_allPoints, .instanceMethod yX5_allPoints, .selects RX5 yX5_allPoints yX5_allPoints, .initialized RX5, .code yX5_allPoints cX5_allPoints 1 (some .int), .fieldLink RX5 9 "Twincuts$Web" "points" "I", .methodLink RX4 80 yX5_reach, .instanceMethod yX5_reach, .selects RX5 yX5_reach yX5_reach, .code yX5_reach cX5_reach 9 (some .int), .fieldLink RX5 15 "Twincuts$Web" "lines" "I", .fieldLink RX5 31 "Twincuts$Web" "ends" "[I", .static yX6_has, .initialized RX6, .code yX6_has cX6_has 2 (some .boolean)] ++ wsX40 ++ wsX50)
def wsX4_gap_r1 : List Cond := [Cond.fieldLink RX4 23 "Twincuts$Ways" "web" "LTwincuts$Web;", Cond.methodLink RX4 63 yX5_linkedWith, Cond.instanceMethod yX5_linkedWith, Cond.selects RX5 yX5_linkedWith yX5_linkedWith, Cond.initialized RX5, Cond.code yX5_linkedWith cX5_linkedWith 4 (some .int), Cond.fieldLink RX5 15 "Twincuts$Web" "lines" "I", Cond.fieldLink RX5 34 "Twincuts$Web" "linesAt" "[I", Cond.fieldLink RX5 18 "Twincuts$Web" "standing" "I", Cond.fieldLink RX5 31 "Twincuts$Web" "ends" "[I", Cond.static yX6_has, Cond.initialized RX6, Cond.code yX6_has cX6_has 2 (some .boolean), Cond.methodLink RX4 67 yX5_allPoints, Cond.instanceMethod yX5_allPoints, Cond.selects RX5 yX5_allPoints yX5_allPoints, Cond.code yX5_allPoints cX5_allPoints 1 (some .int), Cond.fieldLink RX5 9 "Twincuts$Web" "points" "I", Cond.methodLink RX4 71 yJ6_bitCount_0f7a4, Cond.static yJ6_bitCount_0f7a4, Cond.initialized RJ6, Cond.code yJ6_bitCount_0f7a4 cJ6_bitCount_0f7a4 1 (some .int), Cond.constant RJ6 265 (1431655765), Cond.constant RJ6 266 (858993459)]
def wsX4_gap_r2 : List Cond := [Cond.constant RJ6 267 (252645135), Cond.methodLink RX4 76 yX4_isApartWithout, Cond.instanceMethod yX4_isApartWithout, Cond.selects RX4 yX4_isApartWithout yX4_isApartWithout, Cond.initialized RX4, Cond.code yX4_isApartWithout cX4_isApartWithout 4 (some .boolean), Cond.methodLink RX4 80 yX5_reach, Cond.instanceMethod yX5_reach, Cond.selects RX5 yX5_reach yX5_reach, Cond.code yX5_reach cX5_reach 9 (some .int)]
def wsX4_gap : List Cond := .code yX4_gap cX4_gap 7 (some .int) :: ((wsX4_gap_r1 ++ wsX4_gap_r2) ++ wsX40 ++ wsX50)
def wsX5_linesOutOf : List Cond := .code yX5_linesOutOf cX5_linesOutOf 4 (some .int) :: ([.fieldLink RX5 9 "Twincuts$Web" "points" "I", .static yX6_has, .initialized RX6, .code yX6_has cX6_has 2 (some .boolean), .methodLink RX5 61 yX5_standingAt, .instanceMethod yX5_standingAt, .selects RX5 yX5_standingAt yX5_standingAt, .initialized RX5, .code yX5_standingAt cX5_standingAt 2 (some .int), .fieldLink RX5 34 "Twincuts$Web" "linesAt" "[I", .fieldLink RX5 18 "Twincuts$Web" "standing" "I"] ++ wsX50)
def wsX4_side_r1 : List Cond := [Cond.fieldLink RX4 23 "Twincuts$Ways" "web" "LTwincuts$Web;", Cond.methodLink RX4 84 yX5_linesOutOf, Cond.instanceMethod yX5_linesOutOf, Cond.selects RX5 yX5_linesOutOf yX5_linesOutOf, Cond.initialized RX5, Cond.code yX5_linesOutOf cX5_linesOutOf 4 (some .int), Cond.fieldLink RX5 9 "Twincuts$Web" "points" "I", Cond.static yX6_has, Cond.initialized RX6, Cond.code yX6_has cX6_has 2 (some .boolean), Cond.methodLink RX5 61 yX5_standingAt, Cond.instanceMethod yX5_standingAt, Cond.selects RX5 yX5_standingAt yX5_standingAt, Cond.code yX5_standingAt cX5_standingAt 2 (some .int), Cond.fieldLink RX5 34 "Twincuts$Web" "linesAt" "[I", Cond.fieldLink RX5 18 "Twincuts$Web" "standing" "I", Cond.methodLink RX4 71 yJ6_bitCount_0f7a4, Cond.static yJ6_bitCount_0f7a4, Cond.initialized RJ6, Cond.code yJ6_bitCount_0f7a4 cJ6_bitCount_0f7a4 1 (some .int), Cond.constant RJ6 265 (1431655765), Cond.constant RJ6 266 (858993459), Cond.constant RJ6 267 (252645135), Cond.methodLink RX4 67 yX5_allPoints]
def wsX4_side_r2 : List Cond := [Cond.instanceMethod yX5_allPoints, Cond.selects RX5 yX5_allPoints yX5_allPoints, Cond.code yX5_allPoints cX5_allPoints 1 (some .int)]
def wsX4_side : List Cond := .code yX4_side cX4_side 8 (some .int) :: ((wsX4_side_r1 ++ wsX4_side_r2) ++ wsX40 ++ wsX50)
def wsX5_init : List Cond := .code yX5_init cX5_init 1 none :: ([.methodLink RX5 3 objectInit, .instanceMethod objectInit, .code objectInit ⟨#[0xb1]⟩ 1 none, .fieldLink RX5 9 "Twincuts$Web" "points" "I", .fieldLink RX5 15 "Twincuts$Web" "lines" "I", .fieldLink RX5 18 "Twincuts$Web" "standing" "I", .arrayClass .int, .fieldLink RX5 21 "Twincuts$Web" "smaller" "[I", .fieldLink RX5 25 "Twincuts$Web" "greater" "[I", .fieldLink RX5 28 "Twincuts$Web" "cost" "[I", .fieldLink RX5 31 "Twincuts$Web" "ends" "[I", .fieldLink RX5 34 "Twincuts$Web" "linesAt" "[I"] ++ wsX50)
def wsX5_addPoint : List Cond := .code yX5_addPoint cX5_addPoint 1 (some .int) :: ([.fieldLink RX5 9 "Twincuts$Web" "points" "I"] ++ wsX50)
def wsX5_addLine : List Cond := .code yX5_addLine cX5_addLine 5 (some .int) :: ([.fieldLink RX5 15 "Twincuts$Web" "lines" "I", .fieldLink RX5 21 "Twincuts$Web" "smaller" "[I", .fieldLink RX5 25 "Twincuts$Web" "greater" "[I", .fieldLink RX5 28 "Twincuts$Web" "cost" "[I", .fieldLink RX5 31 "Twincuts$Web" "ends" "[I", .fieldLink RX5 34 "Twincuts$Web" "linesAt" "[I", .fieldLink RX5 18 "Twincuts$Web" "standing" "I"] ++ wsX50)
def wsX5_setCut : List Cond := .code yX5_setCut cX5_setCut 3 none :: ([.fieldLink RX5 18 "Twincuts$Web" "standing" "I"] ++ wsX50)
def wsX5_linkedWithAny : List Cond := .code yX5_linkedWithAny cX5_linkedWithAny 4 (some .int) :: ([.fieldLink RX5 9 "Twincuts$Web" "points" "I", .static yX6_has, .initialized RX6, .code yX6_has cX6_has 2 (some .boolean), .methodLink RX5 49 yX5_linkedWith, .instanceMethod yX5_linkedWith, .selects RX5 yX5_linkedWith yX5_linkedWith, .initialized RX5, .code yX5_linkedWith cX5_linkedWith 4 (some .int), .fieldLink RX5 15 "Twincuts$Web" "lines" "I", .fieldLink RX5 34 "Twincuts$Web" "linesAt" "[I", .fieldLink RX5 18 "Twincuts$Web" "standing" "I", .fieldLink RX5 31 "Twincuts$Web" "ends" "[I"] ++ wsX50)
def wsX5_distance : List Cond := .code yX5_distance cX5_distance 5 (some .int) :: ([.static yX6_has, .initialized RX6, .code yX6_has cX6_has 2 (some .boolean), .methodLink RX5 45 yX5_linkedWithAny, .instanceMethod yX5_linkedWithAny, .selects RX5 yX5_linkedWithAny yX5_linkedWithAny, .initialized RX5, .code yX5_linkedWithAny cX5_linkedWithAny 4 (some .int), .fieldLink RX5 9 "Twincuts$Web" "points" "I", .methodLink RX5 49 yX5_linkedWith, .instanceMethod yX5_linkedWith, .selects RX5 yX5_linkedWith yX5_linkedWith, .code yX5_linkedWith cX5_linkedWith 4 (some .int), .fieldLink RX5 15 "Twincuts$Web" "lines" "I", .fieldLink RX5 34 "Twincuts$Web" "linesAt" "[I", .fieldLink RX5 18 "Twincuts$Web" "standing" "I", .fieldLink RX5 31 "Twincuts$Web" "ends" "[I"] ++ wsX50)
def wsX5_greatestDistance_r1 : List Cond := [Cond.fieldLink RX5 9 "Twincuts$Web" "points" "I", Cond.methodLink RX5 56 Lib.Math.max.name, Cond.static Lib.Math.max.name, Cond.initialized "java/lang/Math", Cond.code Lib.Math.max.name Lib.Math.max.code 2 (some .int), Cond.methodLink RX5 52 yX5_distance, Cond.instanceMethod yX5_distance, Cond.selects RX5 yX5_distance yX5_distance, Cond.initialized RX5, Cond.code yX5_distance cX5_distance 5 (some .int), Cond.static yX6_has, Cond.initialized RX6, Cond.code yX6_has cX6_has 2 (some .boolean), Cond.methodLink RX5 45 yX5_linkedWithAny, Cond.instanceMethod yX5_linkedWithAny, Cond.selects RX5 yX5_linkedWithAny yX5_linkedWithAny, Cond.code yX5_linkedWithAny cX5_linkedWithAny 4 (some .int), Cond.methodLink RX5 49 yX5_linkedWith, Cond.instanceMethod yX5_linkedWith, Cond.selects RX5 yX5_linkedWith yX5_linkedWith, Cond.code yX5_linkedWith cX5_linkedWith 4 (some .int), Cond.fieldLink RX5 15 "Twincuts$Web" "lines" "I", Cond.fieldLink RX5 34 "Twincuts$Web" "linesAt" "[I", Cond.fieldLink RX5 18 "Twincuts$Web" "standing" "I"]
def wsX5_greatestDistance_r2 : List Cond := [Cond.fieldLink RX5 31 "Twincuts$Web" "ends" "[I"]
def wsX5_greatestDistance : List Cond := .code yX5_greatestDistance cX5_greatestDistance 4 (some .int) :: ((wsX5_greatestDistance_r1 ++ wsX5_greatestDistance_r2) ++ wsX50)
def wsX6_init_r1 : List Cond := [Cond.methodLink RX6 1 objectInit, Cond.instanceMethod objectInit, Cond.code objectInit ⟨#[0xb1]⟩ 1 none, Cond.classLink RX6 7 RX5, Cond.instantiable RX5 8, Cond.initialized RX5, Cond.fieldLink RX6 10 "Twincuts" "web" "LTwincuts$Web;", Cond.classLink RX6 16 RX1, Cond.instantiable RX1 15, Cond.initialized RX1, Cond.fieldLink RX6 21 "Twincuts" "falls" "LTwincuts$Falls;", Cond.classLink RX6 25 RX4, Cond.instantiable RX4 4, Cond.initialized RX4, Cond.fieldLink RX6 28 "Twincuts" "ways" "LTwincuts$Ways;", Cond.classLink RX6 32 RX2, Cond.instantiable RX2 5, Cond.initialized RX2, Cond.fieldLink RX6 35 "Twincuts" "forest" "LTwincuts$Forest;", Cond.classLink RX6 39 RX3, Cond.instantiable RX3 3, Cond.initialized RX3, Cond.fieldLink RX6 42 "Twincuts" "palette" "LTwincuts$Palette;", Cond.classLink RX6 46 RX0]
def wsX6_init_r2 : List Cond := [Cond.instantiable RX0 5, Cond.initialized RX0, Cond.fieldLink RX6 49 "Twincuts" "drawing" "LTwincuts$Drawing;", Cond.fieldLink RX6 53 "Twincuts" "refused" "I", Cond.instanceMethod yX5_init, Cond.code yX5_init cX5_init 1 none, Cond.methodLink RX5 3 objectInit, Cond.fieldLink RX5 9 "Twincuts$Web" "points" "I", Cond.fieldLink RX5 15 "Twincuts$Web" "lines" "I", Cond.fieldLink RX5 18 "Twincuts$Web" "standing" "I", Cond.arrayClass .int, Cond.fieldLink RX5 21 "Twincuts$Web" "smaller" "[I", Cond.fieldLink RX5 25 "Twincuts$Web" "greater" "[I", Cond.fieldLink RX5 28 "Twincuts$Web" "cost" "[I", Cond.fieldLink RX5 31 "Twincuts$Web" "ends" "[I", Cond.fieldLink RX5 34 "Twincuts$Web" "linesAt" "[I", Cond.methodLink RX6 18 yX1_init, Cond.instanceMethod yX1_init, Cond.code yX1_init cX1_init 2 none, Cond.methodLink RX1 3 objectInit, Cond.fieldLink RX1 9 "Twincuts$Falls" "parts" "I", Cond.fieldLink RX1 15 "Twincuts$Falls" "bridgeSet" "I", Cond.fieldLink RX1 18 "Twincuts$Falls" "cutPointSet" "I", Cond.fieldLink RX1 21 "Twincuts$Falls" "blocks" "I"]
def wsX6_init_r3 : List Cond := [Cond.fieldLink RX1 24 "Twincuts$Falls" "pairs" "I", Cond.fieldLink RX1 27 "Twincuts$Falls" "twins" "I", Cond.fieldLink RX1 30 "Twincuts$Falls" "part" "[I", Cond.fieldLink RX1 34 "Twincuts$Falls" "partSet" "[I", Cond.fieldLink RX1 37 "Twincuts$Falls" "first" "[I", Cond.fieldLink RX1 40 "Twincuts$Falls" "block" "[I", Cond.fieldLink RX1 43 "Twincuts$Falls" "smallerOfPair" "[I", Cond.fieldLink RX1 46 "Twincuts$Falls" "greaterOfPair" "[I", Cond.fieldLink RX1 49 "Twincuts$Falls" "smallerOfTwins" "[I", Cond.fieldLink RX1 52 "Twincuts$Falls" "greaterOfTwins" "[I", Cond.fieldLink RX1 55 "Twincuts$Falls" "web" "LTwincuts$Web;", Cond.methodLink RX6 27 yX4_init, Cond.instanceMethod yX4_init, Cond.code yX4_init cX4_init 2 none, Cond.methodLink RX4 3 objectInit, Cond.classLink RX4 11 "[[I", Cond.fieldLink RX4 13 "Twincuts$Ways" "room" "[[I", Cond.fieldLink RX4 16 "Twincuts$Ways" "cameFrom" "[I", Cond.fieldLink RX4 20 "Twincuts$Ways" "queue" "[I", Cond.fieldLink RX4 23 "Twincuts$Ways" "web" "LTwincuts$Web;", Cond.methodLink RX6 34 yX2_init, Cond.instanceMethod yX2_init, Cond.code yX2_init cX2_init 2 none, Cond.methodLink RX2 3 objectInit]
def wsX6_init_r4 : List Cond := [Cond.classLink RX2 9 "[[J", Cond.arrayClass .long, Cond.fieldLink RX2 11 "Twincuts$Forest" "table" "[[J", Cond.fieldLink RX2 16 "Twincuts$Forest" "cheapestSet" "I", Cond.fieldLink RX2 20 "Twincuts$Forest" "cheapestCost" "I", Cond.fieldLink RX2 23 "Twincuts$Forest" "joined" "[I", Cond.fieldLink RX2 27 "Twincuts$Forest" "web" "LTwincuts$Web;", Cond.methodLink RX6 41 yX3_init, Cond.instanceMethod yX3_init, Cond.code yX3_init cX3_init 2 none, Cond.methodLink RX3 3 objectInit, Cond.fieldLink RX3 9 "Twincuts$Palette" "colours" "I", Cond.fieldLink RX3 15 "Twincuts$Palette" "colour" "[I", Cond.fieldLink RX3 19 "Twincuts$Palette" "web" "LTwincuts$Web;", Cond.methodLink RX6 48 yX0_init, Cond.instanceMethod yX0_init, Cond.code yX0_init cX0_init 2 none, Cond.methodLink RX0 3 objectInit, Cond.classLink RX0 9 "[[I", Cond.fieldLink RX0 11 "Twincuts$Drawing" "order" "[[I", Cond.fieldLink RX0 16 "Twincuts$Drawing" "length" "[I", Cond.fieldLink RX0 20 "Twincuts$Drawing" "walked" "I", Cond.fieldLink RX0 24 "Twincuts$Drawing" "face" "[I", Cond.fieldLink RX0 27 "Twincuts$Drawing" "web" "LTwincuts$Web;"]
def wsX6_init : List Cond := .code yX6_init cX6_init 1 none :: ((wsX6_init_r1 ++ (wsX6_init_r2 ++ (wsX6_init_r3 ++ wsX6_init_r4))) ++ wsX50 ++ wsX60 ++ wsX10 ++ wsX40 ++ wsX20 ++ wsX30 ++ wsX00)
def wsX6_learnAll_r1 : List Cond := [Cond.fieldLink RX6 21 "Twincuts" "falls" "LTwincuts$Falls;", Cond.fieldLink RX6 35 "Twincuts" "forest" "LTwincuts$Forest;", Cond.fieldLink RX6 42 "Twincuts" "palette" "LTwincuts$Palette;", Cond.fieldLink RX6 49 "Twincuts" "drawing" "LTwincuts$Drawing;", Cond.methodLink RX6 310 yX1_learn, Cond.instanceMethod yX1_learn, Cond.selects RX1 yX1_learn yX1_learn, Cond.initialized RX1, Cond.code yX1_learn cX1_learn 1 none, Cond.methodLink RX1 59 yX1_numberParts, Cond.instanceMethod yX1_numberParts, Cond.selects RX1 yX1_numberParts yX1_numberParts, Cond.code yX1_numberParts cX1_numberParts 4 none, Cond.fieldLink RX1 9 "Twincuts$Falls" "parts" "I", Cond.fieldLink RX1 55 "Twincuts$Falls" "web" "LTwincuts$Web;", Cond.static yX6_has, Cond.initialized RX6, Cond.code yX6_has cX6_has 2 (some .boolean), Cond.methodLink RX1 101 yX5_allPoints, Cond.instanceMethod yX5_allPoints, Cond.selects RX5 yX5_allPoints yX5_allPoints, Cond.initialized RX5, Cond.code yX5_allPoints cX5_allPoints 1 (some .int), Cond.fieldLink RX5 9 "Twincuts$Web" "points" "I"]
def wsX6_learnAll_r2 : List Cond := [Cond.methodLink RX1 108 yX5_reach, Cond.instanceMethod yX5_reach, Cond.selects RX5 yX5_reach yX5_reach, Cond.code yX5_reach cX5_reach 9 (some .int), Cond.fieldLink RX5 15 "Twincuts$Web" "lines" "I", Cond.fieldLink RX5 31 "Twincuts$Web" "ends" "[I", Cond.methodLink RX1 112 yX1_putInPart, Cond.instanceMethod yX1_putInPart, Cond.selects RX1 yX1_putInPart yX1_putInPart, Cond.code yX1_putInPart cX1_putInPart 3 none, Cond.fieldLink RX1 30 "Twincuts$Falls" "part" "[I", Cond.fieldLink RX1 34 "Twincuts$Falls" "partSet" "[I", Cond.methodLink RX1 62 yX1_findBridges, Cond.instanceMethod yX1_findBridges, Cond.selects RX1 yX1_findBridges yX1_findBridges, Cond.code yX1_findBridges cX1_findBridges 3 none, Cond.fieldLink RX1 15 "Twincuts$Falls" "bridgeSet" "I", Cond.methodLink RX1 116 yX5_countParts, Cond.instanceMethod yX5_countParts, Cond.selects RX5 yX5_countParts yX5_countParts, Cond.code yX5_countParts cX5_countParts 6 (some .int), Cond.methodLink RX5 41 yX5_reach, Cond.methodLink RX1 65 yX1_findCutPoints, Cond.instanceMethod yX1_findCutPoints]
def wsX6_learnAll_r3 : List Cond := [Cond.selects RX1 yX1_findCutPoints yX1_findCutPoints, Cond.code yX1_findCutPoints cX1_findCutPoints 2 none, Cond.fieldLink RX1 18 "Twincuts$Falls" "cutPointSet" "I", Cond.methodLink RX1 68 yX1_joinBlocks, Cond.instanceMethod yX1_joinBlocks, Cond.selects RX1 yX1_joinBlocks yX1_joinBlocks, Cond.code yX1_joinBlocks cX1_joinBlocks 3 none, Cond.fieldLink RX1 37 "Twincuts$Falls" "first" "[I", Cond.methodLink RX1 85 yX5_standingAt, Cond.instanceMethod yX5_standingAt, Cond.selects RX5 yX5_standingAt yX5_standingAt, Cond.code yX5_standingAt cX5_standingAt 2 (some .int), Cond.fieldLink RX5 34 "Twincuts$Web" "linesAt" "[I", Cond.fieldLink RX5 18 "Twincuts$Web" "standing" "I", Cond.methodLink RX1 120 yX1_joinAtPoint, Cond.instanceMethod yX1_joinAtPoint, Cond.selects RX1 yX1_joinAtPoint yX1_joinAtPoint, Cond.code yX1_joinAtPoint cX1_joinAtPoint 6 none, Cond.methodLink RX1 124 yX5_otherEnd, Cond.instanceMethod yX5_otherEnd, Cond.selects RX5 yX5_otherEnd yX5_otherEnd, Cond.code yX5_otherEnd cX5_otherEnd 3 (some .int), Cond.fieldLink RX5 21 "Twincuts$Web" "smaller" "[I", Cond.fieldLink RX5 25 "Twincuts$Web" "greater" "[I"]
def wsX6_learnAll_r4 : List Cond := [Cond.methodLink RX1 127 yX1_join, Cond.instanceMethod yX1_join, Cond.selects RX1 yX1_join yX1_join, Cond.code yX1_join cX1_join 5 none, Cond.methodLink RX1 130 Lib.Math.min.name, Cond.static Lib.Math.min.name, Cond.initialized "java/lang/Math", Cond.code Lib.Math.min.name Lib.Math.min.code 2 (some .int), Cond.methodLink RX1 71 yX1_numberBlocks, Cond.instanceMethod yX1_numberBlocks, Cond.selects RX1 yX1_numberBlocks yX1_numberBlocks, Cond.code yX1_numberBlocks cX1_numberBlocks 2 none, Cond.fieldLink RX1 21 "Twincuts$Falls" "blocks" "I", Cond.fieldLink RX1 40 "Twincuts$Falls" "block" "[I", Cond.methodLink RX1 74 yX1_findPairs, Cond.instanceMethod yX1_findPairs, Cond.selects RX1 yX1_findPairs yX1_findPairs, Cond.code yX1_findPairs cX1_findPairs 3 none, Cond.fieldLink RX1 24 "Twincuts$Falls" "pairs" "I", Cond.fieldLink RX1 43 "Twincuts$Falls" "smallerOfPair" "[I", Cond.fieldLink RX1 46 "Twincuts$Falls" "greaterOfPair" "[I", Cond.methodLink RX1 135 yX1_isPair, Cond.instanceMethod yX1_isPair, Cond.selects RX1 yX1_isPair yX1_isPair]
def wsX6_learnAll_r5 : List Cond := [Cond.code yX1_isPair cX1_isPair 4 (some .boolean), Cond.methodLink RX1 77 yX1_findTwins, Cond.instanceMethod yX1_findTwins, Cond.selects RX1 yX1_findTwins yX1_findTwins, Cond.code yX1_findTwins cX1_findTwins 3 none, Cond.fieldLink RX1 27 "Twincuts$Falls" "twins" "I", Cond.fieldLink RX1 49 "Twincuts$Falls" "smallerOfTwins" "[I", Cond.fieldLink RX1 52 "Twincuts$Falls" "greaterOfTwins" "[I", Cond.methodLink RX1 138 yX1_areTwins, Cond.instanceMethod yX1_areTwins, Cond.selects RX1 yX1_areTwins yX1_areTwins, Cond.code yX1_areTwins cX1_areTwins 4 (some .boolean), Cond.methodLink RX6 120 yX2_learn, Cond.instanceMethod yX2_learn, Cond.selects RX2 yX2_learn yX2_learn, Cond.initialized RX2, Cond.code yX2_learn cX2_learn 1 none, Cond.fieldLink RX2 16 "Twincuts$Forest" "cheapestSet" "I", Cond.fieldLink RX2 20 "Twincuts$Forest" "cheapestCost" "I", Cond.fieldLink RX2 27 "Twincuts$Forest" "web" "LTwincuts$Web;", Cond.methodLink RX2 63 yX5_allPoints, Cond.methodLink RX2 67 yX5_countParts, Cond.methodLink RX2 71 yX2_takeCheapest, Cond.instanceMethod yX2_takeCheapest]
def wsX6_learnAll_r6 : List Cond := [Cond.selects RX2 yX2_takeCheapest yX2_takeCheapest, Cond.code yX2_takeCheapest cX2_takeCheapest 3 none, Cond.fieldLink RX2 23 "Twincuts$Forest" "joined" "[I", Cond.methodLink RX2 77 yX2_takeIfNew, Cond.instanceMethod yX2_takeIfNew, Cond.selects RX2 yX2_takeIfNew yX2_takeIfNew, Cond.code yX2_takeIfNew cX2_takeIfNew 5 none, Cond.methodLink RX6 311 yX3_learn, Cond.instanceMethod yX3_learn, Cond.selects RX3 yX3_learn yX3_learn, Cond.initialized RX3, Cond.code yX3_learn cX3_learn 2 none, Cond.fieldLink RX3 19 "Twincuts$Palette" "web" "LTwincuts$Web;", Cond.fieldLink RX3 9 "Twincuts$Palette" "colours" "I", Cond.methodLink RX3 28 yX3_paintsFrom, Cond.instanceMethod yX3_paintsFrom, Cond.selects RX3 yX3_paintsFrom yX3_paintsFrom, Cond.code yX3_paintsFrom cX3_paintsFrom 6 (some .boolean), Cond.fieldLink RX3 15 "Twincuts$Palette" "colour" "[I", Cond.methodLink RX3 39 Lib.Math.max.name, Cond.static Lib.Math.max.name, Cond.code Lib.Math.max.name Lib.Math.max.code 2 (some .int), Cond.methodLink RX3 32 yX5_linkedWith, Cond.instanceMethod yX5_linkedWith]
def wsX6_learnAll_r7 : List Cond := [Cond.selects RX5 yX5_linkedWith yX5_linkedWith, Cond.code yX5_linkedWith cX5_linkedWith 4 (some .int), Cond.methodLink RX3 36 yX3_isFree, Cond.instanceMethod yX3_isFree, Cond.selects RX3 yX3_isFree yX3_isFree, Cond.code yX3_isFree cX3_isFree 5 (some .boolean), Cond.methodLink RX6 129 yX0_learn, Cond.instanceMethod yX0_learn, Cond.selects RX0 yX0_learn yX0_learn, Cond.initialized RX0, Cond.code yX0_learn cX0_learn 4 none, Cond.fieldLink RX0 20 "Twincuts$Drawing" "walked" "I", Cond.fieldLink RX0 24 "Twincuts$Drawing" "face" "[I", Cond.fieldLink RX0 27 "Twincuts$Drawing" "web" "LTwincuts$Web;", Cond.methodLink RX0 64 yX0_walkBehind, Cond.instanceMethod yX0_walkBehind, Cond.selects RX0 yX0_walkBehind yX0_walkBehind, Cond.code yX0_walkBehind cX0_walkBehind 7 (some .int), Cond.fieldLink RX0 16 "Twincuts$Drawing" "length" "[I", Cond.fieldLink RX0 11 "Twincuts$Drawing" "order" "[[I", Cond.methodLink RX0 74 yX0_placeOf, Cond.instanceMethod yX0_placeOf, Cond.selects RX0 yX0_placeOf yX0_placeOf, Cond.code yX0_placeOf cX0_placeOf 4 (some .int)]
def wsX6_learnAll_r8 : List Cond := [Cond.methodLink RX0 31 yX0_placeBehind, Cond.instanceMethod yX0_placeBehind, Cond.selects RX0 yX0_placeBehind yX0_placeBehind, Cond.code yX0_placeBehind cX0_placeBehind 3 (some .int)]
def wsX6_learnAll : List Cond := .code yX6_learnAll cX6_learnAll 1 none :: ((wsX6_learnAll_r1 ++ (wsX6_learnAll_r2 ++ (wsX6_learnAll_r3 ++ (wsX6_learnAll_r4 ++ (wsX6_learnAll_r5 ++ (wsX6_learnAll_r6 ++ (wsX6_learnAll_r7 ++ wsX6_learnAll_r8))))))) ++ wsX60 ++ wsX10 ++ wsX50 ++ wsX20 ++ wsX30 ++ wsX00)
def wsX6_point_r1 : List Cond := [Cond.classLink RX6 60 "java/lang/IllegalStateException", Cond.initialized "java/lang/IllegalStateException", Cond.fieldLink RX6 10 "Twincuts" "web" "LTwincuts$Web;", Cond.methodLink RX6 67 yX5_addPoint, Cond.instanceMethod yX5_addPoint, Cond.selects RX5 yX5_addPoint yX5_addPoint, Cond.initialized RX5, Cond.code yX5_addPoint cX5_addPoint 1 (some .int), Cond.fieldLink RX5 9 "Twincuts$Web" "points" "I", Cond.methodLink RX6 71 yX6_learnAll, Cond.instanceMethod yX6_learnAll, Cond.selects RX6 yX6_learnAll yX6_learnAll, Cond.initialized RX6, Cond.code yX6_learnAll cX6_learnAll 1 none, Cond.fieldLink RX6 21 "Twincuts" "falls" "LTwincuts$Falls;", Cond.fieldLink RX6 35 "Twincuts" "forest" "LTwincuts$Forest;", Cond.fieldLink RX6 42 "Twincuts" "palette" "LTwincuts$Palette;", Cond.fieldLink RX6 49 "Twincuts" "drawing" "LTwincuts$Drawing;", Cond.methodLink RX6 310 yX1_learn, Cond.instanceMethod yX1_learn, Cond.selects RX1 yX1_learn yX1_learn, Cond.initialized RX1, Cond.code yX1_learn cX1_learn 1 none, Cond.methodLink RX1 59 yX1_numberParts]
def wsX6_point_r2 : List Cond := [Cond.instanceMethod yX1_numberParts, Cond.selects RX1 yX1_numberParts yX1_numberParts, Cond.code yX1_numberParts cX1_numberParts 4 none, Cond.fieldLink RX1 9 "Twincuts$Falls" "parts" "I", Cond.fieldLink RX1 55 "Twincuts$Falls" "web" "LTwincuts$Web;", Cond.static yX6_has, Cond.code yX6_has cX6_has 2 (some .boolean), Cond.methodLink RX1 101 yX5_allPoints, Cond.instanceMethod yX5_allPoints, Cond.selects RX5 yX5_allPoints yX5_allPoints, Cond.code yX5_allPoints cX5_allPoints 1 (some .int), Cond.methodLink RX1 108 yX5_reach, Cond.instanceMethod yX5_reach, Cond.selects RX5 yX5_reach yX5_reach, Cond.code yX5_reach cX5_reach 9 (some .int), Cond.fieldLink RX5 15 "Twincuts$Web" "lines" "I", Cond.fieldLink RX5 31 "Twincuts$Web" "ends" "[I", Cond.methodLink RX1 112 yX1_putInPart, Cond.instanceMethod yX1_putInPart, Cond.selects RX1 yX1_putInPart yX1_putInPart, Cond.code yX1_putInPart cX1_putInPart 3 none, Cond.fieldLink RX1 30 "Twincuts$Falls" "part" "[I", Cond.fieldLink RX1 34 "Twincuts$Falls" "partSet" "[I", Cond.methodLink RX1 62 yX1_findBridges]
def wsX6_point_r3 : List Cond := [Cond.instanceMethod yX1_findBridges, Cond.selects RX1 yX1_findBridges yX1_findBridges, Cond.code yX1_findBridges cX1_findBridges 3 none, Cond.fieldLink RX1 15 "Twincuts$Falls" "bridgeSet" "I", Cond.methodLink RX1 116 yX5_countParts, Cond.instanceMethod yX5_countParts, Cond.selects RX5 yX5_countParts yX5_countParts, Cond.code yX5_countParts cX5_countParts 6 (some .int), Cond.methodLink RX5 41 yX5_reach, Cond.methodLink RX1 65 yX1_findCutPoints, Cond.instanceMethod yX1_findCutPoints, Cond.selects RX1 yX1_findCutPoints yX1_findCutPoints, Cond.code yX1_findCutPoints cX1_findCutPoints 2 none, Cond.fieldLink RX1 18 "Twincuts$Falls" "cutPointSet" "I", Cond.methodLink RX1 68 yX1_joinBlocks, Cond.instanceMethod yX1_joinBlocks, Cond.selects RX1 yX1_joinBlocks yX1_joinBlocks, Cond.code yX1_joinBlocks cX1_joinBlocks 3 none, Cond.fieldLink RX1 37 "Twincuts$Falls" "first" "[I", Cond.methodLink RX1 85 yX5_standingAt, Cond.instanceMethod yX5_standingAt, Cond.selects RX5 yX5_standingAt yX5_standingAt, Cond.code yX5_standingAt cX5_standingAt 2 (some .int), Cond.fieldLink RX5 34 "Twincuts$Web" "linesAt" "[I"]
def wsX6_point_r4 : List Cond := [Cond.fieldLink RX5 18 "Twincuts$Web" "standing" "I", Cond.methodLink RX1 120 yX1_joinAtPoint, Cond.instanceMethod yX1_joinAtPoint, Cond.selects RX1 yX1_joinAtPoint yX1_joinAtPoint, Cond.code yX1_joinAtPoint cX1_joinAtPoint 6 none, Cond.methodLink RX1 124 yX5_otherEnd, Cond.instanceMethod yX5_otherEnd, Cond.selects RX5 yX5_otherEnd yX5_otherEnd, Cond.code yX5_otherEnd cX5_otherEnd 3 (some .int), Cond.fieldLink RX5 21 "Twincuts$Web" "smaller" "[I", Cond.fieldLink RX5 25 "Twincuts$Web" "greater" "[I", Cond.methodLink RX1 127 yX1_join, Cond.instanceMethod yX1_join, Cond.selects RX1 yX1_join yX1_join, Cond.code yX1_join cX1_join 5 none, Cond.methodLink RX1 130 Lib.Math.min.name, Cond.static Lib.Math.min.name, Cond.initialized "java/lang/Math", Cond.code Lib.Math.min.name Lib.Math.min.code 2 (some .int), Cond.methodLink RX1 71 yX1_numberBlocks, Cond.instanceMethod yX1_numberBlocks, Cond.selects RX1 yX1_numberBlocks yX1_numberBlocks, Cond.code yX1_numberBlocks cX1_numberBlocks 2 none, Cond.fieldLink RX1 21 "Twincuts$Falls" "blocks" "I"]
def wsX6_point_r5 : List Cond := [Cond.fieldLink RX1 40 "Twincuts$Falls" "block" "[I", Cond.methodLink RX1 74 yX1_findPairs, Cond.instanceMethod yX1_findPairs, Cond.selects RX1 yX1_findPairs yX1_findPairs, Cond.code yX1_findPairs cX1_findPairs 3 none, Cond.fieldLink RX1 24 "Twincuts$Falls" "pairs" "I", Cond.fieldLink RX1 43 "Twincuts$Falls" "smallerOfPair" "[I", Cond.fieldLink RX1 46 "Twincuts$Falls" "greaterOfPair" "[I", Cond.methodLink RX1 135 yX1_isPair, Cond.instanceMethod yX1_isPair, Cond.selects RX1 yX1_isPair yX1_isPair, Cond.code yX1_isPair cX1_isPair 4 (some .boolean), Cond.methodLink RX1 77 yX1_findTwins, Cond.instanceMethod yX1_findTwins, Cond.selects RX1 yX1_findTwins yX1_findTwins, Cond.code yX1_findTwins cX1_findTwins 3 none, Cond.fieldLink RX1 27 "Twincuts$Falls" "twins" "I", Cond.fieldLink RX1 49 "Twincuts$Falls" "smallerOfTwins" "[I", Cond.fieldLink RX1 52 "Twincuts$Falls" "greaterOfTwins" "[I", Cond.methodLink RX1 138 yX1_areTwins, Cond.instanceMethod yX1_areTwins, Cond.selects RX1 yX1_areTwins yX1_areTwins, Cond.code yX1_areTwins cX1_areTwins 4 (some .boolean), Cond.methodLink RX6 120 yX2_learn]
def wsX6_point_r6 : List Cond := [Cond.instanceMethod yX2_learn, Cond.selects RX2 yX2_learn yX2_learn, Cond.initialized RX2, Cond.code yX2_learn cX2_learn 1 none, Cond.fieldLink RX2 16 "Twincuts$Forest" "cheapestSet" "I", Cond.fieldLink RX2 20 "Twincuts$Forest" "cheapestCost" "I", Cond.fieldLink RX2 27 "Twincuts$Forest" "web" "LTwincuts$Web;", Cond.methodLink RX2 63 yX5_allPoints, Cond.methodLink RX2 67 yX5_countParts, Cond.methodLink RX2 71 yX2_takeCheapest, Cond.instanceMethod yX2_takeCheapest, Cond.selects RX2 yX2_takeCheapest yX2_takeCheapest, Cond.code yX2_takeCheapest cX2_takeCheapest 3 none, Cond.fieldLink RX2 23 "Twincuts$Forest" "joined" "[I", Cond.methodLink RX2 77 yX2_takeIfNew, Cond.instanceMethod yX2_takeIfNew, Cond.selects RX2 yX2_takeIfNew yX2_takeIfNew, Cond.code yX2_takeIfNew cX2_takeIfNew 5 none, Cond.methodLink RX6 311 yX3_learn, Cond.instanceMethod yX3_learn, Cond.selects RX3 yX3_learn yX3_learn, Cond.initialized RX3, Cond.code yX3_learn cX3_learn 2 none, Cond.fieldLink RX3 19 "Twincuts$Palette" "web" "LTwincuts$Web;"]
def wsX6_point_r7 : List Cond := [Cond.fieldLink RX3 9 "Twincuts$Palette" "colours" "I", Cond.methodLink RX3 28 yX3_paintsFrom, Cond.instanceMethod yX3_paintsFrom, Cond.selects RX3 yX3_paintsFrom yX3_paintsFrom, Cond.code yX3_paintsFrom cX3_paintsFrom 6 (some .boolean), Cond.fieldLink RX3 15 "Twincuts$Palette" "colour" "[I", Cond.methodLink RX3 39 Lib.Math.max.name, Cond.static Lib.Math.max.name, Cond.code Lib.Math.max.name Lib.Math.max.code 2 (some .int), Cond.methodLink RX3 32 yX5_linkedWith, Cond.instanceMethod yX5_linkedWith, Cond.selects RX5 yX5_linkedWith yX5_linkedWith, Cond.code yX5_linkedWith cX5_linkedWith 4 (some .int), Cond.methodLink RX3 36 yX3_isFree, Cond.instanceMethod yX3_isFree, Cond.selects RX3 yX3_isFree yX3_isFree, Cond.code yX3_isFree cX3_isFree 5 (some .boolean), Cond.methodLink RX6 129 yX0_learn, Cond.instanceMethod yX0_learn, Cond.selects RX0 yX0_learn yX0_learn, Cond.initialized RX0, Cond.code yX0_learn cX0_learn 4 none, Cond.fieldLink RX0 20 "Twincuts$Drawing" "walked" "I", Cond.fieldLink RX0 24 "Twincuts$Drawing" "face" "[I"]
def wsX6_point_r8 : List Cond := [Cond.fieldLink RX0 27 "Twincuts$Drawing" "web" "LTwincuts$Web;", Cond.methodLink RX0 64 yX0_walkBehind, Cond.instanceMethod yX0_walkBehind, Cond.selects RX0 yX0_walkBehind yX0_walkBehind, Cond.code yX0_walkBehind cX0_walkBehind 7 (some .int), Cond.fieldLink RX0 16 "Twincuts$Drawing" "length" "[I", Cond.fieldLink RX0 11 "Twincuts$Drawing" "order" "[[I", Cond.methodLink RX0 74 yX0_placeOf, Cond.instanceMethod yX0_placeOf, Cond.selects RX0 yX0_placeOf yX0_placeOf, Cond.code yX0_placeOf cX0_placeOf 4 (some .int), Cond.methodLink RX0 31 yX0_placeBehind, Cond.instanceMethod yX0_placeBehind, Cond.selects RX0 yX0_placeBehind yX0_placeBehind, Cond.code yX0_placeBehind cX0_placeBehind 3 (some .int)]
def wsX6_point : List Cond := .code yX6_point cX6_point 2 (some .int) :: ((wsX6_point_r1 ++ (wsX6_point_r2 ++ (wsX6_point_r3 ++ (wsX6_point_r4 ++ (wsX6_point_r5 ++ (wsX6_point_r6 ++ (wsX6_point_r7 ++ wsX6_point_r8))))))) ++ wsX60 ++ wsX50 ++ wsX10 ++ wsX20 ++ wsX30 ++ wsX00 ++ (vx_atS RX6 64 "java/lang/IllegalStateException" ["java/lang/RuntimeException", "java/lang/Exception"]).filter goodWord)
def wsX6_demandPoint : List Cond := .code yX6_demandPoint cX6_demandPoint 2 none :: ([.classLink RX6 330 "java/lang/IndexOutOfBoundsException", .initialized "java/lang/IndexOutOfBoundsException", .fieldLink RX6 10 "Twincuts" "web" "LTwincuts$Web;"] ++ wsX60 ++ wsX50 ++ (vx_atS RX6 334 "java/lang/IndexOutOfBoundsException" ["java/lang/RuntimeException", "java/lang/Exception"]).filter goodWord)
def wsX6_demandUnlike : List Cond := .code yX6_demandUnlike cX6_demandUnlike 2 none :: ([.classLink RX6 249 "java/lang/IllegalArgumentException", .initialized "java/lang/IllegalArgumentException"] ++ (vx_atS RX6 253 "java/lang/IllegalArgumentException" ["java/lang/RuntimeException", "java/lang/Exception"]).filter goodWord)
def wsX6_demandCost : List Cond := .code yX6_demandCost cX6_demandCost 1 none :: ([.classLink RX6 249 "java/lang/IllegalArgumentException", .initialized "java/lang/IllegalArgumentException"] ++ (vx_atS RX6 253 "java/lang/IllegalArgumentException" ["java/lang/RuntimeException", "java/lang/Exception"]).filter goodWord)
def wsX6_line_r1 : List Cond := [Cond.classLink RX6 60 "java/lang/IllegalStateException", Cond.initialized "java/lang/IllegalStateException", Cond.fieldLink RX6 10 "Twincuts" "web" "LTwincuts$Web;", Cond.methodLink RX6 90 Lib.Math.min.name, Cond.static Lib.Math.min.name, Cond.initialized "java/lang/Math", Cond.code Lib.Math.min.name Lib.Math.min.code 2 (some .int), Cond.methodLink RX6 96 Lib.Math.max.name, Cond.static Lib.Math.max.name, Cond.code Lib.Math.max.name Lib.Math.max.code 2 (some .int), Cond.fieldLink RX6 49 "Twincuts" "drawing" "LTwincuts$Drawing;", Cond.methodLink RX6 74 yX6_demandPoint, Cond.instanceMethod yX6_demandPoint, Cond.selects RX6 yX6_demandPoint yX6_demandPoint, Cond.initialized RX6, Cond.code yX6_demandPoint cX6_demandPoint 2 none, Cond.classLink RX6 330 "java/lang/IndexOutOfBoundsException", Cond.initialized "java/lang/IndexOutOfBoundsException", Cond.methodLink RX6 78 yX6_demandUnlike, Cond.static yX6_demandUnlike, Cond.code yX6_demandUnlike cX6_demandUnlike 2 none, Cond.classLink RX6 249 "java/lang/IllegalArgumentException", Cond.initialized "java/lang/IllegalArgumentException", Cond.methodLink RX6 82 yX6_demandCost]
def wsX6_line_r2 : List Cond := [Cond.static yX6_demandCost, Cond.code yX6_demandCost cX6_demandCost 1 none, Cond.methodLink RX6 99 yX5_addLine, Cond.instanceMethod yX5_addLine, Cond.selects RX5 yX5_addLine yX5_addLine, Cond.initialized RX5, Cond.code yX5_addLine cX5_addLine 5 (some .int), Cond.fieldLink RX5 15 "Twincuts$Web" "lines" "I", Cond.fieldLink RX5 21 "Twincuts$Web" "smaller" "[I", Cond.fieldLink RX5 25 "Twincuts$Web" "greater" "[I", Cond.fieldLink RX5 28 "Twincuts$Web" "cost" "[I", Cond.fieldLink RX5 31 "Twincuts$Web" "ends" "[I", Cond.fieldLink RX5 34 "Twincuts$Web" "linesAt" "[I", Cond.fieldLink RX5 18 "Twincuts$Web" "standing" "I", Cond.methodLink RX6 103 yX0_append, Cond.instanceMethod yX0_append, Cond.selects RX0 yX0_append yX0_append, Cond.initialized RX0, Cond.code yX0_append cX0_append 3 none, Cond.fieldLink RX0 16 "Twincuts$Drawing" "length" "[I", Cond.fieldLink RX0 11 "Twincuts$Drawing" "order" "[[I", Cond.methodLink RX6 71 yX6_learnAll, Cond.instanceMethod yX6_learnAll, Cond.selects RX6 yX6_learnAll yX6_learnAll]
def wsX6_line_r3 : List Cond := [Cond.code yX6_learnAll cX6_learnAll 1 none, Cond.fieldLink RX6 21 "Twincuts" "falls" "LTwincuts$Falls;", Cond.fieldLink RX6 35 "Twincuts" "forest" "LTwincuts$Forest;", Cond.fieldLink RX6 42 "Twincuts" "palette" "LTwincuts$Palette;", Cond.methodLink RX6 310 yX1_learn, Cond.instanceMethod yX1_learn, Cond.selects RX1 yX1_learn yX1_learn, Cond.initialized RX1, Cond.code yX1_learn cX1_learn 1 none, Cond.methodLink RX1 59 yX1_numberParts, Cond.instanceMethod yX1_numberParts, Cond.selects RX1 yX1_numberParts yX1_numberParts, Cond.code yX1_numberParts cX1_numberParts 4 none, Cond.fieldLink RX1 9 "Twincuts$Falls" "parts" "I", Cond.fieldLink RX1 55 "Twincuts$Falls" "web" "LTwincuts$Web;", Cond.static yX6_has, Cond.code yX6_has cX6_has 2 (some .boolean), Cond.methodLink RX1 101 yX5_allPoints, Cond.instanceMethod yX5_allPoints, Cond.selects RX5 yX5_allPoints yX5_allPoints, Cond.code yX5_allPoints cX5_allPoints 1 (some .int), Cond.fieldLink RX5 9 "Twincuts$Web" "points" "I", Cond.methodLink RX1 108 yX5_reach, Cond.instanceMethod yX5_reach]
def wsX6_line_r4 : List Cond := [Cond.selects RX5 yX5_reach yX5_reach, Cond.code yX5_reach cX5_reach 9 (some .int), Cond.methodLink RX1 112 yX1_putInPart, Cond.instanceMethod yX1_putInPart, Cond.selects RX1 yX1_putInPart yX1_putInPart, Cond.code yX1_putInPart cX1_putInPart 3 none, Cond.fieldLink RX1 30 "Twincuts$Falls" "part" "[I", Cond.fieldLink RX1 34 "Twincuts$Falls" "partSet" "[I", Cond.methodLink RX1 62 yX1_findBridges, Cond.instanceMethod yX1_findBridges, Cond.selects RX1 yX1_findBridges yX1_findBridges, Cond.code yX1_findBridges cX1_findBridges 3 none, Cond.fieldLink RX1 15 "Twincuts$Falls" "bridgeSet" "I", Cond.methodLink RX1 116 yX5_countParts, Cond.instanceMethod yX5_countParts, Cond.selects RX5 yX5_countParts yX5_countParts, Cond.code yX5_countParts cX5_countParts 6 (some .int), Cond.methodLink RX5 41 yX5_reach, Cond.methodLink RX1 65 yX1_findCutPoints, Cond.instanceMethod yX1_findCutPoints, Cond.selects RX1 yX1_findCutPoints yX1_findCutPoints, Cond.code yX1_findCutPoints cX1_findCutPoints 2 none, Cond.fieldLink RX1 18 "Twincuts$Falls" "cutPointSet" "I", Cond.methodLink RX1 68 yX1_joinBlocks]
def wsX6_line_r5 : List Cond := [Cond.instanceMethod yX1_joinBlocks, Cond.selects RX1 yX1_joinBlocks yX1_joinBlocks, Cond.code yX1_joinBlocks cX1_joinBlocks 3 none, Cond.fieldLink RX1 37 "Twincuts$Falls" "first" "[I", Cond.methodLink RX1 85 yX5_standingAt, Cond.instanceMethod yX5_standingAt, Cond.selects RX5 yX5_standingAt yX5_standingAt, Cond.code yX5_standingAt cX5_standingAt 2 (some .int), Cond.methodLink RX1 120 yX1_joinAtPoint, Cond.instanceMethod yX1_joinAtPoint, Cond.selects RX1 yX1_joinAtPoint yX1_joinAtPoint, Cond.code yX1_joinAtPoint cX1_joinAtPoint 6 none, Cond.methodLink RX1 124 yX5_otherEnd, Cond.instanceMethod yX5_otherEnd, Cond.selects RX5 yX5_otherEnd yX5_otherEnd, Cond.code yX5_otherEnd cX5_otherEnd 3 (some .int), Cond.methodLink RX1 127 yX1_join, Cond.instanceMethod yX1_join, Cond.selects RX1 yX1_join yX1_join, Cond.code yX1_join cX1_join 5 none, Cond.methodLink RX1 130 Lib.Math.min.name, Cond.methodLink RX1 71 yX1_numberBlocks, Cond.instanceMethod yX1_numberBlocks, Cond.selects RX1 yX1_numberBlocks yX1_numberBlocks]
def wsX6_line_r6 : List Cond := [Cond.code yX1_numberBlocks cX1_numberBlocks 2 none, Cond.fieldLink RX1 21 "Twincuts$Falls" "blocks" "I", Cond.fieldLink RX1 40 "Twincuts$Falls" "block" "[I", Cond.methodLink RX1 74 yX1_findPairs, Cond.instanceMethod yX1_findPairs, Cond.selects RX1 yX1_findPairs yX1_findPairs, Cond.code yX1_findPairs cX1_findPairs 3 none, Cond.fieldLink RX1 24 "Twincuts$Falls" "pairs" "I", Cond.fieldLink RX1 43 "Twincuts$Falls" "smallerOfPair" "[I", Cond.fieldLink RX1 46 "Twincuts$Falls" "greaterOfPair" "[I", Cond.methodLink RX1 135 yX1_isPair, Cond.instanceMethod yX1_isPair, Cond.selects RX1 yX1_isPair yX1_isPair, Cond.code yX1_isPair cX1_isPair 4 (some .boolean), Cond.methodLink RX1 77 yX1_findTwins, Cond.instanceMethod yX1_findTwins, Cond.selects RX1 yX1_findTwins yX1_findTwins, Cond.code yX1_findTwins cX1_findTwins 3 none, Cond.fieldLink RX1 27 "Twincuts$Falls" "twins" "I", Cond.fieldLink RX1 49 "Twincuts$Falls" "smallerOfTwins" "[I", Cond.fieldLink RX1 52 "Twincuts$Falls" "greaterOfTwins" "[I", Cond.methodLink RX1 138 yX1_areTwins, Cond.instanceMethod yX1_areTwins, Cond.selects RX1 yX1_areTwins yX1_areTwins]
def wsX6_line_r7 : List Cond := [Cond.code yX1_areTwins cX1_areTwins 4 (some .boolean), Cond.methodLink RX6 120 yX2_learn, Cond.instanceMethod yX2_learn, Cond.selects RX2 yX2_learn yX2_learn, Cond.initialized RX2, Cond.code yX2_learn cX2_learn 1 none, Cond.fieldLink RX2 16 "Twincuts$Forest" "cheapestSet" "I", Cond.fieldLink RX2 20 "Twincuts$Forest" "cheapestCost" "I", Cond.fieldLink RX2 27 "Twincuts$Forest" "web" "LTwincuts$Web;", Cond.methodLink RX2 63 yX5_allPoints, Cond.methodLink RX2 67 yX5_countParts, Cond.methodLink RX2 71 yX2_takeCheapest, Cond.instanceMethod yX2_takeCheapest, Cond.selects RX2 yX2_takeCheapest yX2_takeCheapest, Cond.code yX2_takeCheapest cX2_takeCheapest 3 none, Cond.fieldLink RX2 23 "Twincuts$Forest" "joined" "[I", Cond.methodLink RX2 77 yX2_takeIfNew, Cond.instanceMethod yX2_takeIfNew, Cond.selects RX2 yX2_takeIfNew yX2_takeIfNew, Cond.code yX2_takeIfNew cX2_takeIfNew 5 none, Cond.methodLink RX6 311 yX3_learn, Cond.instanceMethod yX3_learn, Cond.selects RX3 yX3_learn yX3_learn, Cond.initialized RX3]
def wsX6_line_r8 : List Cond := [Cond.code yX3_learn cX3_learn 2 none, Cond.fieldLink RX3 19 "Twincuts$Palette" "web" "LTwincuts$Web;", Cond.fieldLink RX3 9 "Twincuts$Palette" "colours" "I", Cond.methodLink RX3 28 yX3_paintsFrom, Cond.instanceMethod yX3_paintsFrom, Cond.selects RX3 yX3_paintsFrom yX3_paintsFrom, Cond.code yX3_paintsFrom cX3_paintsFrom 6 (some .boolean), Cond.fieldLink RX3 15 "Twincuts$Palette" "colour" "[I", Cond.methodLink RX3 39 Lib.Math.max.name, Cond.methodLink RX3 32 yX5_linkedWith, Cond.instanceMethod yX5_linkedWith, Cond.selects RX5 yX5_linkedWith yX5_linkedWith, Cond.code yX5_linkedWith cX5_linkedWith 4 (some .int), Cond.methodLink RX3 36 yX3_isFree, Cond.instanceMethod yX3_isFree, Cond.selects RX3 yX3_isFree yX3_isFree, Cond.code yX3_isFree cX3_isFree 5 (some .boolean), Cond.methodLink RX6 129 yX0_learn, Cond.instanceMethod yX0_learn, Cond.selects RX0 yX0_learn yX0_learn, Cond.code yX0_learn cX0_learn 4 none, Cond.fieldLink RX0 20 "Twincuts$Drawing" "walked" "I", Cond.fieldLink RX0 24 "Twincuts$Drawing" "face" "[I", Cond.fieldLink RX0 27 "Twincuts$Drawing" "web" "LTwincuts$Web;"]
def wsX6_line_r9 : List Cond := [Cond.methodLink RX0 64 yX0_walkBehind, Cond.instanceMethod yX0_walkBehind, Cond.selects RX0 yX0_walkBehind yX0_walkBehind, Cond.code yX0_walkBehind cX0_walkBehind 7 (some .int), Cond.methodLink RX0 74 yX0_placeOf, Cond.instanceMethod yX0_placeOf, Cond.selects RX0 yX0_placeOf yX0_placeOf, Cond.code yX0_placeOf cX0_placeOf 4 (some .int), Cond.methodLink RX0 31 yX0_placeBehind, Cond.instanceMethod yX0_placeBehind, Cond.selects RX0 yX0_placeBehind yX0_placeBehind, Cond.code yX0_placeBehind cX0_placeBehind 3 (some .int)]
def wsX6_line : List Cond := .code yX6_line cX6_line 5 (some .int) :: ((wsX6_line_r1 ++ (wsX6_line_r2 ++ (wsX6_line_r3 ++ (wsX6_line_r4 ++ (wsX6_line_r5 ++ (wsX6_line_r6 ++ (wsX6_line_r7 ++ (wsX6_line_r8 ++ wsX6_line_r9)))))))) ++ wsX60 ++ wsX50 ++ wsX00 ++ wsX10 ++ wsX20 ++ wsX30 ++ (vx_atS RX6 64 "java/lang/IllegalStateException" ["java/lang/RuntimeException", "java/lang/Exception"]).filter goodWord ++ (vx_atS RX6 334 "java/lang/IndexOutOfBoundsException" ["java/lang/RuntimeException", "java/lang/Exception"]).filter goodWord ++ (vx_atS RX6 253 "java/lang/IllegalArgumentException" ["java/lang/RuntimeException", "java/lang/Exception"]).filter goodWord)
def wsX6_demandLine : List Cond := .code yX6_demandLine cX6_demandLine 2 none :: ([.classLink RX6 330 "java/lang/IndexOutOfBoundsException", .initialized "java/lang/IndexOutOfBoundsException", .fieldLink RX6 10 "Twincuts" "web" "LTwincuts$Web;"] ++ wsX60 ++ wsX50 ++ (vx_atS RX6 334 "java/lang/IndexOutOfBoundsException" ["java/lang/RuntimeException", "java/lang/Exception"]).filter goodWord)
def wsX6_cut_r1 : List Cond := [Cond.fieldLink RX6 10 "Twincuts" "web" "LTwincuts$Web;", Cond.fieldLink RX6 21 "Twincuts" "falls" "LTwincuts$Falls;", Cond.methodLink RX6 106 yX6_demandLine, Cond.instanceMethod yX6_demandLine, Cond.selects RX6 yX6_demandLine yX6_demandLine, Cond.initialized RX6, Cond.code yX6_demandLine cX6_demandLine 2 none, Cond.classLink RX6 330 "java/lang/IndexOutOfBoundsException", Cond.initialized "java/lang/IndexOutOfBoundsException", Cond.methodLink RX6 109 yX5_setCut, Cond.instanceMethod yX5_setCut, Cond.selects RX5 yX5_setCut yX5_setCut, Cond.initialized RX5, Cond.code yX5_setCut cX5_setCut 3 none, Cond.fieldLink RX5 18 "Twincuts$Web" "standing" "I", Cond.methodLink RX6 71 yX6_learnAll, Cond.instanceMethod yX6_learnAll, Cond.selects RX6 yX6_learnAll yX6_learnAll, Cond.code yX6_learnAll cX6_learnAll 1 none, Cond.fieldLink RX6 35 "Twincuts" "forest" "LTwincuts$Forest;", Cond.fieldLink RX6 42 "Twincuts" "palette" "LTwincuts$Palette;", Cond.fieldLink RX6 49 "Twincuts" "drawing" "LTwincuts$Drawing;", Cond.methodLink RX6 310 yX1_learn, Cond.instanceMethod yX1_learn]
def wsX6_cut_r2 : List Cond := [Cond.selects RX1 yX1_learn yX1_learn, Cond.initialized RX1, Cond.code yX1_learn cX1_learn 1 none, Cond.methodLink RX1 59 yX1_numberParts, Cond.instanceMethod yX1_numberParts, Cond.selects RX1 yX1_numberParts yX1_numberParts, Cond.code yX1_numberParts cX1_numberParts 4 none, Cond.fieldLink RX1 9 "Twincuts$Falls" "parts" "I", Cond.fieldLink RX1 55 "Twincuts$Falls" "web" "LTwincuts$Web;", Cond.static yX6_has, Cond.code yX6_has cX6_has 2 (some .boolean), Cond.methodLink RX1 101 yX5_allPoints, Cond.instanceMethod yX5_allPoints, Cond.selects RX5 yX5_allPoints yX5_allPoints, Cond.code yX5_allPoints cX5_allPoints 1 (some .int), Cond.fieldLink RX5 9 "Twincuts$Web" "points" "I", Cond.methodLink RX1 108 yX5_reach, Cond.instanceMethod yX5_reach, Cond.selects RX5 yX5_reach yX5_reach, Cond.code yX5_reach cX5_reach 9 (some .int), Cond.fieldLink RX5 15 "Twincuts$Web" "lines" "I", Cond.fieldLink RX5 31 "Twincuts$Web" "ends" "[I", Cond.methodLink RX1 112 yX1_putInPart, Cond.instanceMethod yX1_putInPart]
def wsX6_cut_r3 : List Cond := [Cond.selects RX1 yX1_putInPart yX1_putInPart, Cond.code yX1_putInPart cX1_putInPart 3 none, Cond.fieldLink RX1 30 "Twincuts$Falls" "part" "[I", Cond.fieldLink RX1 34 "Twincuts$Falls" "partSet" "[I", Cond.methodLink RX1 62 yX1_findBridges, Cond.instanceMethod yX1_findBridges, Cond.selects RX1 yX1_findBridges yX1_findBridges, Cond.code yX1_findBridges cX1_findBridges 3 none, Cond.fieldLink RX1 15 "Twincuts$Falls" "bridgeSet" "I", Cond.methodLink RX1 116 yX5_countParts, Cond.instanceMethod yX5_countParts, Cond.selects RX5 yX5_countParts yX5_countParts, Cond.code yX5_countParts cX5_countParts 6 (some .int), Cond.methodLink RX5 41 yX5_reach, Cond.methodLink RX1 65 yX1_findCutPoints, Cond.instanceMethod yX1_findCutPoints, Cond.selects RX1 yX1_findCutPoints yX1_findCutPoints, Cond.code yX1_findCutPoints cX1_findCutPoints 2 none, Cond.fieldLink RX1 18 "Twincuts$Falls" "cutPointSet" "I", Cond.methodLink RX1 68 yX1_joinBlocks, Cond.instanceMethod yX1_joinBlocks, Cond.selects RX1 yX1_joinBlocks yX1_joinBlocks, Cond.code yX1_joinBlocks cX1_joinBlocks 3 none, Cond.fieldLink RX1 37 "Twincuts$Falls" "first" "[I"]
def wsX6_cut_r4 : List Cond := [Cond.methodLink RX1 85 yX5_standingAt, Cond.instanceMethod yX5_standingAt, Cond.selects RX5 yX5_standingAt yX5_standingAt, Cond.code yX5_standingAt cX5_standingAt 2 (some .int), Cond.fieldLink RX5 34 "Twincuts$Web" "linesAt" "[I", Cond.methodLink RX1 120 yX1_joinAtPoint, Cond.instanceMethod yX1_joinAtPoint, Cond.selects RX1 yX1_joinAtPoint yX1_joinAtPoint, Cond.code yX1_joinAtPoint cX1_joinAtPoint 6 none, Cond.methodLink RX1 124 yX5_otherEnd, Cond.instanceMethod yX5_otherEnd, Cond.selects RX5 yX5_otherEnd yX5_otherEnd, Cond.code yX5_otherEnd cX5_otherEnd 3 (some .int), Cond.fieldLink RX5 21 "Twincuts$Web" "smaller" "[I", Cond.fieldLink RX5 25 "Twincuts$Web" "greater" "[I", Cond.methodLink RX1 127 yX1_join, Cond.instanceMethod yX1_join, Cond.selects RX1 yX1_join yX1_join, Cond.code yX1_join cX1_join 5 none, Cond.methodLink RX1 130 Lib.Math.min.name, Cond.static Lib.Math.min.name, Cond.initialized "java/lang/Math", Cond.code Lib.Math.min.name Lib.Math.min.code 2 (some .int), Cond.methodLink RX1 71 yX1_numberBlocks]
def wsX6_cut_r5 : List Cond := [Cond.instanceMethod yX1_numberBlocks, Cond.selects RX1 yX1_numberBlocks yX1_numberBlocks, Cond.code yX1_numberBlocks cX1_numberBlocks 2 none, Cond.fieldLink RX1 21 "Twincuts$Falls" "blocks" "I", Cond.fieldLink RX1 40 "Twincuts$Falls" "block" "[I", Cond.methodLink RX1 74 yX1_findPairs, Cond.instanceMethod yX1_findPairs, Cond.selects RX1 yX1_findPairs yX1_findPairs, Cond.code yX1_findPairs cX1_findPairs 3 none, Cond.fieldLink RX1 24 "Twincuts$Falls" "pairs" "I", Cond.fieldLink RX1 43 "Twincuts$Falls" "smallerOfPair" "[I", Cond.fieldLink RX1 46 "Twincuts$Falls" "greaterOfPair" "[I", Cond.methodLink RX1 135 yX1_isPair, Cond.instanceMethod yX1_isPair, Cond.selects RX1 yX1_isPair yX1_isPair, Cond.code yX1_isPair cX1_isPair 4 (some .boolean), Cond.methodLink RX1 77 yX1_findTwins, Cond.instanceMethod yX1_findTwins, Cond.selects RX1 yX1_findTwins yX1_findTwins, Cond.code yX1_findTwins cX1_findTwins 3 none, Cond.fieldLink RX1 27 "Twincuts$Falls" "twins" "I", Cond.fieldLink RX1 49 "Twincuts$Falls" "smallerOfTwins" "[I", Cond.fieldLink RX1 52 "Twincuts$Falls" "greaterOfTwins" "[I", Cond.methodLink RX1 138 yX1_areTwins]
def wsX6_cut_r6 : List Cond := [Cond.instanceMethod yX1_areTwins, Cond.selects RX1 yX1_areTwins yX1_areTwins, Cond.code yX1_areTwins cX1_areTwins 4 (some .boolean), Cond.methodLink RX6 120 yX2_learn, Cond.instanceMethod yX2_learn, Cond.selects RX2 yX2_learn yX2_learn, Cond.initialized RX2, Cond.code yX2_learn cX2_learn 1 none, Cond.fieldLink RX2 16 "Twincuts$Forest" "cheapestSet" "I", Cond.fieldLink RX2 20 "Twincuts$Forest" "cheapestCost" "I", Cond.fieldLink RX2 27 "Twincuts$Forest" "web" "LTwincuts$Web;", Cond.methodLink RX2 63 yX5_allPoints, Cond.methodLink RX2 67 yX5_countParts, Cond.methodLink RX2 71 yX2_takeCheapest, Cond.instanceMethod yX2_takeCheapest, Cond.selects RX2 yX2_takeCheapest yX2_takeCheapest, Cond.code yX2_takeCheapest cX2_takeCheapest 3 none, Cond.fieldLink RX2 23 "Twincuts$Forest" "joined" "[I", Cond.methodLink RX2 77 yX2_takeIfNew, Cond.instanceMethod yX2_takeIfNew, Cond.selects RX2 yX2_takeIfNew yX2_takeIfNew, Cond.code yX2_takeIfNew cX2_takeIfNew 5 none, Cond.methodLink RX6 311 yX3_learn, Cond.instanceMethod yX3_learn]
def wsX6_cut_r7 : List Cond := [Cond.selects RX3 yX3_learn yX3_learn, Cond.initialized RX3, Cond.code yX3_learn cX3_learn 2 none, Cond.fieldLink RX3 19 "Twincuts$Palette" "web" "LTwincuts$Web;", Cond.fieldLink RX3 9 "Twincuts$Palette" "colours" "I", Cond.methodLink RX3 28 yX3_paintsFrom, Cond.instanceMethod yX3_paintsFrom, Cond.selects RX3 yX3_paintsFrom yX3_paintsFrom, Cond.code yX3_paintsFrom cX3_paintsFrom 6 (some .boolean), Cond.fieldLink RX3 15 "Twincuts$Palette" "colour" "[I", Cond.methodLink RX3 39 Lib.Math.max.name, Cond.static Lib.Math.max.name, Cond.code Lib.Math.max.name Lib.Math.max.code 2 (some .int), Cond.methodLink RX3 32 yX5_linkedWith, Cond.instanceMethod yX5_linkedWith, Cond.selects RX5 yX5_linkedWith yX5_linkedWith, Cond.code yX5_linkedWith cX5_linkedWith 4 (some .int), Cond.methodLink RX3 36 yX3_isFree, Cond.instanceMethod yX3_isFree, Cond.selects RX3 yX3_isFree yX3_isFree, Cond.code yX3_isFree cX3_isFree 5 (some .boolean), Cond.methodLink RX6 129 yX0_learn, Cond.instanceMethod yX0_learn, Cond.selects RX0 yX0_learn yX0_learn]
def wsX6_cut_r8 : List Cond := [Cond.initialized RX0, Cond.code yX0_learn cX0_learn 4 none, Cond.fieldLink RX0 20 "Twincuts$Drawing" "walked" "I", Cond.fieldLink RX0 24 "Twincuts$Drawing" "face" "[I", Cond.fieldLink RX0 27 "Twincuts$Drawing" "web" "LTwincuts$Web;", Cond.methodLink RX0 64 yX0_walkBehind, Cond.instanceMethod yX0_walkBehind, Cond.selects RX0 yX0_walkBehind yX0_walkBehind, Cond.code yX0_walkBehind cX0_walkBehind 7 (some .int), Cond.fieldLink RX0 16 "Twincuts$Drawing" "length" "[I", Cond.fieldLink RX0 11 "Twincuts$Drawing" "order" "[[I", Cond.methodLink RX0 74 yX0_placeOf, Cond.instanceMethod yX0_placeOf, Cond.selects RX0 yX0_placeOf yX0_placeOf, Cond.code yX0_placeOf cX0_placeOf 4 (some .int), Cond.methodLink RX0 31 yX0_placeBehind, Cond.instanceMethod yX0_placeBehind, Cond.selects RX0 yX0_placeBehind yX0_placeBehind, Cond.code yX0_placeBehind cX0_placeBehind 3 (some .int)]
def wsX6_cut : List Cond := .code yX6_cut cX6_cut 3 (some .int) :: ((wsX6_cut_r1 ++ (wsX6_cut_r2 ++ (wsX6_cut_r3 ++ (wsX6_cut_r4 ++ (wsX6_cut_r5 ++ (wsX6_cut_r6 ++ (wsX6_cut_r7 ++ wsX6_cut_r8))))))) ++ wsX60 ++ wsX10 ++ wsX50 ++ wsX20 ++ wsX30 ++ wsX00 ++ (vx_atS RX6 334 "java/lang/IndexOutOfBoundsException" ["java/lang/RuntimeException", "java/lang/Exception"]).filter goodWord)
def wsX6_price_r1 : List Cond := [Cond.fieldLink RX6 10 "Twincuts" "web" "LTwincuts$Web;", Cond.fieldLink RX6 35 "Twincuts" "forest" "LTwincuts$Forest;", Cond.methodLink RX6 106 yX6_demandLine, Cond.instanceMethod yX6_demandLine, Cond.selects RX6 yX6_demandLine yX6_demandLine, Cond.initialized RX6, Cond.code yX6_demandLine cX6_demandLine 2 none, Cond.classLink RX6 330 "java/lang/IndexOutOfBoundsException", Cond.initialized "java/lang/IndexOutOfBoundsException", Cond.methodLink RX6 82 yX6_demandCost, Cond.static yX6_demandCost, Cond.code yX6_demandCost cX6_demandCost 1 none, Cond.classLink RX6 249 "java/lang/IllegalArgumentException", Cond.initialized "java/lang/IllegalArgumentException", Cond.methodLink RX6 120 yX2_learn, Cond.instanceMethod yX2_learn, Cond.selects RX2 yX2_learn yX2_learn, Cond.initialized RX2, Cond.code yX2_learn cX2_learn 1 none, Cond.fieldLink RX2 16 "Twincuts$Forest" "cheapestSet" "I", Cond.fieldLink RX2 20 "Twincuts$Forest" "cheapestCost" "I", Cond.fieldLink RX2 27 "Twincuts$Forest" "web" "LTwincuts$Web;", Cond.methodLink RX2 63 yX5_allPoints, Cond.instanceMethod yX5_allPoints]
def wsX6_price_r2 : List Cond := [Cond.selects RX5 yX5_allPoints yX5_allPoints, Cond.initialized RX5, Cond.code yX5_allPoints cX5_allPoints 1 (some .int), Cond.fieldLink RX5 9 "Twincuts$Web" "points" "I", Cond.methodLink RX2 67 yX5_countParts, Cond.instanceMethod yX5_countParts, Cond.selects RX5 yX5_countParts yX5_countParts, Cond.code yX5_countParts cX5_countParts 6 (some .int), Cond.static yX6_has, Cond.code yX6_has cX6_has 2 (some .boolean), Cond.methodLink RX5 41 yX5_reach, Cond.instanceMethod yX5_reach, Cond.selects RX5 yX5_reach yX5_reach, Cond.code yX5_reach cX5_reach 9 (some .int), Cond.fieldLink RX5 15 "Twincuts$Web" "lines" "I", Cond.fieldLink RX5 31 "Twincuts$Web" "ends" "[I", Cond.methodLink RX2 71 yX2_takeCheapest, Cond.instanceMethod yX2_takeCheapest, Cond.selects RX2 yX2_takeCheapest yX2_takeCheapest, Cond.code yX2_takeCheapest cX2_takeCheapest 3 none, Cond.fieldLink RX2 23 "Twincuts$Forest" "joined" "[I", Cond.methodLink RX2 77 yX2_takeIfNew, Cond.instanceMethod yX2_takeIfNew, Cond.selects RX2 yX2_takeIfNew yX2_takeIfNew]
def wsX6_price_r3 : List Cond := [Cond.code yX2_takeIfNew cX2_takeIfNew 5 none]
def wsX6_price : List Cond := .code yX6_price cX6_price 4 (some .int) :: ((wsX6_price_r1 ++ (wsX6_price_r2 ++ wsX6_price_r3)) ++ wsX60 ++ wsX50 ++ wsX20 ++ (vx_atS RX6 334 "java/lang/IndexOutOfBoundsException" ["java/lang/RuntimeException", "java/lang/Exception"]).filter goodWord ++ (vx_atS RX6 253 "java/lang/IllegalArgumentException" ["java/lang/RuntimeException", "java/lang/Exception"]).filter goodWord)
def wsX6_demandPlace : List Cond := .code yX6_demandPlace cX6_demandPlace 3 none :: ([.classLink RX6 330 "java/lang/IndexOutOfBoundsException", .initialized "java/lang/IndexOutOfBoundsException", .fieldLink RX6 49 "Twincuts" "drawing" "LTwincuts$Drawing;"] ++ wsX60 ++ wsX00 ++ (vx_atS RX6 334 "java/lang/IndexOutOfBoundsException" ["java/lang/RuntimeException", "java/lang/Exception"]).filter goodWord)
def wsX6_turn_r1 : List Cond := [Cond.fieldLink RX6 49 "Twincuts" "drawing" "LTwincuts$Drawing;", Cond.methodLink RX6 74 yX6_demandPoint, Cond.instanceMethod yX6_demandPoint, Cond.selects RX6 yX6_demandPoint yX6_demandPoint, Cond.initialized RX6, Cond.code yX6_demandPoint cX6_demandPoint 2 none, Cond.classLink RX6 330 "java/lang/IndexOutOfBoundsException", Cond.initialized "java/lang/IndexOutOfBoundsException", Cond.fieldLink RX6 10 "Twincuts" "web" "LTwincuts$Web;", Cond.methodLink RX6 123 yX6_demandPlace, Cond.instanceMethod yX6_demandPlace, Cond.selects RX6 yX6_demandPlace yX6_demandPlace, Cond.code yX6_demandPlace cX6_demandPlace 3 none, Cond.methodLink RX6 126 yX0_swap, Cond.instanceMethod yX0_swap, Cond.selects RX0 yX0_swap yX0_swap, Cond.initialized RX0, Cond.code yX0_swap cX0_swap 5 none, Cond.fieldLink RX0 11 "Twincuts$Drawing" "order" "[[I", Cond.methodLink RX0 31 yX0_placeBehind, Cond.instanceMethod yX0_placeBehind, Cond.selects RX0 yX0_placeBehind yX0_placeBehind, Cond.code yX0_placeBehind cX0_placeBehind 3 (some .int), Cond.fieldLink RX0 16 "Twincuts$Drawing" "length" "[I"]
def wsX6_turn_r2 : List Cond := [Cond.methodLink RX6 129 yX0_learn, Cond.instanceMethod yX0_learn, Cond.selects RX0 yX0_learn yX0_learn, Cond.code yX0_learn cX0_learn 4 none, Cond.fieldLink RX0 20 "Twincuts$Drawing" "walked" "I", Cond.fieldLink RX0 24 "Twincuts$Drawing" "face" "[I", Cond.fieldLink RX0 27 "Twincuts$Drawing" "web" "LTwincuts$Web;", Cond.static yX6_has, Cond.code yX6_has cX6_has 2 (some .boolean), Cond.methodLink RX0 64 yX0_walkBehind, Cond.instanceMethod yX0_walkBehind, Cond.selects RX0 yX0_walkBehind yX0_walkBehind, Cond.code yX0_walkBehind cX0_walkBehind 7 (some .int), Cond.methodLink RX0 74 yX0_placeOf, Cond.instanceMethod yX0_placeOf, Cond.selects RX0 yX0_placeOf yX0_placeOf, Cond.code yX0_placeOf cX0_placeOf 4 (some .int), Cond.methodLink RX6 130 yX0_allFaces, Cond.instanceMethod yX0_allFaces, Cond.selects RX0 yX0_allFaces yX0_allFaces, Cond.code yX0_allFaces cX0_allFaces 3 (some .int), Cond.methodLink RX0 80 yX5_standingAt, Cond.instanceMethod yX5_standingAt, Cond.selects RX5 yX5_standingAt yX5_standingAt]
def wsX6_turn_r3 : List Cond := [Cond.initialized RX5, Cond.code yX5_standingAt cX5_standingAt 2 (some .int), Cond.fieldLink RX5 34 "Twincuts$Web" "linesAt" "[I", Cond.fieldLink RX5 18 "Twincuts$Web" "standing" "I"]
def wsX6_turn : List Cond := .code yX6_turn cX6_turn 3 (some .int) :: ((wsX6_turn_r1 ++ (wsX6_turn_r2 ++ wsX6_turn_r3)) ++ wsX60 ++ wsX50 ++ wsX00 ++ (vx_atS RX6 334 "java/lang/IndexOutOfBoundsException" ["java/lang/RuntimeException", "java/lang/Exception"]).filter goodWord)
def wsX6_demandWhat : List Cond := .code yX6_demandWhat cX6_demandWhat 2 none :: ([.classLink RX6 249 "java/lang/IllegalArgumentException", .initialized "java/lang/IllegalArgumentException"] ++ (vx_atS RX6 253 "java/lang/IllegalArgumentException" ["java/lang/RuntimeException", "java/lang/Exception"]).filter goodWord)
def wsX6_ofPoint_r1 : List Cond := [Cond.fieldLink RX6 21 "Twincuts" "falls" "LTwincuts$Falls;", Cond.fieldLink RX6 10 "Twincuts" "web" "LTwincuts$Web;", Cond.fieldLink RX6 42 "Twincuts" "palette" "LTwincuts$Palette;", Cond.fieldLink RX6 49 "Twincuts" "drawing" "LTwincuts$Drawing;", Cond.methodLink RX6 74 yX6_demandPoint, Cond.instanceMethod yX6_demandPoint, Cond.selects RX6 yX6_demandPoint yX6_demandPoint, Cond.initialized RX6, Cond.code yX6_demandPoint cX6_demandPoint 2 none, Cond.classLink RX6 330 "java/lang/IndexOutOfBoundsException", Cond.initialized "java/lang/IndexOutOfBoundsException", Cond.methodLink RX6 133 yX6_demandWhat, Cond.static yX6_demandWhat, Cond.code yX6_demandWhat cX6_demandWhat 2 none, Cond.classLink RX6 249 "java/lang/IllegalArgumentException", Cond.initialized "java/lang/IllegalArgumentException", Cond.methodLink RX6 139 yX5_standingAt, Cond.instanceMethod yX5_standingAt, Cond.selects RX5 yX5_standingAt yX5_standingAt, Cond.initialized RX5, Cond.code yX5_standingAt cX5_standingAt 2 (some .int), Cond.fieldLink RX5 34 "Twincuts$Web" "linesAt" "[I", Cond.fieldLink RX5 18 "Twincuts$Web" "standing" "I", Cond.methodLink RX6 143 yJ6_bitCount_0f7a4]
def wsX6_ofPoint_r2 : List Cond := [Cond.static yJ6_bitCount_0f7a4, Cond.initialized RJ6, Cond.code yJ6_bitCount_0f7a4 cJ6_bitCount_0f7a4 1 (some .int), Cond.constant RJ6 265 (1431655765), Cond.constant RJ6 266 (858993459), Cond.constant RJ6 267 (252645135), Cond.methodLink RX6 151 yX6_has, Cond.static yX6_has, Cond.code yX6_has cX6_has 2 (some .boolean), Cond.methodLink RX6 155 yX1_blocksAt, Cond.instanceMethod yX1_blocksAt, Cond.selects RX1 yX1_blocksAt yX1_blocksAt, Cond.initialized RX1, Cond.code yX1_blocksAt cX1_blocksAt 4 (some .int), Cond.fieldLink RX1 55 "Twincuts$Falls" "web" "LTwincuts$Web;", Cond.fieldLink RX1 40 "Twincuts$Falls" "block" "[I", Cond.methodLink RX1 85 yX5_standingAt, Cond.methodLink RX1 93 yJ6_bitCount_0f7a4, Cond.methodLink RX6 161 yX5_linkedWith, Cond.instanceMethod yX5_linkedWith, Cond.selects RX5 yX5_linkedWith yX5_linkedWith, Cond.code yX5_linkedWith cX5_linkedWith 4 (some .int), Cond.fieldLink RX5 15 "Twincuts$Web" "lines" "I", Cond.fieldLink RX5 31 "Twincuts$Web" "ends" "[I"]
def wsX6_ofPoint : List Cond := .code yX6_ofPoint cX6_ofPoint 3 (some .int) :: ((wsX6_ofPoint_r1 ++ wsX6_ofPoint_r2) ++ wsX60 ++ wsX10 ++ wsX30 ++ wsX00 ++ wsX50 ++ (vx_atS RX6 334 "java/lang/IndexOutOfBoundsException" ["java/lang/RuntimeException", "java/lang/Exception"]).filter goodWord ++ (vx_atS RX6 253 "java/lang/IllegalArgumentException" ["java/lang/RuntimeException", "java/lang/Exception"]).filter goodWord)
def wsX6_ofLine : List Cond := .code yX6_ofLine cX6_ofLine 3 (some .int) :: ([.fieldLink RX6 10 "Twincuts" "web" "LTwincuts$Web;", .fieldLink RX6 21 "Twincuts" "falls" "LTwincuts$Falls;", .fieldLink RX6 35 "Twincuts" "forest" "LTwincuts$Forest;", .fieldLink RX6 49 "Twincuts" "drawing" "LTwincuts$Drawing;", .methodLink RX6 106 yX6_demandLine, .instanceMethod yX6_demandLine, .selects RX6 yX6_demandLine yX6_demandLine, .initialized RX6, .code yX6_demandLine cX6_demandLine 2 none, .classLink RX6 330 "java/lang/IndexOutOfBoundsException", .initialized "java/lang/IndexOutOfBoundsException", .methodLink RX6 133 yX6_demandWhat, .static yX6_demandWhat, .code yX6_demandWhat cX6_demandWhat 2 none, .classLink RX6 249 "java/lang/IllegalArgumentException", .initialized "java/lang/IllegalArgumentException", .methodLink RX6 151 yX6_has, .static yX6_has, .code yX6_has cX6_has 2 (some .boolean)] ++ wsX60 ++ wsX50 ++ wsX10 ++ wsX20 ++ wsX00 ++ (vx_atS RX6 334 "java/lang/IndexOutOfBoundsException" ["java/lang/RuntimeException", "java/lang/Exception"]).filter goodWord ++ (vx_atS RX6 253 "java/lang/IllegalArgumentException" ["java/lang/RuntimeException", "java/lang/Exception"]).filter goodWord)
def wsX6_handles : List Cond := .code yX6_handles cX6_handles 2 (some .int) :: ([.fieldLink RX6 21 "Twincuts" "falls" "LTwincuts$Falls;", .fieldLink RX6 10 "Twincuts" "web" "LTwincuts$Web;", .fieldLink RX6 49 "Twincuts" "drawing" "LTwincuts$Drawing;", .methodLink RX6 143 yJ6_bitCount_0f7a4, .static yJ6_bitCount_0f7a4, .initialized RJ6, .code yJ6_bitCount_0f7a4 cJ6_bitCount_0f7a4 1 (some .int), .constant RJ6 265 (1431655765), .constant RJ6 266 (858993459), .constant RJ6 267 (252645135), .methodLink RX6 130 yX0_allFaces, .instanceMethod yX0_allFaces, .selects RX0 yX0_allFaces yX0_allFaces, .initialized RX0, .code yX0_allFaces cX0_allFaces 3 (some .int), .fieldLink RX0 20 "Twincuts$Drawing" "walked" "I", .fieldLink RX0 27 "Twincuts$Drawing" "web" "LTwincuts$Web;", .methodLink RX0 80 yX5_standingAt, .instanceMethod yX5_standingAt, .selects RX5 yX5_standingAt yX5_standingAt, .initialized RX5, .code yX5_standingAt cX5_standingAt 2 (some .int), .fieldLink RX5 34 "Twincuts$Web" "linesAt" "[I", .fieldLink RX5 18 "Twincuts$Web" "standing" "I"] ++ wsX60 ++ wsX10 ++ wsX50 ++ wsX00)
def wsX6_net_r1 : List Cond := [Cond.fieldLink RX6 10 "Twincuts" "web" "LTwincuts$Web;", Cond.fieldLink RX6 21 "Twincuts" "falls" "LTwincuts$Falls;", Cond.fieldLink RX6 35 "Twincuts" "forest" "LTwincuts$Forest;", Cond.fieldLink RX6 42 "Twincuts" "palette" "LTwincuts$Palette;", Cond.fieldLink RX6 49 "Twincuts" "drawing" "LTwincuts$Drawing;", Cond.fieldLink RX6 53 "Twincuts" "refused" "I", Cond.methodLink RX6 133 yX6_demandWhat, Cond.static yX6_demandWhat, Cond.initialized RX6, Cond.code yX6_demandWhat cX6_demandWhat 2 none, Cond.classLink RX6 249 "java/lang/IllegalArgumentException", Cond.initialized "java/lang/IllegalArgumentException", Cond.methodLink RX6 143 yJ6_bitCount_0f7a4, Cond.static yJ6_bitCount_0f7a4, Cond.initialized RJ6, Cond.code yJ6_bitCount_0f7a4 cJ6_bitCount_0f7a4 1 (some .int), Cond.constant RJ6 265 (1431655765), Cond.constant RJ6 266 (858993459), Cond.constant RJ6 267 (252645135), Cond.methodLink RX6 130 yX0_allFaces, Cond.instanceMethod yX0_allFaces, Cond.selects RX0 yX0_allFaces yX0_allFaces, Cond.initialized RX0, Cond.code yX0_allFaces cX0_allFaces 3 (some .int)]
def wsX6_net_r2 : List Cond := [Cond.fieldLink RX0 20 "Twincuts$Drawing" "walked" "I", Cond.fieldLink RX0 27 "Twincuts$Drawing" "web" "LTwincuts$Web;", Cond.methodLink RX0 80 yX5_standingAt, Cond.instanceMethod yX5_standingAt, Cond.selects RX5 yX5_standingAt yX5_standingAt, Cond.initialized RX5, Cond.code yX5_standingAt cX5_standingAt 2 (some .int), Cond.fieldLink RX5 34 "Twincuts$Web" "linesAt" "[I", Cond.fieldLink RX5 18 "Twincuts$Web" "standing" "I", Cond.methodLink RX6 203 yX6_handles, Cond.instanceMethod yX6_handles, Cond.selects RX6 yX6_handles yX6_handles, Cond.code yX6_handles cX6_handles 2 (some .int), Cond.methodLink RX6 206 yX5_greatestDistance, Cond.instanceMethod yX5_greatestDistance, Cond.selects RX5 yX5_greatestDistance yX5_greatestDistance, Cond.code yX5_greatestDistance cX5_greatestDistance 4 (some .int), Cond.fieldLink RX5 9 "Twincuts$Web" "points" "I", Cond.methodLink RX5 56 Lib.Math.max.name, Cond.static Lib.Math.max.name, Cond.initialized "java/lang/Math", Cond.code Lib.Math.max.name Lib.Math.max.code 2 (some .int), Cond.methodLink RX5 52 yX5_distance, Cond.instanceMethod yX5_distance]
def wsX6_net_r3 : List Cond := [Cond.selects RX5 yX5_distance yX5_distance, Cond.code yX5_distance cX5_distance 5 (some .int), Cond.static yX6_has, Cond.code yX6_has cX6_has 2 (some .boolean), Cond.methodLink RX5 45 yX5_linkedWithAny, Cond.instanceMethod yX5_linkedWithAny, Cond.selects RX5 yX5_linkedWithAny yX5_linkedWithAny, Cond.code yX5_linkedWithAny cX5_linkedWithAny 4 (some .int), Cond.methodLink RX5 49 yX5_linkedWith, Cond.instanceMethod yX5_linkedWith, Cond.selects RX5 yX5_linkedWith yX5_linkedWith, Cond.code yX5_linkedWith cX5_linkedWith 4 (some .int), Cond.fieldLink RX5 15 "Twincuts$Web" "lines" "I", Cond.fieldLink RX5 31 "Twincuts$Web" "ends" "[I"]
def wsX6_net : List Cond := .code yX6_net cX6_net 2 (some .int) :: ((wsX6_net_r1 ++ (wsX6_net_r2 ++ wsX6_net_r3)) ++ wsX60 ++ wsX50 ++ wsX10 ++ wsX20 ++ wsX30 ++ wsX00 ++ (vx_atS RX6 253 "java/lang/IllegalArgumentException" ["java/lang/RuntimeException", "java/lang/Exception"]).filter goodWord)
def wsX6_demandNth : List Cond := .code yX6_demandNth cX6_demandNth 1 none :: ([.classLink RX6 249 "java/lang/IllegalArgumentException", .initialized "java/lang/IllegalArgumentException"] ++ (vx_atS RX6 253 "java/lang/IllegalArgumentException" ["java/lang/RuntimeException", "java/lang/Exception"]).filter goodWord)
def wsX6_pair : List Cond := .code yX6_pair cX6_pair 3 (some .int) :: ([.fieldLink RX6 21 "Twincuts" "falls" "LTwincuts$Falls;", .methodLink RX6 209 yX6_demandNth, .static yX6_demandNth, .initialized RX6, .code yX6_demandNth cX6_demandNth 1 none, .classLink RX6 249 "java/lang/IllegalArgumentException", .initialized "java/lang/IllegalArgumentException", .methodLink RX6 212 yX1_pairPoint, .instanceMethod yX1_pairPoint, .selects RX1 yX1_pairPoint yX1_pairPoint, .initialized RX1, .code yX1_pairPoint cX1_pairPoint 3 (some .int), .fieldLink RX1 24 "Twincuts$Falls" "pairs" "I", .fieldLink RX1 46 "Twincuts$Falls" "greaterOfPair" "[I", .fieldLink RX1 43 "Twincuts$Falls" "smallerOfPair" "[I"] ++ wsX60 ++ wsX10 ++ (vx_atS RX6 253 "java/lang/IllegalArgumentException" ["java/lang/RuntimeException", "java/lang/Exception"]).filter goodWord)
def wsX6_twin : List Cond := .code yX6_twin cX6_twin 3 (some .int) :: ([.fieldLink RX6 21 "Twincuts" "falls" "LTwincuts$Falls;", .methodLink RX6 209 yX6_demandNth, .static yX6_demandNth, .initialized RX6, .code yX6_demandNth cX6_demandNth 1 none, .classLink RX6 249 "java/lang/IllegalArgumentException", .initialized "java/lang/IllegalArgumentException", .methodLink RX6 216 yX1_twinLine, .instanceMethod yX1_twinLine, .selects RX1 yX1_twinLine yX1_twinLine, .initialized RX1, .code yX1_twinLine cX1_twinLine 3 (some .int), .fieldLink RX1 27 "Twincuts$Falls" "twins" "I", .fieldLink RX1 52 "Twincuts$Falls" "greaterOfTwins" "[I", .fieldLink RX1 49 "Twincuts$Falls" "smallerOfTwins" "[I"] ++ wsX60 ++ wsX10 ++ (vx_atS RX6 253 "java/lang/IllegalArgumentException" ["java/lang/RuntimeException", "java/lang/Exception"]).filter goodWord)
def wsX6_between_r1 : List Cond := [Cond.fieldLink RX6 28 "Twincuts" "ways" "LTwincuts$Ways;", Cond.fieldLink RX6 10 "Twincuts" "web" "LTwincuts$Web;", Cond.methodLink RX6 74 yX6_demandPoint, Cond.instanceMethod yX6_demandPoint, Cond.selects RX6 yX6_demandPoint yX6_demandPoint, Cond.initialized RX6, Cond.code yX6_demandPoint cX6_demandPoint 2 none, Cond.classLink RX6 330 "java/lang/IndexOutOfBoundsException", Cond.initialized "java/lang/IndexOutOfBoundsException", Cond.methodLink RX6 78 yX6_demandUnlike, Cond.static yX6_demandUnlike, Cond.code yX6_demandUnlike cX6_demandUnlike 2 none, Cond.classLink RX6 249 "java/lang/IllegalArgumentException", Cond.initialized "java/lang/IllegalArgumentException", Cond.methodLink RX6 133 yX6_demandWhat, Cond.static yX6_demandWhat, Cond.code yX6_demandWhat cX6_demandWhat 2 none, Cond.methodLink RX6 219 yX4_countWays, Cond.instanceMethod yX4_countWays, Cond.selects RX4 yX4_countWays yX4_countWays, Cond.initialized RX4, Cond.code yX4_countWays cX4_countWays 5 (some .int), Cond.fieldLink RX4 23 "Twincuts$Ways" "web" "LTwincuts$Web;", Cond.fieldLink RX4 13 "Twincuts$Ways" "room" "[[I"]
def wsX6_between_r2 : List Cond := [Cond.methodLink RX4 27 yX4_clearRoom, Cond.instanceMethod yX4_clearRoom, Cond.selects RX4 yX4_clearRoom yX4_clearRoom, Cond.code yX4_clearRoom cX4_clearRoom 3 none, Cond.static yX6_has, Cond.code yX6_has cX6_has 2 (some .boolean), Cond.methodLink RX4 52 yX4_countFlow, Cond.instanceMethod yX4_countFlow, Cond.selects RX4 yX4_countFlow yX4_countFlow, Cond.code yX4_countFlow cX4_countFlow 5 (some .int), Cond.methodLink RX4 56 yX4_findsWay, Cond.instanceMethod yX4_findsWay, Cond.selects RX4 yX4_findsWay yX4_findsWay, Cond.code yX4_findsWay cX4_findsWay 7 (some .boolean), Cond.fieldLink RX4 16 "Twincuts$Ways" "cameFrom" "[I", Cond.fieldLink RX4 20 "Twincuts$Ways" "queue" "[I", Cond.methodLink RX4 59 yX4_fillWay, Cond.instanceMethod yX4_fillWay, Cond.selects RX4 yX4_fillWay yX4_fillWay, Cond.code yX4_fillWay cX4_fillWay 6 none, Cond.methodLink RX6 222 yX4_countLineWays, Cond.instanceMethod yX4_countLineWays, Cond.selects RX4 yX4_countLineWays yX4_countLineWays, Cond.code yX4_countLineWays cX4_countLineWays 4 (some .int)]
def wsX6_between_r3 : List Cond := [Cond.methodLink RX6 225 yX5_distance, Cond.instanceMethod yX5_distance, Cond.selects RX5 yX5_distance yX5_distance, Cond.initialized RX5, Cond.code yX5_distance cX5_distance 5 (some .int), Cond.methodLink RX5 45 yX5_linkedWithAny, Cond.instanceMethod yX5_linkedWithAny, Cond.selects RX5 yX5_linkedWithAny yX5_linkedWithAny, Cond.code yX5_linkedWithAny cX5_linkedWithAny 4 (some .int), Cond.fieldLink RX5 9 "Twincuts$Web" "points" "I", Cond.methodLink RX5 49 yX5_linkedWith, Cond.instanceMethod yX5_linkedWith, Cond.selects RX5 yX5_linkedWith yX5_linkedWith, Cond.code yX5_linkedWith cX5_linkedWith 4 (some .int), Cond.fieldLink RX5 15 "Twincuts$Web" "lines" "I", Cond.fieldLink RX5 34 "Twincuts$Web" "linesAt" "[I", Cond.fieldLink RX5 18 "Twincuts$Web" "standing" "I", Cond.fieldLink RX5 31 "Twincuts$Web" "ends" "[I", Cond.methodLink RX6 228 yX4_gap, Cond.instanceMethod yX4_gap, Cond.selects RX4 yX4_gap yX4_gap, Cond.code yX4_gap cX4_gap 7 (some .int), Cond.methodLink RX4 63 yX5_linkedWith, Cond.methodLink RX4 67 yX5_allPoints]
def wsX6_between_r4 : List Cond := [Cond.instanceMethod yX5_allPoints, Cond.selects RX5 yX5_allPoints yX5_allPoints, Cond.code yX5_allPoints cX5_allPoints 1 (some .int), Cond.methodLink RX4 71 yJ6_bitCount_0f7a4, Cond.static yJ6_bitCount_0f7a4, Cond.initialized RJ6, Cond.code yJ6_bitCount_0f7a4 cJ6_bitCount_0f7a4 1 (some .int), Cond.constant RJ6 265 (1431655765), Cond.constant RJ6 266 (858993459), Cond.constant RJ6 267 (252645135), Cond.methodLink RX4 76 yX4_isApartWithout, Cond.instanceMethod yX4_isApartWithout, Cond.selects RX4 yX4_isApartWithout yX4_isApartWithout, Cond.code yX4_isApartWithout cX4_isApartWithout 4 (some .boolean), Cond.methodLink RX4 80 yX5_reach, Cond.instanceMethod yX5_reach, Cond.selects RX5 yX5_reach yX5_reach, Cond.code yX5_reach cX5_reach 9 (some .int), Cond.methodLink RX6 231 yX4_side, Cond.instanceMethod yX4_side, Cond.selects RX4 yX4_side yX4_side, Cond.code yX4_side cX4_side 8 (some .int), Cond.methodLink RX4 84 yX5_linesOutOf, Cond.instanceMethod yX5_linesOutOf]
def wsX6_between_r5 : List Cond := [Cond.selects RX5 yX5_linesOutOf yX5_linesOutOf, Cond.code yX5_linesOutOf cX5_linesOutOf 4 (some .int), Cond.methodLink RX5 61 yX5_standingAt, Cond.instanceMethod yX5_standingAt, Cond.selects RX5 yX5_standingAt yX5_standingAt, Cond.code yX5_standingAt cX5_standingAt 2 (some .int), Cond.methodLink RX6 234 yX5_linesOutOf]
def wsX6_between : List Cond := .code yX6_between cX6_between 4 (some .int) :: ((wsX6_between_r1 ++ (wsX6_between_r2 ++ (wsX6_between_r3 ++ (wsX6_between_r4 ++ wsX6_between_r5)))) ++ wsX60 ++ wsX50 ++ wsX40 ++ (vx_atS RX6 334 "java/lang/IndexOutOfBoundsException" ["java/lang/RuntimeException", "java/lang/Exception"]).filter goodWord ++ (vx_atS RX6 253 "java/lang/IllegalArgumentException" ["java/lang/RuntimeException", "java/lang/Exception"]).filter goodWord)
def wsX6_trees : List Cond := .code yX6_trees cX6_trees 1 (some .long) :: ([.fieldLink RX6 35 "Twincuts" "forest" "LTwincuts$Forest;", .methodLink RX6 237 yX2_countTrees, .instanceMethod yX2_countTrees, .selects RX2 yX2_countTrees yX2_countTrees, .initialized RX2, .code yX2_countTrees cX2_countTrees 1 (some .long), .methodLink RX2 31 yX2_fillTable, .instanceMethod yX2_fillTable, .selects RX2 yX2_fillTable yX2_fillTable, .code yX2_fillTable cX2_fillTable 3 none, .fieldLink RX2 11 "Twincuts$Forest" "table" "[[J", .fieldLink RX2 27 "Twincuts$Forest" "web" "LTwincuts$Web;", .static yX6_has, .initialized RX6, .code yX6_has cX6_has 2 (some .boolean), .methodLink RX2 38 yX2_addToTable, .instanceMethod yX2_addToTable, .selects RX2 yX2_addToTable yX2_addToTable, .code yX2_addToTable cX2_addToTable 3 none, .methodLink RX2 34 yX2_countByTable, .instanceMethod yX2_countByTable, .selects RX2 yX2_countByTable yX2_countByTable, .code yX2_countByTable cX2_countByTable 10 (some .long)] ++ wsX60 ++ wsX20 ++ wsX50)
def wsX6_without : List Cond := .code yX6_without cX6_without 3 (some .int) :: ([.classLink RX6 249 "java/lang/IllegalArgumentException", .initialized "java/lang/IllegalArgumentException", .fieldLink RX6 10 "Twincuts" "web" "LTwincuts$Web;", .methodLink RX6 256 yX5_allPoints, .instanceMethod yX5_allPoints, .selects RX5 yX5_allPoints yX5_allPoints, .initialized RX5, .code yX5_allPoints cX5_allPoints 1 (some .int), .fieldLink RX5 9 "Twincuts$Web" "points" "I", .methodLink RX6 259 yX5_countParts, .instanceMethod yX5_countParts, .selects RX5 yX5_countParts yX5_countParts, .code yX5_countParts cX5_countParts 6 (some .int), .static yX6_has, .initialized RX6, .code yX6_has cX6_has 2 (some .boolean), .methodLink RX5 41 yX5_reach, .instanceMethod yX5_reach, .selects RX5 yX5_reach yX5_reach, .code yX5_reach cX5_reach 9 (some .int), .fieldLink RX5 15 "Twincuts$Web" "lines" "I", .fieldLink RX5 31 "Twincuts$Web" "ends" "[I"] ++ wsX60 ++ wsX50 ++ (vx_atS RX6 253 "java/lang/IllegalArgumentException" ["java/lang/RuntimeException", "java/lang/Exception"]).filter goodWord)
def wsX6_wouldTurn_r1 : List Cond := [Cond.fieldLink RX6 49 "Twincuts" "drawing" "LTwincuts$Drawing;", Cond.methodLink RX6 74 yX6_demandPoint, Cond.instanceMethod yX6_demandPoint, Cond.selects RX6 yX6_demandPoint yX6_demandPoint, Cond.initialized RX6, Cond.code yX6_demandPoint cX6_demandPoint 2 none, Cond.classLink RX6 330 "java/lang/IndexOutOfBoundsException", Cond.initialized "java/lang/IndexOutOfBoundsException", Cond.fieldLink RX6 10 "Twincuts" "web" "LTwincuts$Web;", Cond.methodLink RX6 266 yX0_bestPlace, Cond.instanceMethod yX0_bestPlace, Cond.selects RX0 yX0_bestPlace yX0_bestPlace, Cond.initialized RX0, Cond.code yX0_bestPlace cX0_bestPlace 5 (some .int), Cond.fieldLink RX0 16 "Twincuts$Drawing" "length" "[I", Cond.methodLink RX0 83 yX0_allFaces, Cond.instanceMethod yX0_allFaces, Cond.selects RX0 yX0_allFaces yX0_allFaces, Cond.code yX0_allFaces cX0_allFaces 3 (some .int), Cond.fieldLink RX0 20 "Twincuts$Drawing" "walked" "I", Cond.fieldLink RX0 27 "Twincuts$Drawing" "web" "LTwincuts$Web;", Cond.methodLink RX0 80 yX5_standingAt, Cond.instanceMethod yX5_standingAt, Cond.selects RX5 yX5_standingAt yX5_standingAt]
def wsX6_wouldTurn_r2 : List Cond := [Cond.initialized RX5, Cond.code yX5_standingAt cX5_standingAt 2 (some .int), Cond.fieldLink RX5 34 "Twincuts$Web" "linesAt" "[I", Cond.fieldLink RX5 18 "Twincuts$Web" "standing" "I", Cond.methodLink RX0 87 yX0_swap, Cond.instanceMethod yX0_swap, Cond.selects RX0 yX0_swap yX0_swap, Cond.code yX0_swap cX0_swap 5 none, Cond.fieldLink RX0 11 "Twincuts$Drawing" "order" "[[I", Cond.methodLink RX0 31 yX0_placeBehind, Cond.instanceMethod yX0_placeBehind, Cond.selects RX0 yX0_placeBehind yX0_placeBehind, Cond.code yX0_placeBehind cX0_placeBehind 3 (some .int), Cond.methodLink RX0 91 yX0_learn, Cond.instanceMethod yX0_learn, Cond.selects RX0 yX0_learn yX0_learn, Cond.code yX0_learn cX0_learn 4 none, Cond.fieldLink RX0 24 "Twincuts$Drawing" "face" "[I", Cond.static yX6_has, Cond.code yX6_has cX6_has 2 (some .boolean), Cond.methodLink RX0 64 yX0_walkBehind, Cond.instanceMethod yX0_walkBehind, Cond.selects RX0 yX0_walkBehind yX0_walkBehind, Cond.code yX0_walkBehind cX0_walkBehind 7 (some .int)]
def wsX6_wouldTurn_r3 : List Cond := [Cond.methodLink RX0 74 yX0_placeOf, Cond.instanceMethod yX0_placeOf, Cond.selects RX0 yX0_placeOf yX0_placeOf, Cond.code yX0_placeOf cX0_placeOf 4 (some .int)]
def wsX6_wouldTurn : List Cond := .code yX6_wouldTurn cX6_wouldTurn 2 (some .int) :: ((wsX6_wouldTurn_r1 ++ (wsX6_wouldTurn_r2 ++ wsX6_wouldTurn_r3)) ++ wsX60 ++ wsX50 ++ wsX00 ++ (vx_atS RX6 334 "java/lang/IndexOutOfBoundsException" ["java/lang/RuntimeException", "java/lang/Exception"]).filter goodWord)
def wsX6_areWaysSound_r1 : List Cond := [Cond.fieldLink RX6 28 "Twincuts" "ways" "LTwincuts$Ways;", Cond.fieldLink RX6 10 "Twincuts" "web" "LTwincuts$Web;", Cond.methodLink RX6 219 yX4_countWays, Cond.instanceMethod yX4_countWays, Cond.selects RX4 yX4_countWays yX4_countWays, Cond.initialized RX4, Cond.code yX4_countWays cX4_countWays 5 (some .int), Cond.fieldLink RX4 23 "Twincuts$Ways" "web" "LTwincuts$Web;", Cond.fieldLink RX4 13 "Twincuts$Ways" "room" "[[I", Cond.methodLink RX4 27 yX4_clearRoom, Cond.instanceMethod yX4_clearRoom, Cond.selects RX4 yX4_clearRoom yX4_clearRoom, Cond.code yX4_clearRoom cX4_clearRoom 3 none, Cond.static yX6_has, Cond.initialized RX6, Cond.code yX6_has cX6_has 2 (some .boolean), Cond.methodLink RX4 52 yX4_countFlow, Cond.instanceMethod yX4_countFlow, Cond.selects RX4 yX4_countFlow yX4_countFlow, Cond.code yX4_countFlow cX4_countFlow 5 (some .int), Cond.methodLink RX4 56 yX4_findsWay, Cond.instanceMethod yX4_findsWay, Cond.selects RX4 yX4_findsWay yX4_findsWay, Cond.code yX4_findsWay cX4_findsWay 7 (some .boolean)]
def wsX6_areWaysSound_r2 : List Cond := [Cond.fieldLink RX4 16 "Twincuts$Ways" "cameFrom" "[I", Cond.fieldLink RX4 20 "Twincuts$Ways" "queue" "[I", Cond.methodLink RX4 59 yX4_fillWay, Cond.instanceMethod yX4_fillWay, Cond.selects RX4 yX4_fillWay yX4_fillWay, Cond.code yX4_fillWay cX4_fillWay 6 none, Cond.methodLink RX6 222 yX4_countLineWays, Cond.instanceMethod yX4_countLineWays, Cond.selects RX4 yX4_countLineWays yX4_countLineWays, Cond.code yX4_countLineWays cX4_countLineWays 4 (some .int), Cond.methodLink RX6 228 yX4_gap, Cond.instanceMethod yX4_gap, Cond.selects RX4 yX4_gap yX4_gap, Cond.code yX4_gap cX4_gap 7 (some .int), Cond.methodLink RX4 63 yX5_linkedWith, Cond.instanceMethod yX5_linkedWith, Cond.selects RX5 yX5_linkedWith yX5_linkedWith, Cond.initialized RX5, Cond.code yX5_linkedWith cX5_linkedWith 4 (some .int), Cond.fieldLink RX5 15 "Twincuts$Web" "lines" "I", Cond.fieldLink RX5 34 "Twincuts$Web" "linesAt" "[I", Cond.fieldLink RX5 18 "Twincuts$Web" "standing" "I", Cond.fieldLink RX5 31 "Twincuts$Web" "ends" "[I", Cond.methodLink RX4 67 yX5_allPoints]
def wsX6_areWaysSound_r3 : List Cond := [Cond.instanceMethod yX5_allPoints, Cond.selects RX5 yX5_allPoints yX5_allPoints, Cond.code yX5_allPoints cX5_allPoints 1 (some .int), Cond.fieldLink RX5 9 "Twincuts$Web" "points" "I", Cond.methodLink RX4 71 yJ6_bitCount_0f7a4, Cond.static yJ6_bitCount_0f7a4, Cond.initialized RJ6, Cond.code yJ6_bitCount_0f7a4 cJ6_bitCount_0f7a4 1 (some .int), Cond.constant RJ6 265 (1431655765), Cond.constant RJ6 266 (858993459), Cond.constant RJ6 267 (252645135), Cond.methodLink RX4 76 yX4_isApartWithout, Cond.instanceMethod yX4_isApartWithout, Cond.selects RX4 yX4_isApartWithout yX4_isApartWithout, Cond.code yX4_isApartWithout cX4_isApartWithout 4 (some .boolean), Cond.methodLink RX4 80 yX5_reach, Cond.instanceMethod yX5_reach, Cond.selects RX5 yX5_reach yX5_reach, Cond.code yX5_reach cX5_reach 9 (some .int), Cond.methodLink RX6 143 yJ6_bitCount_0f7a4, Cond.methodLink RX6 231 yX4_side, Cond.instanceMethod yX4_side, Cond.selects RX4 yX4_side yX4_side, Cond.code yX4_side cX4_side 8 (some .int)]
def wsX6_areWaysSound_r4 : List Cond := [Cond.methodLink RX4 84 yX5_linesOutOf, Cond.instanceMethod yX5_linesOutOf, Cond.selects RX5 yX5_linesOutOf yX5_linesOutOf, Cond.code yX5_linesOutOf cX5_linesOutOf 4 (some .int), Cond.methodLink RX5 61 yX5_standingAt, Cond.instanceMethod yX5_standingAt, Cond.selects RX5 yX5_standingAt yX5_standingAt, Cond.code yX5_standingAt cX5_standingAt 2 (some .int), Cond.methodLink RX6 234 yX5_linesOutOf]
def wsX6_areWaysSound : List Cond := .code yX6_areWaysSound cX6_areWaysSound 7 (some .boolean) :: ((wsX6_areWaysSound_r1 ++ (wsX6_areWaysSound_r2 ++ (wsX6_areWaysSound_r3 ++ wsX6_areWaysSound_r4))) ++ wsX60 ++ wsX40 ++ wsX50)
def wsX6_areAllWaysSound_r1 : List Cond := [Cond.fieldLink RX6 10 "Twincuts" "web" "LTwincuts$Web;", Cond.methodLink RX6 323 yX6_areWaysSound, Cond.instanceMethod yX6_areWaysSound, Cond.selects RX6 yX6_areWaysSound yX6_areWaysSound, Cond.initialized RX6, Cond.code yX6_areWaysSound cX6_areWaysSound 7 (some .boolean), Cond.fieldLink RX6 28 "Twincuts" "ways" "LTwincuts$Ways;", Cond.methodLink RX6 219 yX4_countWays, Cond.instanceMethod yX4_countWays, Cond.selects RX4 yX4_countWays yX4_countWays, Cond.initialized RX4, Cond.code yX4_countWays cX4_countWays 5 (some .int), Cond.fieldLink RX4 23 "Twincuts$Ways" "web" "LTwincuts$Web;", Cond.fieldLink RX4 13 "Twincuts$Ways" "room" "[[I", Cond.methodLink RX4 27 yX4_clearRoom, Cond.instanceMethod yX4_clearRoom, Cond.selects RX4 yX4_clearRoom yX4_clearRoom, Cond.code yX4_clearRoom cX4_clearRoom 3 none, Cond.static yX6_has, Cond.code yX6_has cX6_has 2 (some .boolean), Cond.methodLink RX4 52 yX4_countFlow, Cond.instanceMethod yX4_countFlow, Cond.selects RX4 yX4_countFlow yX4_countFlow, Cond.code yX4_countFlow cX4_countFlow 5 (some .int)]
def wsX6_areAllWaysSound_r2 : List Cond := [Cond.methodLink RX4 56 yX4_findsWay, Cond.instanceMethod yX4_findsWay, Cond.selects RX4 yX4_findsWay yX4_findsWay, Cond.code yX4_findsWay cX4_findsWay 7 (some .boolean), Cond.fieldLink RX4 16 "Twincuts$Ways" "cameFrom" "[I", Cond.fieldLink RX4 20 "Twincuts$Ways" "queue" "[I", Cond.methodLink RX4 59 yX4_fillWay, Cond.instanceMethod yX4_fillWay, Cond.selects RX4 yX4_fillWay yX4_fillWay, Cond.code yX4_fillWay cX4_fillWay 6 none, Cond.methodLink RX6 222 yX4_countLineWays, Cond.instanceMethod yX4_countLineWays, Cond.selects RX4 yX4_countLineWays yX4_countLineWays, Cond.code yX4_countLineWays cX4_countLineWays 4 (some .int), Cond.methodLink RX6 228 yX4_gap, Cond.instanceMethod yX4_gap, Cond.selects RX4 yX4_gap yX4_gap, Cond.code yX4_gap cX4_gap 7 (some .int), Cond.methodLink RX4 63 yX5_linkedWith, Cond.instanceMethod yX5_linkedWith, Cond.selects RX5 yX5_linkedWith yX5_linkedWith, Cond.initialized RX5, Cond.code yX5_linkedWith cX5_linkedWith 4 (some .int), Cond.fieldLink RX5 15 "Twincuts$Web" "lines" "I"]
def wsX6_areAllWaysSound_r3 : List Cond := [Cond.fieldLink RX5 34 "Twincuts$Web" "linesAt" "[I", Cond.fieldLink RX5 18 "Twincuts$Web" "standing" "I", Cond.fieldLink RX5 31 "Twincuts$Web" "ends" "[I", Cond.methodLink RX4 67 yX5_allPoints, Cond.instanceMethod yX5_allPoints, Cond.selects RX5 yX5_allPoints yX5_allPoints, Cond.code yX5_allPoints cX5_allPoints 1 (some .int), Cond.fieldLink RX5 9 "Twincuts$Web" "points" "I", Cond.methodLink RX4 71 yJ6_bitCount_0f7a4, Cond.static yJ6_bitCount_0f7a4, Cond.initialized RJ6, Cond.code yJ6_bitCount_0f7a4 cJ6_bitCount_0f7a4 1 (some .int), Cond.constant RJ6 265 (1431655765), Cond.constant RJ6 266 (858993459), Cond.constant RJ6 267 (252645135), Cond.methodLink RX4 76 yX4_isApartWithout, Cond.instanceMethod yX4_isApartWithout, Cond.selects RX4 yX4_isApartWithout yX4_isApartWithout, Cond.code yX4_isApartWithout cX4_isApartWithout 4 (some .boolean), Cond.methodLink RX4 80 yX5_reach, Cond.instanceMethod yX5_reach, Cond.selects RX5 yX5_reach yX5_reach, Cond.code yX5_reach cX5_reach 9 (some .int), Cond.methodLink RX6 143 yJ6_bitCount_0f7a4]
def wsX6_areAllWaysSound_r4 : List Cond := [Cond.methodLink RX6 231 yX4_side, Cond.instanceMethod yX4_side, Cond.selects RX4 yX4_side yX4_side, Cond.code yX4_side cX4_side 8 (some .int), Cond.methodLink RX4 84 yX5_linesOutOf, Cond.instanceMethod yX5_linesOutOf, Cond.selects RX5 yX5_linesOutOf yX5_linesOutOf, Cond.code yX5_linesOutOf cX5_linesOutOf 4 (some .int), Cond.methodLink RX5 61 yX5_standingAt, Cond.instanceMethod yX5_standingAt, Cond.selects RX5 yX5_standingAt yX5_standingAt, Cond.code yX5_standingAt cX5_standingAt 2 (some .int), Cond.methodLink RX6 234 yX5_linesOutOf]
def wsX6_areAllWaysSound : List Cond := .code yX6_areAllWaysSound cX6_areAllWaysSound 3 (some .boolean) :: ((wsX6_areAllWaysSound_r1 ++ (wsX6_areAllWaysSound_r2 ++ (wsX6_areAllWaysSound_r3 ++ wsX6_areAllWaysSound_r4))) ++ wsX60 ++ wsX50 ++ wsX40)
def wsX6_areTreesSound : List Cond := .code yX6_areTreesSound cX6_areTreesSound 3 (some .boolean) :: ([.fieldLink RX6 35 "Twincuts" "forest" "LTwincuts$Forest;", .fieldLink RX6 21 "Twincuts" "falls" "LTwincuts$Falls;", .methodLink RX6 237 yX2_countTrees, .instanceMethod yX2_countTrees, .selects RX2 yX2_countTrees yX2_countTrees, .initialized RX2, .code yX2_countTrees cX2_countTrees 1 (some .long), .methodLink RX2 31 yX2_fillTable, .instanceMethod yX2_fillTable, .selects RX2 yX2_fillTable yX2_fillTable, .code yX2_fillTable cX2_fillTable 3 none, .fieldLink RX2 11 "Twincuts$Forest" "table" "[[J", .fieldLink RX2 27 "Twincuts$Forest" "web" "LTwincuts$Web;", .static yX6_has, .initialized RX6, .code yX6_has cX6_has 2 (some .boolean), .methodLink RX2 38 yX2_addToTable, .instanceMethod yX2_addToTable, .selects RX2 yX2_addToTable yX2_addToTable, .code yX2_addToTable cX2_addToTable 3 none, .methodLink RX2 34 yX2_countByTable, .instanceMethod yX2_countByTable, .selects RX2 yX2_countByTable yX2_countByTable, .code yX2_countByTable cX2_countByTable 10 (some .long)] ++ wsX60 ++ wsX10 ++ wsX20 ++ wsX50)
def wsX6_isColouringSound : List Cond := .code yX6_isColouringSound cX6_isColouringSound 3 (some .boolean) :: ([.fieldLink RX6 10 "Twincuts" "web" "LTwincuts$Web;", .fieldLink RX6 42 "Twincuts" "palette" "LTwincuts$Palette;", .methodLink RX6 151 yX6_has, .static yX6_has, .initialized RX6, .code yX6_has cX6_has 2 (some .boolean)] ++ wsX60 ++ wsX50 ++ wsX30)
def wsX6_areBlocksSound : List Cond := .code yX6_areBlocksSound cX6_areBlocksSound 3 (some .boolean) :: ([.fieldLink RX6 10 "Twincuts" "web" "LTwincuts$Web;", .fieldLink RX6 21 "Twincuts" "falls" "LTwincuts$Falls;", .methodLink RX6 151 yX6_has, .static yX6_has, .initialized RX6, .code yX6_has cX6_has 2 (some .boolean), .methodLink RX6 326 yX1_isAloneInBlock, .instanceMethod yX1_isAloneInBlock, .selects RX1 yX1_isAloneInBlock yX1_isAloneInBlock, .initialized RX1, .code yX1_isAloneInBlock cX1_isAloneInBlock 3 (some .boolean), .fieldLink RX1 55 "Twincuts$Falls" "web" "LTwincuts$Web;", .fieldLink RX1 40 "Twincuts$Falls" "block" "[I"] ++ wsX60 ++ wsX50 ++ wsX10)
def wsX6_isSound_r1 : List Cond := [Cond.methodLink RX6 269 yX6_areAllWaysSound, Cond.instanceMethod yX6_areAllWaysSound, Cond.selects RX6 yX6_areAllWaysSound yX6_areAllWaysSound, Cond.initialized RX6, Cond.code yX6_areAllWaysSound cX6_areAllWaysSound 3 (some .boolean), Cond.fieldLink RX6 10 "Twincuts" "web" "LTwincuts$Web;", Cond.methodLink RX6 323 yX6_areWaysSound, Cond.instanceMethod yX6_areWaysSound, Cond.selects RX6 yX6_areWaysSound yX6_areWaysSound, Cond.code yX6_areWaysSound cX6_areWaysSound 7 (some .boolean), Cond.fieldLink RX6 28 "Twincuts" "ways" "LTwincuts$Ways;", Cond.methodLink RX6 219 yX4_countWays, Cond.instanceMethod yX4_countWays, Cond.selects RX4 yX4_countWays yX4_countWays, Cond.initialized RX4, Cond.code yX4_countWays cX4_countWays 5 (some .int), Cond.fieldLink RX4 23 "Twincuts$Ways" "web" "LTwincuts$Web;", Cond.fieldLink RX4 13 "Twincuts$Ways" "room" "[[I", Cond.methodLink RX4 27 yX4_clearRoom, Cond.instanceMethod yX4_clearRoom, Cond.selects RX4 yX4_clearRoom yX4_clearRoom, Cond.code yX4_clearRoom cX4_clearRoom 3 none, Cond.static yX6_has, Cond.code yX6_has cX6_has 2 (some .boolean)]
def wsX6_isSound_r2 : List Cond := [Cond.methodLink RX4 52 yX4_countFlow, Cond.instanceMethod yX4_countFlow, Cond.selects RX4 yX4_countFlow yX4_countFlow, Cond.code yX4_countFlow cX4_countFlow 5 (some .int), Cond.methodLink RX4 56 yX4_findsWay, Cond.instanceMethod yX4_findsWay, Cond.selects RX4 yX4_findsWay yX4_findsWay, Cond.code yX4_findsWay cX4_findsWay 7 (some .boolean), Cond.fieldLink RX4 16 "Twincuts$Ways" "cameFrom" "[I", Cond.fieldLink RX4 20 "Twincuts$Ways" "queue" "[I", Cond.methodLink RX4 59 yX4_fillWay, Cond.instanceMethod yX4_fillWay, Cond.selects RX4 yX4_fillWay yX4_fillWay, Cond.code yX4_fillWay cX4_fillWay 6 none, Cond.methodLink RX6 222 yX4_countLineWays, Cond.instanceMethod yX4_countLineWays, Cond.selects RX4 yX4_countLineWays yX4_countLineWays, Cond.code yX4_countLineWays cX4_countLineWays 4 (some .int), Cond.methodLink RX6 228 yX4_gap, Cond.instanceMethod yX4_gap, Cond.selects RX4 yX4_gap yX4_gap, Cond.code yX4_gap cX4_gap 7 (some .int), Cond.methodLink RX4 63 yX5_linkedWith, Cond.instanceMethod yX5_linkedWith]
def wsX6_isSound_r3 : List Cond := [Cond.selects RX5 yX5_linkedWith yX5_linkedWith, Cond.initialized RX5, Cond.code yX5_linkedWith cX5_linkedWith 4 (some .int), Cond.fieldLink RX5 15 "Twincuts$Web" "lines" "I", Cond.fieldLink RX5 34 "Twincuts$Web" "linesAt" "[I", Cond.fieldLink RX5 18 "Twincuts$Web" "standing" "I", Cond.fieldLink RX5 31 "Twincuts$Web" "ends" "[I", Cond.methodLink RX4 67 yX5_allPoints, Cond.instanceMethod yX5_allPoints, Cond.selects RX5 yX5_allPoints yX5_allPoints, Cond.code yX5_allPoints cX5_allPoints 1 (some .int), Cond.fieldLink RX5 9 "Twincuts$Web" "points" "I", Cond.methodLink RX4 71 yJ6_bitCount_0f7a4, Cond.static yJ6_bitCount_0f7a4, Cond.initialized RJ6, Cond.code yJ6_bitCount_0f7a4 cJ6_bitCount_0f7a4 1 (some .int), Cond.constant RJ6 265 (1431655765), Cond.constant RJ6 266 (858993459), Cond.constant RJ6 267 (252645135), Cond.methodLink RX4 76 yX4_isApartWithout, Cond.instanceMethod yX4_isApartWithout, Cond.selects RX4 yX4_isApartWithout yX4_isApartWithout, Cond.code yX4_isApartWithout cX4_isApartWithout 4 (some .boolean), Cond.methodLink RX4 80 yX5_reach]
def wsX6_isSound_r4 : List Cond := [Cond.instanceMethod yX5_reach, Cond.selects RX5 yX5_reach yX5_reach, Cond.code yX5_reach cX5_reach 9 (some .int), Cond.methodLink RX6 143 yJ6_bitCount_0f7a4, Cond.methodLink RX6 231 yX4_side, Cond.instanceMethod yX4_side, Cond.selects RX4 yX4_side yX4_side, Cond.code yX4_side cX4_side 8 (some .int), Cond.methodLink RX4 84 yX5_linesOutOf, Cond.instanceMethod yX5_linesOutOf, Cond.selects RX5 yX5_linesOutOf yX5_linesOutOf, Cond.code yX5_linesOutOf cX5_linesOutOf 4 (some .int), Cond.methodLink RX5 61 yX5_standingAt, Cond.instanceMethod yX5_standingAt, Cond.selects RX5 yX5_standingAt yX5_standingAt, Cond.code yX5_standingAt cX5_standingAt 2 (some .int), Cond.methodLink RX6 234 yX5_linesOutOf, Cond.methodLink RX6 203 yX6_handles, Cond.instanceMethod yX6_handles, Cond.selects RX6 yX6_handles yX6_handles, Cond.code yX6_handles cX6_handles 2 (some .int), Cond.fieldLink RX6 21 "Twincuts" "falls" "LTwincuts$Falls;", Cond.fieldLink RX6 49 "Twincuts" "drawing" "LTwincuts$Drawing;", Cond.methodLink RX6 130 yX0_allFaces]
def wsX6_isSound_r5 : List Cond := [Cond.instanceMethod yX0_allFaces, Cond.selects RX0 yX0_allFaces yX0_allFaces, Cond.initialized RX0, Cond.code yX0_allFaces cX0_allFaces 3 (some .int), Cond.fieldLink RX0 20 "Twincuts$Drawing" "walked" "I", Cond.fieldLink RX0 27 "Twincuts$Drawing" "web" "LTwincuts$Web;", Cond.methodLink RX0 80 yX5_standingAt, Cond.methodLink RX6 273 yX6_areTreesSound, Cond.instanceMethod yX6_areTreesSound, Cond.selects RX6 yX6_areTreesSound yX6_areTreesSound, Cond.code yX6_areTreesSound cX6_areTreesSound 3 (some .boolean), Cond.fieldLink RX6 35 "Twincuts" "forest" "LTwincuts$Forest;", Cond.methodLink RX6 237 yX2_countTrees, Cond.instanceMethod yX2_countTrees, Cond.selects RX2 yX2_countTrees yX2_countTrees, Cond.initialized RX2, Cond.code yX2_countTrees cX2_countTrees 1 (some .long), Cond.methodLink RX2 31 yX2_fillTable, Cond.instanceMethod yX2_fillTable, Cond.selects RX2 yX2_fillTable yX2_fillTable, Cond.code yX2_fillTable cX2_fillTable 3 none, Cond.fieldLink RX2 11 "Twincuts$Forest" "table" "[[J", Cond.fieldLink RX2 27 "Twincuts$Forest" "web" "LTwincuts$Web;", Cond.methodLink RX2 38 yX2_addToTable]
def wsX6_isSound_r6 : List Cond := [Cond.instanceMethod yX2_addToTable, Cond.selects RX2 yX2_addToTable yX2_addToTable, Cond.code yX2_addToTable cX2_addToTable 3 none, Cond.methodLink RX2 34 yX2_countByTable, Cond.instanceMethod yX2_countByTable, Cond.selects RX2 yX2_countByTable yX2_countByTable, Cond.code yX2_countByTable cX2_countByTable 10 (some .long), Cond.methodLink RX6 276 yX6_isColouringSound, Cond.instanceMethod yX6_isColouringSound, Cond.selects RX6 yX6_isColouringSound yX6_isColouringSound, Cond.code yX6_isColouringSound cX6_isColouringSound 3 (some .boolean), Cond.fieldLink RX6 42 "Twincuts" "palette" "LTwincuts$Palette;", Cond.methodLink RX6 151 yX6_has, Cond.methodLink RX6 279 yX6_areBlocksSound, Cond.instanceMethod yX6_areBlocksSound, Cond.selects RX6 yX6_areBlocksSound yX6_areBlocksSound, Cond.code yX6_areBlocksSound cX6_areBlocksSound 3 (some .boolean), Cond.methodLink RX6 326 yX1_isAloneInBlock, Cond.instanceMethod yX1_isAloneInBlock, Cond.selects RX1 yX1_isAloneInBlock yX1_isAloneInBlock, Cond.initialized RX1, Cond.code yX1_isAloneInBlock cX1_isAloneInBlock 3 (some .boolean), Cond.fieldLink RX1 55 "Twincuts$Falls" "web" "LTwincuts$Web;", Cond.fieldLink RX1 40 "Twincuts$Falls" "block" "[I"]
def wsX6_isSound : List Cond := .code yX6_isSound cX6_isSound 1 (some .boolean) :: ((wsX6_isSound_r1 ++ (wsX6_isSound_r2 ++ (wsX6_isSound_r3 ++ (wsX6_isSound_r4 ++ (wsX6_isSound_r5 ++ wsX6_isSound_r6))))) ++ wsX60 ++ wsX50 ++ wsX40 ++ wsX10 ++ wsX00 ++ wsX20 ++ wsX30)
def wsX6_mixed : List Cond := .code yX6_mixed cX6_mixed 4 (some .long) :: ([.constantLong RX6 321 (31)])
def wsX6_mixedPoint_r1 : List Cond := [Cond.fieldLink RX6 10 "Twincuts" "web" "LTwincuts$Web;", Cond.methodLink RX6 312 yX6_ofPoint, Cond.instanceMethod yX6_ofPoint, Cond.selects RX6 yX6_ofPoint yX6_ofPoint, Cond.initialized RX6, Cond.code yX6_ofPoint cX6_ofPoint 3 (some .int), Cond.fieldLink RX6 21 "Twincuts" "falls" "LTwincuts$Falls;", Cond.fieldLink RX6 42 "Twincuts" "palette" "LTwincuts$Palette;", Cond.fieldLink RX6 49 "Twincuts" "drawing" "LTwincuts$Drawing;", Cond.methodLink RX6 74 yX6_demandPoint, Cond.instanceMethod yX6_demandPoint, Cond.selects RX6 yX6_demandPoint yX6_demandPoint, Cond.code yX6_demandPoint cX6_demandPoint 2 none, Cond.classLink RX6 330 "java/lang/IndexOutOfBoundsException", Cond.initialized "java/lang/IndexOutOfBoundsException", Cond.methodLink RX6 133 yX6_demandWhat, Cond.static yX6_demandWhat, Cond.code yX6_demandWhat cX6_demandWhat 2 none, Cond.classLink RX6 249 "java/lang/IllegalArgumentException", Cond.initialized "java/lang/IllegalArgumentException", Cond.methodLink RX6 139 yX5_standingAt, Cond.instanceMethod yX5_standingAt, Cond.selects RX5 yX5_standingAt yX5_standingAt, Cond.initialized RX5]
def wsX6_mixedPoint_r2 : List Cond := [Cond.code yX5_standingAt cX5_standingAt 2 (some .int), Cond.fieldLink RX5 34 "Twincuts$Web" "linesAt" "[I", Cond.fieldLink RX5 18 "Twincuts$Web" "standing" "I", Cond.methodLink RX6 143 yJ6_bitCount_0f7a4, Cond.static yJ6_bitCount_0f7a4, Cond.initialized RJ6, Cond.code yJ6_bitCount_0f7a4 cJ6_bitCount_0f7a4 1 (some .int), Cond.constant RJ6 265 (1431655765), Cond.constant RJ6 266 (858993459), Cond.constant RJ6 267 (252645135), Cond.methodLink RX6 151 yX6_has, Cond.static yX6_has, Cond.code yX6_has cX6_has 2 (some .boolean), Cond.methodLink RX6 155 yX1_blocksAt, Cond.instanceMethod yX1_blocksAt, Cond.selects RX1 yX1_blocksAt yX1_blocksAt, Cond.initialized RX1, Cond.code yX1_blocksAt cX1_blocksAt 4 (some .int), Cond.fieldLink RX1 55 "Twincuts$Falls" "web" "LTwincuts$Web;", Cond.fieldLink RX1 40 "Twincuts$Falls" "block" "[I", Cond.methodLink RX1 85 yX5_standingAt, Cond.methodLink RX1 93 yJ6_bitCount_0f7a4, Cond.methodLink RX6 161 yX5_linkedWith, Cond.instanceMethod yX5_linkedWith]
def wsX6_mixedPoint_r3 : List Cond := [Cond.selects RX5 yX5_linkedWith yX5_linkedWith, Cond.code yX5_linkedWith cX5_linkedWith 4 (some .int), Cond.fieldLink RX5 15 "Twincuts$Web" "lines" "I", Cond.fieldLink RX5 31 "Twincuts$Web" "ends" "[I", Cond.methodLink RX6 287 yX6_mixed, Cond.static yX6_mixed, Cond.code yX6_mixed cX6_mixed 4 (some .long), Cond.constantLong RX6 321 (31), Cond.methodLink RX6 315 yX6_wouldTurn, Cond.instanceMethod yX6_wouldTurn, Cond.selects RX6 yX6_wouldTurn yX6_wouldTurn, Cond.code yX6_wouldTurn cX6_wouldTurn 2 (some .int), Cond.methodLink RX6 266 yX0_bestPlace, Cond.instanceMethod yX0_bestPlace, Cond.selects RX0 yX0_bestPlace yX0_bestPlace, Cond.initialized RX0, Cond.code yX0_bestPlace cX0_bestPlace 5 (some .int), Cond.fieldLink RX0 16 "Twincuts$Drawing" "length" "[I", Cond.methodLink RX0 83 yX0_allFaces, Cond.instanceMethod yX0_allFaces, Cond.selects RX0 yX0_allFaces yX0_allFaces, Cond.code yX0_allFaces cX0_allFaces 3 (some .int), Cond.fieldLink RX0 20 "Twincuts$Drawing" "walked" "I", Cond.fieldLink RX0 27 "Twincuts$Drawing" "web" "LTwincuts$Web;"]
def wsX6_mixedPoint_r4 : List Cond := [Cond.methodLink RX0 80 yX5_standingAt, Cond.methodLink RX0 87 yX0_swap, Cond.instanceMethod yX0_swap, Cond.selects RX0 yX0_swap yX0_swap, Cond.code yX0_swap cX0_swap 5 none, Cond.fieldLink RX0 11 "Twincuts$Drawing" "order" "[[I", Cond.methodLink RX0 31 yX0_placeBehind, Cond.instanceMethod yX0_placeBehind, Cond.selects RX0 yX0_placeBehind yX0_placeBehind, Cond.code yX0_placeBehind cX0_placeBehind 3 (some .int), Cond.methodLink RX0 91 yX0_learn, Cond.instanceMethod yX0_learn, Cond.selects RX0 yX0_learn yX0_learn, Cond.code yX0_learn cX0_learn 4 none, Cond.fieldLink RX0 24 "Twincuts$Drawing" "face" "[I", Cond.methodLink RX0 64 yX0_walkBehind, Cond.instanceMethod yX0_walkBehind, Cond.selects RX0 yX0_walkBehind yX0_walkBehind, Cond.code yX0_walkBehind cX0_walkBehind 7 (some .int), Cond.methodLink RX0 74 yX0_placeOf, Cond.instanceMethod yX0_placeOf, Cond.selects RX0 yX0_placeOf yX0_placeOf, Cond.code yX0_placeOf cX0_placeOf 4 (some .int), Cond.methodLink RX6 318 yX6_between]
def wsX6_mixedPoint_r5 : List Cond := [Cond.instanceMethod yX6_between, Cond.selects RX6 yX6_between yX6_between, Cond.code yX6_between cX6_between 4 (some .int), Cond.fieldLink RX6 28 "Twincuts" "ways" "LTwincuts$Ways;", Cond.methodLink RX6 78 yX6_demandUnlike, Cond.static yX6_demandUnlike, Cond.code yX6_demandUnlike cX6_demandUnlike 2 none, Cond.methodLink RX6 219 yX4_countWays, Cond.instanceMethod yX4_countWays, Cond.selects RX4 yX4_countWays yX4_countWays, Cond.initialized RX4, Cond.code yX4_countWays cX4_countWays 5 (some .int), Cond.fieldLink RX4 23 "Twincuts$Ways" "web" "LTwincuts$Web;", Cond.fieldLink RX4 13 "Twincuts$Ways" "room" "[[I", Cond.methodLink RX4 27 yX4_clearRoom, Cond.instanceMethod yX4_clearRoom, Cond.selects RX4 yX4_clearRoom yX4_clearRoom, Cond.code yX4_clearRoom cX4_clearRoom 3 none, Cond.methodLink RX4 52 yX4_countFlow, Cond.instanceMethod yX4_countFlow, Cond.selects RX4 yX4_countFlow yX4_countFlow, Cond.code yX4_countFlow cX4_countFlow 5 (some .int), Cond.methodLink RX4 56 yX4_findsWay, Cond.instanceMethod yX4_findsWay]
def wsX6_mixedPoint_r6 : List Cond := [Cond.selects RX4 yX4_findsWay yX4_findsWay, Cond.code yX4_findsWay cX4_findsWay 7 (some .boolean), Cond.fieldLink RX4 16 "Twincuts$Ways" "cameFrom" "[I", Cond.fieldLink RX4 20 "Twincuts$Ways" "queue" "[I", Cond.methodLink RX4 59 yX4_fillWay, Cond.instanceMethod yX4_fillWay, Cond.selects RX4 yX4_fillWay yX4_fillWay, Cond.code yX4_fillWay cX4_fillWay 6 none, Cond.methodLink RX6 222 yX4_countLineWays, Cond.instanceMethod yX4_countLineWays, Cond.selects RX4 yX4_countLineWays yX4_countLineWays, Cond.code yX4_countLineWays cX4_countLineWays 4 (some .int), Cond.methodLink RX6 225 yX5_distance, Cond.instanceMethod yX5_distance, Cond.selects RX5 yX5_distance yX5_distance, Cond.code yX5_distance cX5_distance 5 (some .int), Cond.methodLink RX5 45 yX5_linkedWithAny, Cond.instanceMethod yX5_linkedWithAny, Cond.selects RX5 yX5_linkedWithAny yX5_linkedWithAny, Cond.code yX5_linkedWithAny cX5_linkedWithAny 4 (some .int), Cond.fieldLink RX5 9 "Twincuts$Web" "points" "I", Cond.methodLink RX5 49 yX5_linkedWith, Cond.methodLink RX6 228 yX4_gap, Cond.instanceMethod yX4_gap]
def wsX6_mixedPoint_r7 : List Cond := [Cond.selects RX4 yX4_gap yX4_gap, Cond.code yX4_gap cX4_gap 7 (some .int), Cond.methodLink RX4 63 yX5_linkedWith, Cond.methodLink RX4 67 yX5_allPoints, Cond.instanceMethod yX5_allPoints, Cond.selects RX5 yX5_allPoints yX5_allPoints, Cond.code yX5_allPoints cX5_allPoints 1 (some .int), Cond.methodLink RX4 71 yJ6_bitCount_0f7a4, Cond.methodLink RX4 76 yX4_isApartWithout, Cond.instanceMethod yX4_isApartWithout, Cond.selects RX4 yX4_isApartWithout yX4_isApartWithout, Cond.code yX4_isApartWithout cX4_isApartWithout 4 (some .boolean), Cond.methodLink RX4 80 yX5_reach, Cond.instanceMethod yX5_reach, Cond.selects RX5 yX5_reach yX5_reach, Cond.code yX5_reach cX5_reach 9 (some .int), Cond.methodLink RX6 231 yX4_side, Cond.instanceMethod yX4_side, Cond.selects RX4 yX4_side yX4_side, Cond.code yX4_side cX4_side 8 (some .int), Cond.methodLink RX4 84 yX5_linesOutOf, Cond.instanceMethod yX5_linesOutOf, Cond.selects RX5 yX5_linesOutOf yX5_linesOutOf, Cond.code yX5_linesOutOf cX5_linesOutOf 4 (some .int)]
def wsX6_mixedPoint_r8 : List Cond := [Cond.methodLink RX5 61 yX5_standingAt, Cond.methodLink RX6 234 yX5_linesOutOf]
def wsX6_mixedPoint : List Cond := .code yX6_mixedPoint cX6_mixedPoint 8 (some .long) :: ((wsX6_mixedPoint_r1 ++ (wsX6_mixedPoint_r2 ++ (wsX6_mixedPoint_r3 ++ (wsX6_mixedPoint_r4 ++ (wsX6_mixedPoint_r5 ++ (wsX6_mixedPoint_r6 ++ (wsX6_mixedPoint_r7 ++ wsX6_mixedPoint_r8))))))) ++ wsX60 ++ wsX50 ++ wsX10 ++ wsX30 ++ wsX00 ++ wsX40 ++ (vx_atS RX6 334 "java/lang/IndexOutOfBoundsException" ["java/lang/RuntimeException", "java/lang/Exception"]).filter goodWord ++ (vx_atS RX6 253 "java/lang/IllegalArgumentException" ["java/lang/RuntimeException", "java/lang/Exception"]).filter goodWord)
def wsX6_digest_r1 : List Cond := [Cond.constantLong RX6 282 (7901), Cond.fieldLink RX6 10 "Twincuts" "web" "LTwincuts$Web;", Cond.fieldLink RX6 21 "Twincuts" "falls" "LTwincuts$Falls;", Cond.methodLink RX6 284 yX6_net, Cond.instanceMethod yX6_net, Cond.selects RX6 yX6_net yX6_net, Cond.initialized RX6, Cond.code yX6_net cX6_net 2 (some .int), Cond.fieldLink RX6 35 "Twincuts" "forest" "LTwincuts$Forest;", Cond.fieldLink RX6 42 "Twincuts" "palette" "LTwincuts$Palette;", Cond.fieldLink RX6 49 "Twincuts" "drawing" "LTwincuts$Drawing;", Cond.fieldLink RX6 53 "Twincuts" "refused" "I", Cond.methodLink RX6 133 yX6_demandWhat, Cond.static yX6_demandWhat, Cond.code yX6_demandWhat cX6_demandWhat 2 none, Cond.classLink RX6 249 "java/lang/IllegalArgumentException", Cond.initialized "java/lang/IllegalArgumentException", Cond.methodLink RX6 143 yJ6_bitCount_0f7a4, Cond.static yJ6_bitCount_0f7a4, Cond.initialized RJ6, Cond.code yJ6_bitCount_0f7a4 cJ6_bitCount_0f7a4 1 (some .int), Cond.constant RJ6 265 (1431655765), Cond.constant RJ6 266 (858993459), Cond.constant RJ6 267 (252645135)]
def wsX6_digest_r2 : List Cond := [Cond.methodLink RX6 130 yX0_allFaces, Cond.instanceMethod yX0_allFaces, Cond.selects RX0 yX0_allFaces yX0_allFaces, Cond.initialized RX0, Cond.code yX0_allFaces cX0_allFaces 3 (some .int), Cond.fieldLink RX0 20 "Twincuts$Drawing" "walked" "I", Cond.fieldLink RX0 27 "Twincuts$Drawing" "web" "LTwincuts$Web;", Cond.methodLink RX0 80 yX5_standingAt, Cond.instanceMethod yX5_standingAt, Cond.selects RX5 yX5_standingAt yX5_standingAt, Cond.initialized RX5, Cond.code yX5_standingAt cX5_standingAt 2 (some .int), Cond.fieldLink RX5 34 "Twincuts$Web" "linesAt" "[I", Cond.fieldLink RX5 18 "Twincuts$Web" "standing" "I", Cond.methodLink RX6 203 yX6_handles, Cond.instanceMethod yX6_handles, Cond.selects RX6 yX6_handles yX6_handles, Cond.code yX6_handles cX6_handles 2 (some .int), Cond.methodLink RX6 206 yX5_greatestDistance, Cond.instanceMethod yX5_greatestDistance, Cond.selects RX5 yX5_greatestDistance yX5_greatestDistance, Cond.code yX5_greatestDistance cX5_greatestDistance 4 (some .int), Cond.fieldLink RX5 9 "Twincuts$Web" "points" "I", Cond.methodLink RX5 56 Lib.Math.max.name]
def wsX6_digest_r3 : List Cond := [Cond.static Lib.Math.max.name, Cond.initialized "java/lang/Math", Cond.code Lib.Math.max.name Lib.Math.max.code 2 (some .int), Cond.methodLink RX5 52 yX5_distance, Cond.instanceMethod yX5_distance, Cond.selects RX5 yX5_distance yX5_distance, Cond.code yX5_distance cX5_distance 5 (some .int), Cond.static yX6_has, Cond.code yX6_has cX6_has 2 (some .boolean), Cond.methodLink RX5 45 yX5_linkedWithAny, Cond.instanceMethod yX5_linkedWithAny, Cond.selects RX5 yX5_linkedWithAny yX5_linkedWithAny, Cond.code yX5_linkedWithAny cX5_linkedWithAny 4 (some .int), Cond.methodLink RX5 49 yX5_linkedWith, Cond.instanceMethod yX5_linkedWith, Cond.selects RX5 yX5_linkedWith yX5_linkedWith, Cond.code yX5_linkedWith cX5_linkedWith 4 (some .int), Cond.fieldLink RX5 15 "Twincuts$Web" "lines" "I", Cond.fieldLink RX5 31 "Twincuts$Web" "ends" "[I", Cond.methodLink RX6 287 yX6_mixed, Cond.static yX6_mixed, Cond.code yX6_mixed cX6_mixed 4 (some .long), Cond.constantLong RX6 321 (31), Cond.methodLink RX6 291 yX6_mixedPoint]
def wsX6_digest_r4 : List Cond := [Cond.instanceMethod yX6_mixedPoint, Cond.selects RX6 yX6_mixedPoint yX6_mixedPoint, Cond.code yX6_mixedPoint cX6_mixedPoint 8 (some .long), Cond.methodLink RX6 312 yX6_ofPoint, Cond.instanceMethod yX6_ofPoint, Cond.selects RX6 yX6_ofPoint yX6_ofPoint, Cond.code yX6_ofPoint cX6_ofPoint 3 (some .int), Cond.methodLink RX6 74 yX6_demandPoint, Cond.instanceMethod yX6_demandPoint, Cond.selects RX6 yX6_demandPoint yX6_demandPoint, Cond.code yX6_demandPoint cX6_demandPoint 2 none, Cond.classLink RX6 330 "java/lang/IndexOutOfBoundsException", Cond.initialized "java/lang/IndexOutOfBoundsException", Cond.methodLink RX6 139 yX5_standingAt, Cond.methodLink RX6 151 yX6_has, Cond.methodLink RX6 155 yX1_blocksAt, Cond.instanceMethod yX1_blocksAt, Cond.selects RX1 yX1_blocksAt yX1_blocksAt, Cond.initialized RX1, Cond.code yX1_blocksAt cX1_blocksAt 4 (some .int), Cond.fieldLink RX1 55 "Twincuts$Falls" "web" "LTwincuts$Web;", Cond.fieldLink RX1 40 "Twincuts$Falls" "block" "[I", Cond.methodLink RX1 85 yX5_standingAt, Cond.methodLink RX1 93 yJ6_bitCount_0f7a4]
def wsX6_digest_r5 : List Cond := [Cond.methodLink RX6 161 yX5_linkedWith, Cond.methodLink RX6 315 yX6_wouldTurn, Cond.instanceMethod yX6_wouldTurn, Cond.selects RX6 yX6_wouldTurn yX6_wouldTurn, Cond.code yX6_wouldTurn cX6_wouldTurn 2 (some .int), Cond.methodLink RX6 266 yX0_bestPlace, Cond.instanceMethod yX0_bestPlace, Cond.selects RX0 yX0_bestPlace yX0_bestPlace, Cond.code yX0_bestPlace cX0_bestPlace 5 (some .int), Cond.fieldLink RX0 16 "Twincuts$Drawing" "length" "[I", Cond.methodLink RX0 83 yX0_allFaces, Cond.methodLink RX0 87 yX0_swap, Cond.instanceMethod yX0_swap, Cond.selects RX0 yX0_swap yX0_swap, Cond.code yX0_swap cX0_swap 5 none, Cond.fieldLink RX0 11 "Twincuts$Drawing" "order" "[[I", Cond.methodLink RX0 31 yX0_placeBehind, Cond.instanceMethod yX0_placeBehind, Cond.selects RX0 yX0_placeBehind yX0_placeBehind, Cond.code yX0_placeBehind cX0_placeBehind 3 (some .int), Cond.methodLink RX0 91 yX0_learn, Cond.instanceMethod yX0_learn, Cond.selects RX0 yX0_learn yX0_learn, Cond.code yX0_learn cX0_learn 4 none]
def wsX6_digest_r6 : List Cond := [Cond.fieldLink RX0 24 "Twincuts$Drawing" "face" "[I", Cond.methodLink RX0 64 yX0_walkBehind, Cond.instanceMethod yX0_walkBehind, Cond.selects RX0 yX0_walkBehind yX0_walkBehind, Cond.code yX0_walkBehind cX0_walkBehind 7 (some .int), Cond.methodLink RX0 74 yX0_placeOf, Cond.instanceMethod yX0_placeOf, Cond.selects RX0 yX0_placeOf yX0_placeOf, Cond.code yX0_placeOf cX0_placeOf 4 (some .int), Cond.methodLink RX6 318 yX6_between, Cond.instanceMethod yX6_between, Cond.selects RX6 yX6_between yX6_between, Cond.code yX6_between cX6_between 4 (some .int), Cond.fieldLink RX6 28 "Twincuts" "ways" "LTwincuts$Ways;", Cond.methodLink RX6 78 yX6_demandUnlike, Cond.static yX6_demandUnlike, Cond.code yX6_demandUnlike cX6_demandUnlike 2 none, Cond.methodLink RX6 219 yX4_countWays, Cond.instanceMethod yX4_countWays, Cond.selects RX4 yX4_countWays yX4_countWays, Cond.initialized RX4, Cond.code yX4_countWays cX4_countWays 5 (some .int), Cond.fieldLink RX4 23 "Twincuts$Ways" "web" "LTwincuts$Web;", Cond.fieldLink RX4 13 "Twincuts$Ways" "room" "[[I"]
def wsX6_digest_r7 : List Cond := [Cond.methodLink RX4 27 yX4_clearRoom, Cond.instanceMethod yX4_clearRoom, Cond.selects RX4 yX4_clearRoom yX4_clearRoom, Cond.code yX4_clearRoom cX4_clearRoom 3 none, Cond.methodLink RX4 52 yX4_countFlow, Cond.instanceMethod yX4_countFlow, Cond.selects RX4 yX4_countFlow yX4_countFlow, Cond.code yX4_countFlow cX4_countFlow 5 (some .int), Cond.methodLink RX4 56 yX4_findsWay, Cond.instanceMethod yX4_findsWay, Cond.selects RX4 yX4_findsWay yX4_findsWay, Cond.code yX4_findsWay cX4_findsWay 7 (some .boolean), Cond.fieldLink RX4 16 "Twincuts$Ways" "cameFrom" "[I", Cond.fieldLink RX4 20 "Twincuts$Ways" "queue" "[I", Cond.methodLink RX4 59 yX4_fillWay, Cond.instanceMethod yX4_fillWay, Cond.selects RX4 yX4_fillWay yX4_fillWay, Cond.code yX4_fillWay cX4_fillWay 6 none, Cond.methodLink RX6 222 yX4_countLineWays, Cond.instanceMethod yX4_countLineWays, Cond.selects RX4 yX4_countLineWays yX4_countLineWays, Cond.code yX4_countLineWays cX4_countLineWays 4 (some .int), Cond.methodLink RX6 225 yX5_distance, Cond.methodLink RX6 228 yX4_gap]
def wsX6_digest_r8 : List Cond := [Cond.instanceMethod yX4_gap, Cond.selects RX4 yX4_gap yX4_gap, Cond.code yX4_gap cX4_gap 7 (some .int), Cond.methodLink RX4 63 yX5_linkedWith, Cond.methodLink RX4 67 yX5_allPoints, Cond.instanceMethod yX5_allPoints, Cond.selects RX5 yX5_allPoints yX5_allPoints, Cond.code yX5_allPoints cX5_allPoints 1 (some .int), Cond.methodLink RX4 71 yJ6_bitCount_0f7a4, Cond.methodLink RX4 76 yX4_isApartWithout, Cond.instanceMethod yX4_isApartWithout, Cond.selects RX4 yX4_isApartWithout yX4_isApartWithout, Cond.code yX4_isApartWithout cX4_isApartWithout 4 (some .boolean), Cond.methodLink RX4 80 yX5_reach, Cond.instanceMethod yX5_reach, Cond.selects RX5 yX5_reach yX5_reach, Cond.code yX5_reach cX5_reach 9 (some .int), Cond.methodLink RX6 231 yX4_side, Cond.instanceMethod yX4_side, Cond.selects RX4 yX4_side yX4_side, Cond.code yX4_side cX4_side 8 (some .int), Cond.methodLink RX4 84 yX5_linesOutOf, Cond.instanceMethod yX5_linesOutOf, Cond.selects RX5 yX5_linesOutOf yX5_linesOutOf]
def wsX6_digest_r9 : List Cond := [Cond.code yX5_linesOutOf cX5_linesOutOf 4 (some .int), Cond.methodLink RX5 61 yX5_standingAt, Cond.methodLink RX6 234 yX5_linesOutOf, Cond.methodLink RX6 295 yX6_ofLine, Cond.instanceMethod yX6_ofLine, Cond.selects RX6 yX6_ofLine yX6_ofLine, Cond.code yX6_ofLine cX6_ofLine 3 (some .int), Cond.methodLink RX6 106 yX6_demandLine, Cond.instanceMethod yX6_demandLine, Cond.selects RX6 yX6_demandLine yX6_demandLine, Cond.code yX6_demandLine cX6_demandLine 2 none, Cond.methodLink RX6 298 yX6_pair, Cond.instanceMethod yX6_pair, Cond.selects RX6 yX6_pair yX6_pair, Cond.code yX6_pair cX6_pair 3 (some .int), Cond.methodLink RX6 209 yX6_demandNth, Cond.static yX6_demandNth, Cond.code yX6_demandNth cX6_demandNth 1 none, Cond.methodLink RX6 212 yX1_pairPoint, Cond.instanceMethod yX1_pairPoint, Cond.selects RX1 yX1_pairPoint yX1_pairPoint, Cond.code yX1_pairPoint cX1_pairPoint 3 (some .int), Cond.fieldLink RX1 24 "Twincuts$Falls" "pairs" "I", Cond.fieldLink RX1 46 "Twincuts$Falls" "greaterOfPair" "[I"]
def wsX6_digest_r10 : List Cond := [Cond.fieldLink RX1 43 "Twincuts$Falls" "smallerOfPair" "[I", Cond.methodLink RX6 301 yX6_twin, Cond.instanceMethod yX6_twin, Cond.selects RX6 yX6_twin yX6_twin, Cond.code yX6_twin cX6_twin 3 (some .int), Cond.methodLink RX6 216 yX1_twinLine, Cond.instanceMethod yX1_twinLine, Cond.selects RX1 yX1_twinLine yX1_twinLine, Cond.code yX1_twinLine cX1_twinLine 3 (some .int), Cond.fieldLink RX1 27 "Twincuts$Falls" "twins" "I", Cond.fieldLink RX1 52 "Twincuts$Falls" "greaterOfTwins" "[I", Cond.fieldLink RX1 49 "Twincuts$Falls" "smallerOfTwins" "[I", Cond.methodLink RX6 304 yX6_trees, Cond.instanceMethod yX6_trees, Cond.selects RX6 yX6_trees yX6_trees, Cond.code yX6_trees cX6_trees 1 (some .long), Cond.methodLink RX6 237 yX2_countTrees, Cond.instanceMethod yX2_countTrees, Cond.selects RX2 yX2_countTrees yX2_countTrees, Cond.initialized RX2, Cond.code yX2_countTrees cX2_countTrees 1 (some .long), Cond.methodLink RX2 31 yX2_fillTable, Cond.instanceMethod yX2_fillTable, Cond.selects RX2 yX2_fillTable yX2_fillTable]
def wsX6_digest_r11 : List Cond := [Cond.code yX2_fillTable cX2_fillTable 3 none, Cond.fieldLink RX2 11 "Twincuts$Forest" "table" "[[J", Cond.fieldLink RX2 27 "Twincuts$Forest" "web" "LTwincuts$Web;", Cond.methodLink RX2 38 yX2_addToTable, Cond.instanceMethod yX2_addToTable, Cond.selects RX2 yX2_addToTable yX2_addToTable, Cond.code yX2_addToTable cX2_addToTable 3 none, Cond.methodLink RX2 34 yX2_countByTable, Cond.instanceMethod yX2_countByTable, Cond.selects RX2 yX2_countByTable yX2_countByTable, Cond.code yX2_countByTable cX2_countByTable 10 (some .long), Cond.methodLink RX6 307 yX6_isSound, Cond.instanceMethod yX6_isSound, Cond.selects RX6 yX6_isSound yX6_isSound, Cond.code yX6_isSound cX6_isSound 1 (some .boolean), Cond.methodLink RX6 269 yX6_areAllWaysSound, Cond.instanceMethod yX6_areAllWaysSound, Cond.selects RX6 yX6_areAllWaysSound yX6_areAllWaysSound, Cond.code yX6_areAllWaysSound cX6_areAllWaysSound 3 (some .boolean), Cond.methodLink RX6 323 yX6_areWaysSound, Cond.instanceMethod yX6_areWaysSound, Cond.selects RX6 yX6_areWaysSound yX6_areWaysSound, Cond.code yX6_areWaysSound cX6_areWaysSound 7 (some .boolean), Cond.methodLink RX6 273 yX6_areTreesSound]
def wsX6_digest_r12 : List Cond := [Cond.instanceMethod yX6_areTreesSound, Cond.selects RX6 yX6_areTreesSound yX6_areTreesSound, Cond.code yX6_areTreesSound cX6_areTreesSound 3 (some .boolean), Cond.methodLink RX6 276 yX6_isColouringSound, Cond.instanceMethod yX6_isColouringSound, Cond.selects RX6 yX6_isColouringSound yX6_isColouringSound, Cond.code yX6_isColouringSound cX6_isColouringSound 3 (some .boolean), Cond.methodLink RX6 279 yX6_areBlocksSound, Cond.instanceMethod yX6_areBlocksSound, Cond.selects RX6 yX6_areBlocksSound yX6_areBlocksSound, Cond.code yX6_areBlocksSound cX6_areBlocksSound 3 (some .boolean), Cond.methodLink RX6 326 yX1_isAloneInBlock, Cond.instanceMethod yX1_isAloneInBlock, Cond.selects RX1 yX1_isAloneInBlock yX1_isAloneInBlock, Cond.code yX1_isAloneInBlock cX1_isAloneInBlock 3 (some .boolean)]
def wsX6_digest : List Cond := .code yX6_digest cX6_digest 5 (some .long) :: ((wsX6_digest_r1 ++ (wsX6_digest_r2 ++ (wsX6_digest_r3 ++ (wsX6_digest_r4 ++ (wsX6_digest_r5 ++ (wsX6_digest_r6 ++ (wsX6_digest_r7 ++ (wsX6_digest_r8 ++ (wsX6_digest_r9 ++ (wsX6_digest_r10 ++ (wsX6_digest_r11 ++ wsX6_digest_r12))))))))))) ++ wsX60 ++ wsX50 ++ wsX10 ++ wsX20 ++ wsX30 ++ wsX00 ++ wsX40 ++ (vx_atS RX6 253 "java/lang/IllegalArgumentException" ["java/lang/RuntimeException", "java/lang/Exception"]).filter goodWord ++ (vx_atS RX6 334 "java/lang/IndexOutOfBoundsException" ["java/lang/RuntimeException", "java/lang/Exception"]).filter goodWord)
def wsJ9_max_7cf53 : List Cond := .code yJ9_max_7cf53 cJ9_max_7cf53 2 (some .int) :: ([])
def wsJ9_min_7cf53 : List Cond := .code yJ9_min_7cf53 cJ9_min_7cf53 2 (some .int) :: ([])
def wsL_below : List Cond := .code yL_below cL_below 2 (some .int) :: ([.constant RL 7 (2147483647)])
def wsL_cell : List Cond := .code yL_cell cL_cell 2 (some .int) :: ([.constant RL 8 (790386105)])
def wsL_add_r1 : List Cond := [Cond.methodLink RL 37 yX6_net, Cond.instanceMethod yX6_net, Cond.selects RX6 yX6_net yX6_net, Cond.initialized RX6, Cond.code yX6_net cX6_net 2 (some .int), Cond.fieldLink RX6 10 "Twincuts" "web" "LTwincuts$Web;", Cond.fieldLink RX6 21 "Twincuts" "falls" "LTwincuts$Falls;", Cond.fieldLink RX6 35 "Twincuts" "forest" "LTwincuts$Forest;", Cond.fieldLink RX6 42 "Twincuts" "palette" "LTwincuts$Palette;", Cond.fieldLink RX6 49 "Twincuts" "drawing" "LTwincuts$Drawing;", Cond.fieldLink RX6 53 "Twincuts" "refused" "I", Cond.methodLink RX6 133 yX6_demandWhat, Cond.static yX6_demandWhat, Cond.code yX6_demandWhat cX6_demandWhat 2 none, Cond.classLink RX6 249 "java/lang/IllegalArgumentException", Cond.initialized "java/lang/IllegalArgumentException", Cond.methodLink RX6 143 yJ6_bitCount_0f7a4, Cond.static yJ6_bitCount_0f7a4, Cond.initialized RJ6, Cond.code yJ6_bitCount_0f7a4 cJ6_bitCount_0f7a4 1 (some .int), Cond.constant RJ6 265 (1431655765), Cond.constant RJ6 266 (858993459), Cond.constant RJ6 267 (252645135), Cond.methodLink RX6 130 yX0_allFaces]
def wsL_add_r2 : List Cond := [Cond.instanceMethod yX0_allFaces, Cond.selects RX0 yX0_allFaces yX0_allFaces, Cond.initialized RX0, Cond.code yX0_allFaces cX0_allFaces 3 (some .int), Cond.fieldLink RX0 20 "Twincuts$Drawing" "walked" "I", Cond.fieldLink RX0 27 "Twincuts$Drawing" "web" "LTwincuts$Web;", Cond.methodLink RX0 80 yX5_standingAt, Cond.instanceMethod yX5_standingAt, Cond.selects RX5 yX5_standingAt yX5_standingAt, Cond.initialized RX5, Cond.code yX5_standingAt cX5_standingAt 2 (some .int), Cond.fieldLink RX5 34 "Twincuts$Web" "linesAt" "[I", Cond.fieldLink RX5 18 "Twincuts$Web" "standing" "I", Cond.methodLink RX6 203 yX6_handles, Cond.instanceMethod yX6_handles, Cond.selects RX6 yX6_handles yX6_handles, Cond.code yX6_handles cX6_handles 2 (some .int), Cond.methodLink RX6 206 yX5_greatestDistance, Cond.instanceMethod yX5_greatestDistance, Cond.selects RX5 yX5_greatestDistance yX5_greatestDistance, Cond.code yX5_greatestDistance cX5_greatestDistance 4 (some .int), Cond.fieldLink RX5 9 "Twincuts$Web" "points" "I", Cond.methodLink RX5 56 Lib.Math.max.name, Cond.static Lib.Math.max.name]
def wsL_add_r3 : List Cond := [Cond.initialized "java/lang/Math", Cond.code Lib.Math.max.name Lib.Math.max.code 2 (some .int), Cond.methodLink RX5 52 yX5_distance, Cond.instanceMethod yX5_distance, Cond.selects RX5 yX5_distance yX5_distance, Cond.code yX5_distance cX5_distance 5 (some .int), Cond.static yX6_has, Cond.code yX6_has cX6_has 2 (some .boolean), Cond.methodLink RX5 45 yX5_linkedWithAny, Cond.instanceMethod yX5_linkedWithAny, Cond.selects RX5 yX5_linkedWithAny yX5_linkedWithAny, Cond.code yX5_linkedWithAny cX5_linkedWithAny 4 (some .int), Cond.methodLink RX5 49 yX5_linkedWith, Cond.instanceMethod yX5_linkedWith, Cond.selects RX5 yX5_linkedWith yX5_linkedWith, Cond.code yX5_linkedWith cX5_linkedWith 4 (some .int), Cond.fieldLink RX5 15 "Twincuts$Web" "lines" "I", Cond.fieldLink RX5 31 "Twincuts$Web" "ends" "[I", Cond.methodLink RL 18 yL_below, Cond.static yL_below, Cond.initialized RL, Cond.code yL_below cL_below 2 (some .int), Cond.constant RL 7 (2147483647), Cond.methodLink RL 41 yX6_line]
def wsL_add_r4 : List Cond := [Cond.instanceMethod yX6_line, Cond.selects RX6 yX6_line yX6_line, Cond.code yX6_line cX6_line 5 (some .int), Cond.classLink RX6 60 "java/lang/IllegalStateException", Cond.initialized "java/lang/IllegalStateException", Cond.methodLink RX6 90 Lib.Math.min.name, Cond.static Lib.Math.min.name, Cond.code Lib.Math.min.name Lib.Math.min.code 2 (some .int), Cond.methodLink RX6 96 Lib.Math.max.name, Cond.methodLink RX6 74 yX6_demandPoint, Cond.instanceMethod yX6_demandPoint, Cond.selects RX6 yX6_demandPoint yX6_demandPoint, Cond.code yX6_demandPoint cX6_demandPoint 2 none, Cond.classLink RX6 330 "java/lang/IndexOutOfBoundsException", Cond.initialized "java/lang/IndexOutOfBoundsException", Cond.methodLink RX6 78 yX6_demandUnlike, Cond.static yX6_demandUnlike, Cond.code yX6_demandUnlike cX6_demandUnlike 2 none, Cond.methodLink RX6 82 yX6_demandCost, Cond.static yX6_demandCost, Cond.code yX6_demandCost cX6_demandCost 1 none, Cond.methodLink RX6 99 yX5_addLine, Cond.instanceMethod yX5_addLine, Cond.selects RX5 yX5_addLine yX5_addLine]
def wsL_add_r5 : List Cond := [Cond.code yX5_addLine cX5_addLine 5 (some .int), Cond.fieldLink RX5 21 "Twincuts$Web" "smaller" "[I", Cond.fieldLink RX5 25 "Twincuts$Web" "greater" "[I", Cond.fieldLink RX5 28 "Twincuts$Web" "cost" "[I", Cond.methodLink RX6 103 yX0_append, Cond.instanceMethod yX0_append, Cond.selects RX0 yX0_append yX0_append, Cond.code yX0_append cX0_append 3 none, Cond.fieldLink RX0 16 "Twincuts$Drawing" "length" "[I", Cond.fieldLink RX0 11 "Twincuts$Drawing" "order" "[[I", Cond.methodLink RX6 71 yX6_learnAll, Cond.instanceMethod yX6_learnAll, Cond.selects RX6 yX6_learnAll yX6_learnAll, Cond.code yX6_learnAll cX6_learnAll 1 none, Cond.methodLink RX6 310 yX1_learn, Cond.instanceMethod yX1_learn, Cond.selects RX1 yX1_learn yX1_learn, Cond.initialized RX1, Cond.code yX1_learn cX1_learn 1 none, Cond.methodLink RX1 59 yX1_numberParts, Cond.instanceMethod yX1_numberParts, Cond.selects RX1 yX1_numberParts yX1_numberParts, Cond.code yX1_numberParts cX1_numberParts 4 none, Cond.fieldLink RX1 9 "Twincuts$Falls" "parts" "I"]
def wsL_add_r6 : List Cond := [Cond.fieldLink RX1 55 "Twincuts$Falls" "web" "LTwincuts$Web;", Cond.methodLink RX1 101 yX5_allPoints, Cond.instanceMethod yX5_allPoints, Cond.selects RX5 yX5_allPoints yX5_allPoints, Cond.code yX5_allPoints cX5_allPoints 1 (some .int), Cond.methodLink RX1 108 yX5_reach, Cond.instanceMethod yX5_reach, Cond.selects RX5 yX5_reach yX5_reach, Cond.code yX5_reach cX5_reach 9 (some .int), Cond.methodLink RX1 112 yX1_putInPart, Cond.instanceMethod yX1_putInPart, Cond.selects RX1 yX1_putInPart yX1_putInPart, Cond.code yX1_putInPart cX1_putInPart 3 none, Cond.fieldLink RX1 30 "Twincuts$Falls" "part" "[I", Cond.fieldLink RX1 34 "Twincuts$Falls" "partSet" "[I", Cond.methodLink RX1 62 yX1_findBridges, Cond.instanceMethod yX1_findBridges, Cond.selects RX1 yX1_findBridges yX1_findBridges, Cond.code yX1_findBridges cX1_findBridges 3 none, Cond.fieldLink RX1 15 "Twincuts$Falls" "bridgeSet" "I", Cond.methodLink RX1 116 yX5_countParts, Cond.instanceMethod yX5_countParts, Cond.selects RX5 yX5_countParts yX5_countParts, Cond.code yX5_countParts cX5_countParts 6 (some .int)]
def wsL_add_r7 : List Cond := [Cond.methodLink RX5 41 yX5_reach, Cond.methodLink RX1 65 yX1_findCutPoints, Cond.instanceMethod yX1_findCutPoints, Cond.selects RX1 yX1_findCutPoints yX1_findCutPoints, Cond.code yX1_findCutPoints cX1_findCutPoints 2 none, Cond.fieldLink RX1 18 "Twincuts$Falls" "cutPointSet" "I", Cond.methodLink RX1 68 yX1_joinBlocks, Cond.instanceMethod yX1_joinBlocks, Cond.selects RX1 yX1_joinBlocks yX1_joinBlocks, Cond.code yX1_joinBlocks cX1_joinBlocks 3 none, Cond.fieldLink RX1 37 "Twincuts$Falls" "first" "[I", Cond.methodLink RX1 85 yX5_standingAt, Cond.methodLink RX1 120 yX1_joinAtPoint, Cond.instanceMethod yX1_joinAtPoint, Cond.selects RX1 yX1_joinAtPoint yX1_joinAtPoint, Cond.code yX1_joinAtPoint cX1_joinAtPoint 6 none, Cond.methodLink RX1 124 yX5_otherEnd, Cond.instanceMethod yX5_otherEnd, Cond.selects RX5 yX5_otherEnd yX5_otherEnd, Cond.code yX5_otherEnd cX5_otherEnd 3 (some .int), Cond.methodLink RX1 127 yX1_join, Cond.instanceMethod yX1_join, Cond.selects RX1 yX1_join yX1_join, Cond.code yX1_join cX1_join 5 none]
def wsL_add_r8 : List Cond := [Cond.methodLink RX1 130 Lib.Math.min.name, Cond.methodLink RX1 71 yX1_numberBlocks, Cond.instanceMethod yX1_numberBlocks, Cond.selects RX1 yX1_numberBlocks yX1_numberBlocks, Cond.code yX1_numberBlocks cX1_numberBlocks 2 none, Cond.fieldLink RX1 21 "Twincuts$Falls" "blocks" "I", Cond.fieldLink RX1 40 "Twincuts$Falls" "block" "[I", Cond.methodLink RX1 74 yX1_findPairs, Cond.instanceMethod yX1_findPairs, Cond.selects RX1 yX1_findPairs yX1_findPairs, Cond.code yX1_findPairs cX1_findPairs 3 none, Cond.fieldLink RX1 24 "Twincuts$Falls" "pairs" "I", Cond.fieldLink RX1 43 "Twincuts$Falls" "smallerOfPair" "[I", Cond.fieldLink RX1 46 "Twincuts$Falls" "greaterOfPair" "[I", Cond.methodLink RX1 135 yX1_isPair, Cond.instanceMethod yX1_isPair, Cond.selects RX1 yX1_isPair yX1_isPair, Cond.code yX1_isPair cX1_isPair 4 (some .boolean), Cond.methodLink RX1 77 yX1_findTwins, Cond.instanceMethod yX1_findTwins, Cond.selects RX1 yX1_findTwins yX1_findTwins, Cond.code yX1_findTwins cX1_findTwins 3 none, Cond.fieldLink RX1 27 "Twincuts$Falls" "twins" "I", Cond.fieldLink RX1 49 "Twincuts$Falls" "smallerOfTwins" "[I"]
def wsL_add_r9 : List Cond := [Cond.fieldLink RX1 52 "Twincuts$Falls" "greaterOfTwins" "[I", Cond.methodLink RX1 138 yX1_areTwins, Cond.instanceMethod yX1_areTwins, Cond.selects RX1 yX1_areTwins yX1_areTwins, Cond.code yX1_areTwins cX1_areTwins 4 (some .boolean), Cond.methodLink RX6 120 yX2_learn, Cond.instanceMethod yX2_learn, Cond.selects RX2 yX2_learn yX2_learn, Cond.initialized RX2, Cond.code yX2_learn cX2_learn 1 none, Cond.fieldLink RX2 16 "Twincuts$Forest" "cheapestSet" "I", Cond.fieldLink RX2 20 "Twincuts$Forest" "cheapestCost" "I", Cond.fieldLink RX2 27 "Twincuts$Forest" "web" "LTwincuts$Web;", Cond.methodLink RX2 63 yX5_allPoints, Cond.methodLink RX2 67 yX5_countParts, Cond.methodLink RX2 71 yX2_takeCheapest, Cond.instanceMethod yX2_takeCheapest, Cond.selects RX2 yX2_takeCheapest yX2_takeCheapest, Cond.code yX2_takeCheapest cX2_takeCheapest 3 none, Cond.fieldLink RX2 23 "Twincuts$Forest" "joined" "[I", Cond.methodLink RX2 77 yX2_takeIfNew, Cond.instanceMethod yX2_takeIfNew, Cond.selects RX2 yX2_takeIfNew yX2_takeIfNew, Cond.code yX2_takeIfNew cX2_takeIfNew 5 none]
def wsL_add_r10 : List Cond := [Cond.methodLink RX6 311 yX3_learn, Cond.instanceMethod yX3_learn, Cond.selects RX3 yX3_learn yX3_learn, Cond.initialized RX3, Cond.code yX3_learn cX3_learn 2 none, Cond.fieldLink RX3 19 "Twincuts$Palette" "web" "LTwincuts$Web;", Cond.fieldLink RX3 9 "Twincuts$Palette" "colours" "I", Cond.methodLink RX3 28 yX3_paintsFrom, Cond.instanceMethod yX3_paintsFrom, Cond.selects RX3 yX3_paintsFrom yX3_paintsFrom, Cond.code yX3_paintsFrom cX3_paintsFrom 6 (some .boolean), Cond.fieldLink RX3 15 "Twincuts$Palette" "colour" "[I", Cond.methodLink RX3 39 Lib.Math.max.name, Cond.methodLink RX3 32 yX5_linkedWith, Cond.methodLink RX3 36 yX3_isFree, Cond.instanceMethod yX3_isFree, Cond.selects RX3 yX3_isFree yX3_isFree, Cond.code yX3_isFree cX3_isFree 5 (some .boolean), Cond.methodLink RX6 129 yX0_learn, Cond.instanceMethod yX0_learn, Cond.selects RX0 yX0_learn yX0_learn, Cond.code yX0_learn cX0_learn 4 none, Cond.fieldLink RX0 24 "Twincuts$Drawing" "face" "[I", Cond.methodLink RX0 64 yX0_walkBehind]
def wsL_add_r11 : List Cond := [Cond.instanceMethod yX0_walkBehind, Cond.selects RX0 yX0_walkBehind yX0_walkBehind, Cond.code yX0_walkBehind cX0_walkBehind 7 (some .int), Cond.methodLink RX0 74 yX0_placeOf, Cond.instanceMethod yX0_placeOf, Cond.selects RX0 yX0_placeOf yX0_placeOf, Cond.code yX0_placeOf cX0_placeOf 4 (some .int), Cond.methodLink RX0 31 yX0_placeBehind, Cond.instanceMethod yX0_placeBehind, Cond.selects RX0 yX0_placeBehind yX0_placeBehind, Cond.code yX0_placeBehind cX0_placeBehind 3 (some .int)]
def wsL_add : List Cond := .code yL_add cL_add 4 none :: ((wsL_add_r1 ++ (wsL_add_r2 ++ (wsL_add_r3 ++ (wsL_add_r4 ++ (wsL_add_r5 ++ (wsL_add_r6 ++ (wsL_add_r7 ++ (wsL_add_r8 ++ (wsL_add_r9 ++ (wsL_add_r10 ++ wsL_add_r11)))))))))) ++ wsX60 ++ wsX50 ++ wsX10 ++ wsX20 ++ wsX30 ++ wsX00 ++ (vx_atS RX6 253 "java/lang/IllegalArgumentException" ["java/lang/RuntimeException", "java/lang/Exception"]).filter goodWord ++ (vx_atS RX6 64 "java/lang/IllegalStateException" ["java/lang/RuntimeException", "java/lang/Exception"]).filter goodWord ++ (vx_atS RX6 334 "java/lang/IndexOutOfBoundsException" ["java/lang/RuntimeException", "java/lang/Exception"]).filter goodWord)
def wsL_turned_r1 : List Cond := [Cond.methodLink RL 37 yX6_net, Cond.instanceMethod yX6_net, Cond.selects RX6 yX6_net yX6_net, Cond.initialized RX6, Cond.code yX6_net cX6_net 2 (some .int), Cond.fieldLink RX6 10 "Twincuts" "web" "LTwincuts$Web;", Cond.fieldLink RX6 21 "Twincuts" "falls" "LTwincuts$Falls;", Cond.fieldLink RX6 35 "Twincuts" "forest" "LTwincuts$Forest;", Cond.fieldLink RX6 42 "Twincuts" "palette" "LTwincuts$Palette;", Cond.fieldLink RX6 49 "Twincuts" "drawing" "LTwincuts$Drawing;", Cond.fieldLink RX6 53 "Twincuts" "refused" "I", Cond.methodLink RX6 133 yX6_demandWhat, Cond.static yX6_demandWhat, Cond.code yX6_demandWhat cX6_demandWhat 2 none, Cond.classLink RX6 249 "java/lang/IllegalArgumentException", Cond.initialized "java/lang/IllegalArgumentException", Cond.methodLink RX6 143 yJ6_bitCount_0f7a4, Cond.static yJ6_bitCount_0f7a4, Cond.initialized RJ6, Cond.code yJ6_bitCount_0f7a4 cJ6_bitCount_0f7a4 1 (some .int), Cond.constant RJ6 265 (1431655765), Cond.constant RJ6 266 (858993459), Cond.constant RJ6 267 (252645135), Cond.methodLink RX6 130 yX0_allFaces]
def wsL_turned_r2 : List Cond := [Cond.instanceMethod yX0_allFaces, Cond.selects RX0 yX0_allFaces yX0_allFaces, Cond.initialized RX0, Cond.code yX0_allFaces cX0_allFaces 3 (some .int), Cond.fieldLink RX0 20 "Twincuts$Drawing" "walked" "I", Cond.fieldLink RX0 27 "Twincuts$Drawing" "web" "LTwincuts$Web;", Cond.methodLink RX0 80 yX5_standingAt, Cond.instanceMethod yX5_standingAt, Cond.selects RX5 yX5_standingAt yX5_standingAt, Cond.initialized RX5, Cond.code yX5_standingAt cX5_standingAt 2 (some .int), Cond.fieldLink RX5 34 "Twincuts$Web" "linesAt" "[I", Cond.fieldLink RX5 18 "Twincuts$Web" "standing" "I", Cond.methodLink RX6 203 yX6_handles, Cond.instanceMethod yX6_handles, Cond.selects RX6 yX6_handles yX6_handles, Cond.code yX6_handles cX6_handles 2 (some .int), Cond.methodLink RX6 206 yX5_greatestDistance, Cond.instanceMethod yX5_greatestDistance, Cond.selects RX5 yX5_greatestDistance yX5_greatestDistance, Cond.code yX5_greatestDistance cX5_greatestDistance 4 (some .int), Cond.fieldLink RX5 9 "Twincuts$Web" "points" "I", Cond.methodLink RX5 56 Lib.Math.max.name, Cond.static Lib.Math.max.name]
def wsL_turned_r3 : List Cond := [Cond.initialized "java/lang/Math", Cond.code Lib.Math.max.name Lib.Math.max.code 2 (some .int), Cond.methodLink RX5 52 yX5_distance, Cond.instanceMethod yX5_distance, Cond.selects RX5 yX5_distance yX5_distance, Cond.code yX5_distance cX5_distance 5 (some .int), Cond.static yX6_has, Cond.code yX6_has cX6_has 2 (some .boolean), Cond.methodLink RX5 45 yX5_linkedWithAny, Cond.instanceMethod yX5_linkedWithAny, Cond.selects RX5 yX5_linkedWithAny yX5_linkedWithAny, Cond.code yX5_linkedWithAny cX5_linkedWithAny 4 (some .int), Cond.methodLink RX5 49 yX5_linkedWith, Cond.instanceMethod yX5_linkedWith, Cond.selects RX5 yX5_linkedWith yX5_linkedWith, Cond.code yX5_linkedWith cX5_linkedWith 4 (some .int), Cond.fieldLink RX5 15 "Twincuts$Web" "lines" "I", Cond.fieldLink RX5 31 "Twincuts$Web" "ends" "[I", Cond.methodLink RL 18 yL_below, Cond.static yL_below, Cond.initialized RL, Cond.code yL_below cL_below 2 (some .int), Cond.constant RL 7 (2147483647), Cond.methodLink RL 45 yX6_ofPoint]
def wsL_turned_r4 : List Cond := [Cond.instanceMethod yX6_ofPoint, Cond.selects RX6 yX6_ofPoint yX6_ofPoint, Cond.code yX6_ofPoint cX6_ofPoint 3 (some .int), Cond.methodLink RX6 74 yX6_demandPoint, Cond.instanceMethod yX6_demandPoint, Cond.selects RX6 yX6_demandPoint yX6_demandPoint, Cond.code yX6_demandPoint cX6_demandPoint 2 none, Cond.classLink RX6 330 "java/lang/IndexOutOfBoundsException", Cond.initialized "java/lang/IndexOutOfBoundsException", Cond.methodLink RX6 139 yX5_standingAt, Cond.methodLink RX6 151 yX6_has, Cond.methodLink RX6 155 yX1_blocksAt, Cond.instanceMethod yX1_blocksAt, Cond.selects RX1 yX1_blocksAt yX1_blocksAt, Cond.initialized RX1, Cond.code yX1_blocksAt cX1_blocksAt 4 (some .int), Cond.fieldLink RX1 55 "Twincuts$Falls" "web" "LTwincuts$Web;", Cond.fieldLink RX1 40 "Twincuts$Falls" "block" "[I", Cond.methodLink RX1 85 yX5_standingAt, Cond.methodLink RX1 93 yJ6_bitCount_0f7a4, Cond.methodLink RX6 161 yX5_linkedWith, Cond.methodLink RL 48 yX6_turn, Cond.instanceMethod yX6_turn, Cond.selects RX6 yX6_turn yX6_turn]
def wsL_turned_r5 : List Cond := [Cond.code yX6_turn cX6_turn 3 (some .int), Cond.methodLink RX6 123 yX6_demandPlace, Cond.instanceMethod yX6_demandPlace, Cond.selects RX6 yX6_demandPlace yX6_demandPlace, Cond.code yX6_demandPlace cX6_demandPlace 3 none, Cond.methodLink RX6 126 yX0_swap, Cond.instanceMethod yX0_swap, Cond.selects RX0 yX0_swap yX0_swap, Cond.code yX0_swap cX0_swap 5 none, Cond.fieldLink RX0 11 "Twincuts$Drawing" "order" "[[I", Cond.methodLink RX0 31 yX0_placeBehind, Cond.instanceMethod yX0_placeBehind, Cond.selects RX0 yX0_placeBehind yX0_placeBehind, Cond.code yX0_placeBehind cX0_placeBehind 3 (some .int), Cond.fieldLink RX0 16 "Twincuts$Drawing" "length" "[I", Cond.methodLink RX6 129 yX0_learn, Cond.instanceMethod yX0_learn, Cond.selects RX0 yX0_learn yX0_learn, Cond.code yX0_learn cX0_learn 4 none, Cond.fieldLink RX0 24 "Twincuts$Drawing" "face" "[I", Cond.methodLink RX0 64 yX0_walkBehind, Cond.instanceMethod yX0_walkBehind, Cond.selects RX0 yX0_walkBehind yX0_walkBehind, Cond.code yX0_walkBehind cX0_walkBehind 7 (some .int)]
def wsL_turned_r6 : List Cond := [Cond.methodLink RX0 74 yX0_placeOf, Cond.instanceMethod yX0_placeOf, Cond.selects RX0 yX0_placeOf yX0_placeOf, Cond.code yX0_placeOf cX0_placeOf 4 (some .int)]
def wsL_turned : List Cond := .code yL_turned cL_turned 3 none :: ((wsL_turned_r1 ++ (wsL_turned_r2 ++ (wsL_turned_r3 ++ (wsL_turned_r4 ++ (wsL_turned_r5 ++ wsL_turned_r6))))) ++ wsX60 ++ wsX50 ++ wsX10 ++ wsX20 ++ wsX30 ++ wsX00 ++ (vx_atS RX6 253 "java/lang/IllegalArgumentException" ["java/lang/RuntimeException", "java/lang/Exception"]).filter goodWord ++ (vx_atS RX6 334 "java/lang/IndexOutOfBoundsException" ["java/lang/RuntimeException", "java/lang/Exception"]).filter goodWord)
def wsL_net_r1 : List Cond := [Cond.classLink RL 9 RX6, Cond.instantiable RX6 7, Cond.initialized RX6, Cond.methodLink RL 11 yX6_init, Cond.instanceMethod yX6_init, Cond.code yX6_init cX6_init 1 none, Cond.methodLink RX6 1 objectInit, Cond.instanceMethod objectInit, Cond.code objectInit ⟨#[0xb1]⟩ 1 none, Cond.classLink RX6 7 RX5, Cond.instantiable RX5 8, Cond.initialized RX5, Cond.fieldLink RX6 10 "Twincuts" "web" "LTwincuts$Web;", Cond.classLink RX6 16 RX1, Cond.instantiable RX1 15, Cond.initialized RX1, Cond.fieldLink RX6 21 "Twincuts" "falls" "LTwincuts$Falls;", Cond.classLink RX6 25 RX4, Cond.instantiable RX4 4, Cond.initialized RX4, Cond.fieldLink RX6 28 "Twincuts" "ways" "LTwincuts$Ways;", Cond.classLink RX6 32 RX2, Cond.instantiable RX2 5, Cond.initialized RX2]
def wsL_net_r2 : List Cond := [Cond.fieldLink RX6 35 "Twincuts" "forest" "LTwincuts$Forest;", Cond.classLink RX6 39 RX3, Cond.instantiable RX3 3, Cond.initialized RX3, Cond.fieldLink RX6 42 "Twincuts" "palette" "LTwincuts$Palette;", Cond.classLink RX6 46 RX0, Cond.instantiable RX0 5, Cond.initialized RX0, Cond.fieldLink RX6 49 "Twincuts" "drawing" "LTwincuts$Drawing;", Cond.fieldLink RX6 53 "Twincuts" "refused" "I", Cond.instanceMethod yX5_init, Cond.code yX5_init cX5_init 1 none, Cond.methodLink RX5 3 objectInit, Cond.fieldLink RX5 9 "Twincuts$Web" "points" "I", Cond.fieldLink RX5 15 "Twincuts$Web" "lines" "I", Cond.fieldLink RX5 18 "Twincuts$Web" "standing" "I", Cond.arrayClass .int, Cond.fieldLink RX5 21 "Twincuts$Web" "smaller" "[I", Cond.fieldLink RX5 25 "Twincuts$Web" "greater" "[I", Cond.fieldLink RX5 28 "Twincuts$Web" "cost" "[I", Cond.fieldLink RX5 31 "Twincuts$Web" "ends" "[I", Cond.fieldLink RX5 34 "Twincuts$Web" "linesAt" "[I", Cond.methodLink RX6 18 yX1_init, Cond.instanceMethod yX1_init]
def wsL_net_r3 : List Cond := [Cond.code yX1_init cX1_init 2 none, Cond.methodLink RX1 3 objectInit, Cond.fieldLink RX1 9 "Twincuts$Falls" "parts" "I", Cond.fieldLink RX1 15 "Twincuts$Falls" "bridgeSet" "I", Cond.fieldLink RX1 18 "Twincuts$Falls" "cutPointSet" "I", Cond.fieldLink RX1 21 "Twincuts$Falls" "blocks" "I", Cond.fieldLink RX1 24 "Twincuts$Falls" "pairs" "I", Cond.fieldLink RX1 27 "Twincuts$Falls" "twins" "I", Cond.fieldLink RX1 30 "Twincuts$Falls" "part" "[I", Cond.fieldLink RX1 34 "Twincuts$Falls" "partSet" "[I", Cond.fieldLink RX1 37 "Twincuts$Falls" "first" "[I", Cond.fieldLink RX1 40 "Twincuts$Falls" "block" "[I", Cond.fieldLink RX1 43 "Twincuts$Falls" "smallerOfPair" "[I", Cond.fieldLink RX1 46 "Twincuts$Falls" "greaterOfPair" "[I", Cond.fieldLink RX1 49 "Twincuts$Falls" "smallerOfTwins" "[I", Cond.fieldLink RX1 52 "Twincuts$Falls" "greaterOfTwins" "[I", Cond.fieldLink RX1 55 "Twincuts$Falls" "web" "LTwincuts$Web;", Cond.methodLink RX6 27 yX4_init, Cond.instanceMethod yX4_init, Cond.code yX4_init cX4_init 2 none, Cond.methodLink RX4 3 objectInit, Cond.classLink RX4 11 "[[I", Cond.fieldLink RX4 13 "Twincuts$Ways" "room" "[[I", Cond.fieldLink RX4 16 "Twincuts$Ways" "cameFrom" "[I"]
def wsL_net_r4 : List Cond := [Cond.fieldLink RX4 20 "Twincuts$Ways" "queue" "[I", Cond.fieldLink RX4 23 "Twincuts$Ways" "web" "LTwincuts$Web;", Cond.methodLink RX6 34 yX2_init, Cond.instanceMethod yX2_init, Cond.code yX2_init cX2_init 2 none, Cond.methodLink RX2 3 objectInit, Cond.classLink RX2 9 "[[J", Cond.arrayClass .long, Cond.fieldLink RX2 11 "Twincuts$Forest" "table" "[[J", Cond.fieldLink RX2 16 "Twincuts$Forest" "cheapestSet" "I", Cond.fieldLink RX2 20 "Twincuts$Forest" "cheapestCost" "I", Cond.fieldLink RX2 23 "Twincuts$Forest" "joined" "[I", Cond.fieldLink RX2 27 "Twincuts$Forest" "web" "LTwincuts$Web;", Cond.methodLink RX6 41 yX3_init, Cond.instanceMethod yX3_init, Cond.code yX3_init cX3_init 2 none, Cond.methodLink RX3 3 objectInit, Cond.fieldLink RX3 9 "Twincuts$Palette" "colours" "I", Cond.fieldLink RX3 15 "Twincuts$Palette" "colour" "[I", Cond.fieldLink RX3 19 "Twincuts$Palette" "web" "LTwincuts$Web;", Cond.methodLink RX6 48 yX0_init, Cond.instanceMethod yX0_init, Cond.code yX0_init cX0_init 2 none, Cond.methodLink RX0 3 objectInit]
def wsL_net_r5 : List Cond := [Cond.classLink RX0 9 "[[I", Cond.fieldLink RX0 11 "Twincuts$Drawing" "order" "[[I", Cond.fieldLink RX0 16 "Twincuts$Drawing" "length" "[I", Cond.fieldLink RX0 20 "Twincuts$Drawing" "walked" "I", Cond.fieldLink RX0 24 "Twincuts$Drawing" "face" "[I", Cond.fieldLink RX0 27 "Twincuts$Drawing" "web" "LTwincuts$Web;", Cond.methodLink RL 12 yL_cell, Cond.static yL_cell, Cond.initialized RL, Cond.code yL_cell cL_cell 2 (some .int), Cond.constant RL 8 (790386105), Cond.methodLink RL 18 yL_below, Cond.static yL_below, Cond.code yL_below cL_below 2 (some .int), Cond.constant RL 7 (2147483647), Cond.methodLink RL 22 yX6_point, Cond.instanceMethod yX6_point, Cond.selects RX6 yX6_point yX6_point, Cond.code yX6_point cX6_point 2 (some .int), Cond.classLink RX6 60 "java/lang/IllegalStateException", Cond.initialized "java/lang/IllegalStateException", Cond.methodLink RX6 67 yX5_addPoint, Cond.instanceMethod yX5_addPoint, Cond.selects RX5 yX5_addPoint yX5_addPoint]
def wsL_net_r6 : List Cond := [Cond.code yX5_addPoint cX5_addPoint 1 (some .int), Cond.methodLink RX6 71 yX6_learnAll, Cond.instanceMethod yX6_learnAll, Cond.selects RX6 yX6_learnAll yX6_learnAll, Cond.code yX6_learnAll cX6_learnAll 1 none, Cond.methodLink RX6 310 yX1_learn, Cond.instanceMethod yX1_learn, Cond.selects RX1 yX1_learn yX1_learn, Cond.code yX1_learn cX1_learn 1 none, Cond.methodLink RX1 59 yX1_numberParts, Cond.instanceMethod yX1_numberParts, Cond.selects RX1 yX1_numberParts yX1_numberParts, Cond.code yX1_numberParts cX1_numberParts 4 none, Cond.static yX6_has, Cond.code yX6_has cX6_has 2 (some .boolean), Cond.methodLink RX1 101 yX5_allPoints, Cond.instanceMethod yX5_allPoints, Cond.selects RX5 yX5_allPoints yX5_allPoints, Cond.code yX5_allPoints cX5_allPoints 1 (some .int), Cond.methodLink RX1 108 yX5_reach, Cond.instanceMethod yX5_reach, Cond.selects RX5 yX5_reach yX5_reach, Cond.code yX5_reach cX5_reach 9 (some .int), Cond.methodLink RX1 112 yX1_putInPart]
def wsL_net_r7 : List Cond := [Cond.instanceMethod yX1_putInPart, Cond.selects RX1 yX1_putInPart yX1_putInPart, Cond.code yX1_putInPart cX1_putInPart 3 none, Cond.methodLink RX1 62 yX1_findBridges, Cond.instanceMethod yX1_findBridges, Cond.selects RX1 yX1_findBridges yX1_findBridges, Cond.code yX1_findBridges cX1_findBridges 3 none, Cond.methodLink RX1 116 yX5_countParts, Cond.instanceMethod yX5_countParts, Cond.selects RX5 yX5_countParts yX5_countParts, Cond.code yX5_countParts cX5_countParts 6 (some .int), Cond.methodLink RX5 41 yX5_reach, Cond.methodLink RX1 65 yX1_findCutPoints, Cond.instanceMethod yX1_findCutPoints, Cond.selects RX1 yX1_findCutPoints yX1_findCutPoints, Cond.code yX1_findCutPoints cX1_findCutPoints 2 none, Cond.methodLink RX1 68 yX1_joinBlocks, Cond.instanceMethod yX1_joinBlocks, Cond.selects RX1 yX1_joinBlocks yX1_joinBlocks, Cond.code yX1_joinBlocks cX1_joinBlocks 3 none, Cond.methodLink RX1 85 yX5_standingAt, Cond.instanceMethod yX5_standingAt, Cond.selects RX5 yX5_standingAt yX5_standingAt, Cond.code yX5_standingAt cX5_standingAt 2 (some .int)]
def wsL_net_r8 : List Cond := [Cond.methodLink RX1 120 yX1_joinAtPoint, Cond.instanceMethod yX1_joinAtPoint, Cond.selects RX1 yX1_joinAtPoint yX1_joinAtPoint, Cond.code yX1_joinAtPoint cX1_joinAtPoint 6 none, Cond.methodLink RX1 124 yX5_otherEnd, Cond.instanceMethod yX5_otherEnd, Cond.selects RX5 yX5_otherEnd yX5_otherEnd, Cond.code yX5_otherEnd cX5_otherEnd 3 (some .int), Cond.methodLink RX1 127 yX1_join, Cond.instanceMethod yX1_join, Cond.selects RX1 yX1_join yX1_join, Cond.code yX1_join cX1_join 5 none, Cond.methodLink RX1 130 Lib.Math.min.name, Cond.static Lib.Math.min.name, Cond.initialized "java/lang/Math", Cond.code Lib.Math.min.name Lib.Math.min.code 2 (some .int), Cond.methodLink RX1 71 yX1_numberBlocks, Cond.instanceMethod yX1_numberBlocks, Cond.selects RX1 yX1_numberBlocks yX1_numberBlocks, Cond.code yX1_numberBlocks cX1_numberBlocks 2 none, Cond.methodLink RX1 74 yX1_findPairs, Cond.instanceMethod yX1_findPairs, Cond.selects RX1 yX1_findPairs yX1_findPairs, Cond.code yX1_findPairs cX1_findPairs 3 none]
def wsL_net_r9 : List Cond := [Cond.methodLink RX1 135 yX1_isPair, Cond.instanceMethod yX1_isPair, Cond.selects RX1 yX1_isPair yX1_isPair, Cond.code yX1_isPair cX1_isPair 4 (some .boolean), Cond.methodLink RX1 77 yX1_findTwins, Cond.instanceMethod yX1_findTwins, Cond.selects RX1 yX1_findTwins yX1_findTwins, Cond.code yX1_findTwins cX1_findTwins 3 none, Cond.methodLink RX1 138 yX1_areTwins, Cond.instanceMethod yX1_areTwins, Cond.selects RX1 yX1_areTwins yX1_areTwins, Cond.code yX1_areTwins cX1_areTwins 4 (some .boolean), Cond.methodLink RX6 120 yX2_learn, Cond.instanceMethod yX2_learn, Cond.selects RX2 yX2_learn yX2_learn, Cond.code yX2_learn cX2_learn 1 none, Cond.methodLink RX2 63 yX5_allPoints, Cond.methodLink RX2 67 yX5_countParts, Cond.methodLink RX2 71 yX2_takeCheapest, Cond.instanceMethod yX2_takeCheapest, Cond.selects RX2 yX2_takeCheapest yX2_takeCheapest, Cond.code yX2_takeCheapest cX2_takeCheapest 3 none, Cond.methodLink RX2 77 yX2_takeIfNew, Cond.instanceMethod yX2_takeIfNew]
def wsL_net_r10 : List Cond := [Cond.selects RX2 yX2_takeIfNew yX2_takeIfNew, Cond.code yX2_takeIfNew cX2_takeIfNew 5 none, Cond.methodLink RX6 311 yX3_learn, Cond.instanceMethod yX3_learn, Cond.selects RX3 yX3_learn yX3_learn, Cond.code yX3_learn cX3_learn 2 none, Cond.methodLink RX3 28 yX3_paintsFrom, Cond.instanceMethod yX3_paintsFrom, Cond.selects RX3 yX3_paintsFrom yX3_paintsFrom, Cond.code yX3_paintsFrom cX3_paintsFrom 6 (some .boolean), Cond.methodLink RX3 39 Lib.Math.max.name, Cond.static Lib.Math.max.name, Cond.code Lib.Math.max.name Lib.Math.max.code 2 (some .int), Cond.methodLink RX3 32 yX5_linkedWith, Cond.instanceMethod yX5_linkedWith, Cond.selects RX5 yX5_linkedWith yX5_linkedWith, Cond.code yX5_linkedWith cX5_linkedWith 4 (some .int), Cond.methodLink RX3 36 yX3_isFree, Cond.instanceMethod yX3_isFree, Cond.selects RX3 yX3_isFree yX3_isFree, Cond.code yX3_isFree cX3_isFree 5 (some .boolean), Cond.methodLink RX6 129 yX0_learn, Cond.instanceMethod yX0_learn, Cond.selects RX0 yX0_learn yX0_learn]
def wsL_net_r11 : List Cond := [Cond.code yX0_learn cX0_learn 4 none, Cond.methodLink RX0 64 yX0_walkBehind, Cond.instanceMethod yX0_walkBehind, Cond.selects RX0 yX0_walkBehind yX0_walkBehind, Cond.code yX0_walkBehind cX0_walkBehind 7 (some .int), Cond.methodLink RX0 74 yX0_placeOf, Cond.instanceMethod yX0_placeOf, Cond.selects RX0 yX0_placeOf yX0_placeOf, Cond.code yX0_placeOf cX0_placeOf 4 (some .int), Cond.methodLink RX0 31 yX0_placeBehind, Cond.instanceMethod yX0_placeBehind, Cond.selects RX0 yX0_placeBehind yX0_placeBehind, Cond.code yX0_placeBehind cX0_placeBehind 3 (some .int), Cond.methodLink RL 26 yL_add, Cond.static yL_add, Cond.code yL_add cL_add 4 none, Cond.methodLink RL 37 yX6_net, Cond.instanceMethod yX6_net, Cond.selects RX6 yX6_net yX6_net, Cond.code yX6_net cX6_net 2 (some .int), Cond.methodLink RX6 133 yX6_demandWhat, Cond.static yX6_demandWhat, Cond.code yX6_demandWhat cX6_demandWhat 2 none, Cond.classLink RX6 249 "java/lang/IllegalArgumentException"]
def wsL_net_r12 : List Cond := [Cond.initialized "java/lang/IllegalArgumentException", Cond.methodLink RX6 143 yJ6_bitCount_0f7a4, Cond.static yJ6_bitCount_0f7a4, Cond.initialized RJ6, Cond.code yJ6_bitCount_0f7a4 cJ6_bitCount_0f7a4 1 (some .int), Cond.constant RJ6 265 (1431655765), Cond.constant RJ6 266 (858993459), Cond.constant RJ6 267 (252645135), Cond.methodLink RX6 130 yX0_allFaces, Cond.instanceMethod yX0_allFaces, Cond.selects RX0 yX0_allFaces yX0_allFaces, Cond.code yX0_allFaces cX0_allFaces 3 (some .int), Cond.methodLink RX0 80 yX5_standingAt, Cond.methodLink RX6 203 yX6_handles, Cond.instanceMethod yX6_handles, Cond.selects RX6 yX6_handles yX6_handles, Cond.code yX6_handles cX6_handles 2 (some .int), Cond.methodLink RX6 206 yX5_greatestDistance, Cond.instanceMethod yX5_greatestDistance, Cond.selects RX5 yX5_greatestDistance yX5_greatestDistance, Cond.code yX5_greatestDistance cX5_greatestDistance 4 (some .int), Cond.methodLink RX5 56 Lib.Math.max.name, Cond.methodLink RX5 52 yX5_distance, Cond.instanceMethod yX5_distance]
def wsL_net_r13 : List Cond := [Cond.selects RX5 yX5_distance yX5_distance, Cond.code yX5_distance cX5_distance 5 (some .int), Cond.methodLink RX5 45 yX5_linkedWithAny, Cond.instanceMethod yX5_linkedWithAny, Cond.selects RX5 yX5_linkedWithAny yX5_linkedWithAny, Cond.code yX5_linkedWithAny cX5_linkedWithAny 4 (some .int), Cond.methodLink RX5 49 yX5_linkedWith, Cond.methodLink RL 41 yX6_line, Cond.instanceMethod yX6_line, Cond.selects RX6 yX6_line yX6_line, Cond.code yX6_line cX6_line 5 (some .int), Cond.methodLink RX6 90 Lib.Math.min.name, Cond.methodLink RX6 96 Lib.Math.max.name, Cond.methodLink RX6 74 yX6_demandPoint, Cond.instanceMethod yX6_demandPoint, Cond.selects RX6 yX6_demandPoint yX6_demandPoint, Cond.code yX6_demandPoint cX6_demandPoint 2 none, Cond.classLink RX6 330 "java/lang/IndexOutOfBoundsException", Cond.initialized "java/lang/IndexOutOfBoundsException", Cond.methodLink RX6 78 yX6_demandUnlike, Cond.static yX6_demandUnlike, Cond.code yX6_demandUnlike cX6_demandUnlike 2 none, Cond.methodLink RX6 82 yX6_demandCost, Cond.static yX6_demandCost]
def wsL_net_r14 : List Cond := [Cond.code yX6_demandCost cX6_demandCost 1 none, Cond.methodLink RX6 99 yX5_addLine, Cond.instanceMethod yX5_addLine, Cond.selects RX5 yX5_addLine yX5_addLine, Cond.code yX5_addLine cX5_addLine 5 (some .int), Cond.methodLink RX6 103 yX0_append, Cond.instanceMethod yX0_append, Cond.selects RX0 yX0_append yX0_append, Cond.code yX0_append cX0_append 3 none, Cond.methodLink RL 30 yX6_cut, Cond.instanceMethod yX6_cut, Cond.selects RX6 yX6_cut yX6_cut, Cond.code yX6_cut cX6_cut 3 (some .int), Cond.methodLink RX6 106 yX6_demandLine, Cond.instanceMethod yX6_demandLine, Cond.selects RX6 yX6_demandLine yX6_demandLine, Cond.code yX6_demandLine cX6_demandLine 2 none, Cond.methodLink RX6 109 yX5_setCut, Cond.instanceMethod yX5_setCut, Cond.selects RX5 yX5_setCut yX5_setCut, Cond.code yX5_setCut cX5_setCut 3 none, Cond.methodLink RL 34 yL_turned, Cond.static yL_turned, Cond.code yL_turned cL_turned 3 none]
def wsL_net_r15 : List Cond := [Cond.methodLink RL 45 yX6_ofPoint, Cond.instanceMethod yX6_ofPoint, Cond.selects RX6 yX6_ofPoint yX6_ofPoint, Cond.code yX6_ofPoint cX6_ofPoint 3 (some .int), Cond.methodLink RX6 139 yX5_standingAt, Cond.methodLink RX6 151 yX6_has, Cond.methodLink RX6 155 yX1_blocksAt, Cond.instanceMethod yX1_blocksAt, Cond.selects RX1 yX1_blocksAt yX1_blocksAt, Cond.code yX1_blocksAt cX1_blocksAt 4 (some .int), Cond.methodLink RX1 93 yJ6_bitCount_0f7a4, Cond.methodLink RX6 161 yX5_linkedWith, Cond.methodLink RL 48 yX6_turn, Cond.instanceMethod yX6_turn, Cond.selects RX6 yX6_turn yX6_turn, Cond.code yX6_turn cX6_turn 3 (some .int), Cond.methodLink RX6 123 yX6_demandPlace, Cond.instanceMethod yX6_demandPlace, Cond.selects RX6 yX6_demandPlace yX6_demandPlace, Cond.code yX6_demandPlace cX6_demandPlace 3 none, Cond.methodLink RX6 126 yX0_swap, Cond.instanceMethod yX0_swap, Cond.selects RX0 yX0_swap yX0_swap, Cond.code yX0_swap cX0_swap 5 none]
def wsL_net : List Cond := .code yL_net cL_net 5 (some (.object "Twincuts")) :: ((wsL_net_r1 ++ (wsL_net_r2 ++ (wsL_net_r3 ++ (wsL_net_r4 ++ (wsL_net_r5 ++ (wsL_net_r6 ++ (wsL_net_r7 ++ (wsL_net_r8 ++ (wsL_net_r9 ++ (wsL_net_r10 ++ (wsL_net_r11 ++ (wsL_net_r12 ++ (wsL_net_r13 ++ (wsL_net_r14 ++ wsL_net_r15)))))))))))))) ++ wsX60 ++ wsX50 ++ wsX10 ++ wsX40 ++ wsX20 ++ wsX30 ++ wsX00 ++ (vx_atS RX6 64 "java/lang/IllegalStateException" ["java/lang/RuntimeException", "java/lang/Exception"]).filter goodWord ++ (vx_atS RX6 253 "java/lang/IllegalArgumentException" ["java/lang/RuntimeException", "java/lang/Exception"]).filter goodWord ++ (vx_atS RX6 334 "java/lang/IndexOutOfBoundsException" ["java/lang/RuntimeException", "java/lang/Exception"]).filter goodWord)
def wsL_isDone_r1 : List Cond := [Cond.classLink RL 59 "java/lang/IllegalStateException", Cond.classLink RL 61 "java/lang/IndexOutOfBoundsException", Cond.methodLink RL 51 Lib.Math.max.name, Cond.static Lib.Math.max.name, Cond.initialized "java/lang/Math", Cond.code Lib.Math.max.name Lib.Math.max.code 2 (some .int), Cond.methodLink RL 37 yX6_net, Cond.instanceMethod yX6_net, Cond.selects RX6 yX6_net yX6_net, Cond.initialized RX6, Cond.code yX6_net cX6_net 2 (some .int), Cond.fieldLink RX6 10 "Twincuts" "web" "LTwincuts$Web;", Cond.fieldLink RX6 21 "Twincuts" "falls" "LTwincuts$Falls;", Cond.fieldLink RX6 35 "Twincuts" "forest" "LTwincuts$Forest;", Cond.fieldLink RX6 42 "Twincuts" "palette" "LTwincuts$Palette;", Cond.fieldLink RX6 49 "Twincuts" "drawing" "LTwincuts$Drawing;", Cond.fieldLink RX6 53 "Twincuts" "refused" "I", Cond.methodLink RX6 133 yX6_demandWhat, Cond.static yX6_demandWhat, Cond.code yX6_demandWhat cX6_demandWhat 2 none, Cond.classLink RX6 249 "java/lang/IllegalArgumentException", Cond.initialized "java/lang/IllegalArgumentException", Cond.methodLink RX6 143 yJ6_bitCount_0f7a4, Cond.static yJ6_bitCount_0f7a4]
def wsL_isDone_r2 : List Cond := [Cond.initialized RJ6, Cond.code yJ6_bitCount_0f7a4 cJ6_bitCount_0f7a4 1 (some .int), Cond.constant RJ6 265 (1431655765), Cond.constant RJ6 266 (858993459), Cond.constant RJ6 267 (252645135), Cond.methodLink RX6 130 yX0_allFaces, Cond.instanceMethod yX0_allFaces, Cond.selects RX0 yX0_allFaces yX0_allFaces, Cond.initialized RX0, Cond.code yX0_allFaces cX0_allFaces 3 (some .int), Cond.fieldLink RX0 20 "Twincuts$Drawing" "walked" "I", Cond.fieldLink RX0 27 "Twincuts$Drawing" "web" "LTwincuts$Web;", Cond.methodLink RX0 80 yX5_standingAt, Cond.instanceMethod yX5_standingAt, Cond.selects RX5 yX5_standingAt yX5_standingAt, Cond.initialized RX5, Cond.code yX5_standingAt cX5_standingAt 2 (some .int), Cond.fieldLink RX5 34 "Twincuts$Web" "linesAt" "[I", Cond.fieldLink RX5 18 "Twincuts$Web" "standing" "I", Cond.methodLink RX6 203 yX6_handles, Cond.instanceMethod yX6_handles, Cond.selects RX6 yX6_handles yX6_handles, Cond.code yX6_handles cX6_handles 2 (some .int), Cond.methodLink RX6 206 yX5_greatestDistance]
def wsL_isDone_r3 : List Cond := [Cond.instanceMethod yX5_greatestDistance, Cond.selects RX5 yX5_greatestDistance yX5_greatestDistance, Cond.code yX5_greatestDistance cX5_greatestDistance 4 (some .int), Cond.fieldLink RX5 9 "Twincuts$Web" "points" "I", Cond.methodLink RX5 56 Lib.Math.max.name, Cond.methodLink RX5 52 yX5_distance, Cond.instanceMethod yX5_distance, Cond.selects RX5 yX5_distance yX5_distance, Cond.code yX5_distance cX5_distance 5 (some .int), Cond.static yX6_has, Cond.code yX6_has cX6_has 2 (some .boolean), Cond.methodLink RX5 45 yX5_linkedWithAny, Cond.instanceMethod yX5_linkedWithAny, Cond.selects RX5 yX5_linkedWithAny yX5_linkedWithAny, Cond.code yX5_linkedWithAny cX5_linkedWithAny 4 (some .int), Cond.methodLink RX5 49 yX5_linkedWith, Cond.instanceMethod yX5_linkedWith, Cond.selects RX5 yX5_linkedWith yX5_linkedWith, Cond.code yX5_linkedWith cX5_linkedWith 4 (some .int), Cond.fieldLink RX5 15 "Twincuts$Web" "lines" "I", Cond.fieldLink RX5 31 "Twincuts$Web" "ends" "[I", Cond.methodLink RL 18 yL_below, Cond.static yL_below, Cond.initialized RL]
def wsL_isDone_r4 : List Cond := [Cond.code yL_below cL_below 2 (some .int), Cond.constant RL 7 (2147483647), Cond.methodLink RL 22 yX6_point, Cond.instanceMethod yX6_point, Cond.selects RX6 yX6_point yX6_point, Cond.code yX6_point cX6_point 2 (some .int), Cond.classLink RX6 60 "java/lang/IllegalStateException", Cond.initialized "java/lang/IllegalStateException", Cond.methodLink RX6 67 yX5_addPoint, Cond.instanceMethod yX5_addPoint, Cond.selects RX5 yX5_addPoint yX5_addPoint, Cond.code yX5_addPoint cX5_addPoint 1 (some .int), Cond.methodLink RX6 71 yX6_learnAll, Cond.instanceMethod yX6_learnAll, Cond.selects RX6 yX6_learnAll yX6_learnAll, Cond.code yX6_learnAll cX6_learnAll 1 none, Cond.methodLink RX6 310 yX1_learn, Cond.instanceMethod yX1_learn, Cond.selects RX1 yX1_learn yX1_learn, Cond.initialized RX1, Cond.code yX1_learn cX1_learn 1 none, Cond.methodLink RX1 59 yX1_numberParts, Cond.instanceMethod yX1_numberParts, Cond.selects RX1 yX1_numberParts yX1_numberParts]
def wsL_isDone_r5 : List Cond := [Cond.code yX1_numberParts cX1_numberParts 4 none, Cond.fieldLink RX1 9 "Twincuts$Falls" "parts" "I", Cond.fieldLink RX1 55 "Twincuts$Falls" "web" "LTwincuts$Web;", Cond.methodLink RX1 101 yX5_allPoints, Cond.instanceMethod yX5_allPoints, Cond.selects RX5 yX5_allPoints yX5_allPoints, Cond.code yX5_allPoints cX5_allPoints 1 (some .int), Cond.methodLink RX1 108 yX5_reach, Cond.instanceMethod yX5_reach, Cond.selects RX5 yX5_reach yX5_reach, Cond.code yX5_reach cX5_reach 9 (some .int), Cond.methodLink RX1 112 yX1_putInPart, Cond.instanceMethod yX1_putInPart, Cond.selects RX1 yX1_putInPart yX1_putInPart, Cond.code yX1_putInPart cX1_putInPart 3 none, Cond.fieldLink RX1 30 "Twincuts$Falls" "part" "[I", Cond.fieldLink RX1 34 "Twincuts$Falls" "partSet" "[I", Cond.methodLink RX1 62 yX1_findBridges, Cond.instanceMethod yX1_findBridges, Cond.selects RX1 yX1_findBridges yX1_findBridges, Cond.code yX1_findBridges cX1_findBridges 3 none, Cond.fieldLink RX1 15 "Twincuts$Falls" "bridgeSet" "I", Cond.methodLink RX1 116 yX5_countParts, Cond.instanceMethod yX5_countParts]
def wsL_isDone_r6 : List Cond := [Cond.selects RX5 yX5_countParts yX5_countParts, Cond.code yX5_countParts cX5_countParts 6 (some .int), Cond.methodLink RX5 41 yX5_reach, Cond.methodLink RX1 65 yX1_findCutPoints, Cond.instanceMethod yX1_findCutPoints, Cond.selects RX1 yX1_findCutPoints yX1_findCutPoints, Cond.code yX1_findCutPoints cX1_findCutPoints 2 none, Cond.fieldLink RX1 18 "Twincuts$Falls" "cutPointSet" "I", Cond.methodLink RX1 68 yX1_joinBlocks, Cond.instanceMethod yX1_joinBlocks, Cond.selects RX1 yX1_joinBlocks yX1_joinBlocks, Cond.code yX1_joinBlocks cX1_joinBlocks 3 none, Cond.fieldLink RX1 37 "Twincuts$Falls" "first" "[I", Cond.methodLink RX1 85 yX5_standingAt, Cond.methodLink RX1 120 yX1_joinAtPoint, Cond.instanceMethod yX1_joinAtPoint, Cond.selects RX1 yX1_joinAtPoint yX1_joinAtPoint, Cond.code yX1_joinAtPoint cX1_joinAtPoint 6 none, Cond.methodLink RX1 124 yX5_otherEnd, Cond.instanceMethod yX5_otherEnd, Cond.selects RX5 yX5_otherEnd yX5_otherEnd, Cond.code yX5_otherEnd cX5_otherEnd 3 (some .int), Cond.fieldLink RX5 21 "Twincuts$Web" "smaller" "[I", Cond.fieldLink RX5 25 "Twincuts$Web" "greater" "[I"]
def wsL_isDone_r7 : List Cond := [Cond.methodLink RX1 127 yX1_join, Cond.instanceMethod yX1_join, Cond.selects RX1 yX1_join yX1_join, Cond.code yX1_join cX1_join 5 none, Cond.methodLink RX1 130 Lib.Math.min.name, Cond.static Lib.Math.min.name, Cond.code Lib.Math.min.name Lib.Math.min.code 2 (some .int), Cond.methodLink RX1 71 yX1_numberBlocks, Cond.instanceMethod yX1_numberBlocks, Cond.selects RX1 yX1_numberBlocks yX1_numberBlocks, Cond.code yX1_numberBlocks cX1_numberBlocks 2 none, Cond.fieldLink RX1 21 "Twincuts$Falls" "blocks" "I", Cond.fieldLink RX1 40 "Twincuts$Falls" "block" "[I", Cond.methodLink RX1 74 yX1_findPairs, Cond.instanceMethod yX1_findPairs, Cond.selects RX1 yX1_findPairs yX1_findPairs, Cond.code yX1_findPairs cX1_findPairs 3 none, Cond.fieldLink RX1 24 "Twincuts$Falls" "pairs" "I", Cond.fieldLink RX1 43 "Twincuts$Falls" "smallerOfPair" "[I", Cond.fieldLink RX1 46 "Twincuts$Falls" "greaterOfPair" "[I", Cond.methodLink RX1 135 yX1_isPair, Cond.instanceMethod yX1_isPair, Cond.selects RX1 yX1_isPair yX1_isPair, Cond.code yX1_isPair cX1_isPair 4 (some .boolean)]
def wsL_isDone_r8 : List Cond := [Cond.methodLink RX1 77 yX1_findTwins, Cond.instanceMethod yX1_findTwins, Cond.selects RX1 yX1_findTwins yX1_findTwins, Cond.code yX1_findTwins cX1_findTwins 3 none, Cond.fieldLink RX1 27 "Twincuts$Falls" "twins" "I", Cond.fieldLink RX1 49 "Twincuts$Falls" "smallerOfTwins" "[I", Cond.fieldLink RX1 52 "Twincuts$Falls" "greaterOfTwins" "[I", Cond.methodLink RX1 138 yX1_areTwins, Cond.instanceMethod yX1_areTwins, Cond.selects RX1 yX1_areTwins yX1_areTwins, Cond.code yX1_areTwins cX1_areTwins 4 (some .boolean), Cond.methodLink RX6 120 yX2_learn, Cond.instanceMethod yX2_learn, Cond.selects RX2 yX2_learn yX2_learn, Cond.initialized RX2, Cond.code yX2_learn cX2_learn 1 none, Cond.fieldLink RX2 16 "Twincuts$Forest" "cheapestSet" "I", Cond.fieldLink RX2 20 "Twincuts$Forest" "cheapestCost" "I", Cond.fieldLink RX2 27 "Twincuts$Forest" "web" "LTwincuts$Web;", Cond.methodLink RX2 63 yX5_allPoints, Cond.methodLink RX2 67 yX5_countParts, Cond.methodLink RX2 71 yX2_takeCheapest, Cond.instanceMethod yX2_takeCheapest, Cond.selects RX2 yX2_takeCheapest yX2_takeCheapest]
def wsL_isDone_r9 : List Cond := [Cond.code yX2_takeCheapest cX2_takeCheapest 3 none, Cond.fieldLink RX2 23 "Twincuts$Forest" "joined" "[I", Cond.methodLink RX2 77 yX2_takeIfNew, Cond.instanceMethod yX2_takeIfNew, Cond.selects RX2 yX2_takeIfNew yX2_takeIfNew, Cond.code yX2_takeIfNew cX2_takeIfNew 5 none, Cond.methodLink RX6 311 yX3_learn, Cond.instanceMethod yX3_learn, Cond.selects RX3 yX3_learn yX3_learn, Cond.initialized RX3, Cond.code yX3_learn cX3_learn 2 none, Cond.fieldLink RX3 19 "Twincuts$Palette" "web" "LTwincuts$Web;", Cond.fieldLink RX3 9 "Twincuts$Palette" "colours" "I", Cond.methodLink RX3 28 yX3_paintsFrom, Cond.instanceMethod yX3_paintsFrom, Cond.selects RX3 yX3_paintsFrom yX3_paintsFrom, Cond.code yX3_paintsFrom cX3_paintsFrom 6 (some .boolean), Cond.fieldLink RX3 15 "Twincuts$Palette" "colour" "[I", Cond.methodLink RX3 39 Lib.Math.max.name, Cond.methodLink RX3 32 yX5_linkedWith, Cond.methodLink RX3 36 yX3_isFree, Cond.instanceMethod yX3_isFree, Cond.selects RX3 yX3_isFree yX3_isFree, Cond.code yX3_isFree cX3_isFree 5 (some .boolean)]
def wsL_isDone_r10 : List Cond := [Cond.methodLink RX6 129 yX0_learn, Cond.instanceMethod yX0_learn, Cond.selects RX0 yX0_learn yX0_learn, Cond.code yX0_learn cX0_learn 4 none, Cond.fieldLink RX0 24 "Twincuts$Drawing" "face" "[I", Cond.methodLink RX0 64 yX0_walkBehind, Cond.instanceMethod yX0_walkBehind, Cond.selects RX0 yX0_walkBehind yX0_walkBehind, Cond.code yX0_walkBehind cX0_walkBehind 7 (some .int), Cond.fieldLink RX0 16 "Twincuts$Drawing" "length" "[I", Cond.fieldLink RX0 11 "Twincuts$Drawing" "order" "[[I", Cond.methodLink RX0 74 yX0_placeOf, Cond.instanceMethod yX0_placeOf, Cond.selects RX0 yX0_placeOf yX0_placeOf, Cond.code yX0_placeOf cX0_placeOf 4 (some .int), Cond.methodLink RX0 31 yX0_placeBehind, Cond.instanceMethod yX0_placeBehind, Cond.selects RX0 yX0_placeBehind yX0_placeBehind, Cond.code yX0_placeBehind cX0_placeBehind 3 (some .int), Cond.methodLink RL 41 yX6_line, Cond.instanceMethod yX6_line, Cond.selects RX6 yX6_line yX6_line, Cond.code yX6_line cX6_line 5 (some .int), Cond.methodLink RX6 90 Lib.Math.min.name]
def wsL_isDone_r11 : List Cond := [Cond.methodLink RX6 96 Lib.Math.max.name, Cond.methodLink RX6 74 yX6_demandPoint, Cond.instanceMethod yX6_demandPoint, Cond.selects RX6 yX6_demandPoint yX6_demandPoint, Cond.code yX6_demandPoint cX6_demandPoint 2 none, Cond.classLink RX6 330 "java/lang/IndexOutOfBoundsException", Cond.initialized "java/lang/IndexOutOfBoundsException", Cond.methodLink RX6 78 yX6_demandUnlike, Cond.static yX6_demandUnlike, Cond.code yX6_demandUnlike cX6_demandUnlike 2 none, Cond.methodLink RX6 82 yX6_demandCost, Cond.static yX6_demandCost, Cond.code yX6_demandCost cX6_demandCost 1 none, Cond.methodLink RX6 99 yX5_addLine, Cond.instanceMethod yX5_addLine, Cond.selects RX5 yX5_addLine yX5_addLine, Cond.code yX5_addLine cX5_addLine 5 (some .int), Cond.fieldLink RX5 28 "Twincuts$Web" "cost" "[I", Cond.methodLink RX6 103 yX0_append, Cond.instanceMethod yX0_append, Cond.selects RX0 yX0_append yX0_append, Cond.code yX0_append cX0_append 3 none, Cond.methodLink RL 30 yX6_cut, Cond.instanceMethod yX6_cut]
def wsL_isDone_r12 : List Cond := [Cond.selects RX6 yX6_cut yX6_cut, Cond.code yX6_cut cX6_cut 3 (some .int), Cond.methodLink RX6 106 yX6_demandLine, Cond.instanceMethod yX6_demandLine, Cond.selects RX6 yX6_demandLine yX6_demandLine, Cond.code yX6_demandLine cX6_demandLine 2 none, Cond.methodLink RX6 109 yX5_setCut, Cond.instanceMethod yX5_setCut, Cond.selects RX5 yX5_setCut yX5_setCut, Cond.code yX5_setCut cX5_setCut 3 none, Cond.methodLink RL 56 yX6_price, Cond.instanceMethod yX6_price, Cond.selects RX6 yX6_price yX6_price, Cond.code yX6_price cX6_price 4 (some .int), Cond.methodLink RL 34 yL_turned, Cond.static yL_turned, Cond.code yL_turned cL_turned 3 none, Cond.methodLink RL 45 yX6_ofPoint, Cond.instanceMethod yX6_ofPoint, Cond.selects RX6 yX6_ofPoint yX6_ofPoint, Cond.code yX6_ofPoint cX6_ofPoint 3 (some .int), Cond.methodLink RX6 139 yX5_standingAt, Cond.methodLink RX6 151 yX6_has, Cond.methodLink RX6 155 yX1_blocksAt]
def wsL_isDone_r13 : List Cond := [Cond.instanceMethod yX1_blocksAt, Cond.selects RX1 yX1_blocksAt yX1_blocksAt, Cond.code yX1_blocksAt cX1_blocksAt 4 (some .int), Cond.methodLink RX1 93 yJ6_bitCount_0f7a4, Cond.methodLink RX6 161 yX5_linkedWith, Cond.methodLink RL 48 yX6_turn, Cond.instanceMethod yX6_turn, Cond.selects RX6 yX6_turn yX6_turn, Cond.code yX6_turn cX6_turn 3 (some .int), Cond.methodLink RX6 123 yX6_demandPlace, Cond.instanceMethod yX6_demandPlace, Cond.selects RX6 yX6_demandPlace yX6_demandPlace, Cond.code yX6_demandPlace cX6_demandPlace 3 none, Cond.methodLink RX6 126 yX0_swap, Cond.instanceMethod yX0_swap, Cond.selects RX0 yX0_swap yX0_swap, Cond.code yX0_swap cX0_swap 5 none]
def wsL_isDone : List Cond := .codeWith yL_isDone cL_isDone 4 (some .boolean) [(16, 179, 180, 59), (16, 179, 183, 61)] :: ((wsL_isDone_r1 ++ (wsL_isDone_r2 ++ (wsL_isDone_r3 ++ (wsL_isDone_r4 ++ (wsL_isDone_r5 ++ (wsL_isDone_r6 ++ (wsL_isDone_r7 ++ (wsL_isDone_r8 ++ (wsL_isDone_r9 ++ (wsL_isDone_r10 ++ (wsL_isDone_r11 ++ (wsL_isDone_r12 ++ wsL_isDone_r13)))))))))))) ++ wsX60 ++ wsX50 ++ wsX10 ++ wsX20 ++ wsX30 ++ wsX00 ++ (vx_atS RX6 253 "java/lang/IllegalArgumentException" ["java/lang/RuntimeException", "java/lang/Exception"]).filter goodWord ++ (vx_atS RX6 64 "java/lang/IllegalStateException" ["java/lang/RuntimeException", "java/lang/Exception"]).filter goodWord ++ (vx_atS RX6 334 "java/lang/IndexOutOfBoundsException" ["java/lang/RuntimeException", "java/lang/Exception"]).filter goodWord)
def wsL_areOff_r1 : List Cond := [Cond.methodLink RL 37 yX6_net, Cond.instanceMethod yX6_net, Cond.selects RX6 yX6_net yX6_net, Cond.initialized RX6, Cond.code yX6_net cX6_net 2 (some .int), Cond.fieldLink RX6 10 "Twincuts" "web" "LTwincuts$Web;", Cond.fieldLink RX6 21 "Twincuts" "falls" "LTwincuts$Falls;", Cond.fieldLink RX6 35 "Twincuts" "forest" "LTwincuts$Forest;", Cond.fieldLink RX6 42 "Twincuts" "palette" "LTwincuts$Palette;", Cond.fieldLink RX6 49 "Twincuts" "drawing" "LTwincuts$Drawing;", Cond.fieldLink RX6 53 "Twincuts" "refused" "I", Cond.methodLink RX6 133 yX6_demandWhat, Cond.static yX6_demandWhat, Cond.code yX6_demandWhat cX6_demandWhat 2 none, Cond.classLink RX6 249 "java/lang/IllegalArgumentException", Cond.initialized "java/lang/IllegalArgumentException", Cond.methodLink RX6 143 yJ6_bitCount_0f7a4, Cond.static yJ6_bitCount_0f7a4, Cond.initialized RJ6, Cond.code yJ6_bitCount_0f7a4 cJ6_bitCount_0f7a4 1 (some .int), Cond.constant RJ6 265 (1431655765), Cond.constant RJ6 266 (858993459), Cond.constant RJ6 267 (252645135), Cond.methodLink RX6 130 yX0_allFaces]
def wsL_areOff_r2 : List Cond := [Cond.instanceMethod yX0_allFaces, Cond.selects RX0 yX0_allFaces yX0_allFaces, Cond.initialized RX0, Cond.code yX0_allFaces cX0_allFaces 3 (some .int), Cond.fieldLink RX0 20 "Twincuts$Drawing" "walked" "I", Cond.fieldLink RX0 27 "Twincuts$Drawing" "web" "LTwincuts$Web;", Cond.methodLink RX0 80 yX5_standingAt, Cond.instanceMethod yX5_standingAt, Cond.selects RX5 yX5_standingAt yX5_standingAt, Cond.initialized RX5, Cond.code yX5_standingAt cX5_standingAt 2 (some .int), Cond.fieldLink RX5 34 "Twincuts$Web" "linesAt" "[I", Cond.fieldLink RX5 18 "Twincuts$Web" "standing" "I", Cond.methodLink RX6 203 yX6_handles, Cond.instanceMethod yX6_handles, Cond.selects RX6 yX6_handles yX6_handles, Cond.code yX6_handles cX6_handles 2 (some .int), Cond.methodLink RX6 206 yX5_greatestDistance, Cond.instanceMethod yX5_greatestDistance, Cond.selects RX5 yX5_greatestDistance yX5_greatestDistance, Cond.code yX5_greatestDistance cX5_greatestDistance 4 (some .int), Cond.fieldLink RX5 9 "Twincuts$Web" "points" "I", Cond.methodLink RX5 56 Lib.Math.max.name, Cond.static Lib.Math.max.name]
def wsL_areOff_r3 : List Cond := [Cond.initialized "java/lang/Math", Cond.code Lib.Math.max.name Lib.Math.max.code 2 (some .int), Cond.methodLink RX5 52 yX5_distance, Cond.instanceMethod yX5_distance, Cond.selects RX5 yX5_distance yX5_distance, Cond.code yX5_distance cX5_distance 5 (some .int), Cond.static yX6_has, Cond.code yX6_has cX6_has 2 (some .boolean), Cond.methodLink RX5 45 yX5_linkedWithAny, Cond.instanceMethod yX5_linkedWithAny, Cond.selects RX5 yX5_linkedWithAny yX5_linkedWithAny, Cond.code yX5_linkedWithAny cX5_linkedWithAny 4 (some .int), Cond.methodLink RX5 49 yX5_linkedWith, Cond.instanceMethod yX5_linkedWith, Cond.selects RX5 yX5_linkedWith yX5_linkedWith, Cond.code yX5_linkedWith cX5_linkedWith 4 (some .int), Cond.fieldLink RX5 15 "Twincuts$Web" "lines" "I", Cond.fieldLink RX5 31 "Twincuts$Web" "ends" "[I", Cond.methodLink RL 45 yX6_ofPoint, Cond.instanceMethod yX6_ofPoint, Cond.selects RX6 yX6_ofPoint yX6_ofPoint, Cond.code yX6_ofPoint cX6_ofPoint 3 (some .int), Cond.methodLink RX6 74 yX6_demandPoint, Cond.instanceMethod yX6_demandPoint]
def wsL_areOff_r4 : List Cond := [Cond.selects RX6 yX6_demandPoint yX6_demandPoint, Cond.code yX6_demandPoint cX6_demandPoint 2 none, Cond.classLink RX6 330 "java/lang/IndexOutOfBoundsException", Cond.initialized "java/lang/IndexOutOfBoundsException", Cond.methodLink RX6 139 yX5_standingAt, Cond.methodLink RX6 151 yX6_has, Cond.methodLink RX6 155 yX1_blocksAt, Cond.instanceMethod yX1_blocksAt, Cond.selects RX1 yX1_blocksAt yX1_blocksAt, Cond.initialized RX1, Cond.code yX1_blocksAt cX1_blocksAt 4 (some .int), Cond.fieldLink RX1 55 "Twincuts$Falls" "web" "LTwincuts$Web;", Cond.fieldLink RX1 40 "Twincuts$Falls" "block" "[I", Cond.methodLink RX1 85 yX5_standingAt, Cond.methodLink RX1 93 yJ6_bitCount_0f7a4, Cond.methodLink RX6 161 yX5_linkedWith]
def wsL_areOff : List Cond := .code yL_areOff cL_areOff 7 (some .boolean) :: ((wsL_areOff_r1 ++ (wsL_areOff_r2 ++ (wsL_areOff_r3 ++ wsL_areOff_r4))) ++ wsX60 ++ wsX50 ++ wsX10 ++ wsX20 ++ wsX30 ++ wsX00 ++ (vx_atS RX6 253 "java/lang/IllegalArgumentException" ["java/lang/RuntimeException", "java/lang/Exception"]).filter goodWord ++ (vx_atS RX6 334 "java/lang/IndexOutOfBoundsException" ["java/lang/RuntimeException", "java/lang/Exception"]).filter goodWord)
def wsL_isParted_r1 : List Cond := [Cond.methodLink RL 85 yX6_between, Cond.instanceMethod yX6_between, Cond.selects RX6 yX6_between yX6_between, Cond.initialized RX6, Cond.code yX6_between cX6_between 4 (some .int), Cond.fieldLink RX6 28 "Twincuts" "ways" "LTwincuts$Ways;", Cond.fieldLink RX6 10 "Twincuts" "web" "LTwincuts$Web;", Cond.methodLink RX6 74 yX6_demandPoint, Cond.instanceMethod yX6_demandPoint, Cond.selects RX6 yX6_demandPoint yX6_demandPoint, Cond.code yX6_demandPoint cX6_demandPoint 2 none, Cond.classLink RX6 330 "java/lang/IndexOutOfBoundsException", Cond.initialized "java/lang/IndexOutOfBoundsException", Cond.methodLink RX6 78 yX6_demandUnlike, Cond.static yX6_demandUnlike, Cond.code yX6_demandUnlike cX6_demandUnlike 2 none, Cond.classLink RX6 249 "java/lang/IllegalArgumentException", Cond.initialized "java/lang/IllegalArgumentException", Cond.methodLink RX6 133 yX6_demandWhat, Cond.static yX6_demandWhat, Cond.code yX6_demandWhat cX6_demandWhat 2 none, Cond.methodLink RX6 219 yX4_countWays, Cond.instanceMethod yX4_countWays, Cond.selects RX4 yX4_countWays yX4_countWays]
def wsL_isParted_r2 : List Cond := [Cond.initialized RX4, Cond.code yX4_countWays cX4_countWays 5 (some .int), Cond.fieldLink RX4 23 "Twincuts$Ways" "web" "LTwincuts$Web;", Cond.fieldLink RX4 13 "Twincuts$Ways" "room" "[[I", Cond.methodLink RX4 27 yX4_clearRoom, Cond.instanceMethod yX4_clearRoom, Cond.selects RX4 yX4_clearRoom yX4_clearRoom, Cond.code yX4_clearRoom cX4_clearRoom 3 none, Cond.static yX6_has, Cond.code yX6_has cX6_has 2 (some .boolean), Cond.methodLink RX4 52 yX4_countFlow, Cond.instanceMethod yX4_countFlow, Cond.selects RX4 yX4_countFlow yX4_countFlow, Cond.code yX4_countFlow cX4_countFlow 5 (some .int), Cond.methodLink RX4 56 yX4_findsWay, Cond.instanceMethod yX4_findsWay, Cond.selects RX4 yX4_findsWay yX4_findsWay, Cond.code yX4_findsWay cX4_findsWay 7 (some .boolean), Cond.fieldLink RX4 16 "Twincuts$Ways" "cameFrom" "[I", Cond.fieldLink RX4 20 "Twincuts$Ways" "queue" "[I", Cond.methodLink RX4 59 yX4_fillWay, Cond.instanceMethod yX4_fillWay, Cond.selects RX4 yX4_fillWay yX4_fillWay, Cond.code yX4_fillWay cX4_fillWay 6 none]
def wsL_isParted_r3 : List Cond := [Cond.methodLink RX6 222 yX4_countLineWays, Cond.instanceMethod yX4_countLineWays, Cond.selects RX4 yX4_countLineWays yX4_countLineWays, Cond.code yX4_countLineWays cX4_countLineWays 4 (some .int), Cond.methodLink RX6 225 yX5_distance, Cond.instanceMethod yX5_distance, Cond.selects RX5 yX5_distance yX5_distance, Cond.initialized RX5, Cond.code yX5_distance cX5_distance 5 (some .int), Cond.methodLink RX5 45 yX5_linkedWithAny, Cond.instanceMethod yX5_linkedWithAny, Cond.selects RX5 yX5_linkedWithAny yX5_linkedWithAny, Cond.code yX5_linkedWithAny cX5_linkedWithAny 4 (some .int), Cond.fieldLink RX5 9 "Twincuts$Web" "points" "I", Cond.methodLink RX5 49 yX5_linkedWith, Cond.instanceMethod yX5_linkedWith, Cond.selects RX5 yX5_linkedWith yX5_linkedWith, Cond.code yX5_linkedWith cX5_linkedWith 4 (some .int), Cond.fieldLink RX5 15 "Twincuts$Web" "lines" "I", Cond.fieldLink RX5 34 "Twincuts$Web" "linesAt" "[I", Cond.fieldLink RX5 18 "Twincuts$Web" "standing" "I", Cond.fieldLink RX5 31 "Twincuts$Web" "ends" "[I", Cond.methodLink RX6 228 yX4_gap, Cond.instanceMethod yX4_gap]
def wsL_isParted_r4 : List Cond := [Cond.selects RX4 yX4_gap yX4_gap, Cond.code yX4_gap cX4_gap 7 (some .int), Cond.methodLink RX4 63 yX5_linkedWith, Cond.methodLink RX4 67 yX5_allPoints, Cond.instanceMethod yX5_allPoints, Cond.selects RX5 yX5_allPoints yX5_allPoints, Cond.code yX5_allPoints cX5_allPoints 1 (some .int), Cond.methodLink RX4 71 yJ6_bitCount_0f7a4, Cond.static yJ6_bitCount_0f7a4, Cond.initialized RJ6, Cond.code yJ6_bitCount_0f7a4 cJ6_bitCount_0f7a4 1 (some .int), Cond.constant RJ6 265 (1431655765), Cond.constant RJ6 266 (858993459), Cond.constant RJ6 267 (252645135), Cond.methodLink RX4 76 yX4_isApartWithout, Cond.instanceMethod yX4_isApartWithout, Cond.selects RX4 yX4_isApartWithout yX4_isApartWithout, Cond.code yX4_isApartWithout cX4_isApartWithout 4 (some .boolean), Cond.methodLink RX4 80 yX5_reach, Cond.instanceMethod yX5_reach, Cond.selects RX5 yX5_reach yX5_reach, Cond.code yX5_reach cX5_reach 9 (some .int), Cond.methodLink RX6 231 yX4_side, Cond.instanceMethod yX4_side]
def wsL_isParted_r5 : List Cond := [Cond.selects RX4 yX4_side yX4_side, Cond.code yX4_side cX4_side 8 (some .int), Cond.methodLink RX4 84 yX5_linesOutOf, Cond.instanceMethod yX5_linesOutOf, Cond.selects RX5 yX5_linesOutOf yX5_linesOutOf, Cond.code yX5_linesOutOf cX5_linesOutOf 4 (some .int), Cond.methodLink RX5 61 yX5_standingAt, Cond.instanceMethod yX5_standingAt, Cond.selects RX5 yX5_standingAt yX5_standingAt, Cond.code yX5_standingAt cX5_standingAt 2 (some .int), Cond.methodLink RX6 234 yX5_linesOutOf, Cond.methodLink RL 45 yX6_ofPoint, Cond.instanceMethod yX6_ofPoint, Cond.selects RX6 yX6_ofPoint yX6_ofPoint, Cond.code yX6_ofPoint cX6_ofPoint 3 (some .int), Cond.fieldLink RX6 21 "Twincuts" "falls" "LTwincuts$Falls;", Cond.fieldLink RX6 42 "Twincuts" "palette" "LTwincuts$Palette;", Cond.fieldLink RX6 49 "Twincuts" "drawing" "LTwincuts$Drawing;", Cond.methodLink RX6 139 yX5_standingAt, Cond.methodLink RX6 143 yJ6_bitCount_0f7a4, Cond.methodLink RX6 151 yX6_has, Cond.methodLink RX6 155 yX1_blocksAt, Cond.instanceMethod yX1_blocksAt, Cond.selects RX1 yX1_blocksAt yX1_blocksAt]
def wsL_isParted_r6 : List Cond := [Cond.initialized RX1, Cond.code yX1_blocksAt cX1_blocksAt 4 (some .int), Cond.fieldLink RX1 55 "Twincuts$Falls" "web" "LTwincuts$Web;", Cond.fieldLink RX1 40 "Twincuts$Falls" "block" "[I", Cond.methodLink RX1 85 yX5_standingAt, Cond.methodLink RX1 93 yJ6_bitCount_0f7a4, Cond.methodLink RX6 161 yX5_linkedWith, Cond.methodLink RL 88 yJ6_bitCount_0f7a4, Cond.methodLink RL 93 yX6_without, Cond.instanceMethod yX6_without, Cond.selects RX6 yX6_without yX6_without, Cond.code yX6_without cX6_without 3 (some .int), Cond.methodLink RX6 256 yX5_allPoints, Cond.methodLink RX6 259 yX5_countParts, Cond.instanceMethod yX5_countParts, Cond.selects RX5 yX5_countParts yX5_countParts, Cond.code yX5_countParts cX5_countParts 6 (some .int), Cond.methodLink RX5 41 yX5_reach, Cond.methodLink RL 37 yX6_net, Cond.instanceMethod yX6_net, Cond.selects RX6 yX6_net yX6_net, Cond.code yX6_net cX6_net 2 (some .int), Cond.fieldLink RX6 35 "Twincuts" "forest" "LTwincuts$Forest;", Cond.fieldLink RX6 53 "Twincuts" "refused" "I"]
def wsL_isParted_r7 : List Cond := [Cond.methodLink RX6 130 yX0_allFaces, Cond.instanceMethod yX0_allFaces, Cond.selects RX0 yX0_allFaces yX0_allFaces, Cond.initialized RX0, Cond.code yX0_allFaces cX0_allFaces 3 (some .int), Cond.fieldLink RX0 20 "Twincuts$Drawing" "walked" "I", Cond.fieldLink RX0 27 "Twincuts$Drawing" "web" "LTwincuts$Web;", Cond.methodLink RX0 80 yX5_standingAt, Cond.methodLink RX6 203 yX6_handles, Cond.instanceMethod yX6_handles, Cond.selects RX6 yX6_handles yX6_handles, Cond.code yX6_handles cX6_handles 2 (some .int), Cond.methodLink RX6 206 yX5_greatestDistance, Cond.instanceMethod yX5_greatestDistance, Cond.selects RX5 yX5_greatestDistance yX5_greatestDistance, Cond.code yX5_greatestDistance cX5_greatestDistance 4 (some .int), Cond.methodLink RX5 56 Lib.Math.max.name, Cond.static Lib.Math.max.name, Cond.initialized "java/lang/Math", Cond.code Lib.Math.max.name Lib.Math.max.code 2 (some .int), Cond.methodLink RX5 52 yX5_distance, Cond.methodLink RL 96 yL_areOff, Cond.static yL_areOff, Cond.initialized RL]
def wsL_isParted_r8 : List Cond := [Cond.code yL_areOff cL_areOff 7 (some .boolean)]
def wsL_isParted : List Cond := .code yL_isParted cL_isParted 11 (some .boolean) :: ((wsL_isParted_r1 ++ (wsL_isParted_r2 ++ (wsL_isParted_r3 ++ (wsL_isParted_r4 ++ (wsL_isParted_r5 ++ (wsL_isParted_r6 ++ (wsL_isParted_r7 ++ wsL_isParted_r8))))))) ++ wsX60 ++ wsX50 ++ wsX40 ++ wsX10 ++ wsX30 ++ wsX00 ++ wsX20 ++ (vx_atS RX6 334 "java/lang/IndexOutOfBoundsException" ["java/lang/RuntimeException", "java/lang/Exception"]).filter goodWord ++ (vx_atS RX6 253 "java/lang/IllegalArgumentException" ["java/lang/RuntimeException", "java/lang/Exception"]).filter goodWord)
def wsL_law0_r1 : List Cond := [Cond.methodLink RL 66 yL_net, Cond.static yL_net, Cond.initialized RL, Cond.code yL_net cL_net 5 (some (.object "Twincuts")), Cond.classLink RL 9 RX6, Cond.instantiable RX6 7, Cond.initialized RX6, Cond.methodLink RL 11 yX6_init, Cond.instanceMethod yX6_init, Cond.code yX6_init cX6_init 1 none, Cond.methodLink RX6 1 objectInit, Cond.instanceMethod objectInit, Cond.code objectInit ⟨#[0xb1]⟩ 1 none, Cond.classLink RX6 7 RX5, Cond.instantiable RX5 8, Cond.initialized RX5, Cond.fieldLink RX6 10 "Twincuts" "web" "LTwincuts$Web;", Cond.classLink RX6 16 RX1, Cond.instantiable RX1 15, Cond.initialized RX1, Cond.fieldLink RX6 21 "Twincuts" "falls" "LTwincuts$Falls;", Cond.classLink RX6 25 RX4, Cond.instantiable RX4 4, Cond.initialized RX4]
def wsL_law0_r2 : List Cond := [Cond.fieldLink RX6 28 "Twincuts" "ways" "LTwincuts$Ways;", Cond.classLink RX6 32 RX2, Cond.instantiable RX2 5, Cond.initialized RX2, Cond.fieldLink RX6 35 "Twincuts" "forest" "LTwincuts$Forest;", Cond.classLink RX6 39 RX3, Cond.instantiable RX3 3, Cond.initialized RX3, Cond.fieldLink RX6 42 "Twincuts" "palette" "LTwincuts$Palette;", Cond.classLink RX6 46 RX0, Cond.instantiable RX0 5, Cond.initialized RX0, Cond.fieldLink RX6 49 "Twincuts" "drawing" "LTwincuts$Drawing;", Cond.fieldLink RX6 53 "Twincuts" "refused" "I", Cond.instanceMethod yX5_init, Cond.code yX5_init cX5_init 1 none, Cond.methodLink RX5 3 objectInit, Cond.fieldLink RX5 9 "Twincuts$Web" "points" "I", Cond.fieldLink RX5 15 "Twincuts$Web" "lines" "I", Cond.fieldLink RX5 18 "Twincuts$Web" "standing" "I", Cond.arrayClass .int, Cond.fieldLink RX5 21 "Twincuts$Web" "smaller" "[I", Cond.fieldLink RX5 25 "Twincuts$Web" "greater" "[I", Cond.fieldLink RX5 28 "Twincuts$Web" "cost" "[I"]
def wsL_law0_r3 : List Cond := [Cond.fieldLink RX5 31 "Twincuts$Web" "ends" "[I", Cond.fieldLink RX5 34 "Twincuts$Web" "linesAt" "[I", Cond.methodLink RX6 18 yX1_init, Cond.instanceMethod yX1_init, Cond.code yX1_init cX1_init 2 none, Cond.methodLink RX1 3 objectInit, Cond.fieldLink RX1 9 "Twincuts$Falls" "parts" "I", Cond.fieldLink RX1 15 "Twincuts$Falls" "bridgeSet" "I", Cond.fieldLink RX1 18 "Twincuts$Falls" "cutPointSet" "I", Cond.fieldLink RX1 21 "Twincuts$Falls" "blocks" "I", Cond.fieldLink RX1 24 "Twincuts$Falls" "pairs" "I", Cond.fieldLink RX1 27 "Twincuts$Falls" "twins" "I", Cond.fieldLink RX1 30 "Twincuts$Falls" "part" "[I", Cond.fieldLink RX1 34 "Twincuts$Falls" "partSet" "[I", Cond.fieldLink RX1 37 "Twincuts$Falls" "first" "[I", Cond.fieldLink RX1 40 "Twincuts$Falls" "block" "[I", Cond.fieldLink RX1 43 "Twincuts$Falls" "smallerOfPair" "[I", Cond.fieldLink RX1 46 "Twincuts$Falls" "greaterOfPair" "[I", Cond.fieldLink RX1 49 "Twincuts$Falls" "smallerOfTwins" "[I", Cond.fieldLink RX1 52 "Twincuts$Falls" "greaterOfTwins" "[I", Cond.fieldLink RX1 55 "Twincuts$Falls" "web" "LTwincuts$Web;", Cond.methodLink RX6 27 yX4_init, Cond.instanceMethod yX4_init, Cond.code yX4_init cX4_init 2 none]
def wsL_law0_r4 : List Cond := [Cond.methodLink RX4 3 objectInit, Cond.classLink RX4 11 "[[I", Cond.fieldLink RX4 13 "Twincuts$Ways" "room" "[[I", Cond.fieldLink RX4 16 "Twincuts$Ways" "cameFrom" "[I", Cond.fieldLink RX4 20 "Twincuts$Ways" "queue" "[I", Cond.fieldLink RX4 23 "Twincuts$Ways" "web" "LTwincuts$Web;", Cond.methodLink RX6 34 yX2_init, Cond.instanceMethod yX2_init, Cond.code yX2_init cX2_init 2 none, Cond.methodLink RX2 3 objectInit, Cond.classLink RX2 9 "[[J", Cond.arrayClass .long, Cond.fieldLink RX2 11 "Twincuts$Forest" "table" "[[J", Cond.fieldLink RX2 16 "Twincuts$Forest" "cheapestSet" "I", Cond.fieldLink RX2 20 "Twincuts$Forest" "cheapestCost" "I", Cond.fieldLink RX2 23 "Twincuts$Forest" "joined" "[I", Cond.fieldLink RX2 27 "Twincuts$Forest" "web" "LTwincuts$Web;", Cond.methodLink RX6 41 yX3_init, Cond.instanceMethod yX3_init, Cond.code yX3_init cX3_init 2 none, Cond.methodLink RX3 3 objectInit, Cond.fieldLink RX3 9 "Twincuts$Palette" "colours" "I", Cond.fieldLink RX3 15 "Twincuts$Palette" "colour" "[I", Cond.fieldLink RX3 19 "Twincuts$Palette" "web" "LTwincuts$Web;"]
def wsL_law0_r5 : List Cond := [Cond.methodLink RX6 48 yX0_init, Cond.instanceMethod yX0_init, Cond.code yX0_init cX0_init 2 none, Cond.methodLink RX0 3 objectInit, Cond.classLink RX0 9 "[[I", Cond.fieldLink RX0 11 "Twincuts$Drawing" "order" "[[I", Cond.fieldLink RX0 16 "Twincuts$Drawing" "length" "[I", Cond.fieldLink RX0 20 "Twincuts$Drawing" "walked" "I", Cond.fieldLink RX0 24 "Twincuts$Drawing" "face" "[I", Cond.fieldLink RX0 27 "Twincuts$Drawing" "web" "LTwincuts$Web;", Cond.methodLink RL 12 yL_cell, Cond.static yL_cell, Cond.code yL_cell cL_cell 2 (some .int), Cond.constant RL 8 (790386105), Cond.methodLink RL 18 yL_below, Cond.static yL_below, Cond.code yL_below cL_below 2 (some .int), Cond.constant RL 7 (2147483647), Cond.methodLink RL 22 yX6_point, Cond.instanceMethod yX6_point, Cond.selects RX6 yX6_point yX6_point, Cond.code yX6_point cX6_point 2 (some .int), Cond.classLink RX6 60 "java/lang/IllegalStateException", Cond.initialized "java/lang/IllegalStateException"]
def wsL_law0_r6 : List Cond := [Cond.methodLink RX6 67 yX5_addPoint, Cond.instanceMethod yX5_addPoint, Cond.selects RX5 yX5_addPoint yX5_addPoint, Cond.code yX5_addPoint cX5_addPoint 1 (some .int), Cond.methodLink RX6 71 yX6_learnAll, Cond.instanceMethod yX6_learnAll, Cond.selects RX6 yX6_learnAll yX6_learnAll, Cond.code yX6_learnAll cX6_learnAll 1 none, Cond.methodLink RX6 310 yX1_learn, Cond.instanceMethod yX1_learn, Cond.selects RX1 yX1_learn yX1_learn, Cond.code yX1_learn cX1_learn 1 none, Cond.methodLink RX1 59 yX1_numberParts, Cond.instanceMethod yX1_numberParts, Cond.selects RX1 yX1_numberParts yX1_numberParts, Cond.code yX1_numberParts cX1_numberParts 4 none, Cond.static yX6_has, Cond.code yX6_has cX6_has 2 (some .boolean), Cond.methodLink RX1 101 yX5_allPoints, Cond.instanceMethod yX5_allPoints, Cond.selects RX5 yX5_allPoints yX5_allPoints, Cond.code yX5_allPoints cX5_allPoints 1 (some .int), Cond.methodLink RX1 108 yX5_reach, Cond.instanceMethod yX5_reach]
def wsL_law0_r7 : List Cond := [Cond.selects RX5 yX5_reach yX5_reach, Cond.code yX5_reach cX5_reach 9 (some .int), Cond.methodLink RX1 112 yX1_putInPart, Cond.instanceMethod yX1_putInPart, Cond.selects RX1 yX1_putInPart yX1_putInPart, Cond.code yX1_putInPart cX1_putInPart 3 none, Cond.methodLink RX1 62 yX1_findBridges, Cond.instanceMethod yX1_findBridges, Cond.selects RX1 yX1_findBridges yX1_findBridges, Cond.code yX1_findBridges cX1_findBridges 3 none, Cond.methodLink RX1 116 yX5_countParts, Cond.instanceMethod yX5_countParts, Cond.selects RX5 yX5_countParts yX5_countParts, Cond.code yX5_countParts cX5_countParts 6 (some .int), Cond.methodLink RX5 41 yX5_reach, Cond.methodLink RX1 65 yX1_findCutPoints, Cond.instanceMethod yX1_findCutPoints, Cond.selects RX1 yX1_findCutPoints yX1_findCutPoints, Cond.code yX1_findCutPoints cX1_findCutPoints 2 none, Cond.methodLink RX1 68 yX1_joinBlocks, Cond.instanceMethod yX1_joinBlocks, Cond.selects RX1 yX1_joinBlocks yX1_joinBlocks, Cond.code yX1_joinBlocks cX1_joinBlocks 3 none, Cond.methodLink RX1 85 yX5_standingAt]
def wsL_law0_r8 : List Cond := [Cond.instanceMethod yX5_standingAt, Cond.selects RX5 yX5_standingAt yX5_standingAt, Cond.code yX5_standingAt cX5_standingAt 2 (some .int), Cond.methodLink RX1 120 yX1_joinAtPoint, Cond.instanceMethod yX1_joinAtPoint, Cond.selects RX1 yX1_joinAtPoint yX1_joinAtPoint, Cond.code yX1_joinAtPoint cX1_joinAtPoint 6 none, Cond.methodLink RX1 124 yX5_otherEnd, Cond.instanceMethod yX5_otherEnd, Cond.selects RX5 yX5_otherEnd yX5_otherEnd, Cond.code yX5_otherEnd cX5_otherEnd 3 (some .int), Cond.methodLink RX1 127 yX1_join, Cond.instanceMethod yX1_join, Cond.selects RX1 yX1_join yX1_join, Cond.code yX1_join cX1_join 5 none, Cond.methodLink RX1 130 Lib.Math.min.name, Cond.static Lib.Math.min.name, Cond.initialized "java/lang/Math", Cond.code Lib.Math.min.name Lib.Math.min.code 2 (some .int), Cond.methodLink RX1 71 yX1_numberBlocks, Cond.instanceMethod yX1_numberBlocks, Cond.selects RX1 yX1_numberBlocks yX1_numberBlocks, Cond.code yX1_numberBlocks cX1_numberBlocks 2 none, Cond.methodLink RX1 74 yX1_findPairs]
def wsL_law0_r9 : List Cond := [Cond.instanceMethod yX1_findPairs, Cond.selects RX1 yX1_findPairs yX1_findPairs, Cond.code yX1_findPairs cX1_findPairs 3 none, Cond.methodLink RX1 135 yX1_isPair, Cond.instanceMethod yX1_isPair, Cond.selects RX1 yX1_isPair yX1_isPair, Cond.code yX1_isPair cX1_isPair 4 (some .boolean), Cond.methodLink RX1 77 yX1_findTwins, Cond.instanceMethod yX1_findTwins, Cond.selects RX1 yX1_findTwins yX1_findTwins, Cond.code yX1_findTwins cX1_findTwins 3 none, Cond.methodLink RX1 138 yX1_areTwins, Cond.instanceMethod yX1_areTwins, Cond.selects RX1 yX1_areTwins yX1_areTwins, Cond.code yX1_areTwins cX1_areTwins 4 (some .boolean), Cond.methodLink RX6 120 yX2_learn, Cond.instanceMethod yX2_learn, Cond.selects RX2 yX2_learn yX2_learn, Cond.code yX2_learn cX2_learn 1 none, Cond.methodLink RX2 63 yX5_allPoints, Cond.methodLink RX2 67 yX5_countParts, Cond.methodLink RX2 71 yX2_takeCheapest, Cond.instanceMethod yX2_takeCheapest, Cond.selects RX2 yX2_takeCheapest yX2_takeCheapest]
def wsL_law0_r10 : List Cond := [Cond.code yX2_takeCheapest cX2_takeCheapest 3 none, Cond.methodLink RX2 77 yX2_takeIfNew, Cond.instanceMethod yX2_takeIfNew, Cond.selects RX2 yX2_takeIfNew yX2_takeIfNew, Cond.code yX2_takeIfNew cX2_takeIfNew 5 none, Cond.methodLink RX6 311 yX3_learn, Cond.instanceMethod yX3_learn, Cond.selects RX3 yX3_learn yX3_learn, Cond.code yX3_learn cX3_learn 2 none, Cond.methodLink RX3 28 yX3_paintsFrom, Cond.instanceMethod yX3_paintsFrom, Cond.selects RX3 yX3_paintsFrom yX3_paintsFrom, Cond.code yX3_paintsFrom cX3_paintsFrom 6 (some .boolean), Cond.methodLink RX3 39 Lib.Math.max.name, Cond.static Lib.Math.max.name, Cond.code Lib.Math.max.name Lib.Math.max.code 2 (some .int), Cond.methodLink RX3 32 yX5_linkedWith, Cond.instanceMethod yX5_linkedWith, Cond.selects RX5 yX5_linkedWith yX5_linkedWith, Cond.code yX5_linkedWith cX5_linkedWith 4 (some .int), Cond.methodLink RX3 36 yX3_isFree, Cond.instanceMethod yX3_isFree, Cond.selects RX3 yX3_isFree yX3_isFree, Cond.code yX3_isFree cX3_isFree 5 (some .boolean)]
def wsL_law0_r11 : List Cond := [Cond.methodLink RX6 129 yX0_learn, Cond.instanceMethod yX0_learn, Cond.selects RX0 yX0_learn yX0_learn, Cond.code yX0_learn cX0_learn 4 none, Cond.methodLink RX0 64 yX0_walkBehind, Cond.instanceMethod yX0_walkBehind, Cond.selects RX0 yX0_walkBehind yX0_walkBehind, Cond.code yX0_walkBehind cX0_walkBehind 7 (some .int), Cond.methodLink RX0 74 yX0_placeOf, Cond.instanceMethod yX0_placeOf, Cond.selects RX0 yX0_placeOf yX0_placeOf, Cond.code yX0_placeOf cX0_placeOf 4 (some .int), Cond.methodLink RX0 31 yX0_placeBehind, Cond.instanceMethod yX0_placeBehind, Cond.selects RX0 yX0_placeBehind yX0_placeBehind, Cond.code yX0_placeBehind cX0_placeBehind 3 (some .int), Cond.methodLink RL 26 yL_add, Cond.static yL_add, Cond.code yL_add cL_add 4 none, Cond.methodLink RL 37 yX6_net, Cond.instanceMethod yX6_net, Cond.selects RX6 yX6_net yX6_net, Cond.code yX6_net cX6_net 2 (some .int), Cond.methodLink RX6 133 yX6_demandWhat]
def wsL_law0_r12 : List Cond := [Cond.static yX6_demandWhat, Cond.code yX6_demandWhat cX6_demandWhat 2 none, Cond.classLink RX6 249 "java/lang/IllegalArgumentException", Cond.initialized "java/lang/IllegalArgumentException", Cond.methodLink RX6 143 yJ6_bitCount_0f7a4, Cond.static yJ6_bitCount_0f7a4, Cond.initialized RJ6, Cond.code yJ6_bitCount_0f7a4 cJ6_bitCount_0f7a4 1 (some .int), Cond.constant RJ6 265 (1431655765), Cond.constant RJ6 266 (858993459), Cond.constant RJ6 267 (252645135), Cond.methodLink RX6 130 yX0_allFaces, Cond.instanceMethod yX0_allFaces, Cond.selects RX0 yX0_allFaces yX0_allFaces, Cond.code yX0_allFaces cX0_allFaces 3 (some .int), Cond.methodLink RX0 80 yX5_standingAt, Cond.methodLink RX6 203 yX6_handles, Cond.instanceMethod yX6_handles, Cond.selects RX6 yX6_handles yX6_handles, Cond.code yX6_handles cX6_handles 2 (some .int), Cond.methodLink RX6 206 yX5_greatestDistance, Cond.instanceMethod yX5_greatestDistance, Cond.selects RX5 yX5_greatestDistance yX5_greatestDistance, Cond.code yX5_greatestDistance cX5_greatestDistance 4 (some .int)]
def wsL_law0_r13 : List Cond := [Cond.methodLink RX5 56 Lib.Math.max.name, Cond.methodLink RX5 52 yX5_distance, Cond.instanceMethod yX5_distance, Cond.selects RX5 yX5_distance yX5_distance, Cond.code yX5_distance cX5_distance 5 (some .int), Cond.methodLink RX5 45 yX5_linkedWithAny, Cond.instanceMethod yX5_linkedWithAny, Cond.selects RX5 yX5_linkedWithAny yX5_linkedWithAny, Cond.code yX5_linkedWithAny cX5_linkedWithAny 4 (some .int), Cond.methodLink RX5 49 yX5_linkedWith, Cond.methodLink RL 41 yX6_line, Cond.instanceMethod yX6_line, Cond.selects RX6 yX6_line yX6_line, Cond.code yX6_line cX6_line 5 (some .int), Cond.methodLink RX6 90 Lib.Math.min.name, Cond.methodLink RX6 96 Lib.Math.max.name, Cond.methodLink RX6 74 yX6_demandPoint, Cond.instanceMethod yX6_demandPoint, Cond.selects RX6 yX6_demandPoint yX6_demandPoint, Cond.code yX6_demandPoint cX6_demandPoint 2 none, Cond.classLink RX6 330 "java/lang/IndexOutOfBoundsException", Cond.initialized "java/lang/IndexOutOfBoundsException", Cond.methodLink RX6 78 yX6_demandUnlike, Cond.static yX6_demandUnlike]
def wsL_law0_r14 : List Cond := [Cond.code yX6_demandUnlike cX6_demandUnlike 2 none, Cond.methodLink RX6 82 yX6_demandCost, Cond.static yX6_demandCost, Cond.code yX6_demandCost cX6_demandCost 1 none, Cond.methodLink RX6 99 yX5_addLine, Cond.instanceMethod yX5_addLine, Cond.selects RX5 yX5_addLine yX5_addLine, Cond.code yX5_addLine cX5_addLine 5 (some .int), Cond.methodLink RX6 103 yX0_append, Cond.instanceMethod yX0_append, Cond.selects RX0 yX0_append yX0_append, Cond.code yX0_append cX0_append 3 none, Cond.methodLink RL 30 yX6_cut, Cond.instanceMethod yX6_cut, Cond.selects RX6 yX6_cut yX6_cut, Cond.code yX6_cut cX6_cut 3 (some .int), Cond.methodLink RX6 106 yX6_demandLine, Cond.instanceMethod yX6_demandLine, Cond.selects RX6 yX6_demandLine yX6_demandLine, Cond.code yX6_demandLine cX6_demandLine 2 none, Cond.methodLink RX6 109 yX5_setCut, Cond.instanceMethod yX5_setCut, Cond.selects RX5 yX5_setCut yX5_setCut, Cond.code yX5_setCut cX5_setCut 3 none]
def wsL_law0_r15 : List Cond := [Cond.methodLink RL 34 yL_turned, Cond.static yL_turned, Cond.code yL_turned cL_turned 3 none, Cond.methodLink RL 45 yX6_ofPoint, Cond.instanceMethod yX6_ofPoint, Cond.selects RX6 yX6_ofPoint yX6_ofPoint, Cond.code yX6_ofPoint cX6_ofPoint 3 (some .int), Cond.methodLink RX6 139 yX5_standingAt, Cond.methodLink RX6 151 yX6_has, Cond.methodLink RX6 155 yX1_blocksAt, Cond.instanceMethod yX1_blocksAt, Cond.selects RX1 yX1_blocksAt yX1_blocksAt, Cond.code yX1_blocksAt cX1_blocksAt 4 (some .int), Cond.methodLink RX1 93 yJ6_bitCount_0f7a4, Cond.methodLink RX6 161 yX5_linkedWith, Cond.methodLink RL 48 yX6_turn, Cond.instanceMethod yX6_turn, Cond.selects RX6 yX6_turn yX6_turn, Cond.code yX6_turn cX6_turn 3 (some .int), Cond.methodLink RX6 123 yX6_demandPlace, Cond.instanceMethod yX6_demandPlace, Cond.selects RX6 yX6_demandPlace yX6_demandPlace, Cond.code yX6_demandPlace cX6_demandPlace 3 none, Cond.methodLink RX6 126 yX0_swap]
def wsL_law0_r16 : List Cond := [Cond.instanceMethod yX0_swap, Cond.selects RX0 yX0_swap yX0_swap, Cond.code yX0_swap cX0_swap 5 none, Cond.methodLink RL 69 yL_isParted, Cond.static yL_isParted, Cond.code yL_isParted cL_isParted 11 (some .boolean), Cond.methodLink RL 85 yX6_between, Cond.instanceMethod yX6_between, Cond.selects RX6 yX6_between yX6_between, Cond.code yX6_between cX6_between 4 (some .int), Cond.methodLink RX6 219 yX4_countWays, Cond.instanceMethod yX4_countWays, Cond.selects RX4 yX4_countWays yX4_countWays, Cond.code yX4_countWays cX4_countWays 5 (some .int), Cond.methodLink RX4 27 yX4_clearRoom, Cond.instanceMethod yX4_clearRoom, Cond.selects RX4 yX4_clearRoom yX4_clearRoom, Cond.code yX4_clearRoom cX4_clearRoom 3 none, Cond.methodLink RX4 52 yX4_countFlow, Cond.instanceMethod yX4_countFlow, Cond.selects RX4 yX4_countFlow yX4_countFlow, Cond.code yX4_countFlow cX4_countFlow 5 (some .int), Cond.methodLink RX4 56 yX4_findsWay, Cond.instanceMethod yX4_findsWay]
def wsL_law0_r17 : List Cond := [Cond.selects RX4 yX4_findsWay yX4_findsWay, Cond.code yX4_findsWay cX4_findsWay 7 (some .boolean), Cond.methodLink RX4 59 yX4_fillWay, Cond.instanceMethod yX4_fillWay, Cond.selects RX4 yX4_fillWay yX4_fillWay, Cond.code yX4_fillWay cX4_fillWay 6 none, Cond.methodLink RX6 222 yX4_countLineWays, Cond.instanceMethod yX4_countLineWays, Cond.selects RX4 yX4_countLineWays yX4_countLineWays, Cond.code yX4_countLineWays cX4_countLineWays 4 (some .int), Cond.methodLink RX6 225 yX5_distance, Cond.methodLink RX6 228 yX4_gap, Cond.instanceMethod yX4_gap, Cond.selects RX4 yX4_gap yX4_gap, Cond.code yX4_gap cX4_gap 7 (some .int), Cond.methodLink RX4 63 yX5_linkedWith, Cond.methodLink RX4 67 yX5_allPoints, Cond.methodLink RX4 71 yJ6_bitCount_0f7a4, Cond.methodLink RX4 76 yX4_isApartWithout, Cond.instanceMethod yX4_isApartWithout, Cond.selects RX4 yX4_isApartWithout yX4_isApartWithout, Cond.code yX4_isApartWithout cX4_isApartWithout 4 (some .boolean), Cond.methodLink RX4 80 yX5_reach, Cond.methodLink RX6 231 yX4_side]
def wsL_law0_r18 : List Cond := [Cond.instanceMethod yX4_side, Cond.selects RX4 yX4_side yX4_side, Cond.code yX4_side cX4_side 8 (some .int), Cond.methodLink RX4 84 yX5_linesOutOf, Cond.instanceMethod yX5_linesOutOf, Cond.selects RX5 yX5_linesOutOf yX5_linesOutOf, Cond.code yX5_linesOutOf cX5_linesOutOf 4 (some .int), Cond.methodLink RX5 61 yX5_standingAt, Cond.methodLink RX6 234 yX5_linesOutOf, Cond.methodLink RL 88 yJ6_bitCount_0f7a4, Cond.methodLink RL 93 yX6_without, Cond.instanceMethod yX6_without, Cond.selects RX6 yX6_without yX6_without, Cond.code yX6_without cX6_without 3 (some .int), Cond.methodLink RX6 256 yX5_allPoints, Cond.methodLink RX6 259 yX5_countParts, Cond.methodLink RL 96 yL_areOff, Cond.static yL_areOff, Cond.code yL_areOff cL_areOff 7 (some .boolean), Cond.methodLink RL 73 yX6_digest, Cond.instanceMethod yX6_digest, Cond.selects RX6 yX6_digest yX6_digest, Cond.code yX6_digest cX6_digest 5 (some .long), Cond.constantLong RX6 282 (7901)]
def wsL_law0_r19 : List Cond := [Cond.methodLink RX6 284 yX6_net, Cond.methodLink RX6 287 yX6_mixed, Cond.static yX6_mixed, Cond.code yX6_mixed cX6_mixed 4 (some .long), Cond.constantLong RX6 321 (31), Cond.methodLink RX6 291 yX6_mixedPoint, Cond.instanceMethod yX6_mixedPoint, Cond.selects RX6 yX6_mixedPoint yX6_mixedPoint, Cond.code yX6_mixedPoint cX6_mixedPoint 8 (some .long), Cond.methodLink RX6 312 yX6_ofPoint, Cond.methodLink RX6 315 yX6_wouldTurn, Cond.instanceMethod yX6_wouldTurn, Cond.selects RX6 yX6_wouldTurn yX6_wouldTurn, Cond.code yX6_wouldTurn cX6_wouldTurn 2 (some .int), Cond.methodLink RX6 266 yX0_bestPlace, Cond.instanceMethod yX0_bestPlace, Cond.selects RX0 yX0_bestPlace yX0_bestPlace, Cond.code yX0_bestPlace cX0_bestPlace 5 (some .int), Cond.methodLink RX0 83 yX0_allFaces, Cond.methodLink RX0 87 yX0_swap, Cond.methodLink RX0 91 yX0_learn, Cond.methodLink RX6 318 yX6_between, Cond.methodLink RX6 295 yX6_ofLine, Cond.instanceMethod yX6_ofLine]
def wsL_law0_r20 : List Cond := [Cond.selects RX6 yX6_ofLine yX6_ofLine, Cond.code yX6_ofLine cX6_ofLine 3 (some .int), Cond.methodLink RX6 298 yX6_pair, Cond.instanceMethod yX6_pair, Cond.selects RX6 yX6_pair yX6_pair, Cond.code yX6_pair cX6_pair 3 (some .int), Cond.methodLink RX6 209 yX6_demandNth, Cond.static yX6_demandNth, Cond.code yX6_demandNth cX6_demandNth 1 none, Cond.methodLink RX6 212 yX1_pairPoint, Cond.instanceMethod yX1_pairPoint, Cond.selects RX1 yX1_pairPoint yX1_pairPoint, Cond.code yX1_pairPoint cX1_pairPoint 3 (some .int), Cond.methodLink RX6 301 yX6_twin, Cond.instanceMethod yX6_twin, Cond.selects RX6 yX6_twin yX6_twin, Cond.code yX6_twin cX6_twin 3 (some .int), Cond.methodLink RX6 216 yX1_twinLine, Cond.instanceMethod yX1_twinLine, Cond.selects RX1 yX1_twinLine yX1_twinLine, Cond.code yX1_twinLine cX1_twinLine 3 (some .int), Cond.methodLink RX6 304 yX6_trees, Cond.instanceMethod yX6_trees, Cond.selects RX6 yX6_trees yX6_trees]
def wsL_law0_r21 : List Cond := [Cond.code yX6_trees cX6_trees 1 (some .long), Cond.methodLink RX6 237 yX2_countTrees, Cond.instanceMethod yX2_countTrees, Cond.selects RX2 yX2_countTrees yX2_countTrees, Cond.code yX2_countTrees cX2_countTrees 1 (some .long), Cond.methodLink RX2 31 yX2_fillTable, Cond.instanceMethod yX2_fillTable, Cond.selects RX2 yX2_fillTable yX2_fillTable, Cond.code yX2_fillTable cX2_fillTable 3 none, Cond.methodLink RX2 38 yX2_addToTable, Cond.instanceMethod yX2_addToTable, Cond.selects RX2 yX2_addToTable yX2_addToTable, Cond.code yX2_addToTable cX2_addToTable 3 none, Cond.methodLink RX2 34 yX2_countByTable, Cond.instanceMethod yX2_countByTable, Cond.selects RX2 yX2_countByTable yX2_countByTable, Cond.code yX2_countByTable cX2_countByTable 10 (some .long), Cond.methodLink RX6 307 yX6_isSound, Cond.instanceMethod yX6_isSound, Cond.selects RX6 yX6_isSound yX6_isSound, Cond.code yX6_isSound cX6_isSound 1 (some .boolean), Cond.methodLink RX6 269 yX6_areAllWaysSound, Cond.instanceMethod yX6_areAllWaysSound, Cond.selects RX6 yX6_areAllWaysSound yX6_areAllWaysSound]
def wsL_law0_r22 : List Cond := [Cond.code yX6_areAllWaysSound cX6_areAllWaysSound 3 (some .boolean), Cond.methodLink RX6 323 yX6_areWaysSound, Cond.instanceMethod yX6_areWaysSound, Cond.selects RX6 yX6_areWaysSound yX6_areWaysSound, Cond.code yX6_areWaysSound cX6_areWaysSound 7 (some .boolean), Cond.methodLink RX6 273 yX6_areTreesSound, Cond.instanceMethod yX6_areTreesSound, Cond.selects RX6 yX6_areTreesSound yX6_areTreesSound, Cond.code yX6_areTreesSound cX6_areTreesSound 3 (some .boolean), Cond.methodLink RX6 276 yX6_isColouringSound, Cond.instanceMethod yX6_isColouringSound, Cond.selects RX6 yX6_isColouringSound yX6_isColouringSound, Cond.code yX6_isColouringSound cX6_isColouringSound 3 (some .boolean), Cond.methodLink RX6 279 yX6_areBlocksSound, Cond.instanceMethod yX6_areBlocksSound, Cond.selects RX6 yX6_areBlocksSound yX6_areBlocksSound, Cond.code yX6_areBlocksSound cX6_areBlocksSound 3 (some .boolean), Cond.methodLink RX6 326 yX1_isAloneInBlock, Cond.instanceMethod yX1_isAloneInBlock, Cond.selects RX1 yX1_isAloneInBlock yX1_isAloneInBlock, Cond.code yX1_isAloneInBlock cX1_isAloneInBlock 3 (some .boolean), Cond.methodLink RL 77 yL_isDone, Cond.static yL_isDone, Cond.codeWith yL_isDone cL_isDone 4 (some .boolean) [(16, 179, 180, 59), (16, 179, 183, 61)]]
def wsL_law0_r23 : List Cond := [Cond.classLink RL 59 "java/lang/IllegalStateException", Cond.classLink RL 61 "java/lang/IndexOutOfBoundsException", Cond.methodLink RL 51 Lib.Math.max.name, Cond.methodLink RL 56 yX6_price, Cond.instanceMethod yX6_price, Cond.selects RX6 yX6_price yX6_price, Cond.code yX6_price cX6_price 4 (some .int), Cond.methodLink RL 81 yX6_isSound]
def wsL_law0 : List Cond := (wsL_law0_r1 ++ (wsL_law0_r2 ++ (wsL_law0_r3 ++ (wsL_law0_r4 ++ (wsL_law0_r5 ++ (wsL_law0_r6 ++ (wsL_law0_r7 ++ (wsL_law0_r8 ++ (wsL_law0_r9 ++ (wsL_law0_r10 ++ (wsL_law0_r11 ++ (wsL_law0_r12 ++ (wsL_law0_r13 ++ (wsL_law0_r14 ++ (wsL_law0_r15 ++ (wsL_law0_r16 ++ (wsL_law0_r17 ++ (wsL_law0_r18 ++ (wsL_law0_r19 ++ (wsL_law0_r20 ++ (wsL_law0_r21 ++ (wsL_law0_r22 ++ wsL_law0_r23)))))))))))))))))))))) ++ wsX60 ++ wsX50 ++ wsX10 ++ wsX40 ++ wsX20 ++ wsX30 ++ wsX00 ++ ([] : List Cond)
def wsL_law : List Cond := wsL_law0 ++ (vx_atS RX6 64 "java/lang/IllegalStateException" ["java/lang/RuntimeException", "java/lang/Exception"]).filter goodWord ++ (vx_atS RX6 253 "java/lang/IllegalArgumentException" ["java/lang/RuntimeException", "java/lang/Exception"]).filter goodWord ++ (vx_atS RX6 334 "java/lang/IndexOutOfBoundsException" ["java/lang/RuntimeException", "java/lang/Exception"]).filter goodWord
end
section
theorem dX0_init_0 : decode cX0_init 0 = .ok (.aload_n 0, 1) := by decide +kernel
theorem dX0_init_1 : decode cX0_init 1 = .ok (.invokespecial 3, 3) := by decide +kernel
theorem dX0_init_4 : decode cX0_init 4 = .ok (.aload_n 0, 1) := by decide +kernel
theorem dX0_init_5 : decode cX0_init 5 = .ok (.bipush 8, 2) := by decide +kernel
theorem dX0_init_7 : decode cX0_init 7 = .ok (.bipush 16, 2) := by decide +kernel
theorem dX0_init_9 : decode cX0_init 9 = .ok (.multianewarray 9 2, 4) := by decide +kernel
theorem dX0_init_13 : decode cX0_init 13 = .ok (.putfield 11, 3) := by decide +kernel
theorem dX0_init_16 : decode cX0_init 16 = .ok (.aload_n 0, 1) := by decide +kernel
theorem dX0_init_17 : decode cX0_init 17 = .ok (.bipush 8, 2) := by decide +kernel
theorem dX0_init_19 : decode cX0_init 19 = .ok (.newarray .int, 2) := by decide +kernel
theorem dX0_init_21 : decode cX0_init 21 = .ok (.putfield 16, 3) := by decide +kernel
theorem dX0_init_24 : decode cX0_init 24 = .ok (.aload_n 0, 1) := by decide +kernel
theorem dX0_init_25 : decode cX0_init 25 = .ok (.iconst 0, 1) := by decide +kernel
theorem dX0_init_26 : decode cX0_init 26 = .ok (.putfield 20, 3) := by decide +kernel
theorem dX0_init_29 : decode cX0_init 29 = .ok (.aload_n 0, 1) := by decide +kernel
theorem dX0_init_30 : decode cX0_init 30 = .ok (.bipush 32, 2) := by decide +kernel
theorem dX0_init_32 : decode cX0_init 32 = .ok (.newarray .int, 2) := by decide +kernel
theorem dX0_init_34 : decode cX0_init 34 = .ok (.putfield 24, 3) := by decide +kernel
theorem dX0_init_37 : decode cX0_init 37 = .ok (.aload_n 0, 1) := by decide +kernel
theorem dX0_init_38 : decode cX0_init 38 = .ok (.aload_n 1, 1) := by decide +kernel
theorem dX0_init_39 : decode cX0_init 39 = .ok (.putfield 27, 3) := by decide +kernel
theorem dX0_init_42 : decode cX0_init 42 = .ok (.return_, 1) := by decide +kernel
theorem dX0_append_0 : decode cX0_append 0 = .ok (.aload_n 0, 1) := by decide +kernel
theorem dX0_append_1 : decode cX0_append 1 = .ok (.getfield 16, 3) := by decide +kernel
theorem dX0_append_4 : decode cX0_append 4 = .ok (.iload_n 1, 1) := by decide +kernel
theorem dX0_append_5 : decode cX0_append 5 = .ok (.iaload, 1) := by decide +kernel
theorem dX0_append_6 : decode cX0_append 6 = .ok (.bipush 16, 2) := by decide +kernel
theorem dX0_append_8 : decode cX0_append 8 = .ok (.if_icmp .ge 27, 3) := by decide +kernel
theorem dX0_append_11 : decode cX0_append 11 = .ok (.aload_n 0, 1) := by decide +kernel
theorem dX0_append_12 : decode cX0_append 12 = .ok (.getfield 11, 3) := by decide +kernel
theorem dX0_append_15 : decode cX0_append 15 = .ok (.iload_n 1, 1) := by decide +kernel
theorem dX0_append_16 : decode cX0_append 16 = .ok (.aaload, 1) := by decide +kernel
theorem dX0_append_17 : decode cX0_append 17 = .ok (.aload_n 0, 1) := by decide +kernel
theorem dX0_append_18 : decode cX0_append 18 = .ok (.getfield 16, 3) := by decide +kernel
theorem dX0_append_21 : decode cX0_append 21 = .ok (.iload_n 1, 1) := by decide +kernel
theorem dX0_append_22 : decode cX0_append 22 = .ok (.iaload, 1) := by decide +kernel
theorem dX0_append_23 : decode cX0_append 23 = .ok (.iload_n 2, 1) := by decide +kernel
theorem dX0_append_24 : decode cX0_append 24 = .ok (.iastore, 1) := by decide +kernel
theorem dX0_append_25 : decode cX0_append 25 = .ok (.aload_n 0, 1) := by decide +kernel
theorem dX0_append_26 : decode cX0_append 26 = .ok (.getfield 16, 3) := by decide +kernel
theorem dX0_append_29 : decode cX0_append 29 = .ok (.iload_n 1, 1) := by decide +kernel
theorem dX0_append_30 : decode cX0_append 30 = .ok (.dup2, 1) := by decide +kernel
theorem dX0_append_31 : decode cX0_append 31 = .ok (.iaload, 1) := by decide +kernel
theorem dX0_append_32 : decode cX0_append 32 = .ok (.iconst 1, 1) := by decide +kernel
theorem dX0_append_33 : decode cX0_append 33 = .ok (.iadd, 1) := by decide +kernel
theorem dX0_append_34 : decode cX0_append 34 = .ok (.iastore, 1) := by decide +kernel
theorem dX0_append_35 : decode cX0_append 35 = .ok (.return_, 1) := by decide +kernel
set_option maxRecDepth 20000 in
theorem ggX0_swap_X0_placeBehind : GoodIn wsX0_swap wsX0_placeBehind := goodIn_r _ [6, 7, 8, 9, 10, 11, 12] (by decide +kernel) (by decide +kernel)
set_option maxRecDepth 20000 in
theorem gX0_swap_X0_placeBehind : GoodIn wsX0_swap (wsV RX0 31 RX0 yX0_placeBehind wsX0_placeBehind) := goodIn_app (goodIn_of _ (by decide +kernel)) ggX0_swap_X0_placeBehind
theorem dX0_swap_0 : decode cX0_swap 0 = .ok (.aload_n 0, 1) := by decide +kernel
theorem dX0_swap_1 : decode cX0_swap 1 = .ok (.iload_n 1, 1) := by decide +kernel
theorem dX0_swap_2 : decode cX0_swap 2 = .ok (.iload_n 2, 1) := by decide +kernel
theorem dX0_swap_3 : decode cX0_swap 3 = .ok (.invokevirtual 31, 3) := by decide +kernel
theorem dX0_swap_6 : decode cX0_swap 6 = .ok (.istore_n 3, 1) := by decide +kernel
theorem dX0_swap_7 : decode cX0_swap 7 = .ok (.aload_n 0, 1) := by decide +kernel
theorem dX0_swap_8 : decode cX0_swap 8 = .ok (.getfield 11, 3) := by decide +kernel
theorem dX0_swap_11 : decode cX0_swap 11 = .ok (.iload_n 1, 1) := by decide +kernel
theorem dX0_swap_12 : decode cX0_swap 12 = .ok (.aaload, 1) := by decide +kernel
theorem dX0_swap_13 : decode cX0_swap 13 = .ok (.iload_n 2, 1) := by decide +kernel
theorem dX0_swap_14 : decode cX0_swap 14 = .ok (.iaload, 1) := by decide +kernel
theorem dX0_swap_15 : decode cX0_swap 15 = .ok (.istore 4, 2) := by decide +kernel
theorem dX0_swap_17 : decode cX0_swap 17 = .ok (.aload_n 0, 1) := by decide +kernel
theorem dX0_swap_18 : decode cX0_swap 18 = .ok (.getfield 11, 3) := by decide +kernel
theorem dX0_swap_21 : decode cX0_swap 21 = .ok (.iload_n 1, 1) := by decide +kernel
theorem dX0_swap_22 : decode cX0_swap 22 = .ok (.aaload, 1) := by decide +kernel
theorem dX0_swap_23 : decode cX0_swap 23 = .ok (.iload_n 2, 1) := by decide +kernel
theorem dX0_swap_24 : decode cX0_swap 24 = .ok (.aload_n 0, 1) := by decide +kernel
theorem dX0_swap_25 : decode cX0_swap 25 = .ok (.getfield 11, 3) := by decide +kernel
theorem dX0_swap_28 : decode cX0_swap 28 = .ok (.iload_n 1, 1) := by decide +kernel
theorem dX0_swap_29 : decode cX0_swap 29 = .ok (.aaload, 1) := by decide +kernel
theorem dX0_swap_30 : decode cX0_swap 30 = .ok (.iload_n 3, 1) := by decide +kernel
theorem dX0_swap_31 : decode cX0_swap 31 = .ok (.iaload, 1) := by decide +kernel
theorem dX0_swap_32 : decode cX0_swap 32 = .ok (.iastore, 1) := by decide +kernel
theorem dX0_swap_33 : decode cX0_swap 33 = .ok (.aload_n 0, 1) := by decide +kernel
theorem dX0_swap_34 : decode cX0_swap 34 = .ok (.getfield 11, 3) := by decide +kernel
theorem dX0_swap_37 : decode cX0_swap 37 = .ok (.iload_n 1, 1) := by decide +kernel
theorem dX0_swap_38 : decode cX0_swap 38 = .ok (.aaload, 1) := by decide +kernel
theorem dX0_swap_39 : decode cX0_swap 39 = .ok (.iload_n 3, 1) := by decide +kernel
theorem dX0_swap_40 : decode cX0_swap 40 = .ok (.iload 4, 2) := by decide +kernel
theorem dX0_swap_42 : decode cX0_swap 42 = .ok (.iastore, 1) := by decide +kernel
theorem dX0_swap_43 : decode cX0_swap 43 = .ok (.return_, 1) := by decide +kernel
set_option maxRecDepth 20000 in
theorem ggX0_learn_X6_has : GoodIn wsX0_learn wsX6_has := goodIn_r _ [6] (by decide +kernel) (by decide +kernel)
set_option maxRecDepth 20000 in
theorem gX0_learn_X6_has_n43 : GoodIn wsX0_learn (wsX6_has) := ggX0_learn_X6_has
set_option maxRecDepth 20000 in
theorem ggX0_learn_X0_walkBehind : GoodIn wsX0_learn wsX0_walkBehind := goodIn_r _ [11, 3, 12, 13, 14, 15, 16, 10, 17, 18, 19, 20, 21, 4, 5, 6, 22, 23, 24, 25, 26, 27, 28, 29, 30, 31, 32, 33, 34] (by decide +kernel) (by decide +kernel)
set_option maxRecDepth 20000 in
theorem gX0_learn_X0_walkBehind : GoodIn wsX0_learn (wsV RX0 64 RX0 yX0_walkBehind wsX0_walkBehind) := goodIn_app (goodIn_of _ (by decide +kernel)) ggX0_learn_X0_walkBehind
theorem dX0_learn_0 : decode cX0_learn 0 = .ok (.aload_n 0, 1) := by decide +kernel
theorem dX0_learn_1 : decode cX0_learn 1 = .ok (.iconst 0, 1) := by decide +kernel
theorem dX0_learn_2 : decode cX0_learn 2 = .ok (.putfield 20, 3) := by decide +kernel
theorem dX0_learn_5 : decode cX0_learn 5 = .ok (.iconst 0, 1) := by decide +kernel
theorem dX0_learn_6 : decode cX0_learn 6 = .ok (.istore_n 1, 1) := by decide +kernel
theorem dX0_learn_7 : decode cX0_learn 7 = .ok (.iload_n 1, 1) := by decide +kernel
theorem dX0_learn_8 : decode cX0_learn 8 = .ok (.bipush 32, 2) := by decide +kernel
theorem dX0_learn_10 : decode cX0_learn 10 = .ok (.if_icmp .ge 16, 3) := by decide +kernel
theorem dX0_learn_13 : decode cX0_learn 13 = .ok (.aload_n 0, 1) := by decide +kernel
theorem dX0_learn_14 : decode cX0_learn 14 = .ok (.getfield 24, 3) := by decide +kernel
theorem dX0_learn_17 : decode cX0_learn 17 = .ok (.iload_n 1, 1) := by decide +kernel
theorem dX0_learn_18 : decode cX0_learn 18 = .ok (.iconst (-1), 1) := by decide +kernel
theorem dX0_learn_19 : decode cX0_learn 19 = .ok (.iastore, 1) := by decide +kernel
theorem dX0_learn_20 : decode cX0_learn 20 = .ok (.iinc 1 1, 3) := by decide +kernel
theorem dX0_learn_23 : decode cX0_learn 23 = .ok (.goto (-16), 3) := by decide +kernel
theorem dX0_learn_26 : decode cX0_learn 26 = .ok (.iconst 0, 1) := by decide +kernel
theorem dX0_learn_27 : decode cX0_learn 27 = .ok (.istore_n 1, 1) := by decide +kernel
theorem dX0_learn_28 : decode cX0_learn 28 = .ok (.iload_n 1, 1) := by decide +kernel
theorem dX0_learn_29 : decode cX0_learn 29 = .ok (.iconst 2, 1) := by decide +kernel
theorem dX0_learn_30 : decode cX0_learn 30 = .ok (.aload_n 0, 1) := by decide +kernel
theorem dX0_learn_31 : decode cX0_learn 31 = .ok (.getfield 27, 3) := by decide +kernel
theorem dX0_learn_34 : decode cX0_learn 34 = .ok (.getfield 61, 3) := by decide +kernel
theorem dX0_learn_37 : decode cX0_learn 37 = .ok (.imul, 1) := by decide +kernel
theorem dX0_learn_38 : decode cX0_learn 38 = .ok (.if_icmp .ge 87, 3) := by decide +kernel
theorem dX0_learn_41 : decode cX0_learn 41 = .ok (.aload_n 0, 1) := by decide +kernel
theorem dX0_learn_42 : decode cX0_learn 42 = .ok (.getfield 27, 3) := by decide +kernel
theorem dX0_learn_45 : decode cX0_learn 45 = .ok (.getfield 38, 3) := by decide +kernel
theorem dX0_learn_48 : decode cX0_learn 48 = .ok (.iload_n 1, 1) := by decide +kernel
theorem dX0_learn_49 : decode cX0_learn 49 = .ok (.iconst 2, 1) := by decide +kernel
theorem dX0_learn_50 : decode cX0_learn 50 = .ok (.idiv, 1) := by decide +kernel
theorem dX0_learn_51 : decode cX0_learn 51 = .ok (.invokestatic 43, 3) := by decide +kernel
theorem dX0_learn_54 : decode cX0_learn 54 = .ok (.ifCond .eq 65, 3) := by decide +kernel
theorem dX0_learn_57 : decode cX0_learn 57 = .ok (.aload_n 0, 1) := by decide +kernel
theorem dX0_learn_58 : decode cX0_learn 58 = .ok (.getfield 24, 3) := by decide +kernel
theorem dX0_learn_61 : decode cX0_learn 61 = .ok (.iload_n 1, 1) := by decide +kernel
theorem dX0_learn_62 : decode cX0_learn 62 = .ok (.iaload, 1) := by decide +kernel
theorem dX0_learn_63 : decode cX0_learn 63 = .ok (.iconst (-1), 1) := by decide +kernel
theorem dX0_learn_64 : decode cX0_learn 64 = .ok (.if_icmp .ne 55, 3) := by decide +kernel
theorem dX0_learn_67 : decode cX0_learn 67 = .ok (.iload_n 1, 1) := by decide +kernel
theorem dX0_learn_68 : decode cX0_learn 68 = .ok (.istore_n 2, 1) := by decide +kernel
theorem dX0_learn_69 : decode cX0_learn 69 = .ok (.iconst 0, 1) := by decide +kernel
theorem dX0_learn_70 : decode cX0_learn 70 = .ok (.istore_n 3, 1) := by decide +kernel
theorem dX0_learn_71 : decode cX0_learn 71 = .ok (.iload_n 3, 1) := by decide +kernel
theorem dX0_learn_72 : decode cX0_learn 72 = .ok (.bipush 32, 2) := by decide +kernel
theorem dX0_learn_74 : decode cX0_learn 74 = .ok (.if_icmp .ge 35, 3) := by decide +kernel
theorem dX0_learn_77 : decode cX0_learn 77 = .ok (.aload_n 0, 1) := by decide +kernel
theorem dX0_learn_78 : decode cX0_learn 78 = .ok (.getfield 24, 3) := by decide +kernel
theorem dX0_learn_81 : decode cX0_learn 81 = .ok (.iload_n 2, 1) := by decide +kernel
theorem dX0_learn_82 : decode cX0_learn 82 = .ok (.iaload, 1) := by decide +kernel
theorem dX0_learn_83 : decode cX0_learn 83 = .ok (.iconst (-1), 1) := by decide +kernel
theorem dX0_learn_84 : decode cX0_learn 84 = .ok (.if_icmp .ne 25, 3) := by decide +kernel
theorem dX0_learn_87 : decode cX0_learn 87 = .ok (.aload_n 0, 1) := by decide +kernel
theorem dX0_learn_88 : decode cX0_learn 88 = .ok (.getfield 24, 3) := by decide +kernel
theorem dX0_learn_91 : decode cX0_learn 91 = .ok (.iload_n 2, 1) := by decide +kernel
theorem dX0_learn_92 : decode cX0_learn 92 = .ok (.aload_n 0, 1) := by decide +kernel
theorem dX0_learn_93 : decode cX0_learn 93 = .ok (.getfield 20, 3) := by decide +kernel
theorem dX0_learn_96 : decode cX0_learn 96 = .ok (.iastore, 1) := by decide +kernel
theorem dX0_learn_97 : decode cX0_learn 97 = .ok (.aload_n 0, 1) := by decide +kernel
theorem dX0_learn_98 : decode cX0_learn 98 = .ok (.iload_n 2, 1) := by decide +kernel
theorem dX0_learn_99 : decode cX0_learn 99 = .ok (.invokevirtual 64, 3) := by decide +kernel
theorem dX0_learn_102 : decode cX0_learn 102 = .ok (.istore_n 2, 1) := by decide +kernel
theorem dX0_learn_103 : decode cX0_learn 103 = .ok (.iinc 3 1, 3) := by decide +kernel
theorem dX0_learn_106 : decode cX0_learn 106 = .ok (.goto (-35), 3) := by decide +kernel
theorem dX0_learn_109 : decode cX0_learn 109 = .ok (.aload_n 0, 1) := by decide +kernel
theorem dX0_learn_110 : decode cX0_learn 110 = .ok (.dup, 1) := by decide +kernel
theorem dX0_learn_111 : decode cX0_learn 111 = .ok (.getfield 20, 3) := by decide +kernel
theorem dX0_learn_114 : decode cX0_learn 114 = .ok (.iconst 1, 1) := by decide +kernel
theorem dX0_learn_115 : decode cX0_learn 115 = .ok (.iadd, 1) := by decide +kernel
theorem dX0_learn_116 : decode cX0_learn 116 = .ok (.putfield 20, 3) := by decide +kernel
theorem dX0_learn_119 : decode cX0_learn 119 = .ok (.iinc 1 1, 3) := by decide +kernel
theorem dX0_learn_122 : decode cX0_learn 122 = .ok (.goto (-94), 3) := by decide +kernel
theorem dX0_learn_125 : decode cX0_learn 125 = .ok (.return_, 1) := by decide +kernel
set_option maxRecDepth 20000 in
theorem ggX0_walkBehind_X0_placeOf : GoodIn wsX0_walkBehind wsX0_placeOf := goodIn_r _ [8, 2, 3, 16, 17, 18, 19, 20] (by decide +kernel) (by decide +kernel)
set_option maxRecDepth 20000 in
theorem gX0_walkBehind_X0_placeOf : GoodIn wsX0_walkBehind (wsV RX0 74 RX0 yX0_placeOf wsX0_placeOf) := goodIn_app (goodIn_of _ (by decide +kernel)) ggX0_walkBehind_X0_placeOf
set_option maxRecDepth 20000 in
theorem ggX0_walkBehind_X0_placeBehind : GoodIn wsX0_walkBehind wsX0_placeBehind := goodIn_r _ [12, 2, 16, 17, 18, 19, 20] (by decide +kernel) (by decide +kernel)
set_option maxRecDepth 20000 in
theorem gX0_walkBehind_X0_placeBehind : GoodIn wsX0_walkBehind (wsV RX0 31 RX0 yX0_placeBehind wsX0_placeBehind) := goodIn_app (goodIn_of _ (by decide +kernel)) ggX0_walkBehind_X0_placeBehind
set_option maxRecDepth 20000 in
theorem ggX0_walkBehind_X6_has : GoodIn wsX0_walkBehind wsX6_has := goodIn_r _ [15] (by decide +kernel) (by decide +kernel)
set_option maxRecDepth 20000 in
theorem gX0_walkBehind_X6_has_n43 : GoodIn wsX0_walkBehind (wsX6_has) := ggX0_walkBehind_X6_has
theorem dX0_walkBehind_0 : decode cX0_walkBehind 0 = .ok (.iload_n 1, 1) := by decide +kernel
theorem dX0_walkBehind_1 : decode cX0_walkBehind 1 = .ok (.iconst 2, 1) := by decide +kernel
theorem dX0_walkBehind_2 : decode cX0_walkBehind 2 = .ok (.idiv, 1) := by decide +kernel
theorem dX0_walkBehind_3 : decode cX0_walkBehind 3 = .ok (.istore_n 2, 1) := by decide +kernel
theorem dX0_walkBehind_4 : decode cX0_walkBehind 4 = .ok (.iload_n 1, 1) := by decide +kernel
theorem dX0_walkBehind_5 : decode cX0_walkBehind 5 = .ok (.iconst 2, 1) := by decide +kernel
theorem dX0_walkBehind_6 : decode cX0_walkBehind 6 = .ok (.irem, 1) := by decide +kernel
theorem dX0_walkBehind_7 : decode cX0_walkBehind 7 = .ok (.ifCond .ne 15, 3) := by decide +kernel
theorem dX0_walkBehind_10 : decode cX0_walkBehind 10 = .ok (.aload_n 0, 1) := by decide +kernel
theorem dX0_walkBehind_11 : decode cX0_walkBehind 11 = .ok (.getfield 27, 3) := by decide +kernel
theorem dX0_walkBehind_14 : decode cX0_walkBehind 14 = .ok (.getfield 68, 3) := by decide +kernel
theorem dX0_walkBehind_17 : decode cX0_walkBehind 17 = .ok (.iload_n 2, 1) := by decide +kernel
theorem dX0_walkBehind_18 : decode cX0_walkBehind 18 = .ok (.iaload, 1) := by decide +kernel
theorem dX0_walkBehind_19 : decode cX0_walkBehind 19 = .ok (.goto 12, 3) := by decide +kernel
theorem dX0_walkBehind_22 : decode cX0_walkBehind 22 = .ok (.aload_n 0, 1) := by decide +kernel
theorem dX0_walkBehind_23 : decode cX0_walkBehind 23 = .ok (.getfield 27, 3) := by decide +kernel
theorem dX0_walkBehind_26 : decode cX0_walkBehind 26 = .ok (.getfield 71, 3) := by decide +kernel
theorem dX0_walkBehind_29 : decode cX0_walkBehind 29 = .ok (.iload_n 2, 1) := by decide +kernel
theorem dX0_walkBehind_30 : decode cX0_walkBehind 30 = .ok (.iaload, 1) := by decide +kernel
theorem dX0_walkBehind_31 : decode cX0_walkBehind 31 = .ok (.istore_n 3, 1) := by decide +kernel
theorem dX0_walkBehind_32 : decode cX0_walkBehind 32 = .ok (.aload_n 0, 1) := by decide +kernel
theorem dX0_walkBehind_33 : decode cX0_walkBehind 33 = .ok (.iload_n 3, 1) := by decide +kernel
theorem dX0_walkBehind_34 : decode cX0_walkBehind 34 = .ok (.iload_n 2, 1) := by decide +kernel
theorem dX0_walkBehind_35 : decode cX0_walkBehind 35 = .ok (.invokevirtual 74, 3) := by decide +kernel
theorem dX0_walkBehind_38 : decode cX0_walkBehind 38 = .ok (.istore 4, 2) := by decide +kernel
theorem dX0_walkBehind_40 : decode cX0_walkBehind 40 = .ok (.iconst 0, 1) := by decide +kernel
theorem dX0_walkBehind_41 : decode cX0_walkBehind 41 = .ok (.istore 5, 2) := by decide +kernel
theorem dX0_walkBehind_43 : decode cX0_walkBehind 43 = .ok (.iload 5, 2) := by decide +kernel
theorem dX0_walkBehind_45 : decode cX0_walkBehind 45 = .ok (.aload_n 0, 1) := by decide +kernel
theorem dX0_walkBehind_46 : decode cX0_walkBehind 46 = .ok (.getfield 16, 3) := by decide +kernel
theorem dX0_walkBehind_49 : decode cX0_walkBehind 49 = .ok (.iload_n 3, 1) := by decide +kernel
theorem dX0_walkBehind_50 : decode cX0_walkBehind 50 = .ok (.iaload, 1) := by decide +kernel
theorem dX0_walkBehind_51 : decode cX0_walkBehind 51 = .ok (.if_icmp .ge 69, 3) := by decide +kernel
theorem dX0_walkBehind_54 : decode cX0_walkBehind 54 = .ok (.aload_n 0, 1) := by decide +kernel
theorem dX0_walkBehind_55 : decode cX0_walkBehind 55 = .ok (.iload_n 3, 1) := by decide +kernel
theorem dX0_walkBehind_56 : decode cX0_walkBehind 56 = .ok (.iload 4, 2) := by decide +kernel
theorem dX0_walkBehind_58 : decode cX0_walkBehind 58 = .ok (.invokevirtual 31, 3) := by decide +kernel
theorem dX0_walkBehind_61 : decode cX0_walkBehind 61 = .ok (.istore 4, 2) := by decide +kernel
theorem dX0_walkBehind_63 : decode cX0_walkBehind 63 = .ok (.aload_n 0, 1) := by decide +kernel
theorem dX0_walkBehind_64 : decode cX0_walkBehind 64 = .ok (.getfield 11, 3) := by decide +kernel
theorem dX0_walkBehind_67 : decode cX0_walkBehind 67 = .ok (.iload_n 3, 1) := by decide +kernel
theorem dX0_walkBehind_68 : decode cX0_walkBehind 68 = .ok (.aaload, 1) := by decide +kernel
theorem dX0_walkBehind_69 : decode cX0_walkBehind 69 = .ok (.iload 4, 2) := by decide +kernel
theorem dX0_walkBehind_71 : decode cX0_walkBehind 71 = .ok (.iaload, 1) := by decide +kernel
theorem dX0_walkBehind_72 : decode cX0_walkBehind 72 = .ok (.istore 6, 2) := by decide +kernel
theorem dX0_walkBehind_74 : decode cX0_walkBehind 74 = .ok (.aload_n 0, 1) := by decide +kernel
theorem dX0_walkBehind_75 : decode cX0_walkBehind 75 = .ok (.getfield 27, 3) := by decide +kernel
theorem dX0_walkBehind_78 : decode cX0_walkBehind 78 = .ok (.getfield 38, 3) := by decide +kernel
theorem dX0_walkBehind_81 : decode cX0_walkBehind 81 = .ok (.iload 6, 2) := by decide +kernel
theorem dX0_walkBehind_83 : decode cX0_walkBehind 83 = .ok (.invokestatic 43, 3) := by decide +kernel
theorem dX0_walkBehind_86 : decode cX0_walkBehind 86 = .ok (.ifCond .eq 28, 3) := by decide +kernel
theorem dX0_walkBehind_89 : decode cX0_walkBehind 89 = .ok (.iconst 2, 1) := by decide +kernel
theorem dX0_walkBehind_90 : decode cX0_walkBehind 90 = .ok (.iload 6, 2) := by decide +kernel
theorem dX0_walkBehind_92 : decode cX0_walkBehind 92 = .ok (.imul, 1) := by decide +kernel
theorem dX0_walkBehind_93 : decode cX0_walkBehind 93 = .ok (.aload_n 0, 1) := by decide +kernel
theorem dX0_walkBehind_94 : decode cX0_walkBehind 94 = .ok (.getfield 27, 3) := by decide +kernel
theorem dX0_walkBehind_97 : decode cX0_walkBehind 97 = .ok (.getfield 71, 3) := by decide +kernel
theorem dX0_walkBehind_100 : decode cX0_walkBehind 100 = .ok (.iload 6, 2) := by decide +kernel
theorem dX0_walkBehind_102 : decode cX0_walkBehind 102 = .ok (.iaload, 1) := by decide +kernel
theorem dX0_walkBehind_103 : decode cX0_walkBehind 103 = .ok (.iload_n 3, 1) := by decide +kernel
theorem dX0_walkBehind_104 : decode cX0_walkBehind 104 = .ok (.if_icmp .ne 7, 3) := by decide +kernel
theorem dX0_walkBehind_107 : decode cX0_walkBehind 107 = .ok (.iconst 0, 1) := by decide +kernel
theorem dX0_walkBehind_108 : decode cX0_walkBehind 108 = .ok (.goto 4, 3) := by decide +kernel
theorem dX0_walkBehind_111 : decode cX0_walkBehind 111 = .ok (.iconst 1, 1) := by decide +kernel
theorem dX0_walkBehind_112 : decode cX0_walkBehind 112 = .ok (.iadd, 1) := by decide +kernel
theorem dX0_walkBehind_113 : decode cX0_walkBehind 113 = .ok (.ireturn, 1) := by decide +kernel
theorem dX0_walkBehind_114 : decode cX0_walkBehind 114 = .ok (.iinc 5 1, 3) := by decide +kernel
theorem dX0_walkBehind_117 : decode cX0_walkBehind 117 = .ok (.goto (-74), 3) := by decide +kernel
theorem dX0_walkBehind_120 : decode cX0_walkBehind 120 = .ok (.iload_n 1, 1) := by decide +kernel
theorem dX0_walkBehind_121 : decode cX0_walkBehind 121 = .ok (.ireturn, 1) := by decide +kernel
theorem dX0_placeOf_0 : decode cX0_placeOf 0 = .ok (.iconst 0, 1) := by decide +kernel
theorem dX0_placeOf_1 : decode cX0_placeOf 1 = .ok (.istore_n 3, 1) := by decide +kernel
theorem dX0_placeOf_2 : decode cX0_placeOf 2 = .ok (.iload_n 3, 1) := by decide +kernel
theorem dX0_placeOf_3 : decode cX0_placeOf 3 = .ok (.aload_n 0, 1) := by decide +kernel
theorem dX0_placeOf_4 : decode cX0_placeOf 4 = .ok (.getfield 16, 3) := by decide +kernel
theorem dX0_placeOf_7 : decode cX0_placeOf 7 = .ok (.iload_n 1, 1) := by decide +kernel
theorem dX0_placeOf_8 : decode cX0_placeOf 8 = .ok (.iaload, 1) := by decide +kernel
theorem dX0_placeOf_9 : decode cX0_placeOf 9 = .ok (.if_icmp .ge 23, 3) := by decide +kernel
theorem dX0_placeOf_12 : decode cX0_placeOf 12 = .ok (.aload_n 0, 1) := by decide +kernel
theorem dX0_placeOf_13 : decode cX0_placeOf 13 = .ok (.getfield 11, 3) := by decide +kernel
theorem dX0_placeOf_16 : decode cX0_placeOf 16 = .ok (.iload_n 1, 1) := by decide +kernel
theorem dX0_placeOf_17 : decode cX0_placeOf 17 = .ok (.aaload, 1) := by decide +kernel
theorem dX0_placeOf_18 : decode cX0_placeOf 18 = .ok (.iload_n 3, 1) := by decide +kernel
theorem dX0_placeOf_19 : decode cX0_placeOf 19 = .ok (.iaload, 1) := by decide +kernel
theorem dX0_placeOf_20 : decode cX0_placeOf 20 = .ok (.iload_n 2, 1) := by decide +kernel
theorem dX0_placeOf_21 : decode cX0_placeOf 21 = .ok (.if_icmp .ne 5, 3) := by decide +kernel
theorem dX0_placeOf_24 : decode cX0_placeOf 24 = .ok (.iload_n 3, 1) := by decide +kernel
theorem dX0_placeOf_25 : decode cX0_placeOf 25 = .ok (.ireturn, 1) := by decide +kernel
theorem dX0_placeOf_26 : decode cX0_placeOf 26 = .ok (.iinc 3 1, 3) := by decide +kernel
theorem dX0_placeOf_29 : decode cX0_placeOf 29 = .ok (.goto (-27), 3) := by decide +kernel
theorem dX0_placeOf_32 : decode cX0_placeOf 32 = .ok (.iconst 0, 1) := by decide +kernel
theorem dX0_placeOf_33 : decode cX0_placeOf 33 = .ok (.ireturn, 1) := by decide +kernel
theorem dX0_placeBehind_0 : decode cX0_placeBehind 0 = .ok (.iload_n 2, 1) := by decide +kernel
theorem dX0_placeBehind_1 : decode cX0_placeBehind 1 = .ok (.iconst 1, 1) := by decide +kernel
theorem dX0_placeBehind_2 : decode cX0_placeBehind 2 = .ok (.iadd, 1) := by decide +kernel
theorem dX0_placeBehind_3 : decode cX0_placeBehind 3 = .ok (.aload_n 0, 1) := by decide +kernel
theorem dX0_placeBehind_4 : decode cX0_placeBehind 4 = .ok (.getfield 16, 3) := by decide +kernel
theorem dX0_placeBehind_7 : decode cX0_placeBehind 7 = .ok (.iload_n 1, 1) := by decide +kernel
theorem dX0_placeBehind_8 : decode cX0_placeBehind 8 = .ok (.iaload, 1) := by decide +kernel
theorem dX0_placeBehind_9 : decode cX0_placeBehind 9 = .ok (.if_icmp .ge 9, 3) := by decide +kernel
theorem dX0_placeBehind_12 : decode cX0_placeBehind 12 = .ok (.iload_n 2, 1) := by decide +kernel
theorem dX0_placeBehind_13 : decode cX0_placeBehind 13 = .ok (.iconst 1, 1) := by decide +kernel
theorem dX0_placeBehind_14 : decode cX0_placeBehind 14 = .ok (.iadd, 1) := by decide +kernel
theorem dX0_placeBehind_15 : decode cX0_placeBehind 15 = .ok (.goto 4, 3) := by decide +kernel
theorem dX0_placeBehind_18 : decode cX0_placeBehind 18 = .ok (.iconst 0, 1) := by decide +kernel
theorem dX0_placeBehind_19 : decode cX0_placeBehind 19 = .ok (.ireturn, 1) := by decide +kernel
set_option maxRecDepth 20000 in
theorem ggX0_allFaces_X5_standingAt : GoodIn wsX0_allFaces wsX5_standingAt := goodIn_r _ [7, 8, 9, 15, 16, 17, 18, 19, 20, 21, 22] (by decide +kernel) (by decide +kernel)
set_option maxRecDepth 20000 in
theorem gX0_allFaces_X5_standingAt : GoodIn wsX0_allFaces (wsV RX0 80 RX5 yX5_standingAt wsX5_standingAt) := goodIn_app (goodIn_of _ (by decide +kernel)) ggX0_allFaces_X5_standingAt
theorem dX0_allFaces_0 : decode cX0_allFaces 0 = .ok (.aload_n 0, 1) := by decide +kernel
theorem dX0_allFaces_1 : decode cX0_allFaces 1 = .ok (.getfield 20, 3) := by decide +kernel
theorem dX0_allFaces_4 : decode cX0_allFaces 4 = .ok (.istore_n 1, 1) := by decide +kernel
theorem dX0_allFaces_5 : decode cX0_allFaces 5 = .ok (.iconst 0, 1) := by decide +kernel
theorem dX0_allFaces_6 : decode cX0_allFaces 6 = .ok (.istore_n 2, 1) := by decide +kernel
theorem dX0_allFaces_7 : decode cX0_allFaces 7 = .ok (.iload_n 2, 1) := by decide +kernel
theorem dX0_allFaces_8 : decode cX0_allFaces 8 = .ok (.aload_n 0, 1) := by decide +kernel
theorem dX0_allFaces_9 : decode cX0_allFaces 9 = .ok (.getfield 27, 3) := by decide +kernel
theorem dX0_allFaces_12 : decode cX0_allFaces 12 = .ok (.getfield 77, 3) := by decide +kernel
theorem dX0_allFaces_15 : decode cX0_allFaces 15 = .ok (.if_icmp .ge 23, 3) := by decide +kernel
theorem dX0_allFaces_18 : decode cX0_allFaces 18 = .ok (.aload_n 0, 1) := by decide +kernel
theorem dX0_allFaces_19 : decode cX0_allFaces 19 = .ok (.getfield 27, 3) := by decide +kernel
theorem dX0_allFaces_22 : decode cX0_allFaces 22 = .ok (.iload_n 2, 1) := by decide +kernel
theorem dX0_allFaces_23 : decode cX0_allFaces 23 = .ok (.invokevirtual 80, 3) := by decide +kernel
theorem dX0_allFaces_26 : decode cX0_allFaces 26 = .ok (.ifCond .ne 6, 3) := by decide +kernel
theorem dX0_allFaces_29 : decode cX0_allFaces 29 = .ok (.iinc 1 1, 3) := by decide +kernel
theorem dX0_allFaces_32 : decode cX0_allFaces 32 = .ok (.iinc 2 1, 3) := by decide +kernel
theorem dX0_allFaces_35 : decode cX0_allFaces 35 = .ok (.goto (-28), 3) := by decide +kernel
theorem dX0_allFaces_38 : decode cX0_allFaces 38 = .ok (.iload_n 1, 1) := by decide +kernel
theorem dX0_allFaces_39 : decode cX0_allFaces 39 = .ok (.ireturn, 1) := by decide +kernel
set_option maxRecDepth 20000 in
theorem ggX0_bestPlace_X0_allFaces : GoodIn wsX0_bestPlace wsX0_allFaces := goodIn_r _ [6, 7, 8, 9, 10, 11, 12, 13, 14, 15, 41, 42, 43, 44, 45, 46, 47, 48, 49, 50, 51, 52, 53] (by decide +kernel) (by decide +kernel)
set_option maxRecDepth 20000 in
theorem gX0_bestPlace_X0_allFaces : GoodIn wsX0_bestPlace (wsV RX0 83 RX0 yX0_allFaces wsX0_allFaces) := goodIn_app (goodIn_of _ (by decide +kernel)) ggX0_bestPlace_X0_allFaces
set_option maxRecDepth 20000 in
theorem ggX0_bestPlace_X0_swap : GoodIn wsX0_bestPlace wsX0_swap := goodIn_r _ [19, 20, 21, 22, 23, 5, 24, 1, 41, 42, 43, 44, 45] (by decide +kernel) (by decide +kernel)
set_option maxRecDepth 20000 in
theorem gX0_bestPlace_X0_swap : GoodIn wsX0_bestPlace (wsV RX0 87 RX0 yX0_swap wsX0_swap) := goodIn_app (goodIn_of _ (by decide +kernel)) ggX0_bestPlace_X0_swap
set_option maxRecDepth 20000 in
theorem ggX0_bestPlace_X0_learn : GoodIn wsX0_bestPlace wsX0_learn := goodIn_r _ [28, 7, 29, 8, 30, 31, 32, 33, 34, 35, 5, 36, 1, 20, 37, 38, 39, 40, 21, 22, 23, 24, 41, 42, 43, 44, 45, 46, 47, 48, 49, 50, 51, 52, 53] (by decide +kernel) (by decide +kernel)
set_option maxRecDepth 20000 in
theorem gX0_bestPlace_X0_learn : GoodIn wsX0_bestPlace (wsV RX0 91 RX0 yX0_learn wsX0_learn) := goodIn_app (goodIn_of _ (by decide +kernel)) ggX0_bestPlace_X0_learn
theorem dX0_bestPlace_0 : decode cX0_bestPlace 0 = .ok (.iconst (-1), 1) := by decide +kernel
theorem dX0_bestPlace_1 : decode cX0_bestPlace 1 = .ok (.istore_n 2, 1) := by decide +kernel
theorem dX0_bestPlace_2 : decode cX0_bestPlace 2 = .ok (.aload_n 0, 1) := by decide +kernel
theorem dX0_bestPlace_3 : decode cX0_bestPlace 3 = .ok (.invokevirtual 83, 3) := by decide +kernel
theorem dX0_bestPlace_6 : decode cX0_bestPlace 6 = .ok (.istore_n 3, 1) := by decide +kernel
theorem dX0_bestPlace_7 : decode cX0_bestPlace 7 = .ok (.iconst 0, 1) := by decide +kernel
theorem dX0_bestPlace_8 : decode cX0_bestPlace 8 = .ok (.istore 4, 2) := by decide +kernel
theorem dX0_bestPlace_10 : decode cX0_bestPlace 10 = .ok (.iload 4, 2) := by decide +kernel
theorem dX0_bestPlace_12 : decode cX0_bestPlace 12 = .ok (.aload_n 0, 1) := by decide +kernel
theorem dX0_bestPlace_13 : decode cX0_bestPlace 13 = .ok (.getfield 16, 3) := by decide +kernel
theorem dX0_bestPlace_16 : decode cX0_bestPlace 16 = .ok (.iload_n 1, 1) := by decide +kernel
theorem dX0_bestPlace_17 : decode cX0_bestPlace 17 = .ok (.iaload, 1) := by decide +kernel
theorem dX0_bestPlace_18 : decode cX0_bestPlace 18 = .ok (.if_icmp .ge 43, 3) := by decide +kernel
theorem dX0_bestPlace_21 : decode cX0_bestPlace 21 = .ok (.aload_n 0, 1) := by decide +kernel
theorem dX0_bestPlace_22 : decode cX0_bestPlace 22 = .ok (.iload_n 1, 1) := by decide +kernel
theorem dX0_bestPlace_23 : decode cX0_bestPlace 23 = .ok (.iload 4, 2) := by decide +kernel
theorem dX0_bestPlace_25 : decode cX0_bestPlace 25 = .ok (.invokevirtual 87, 3) := by decide +kernel
theorem dX0_bestPlace_28 : decode cX0_bestPlace 28 = .ok (.aload_n 0, 1) := by decide +kernel
theorem dX0_bestPlace_29 : decode cX0_bestPlace 29 = .ok (.invokevirtual 91, 3) := by decide +kernel
theorem dX0_bestPlace_32 : decode cX0_bestPlace 32 = .ok (.aload_n 0, 1) := by decide +kernel
theorem dX0_bestPlace_33 : decode cX0_bestPlace 33 = .ok (.iload_n 1, 1) := by decide +kernel
theorem dX0_bestPlace_34 : decode cX0_bestPlace 34 = .ok (.iload 4, 2) := by decide +kernel
theorem dX0_bestPlace_36 : decode cX0_bestPlace 36 = .ok (.invokevirtual 87, 3) := by decide +kernel
theorem dX0_bestPlace_39 : decode cX0_bestPlace 39 = .ok (.aload_n 0, 1) := by decide +kernel
theorem dX0_bestPlace_40 : decode cX0_bestPlace 40 = .ok (.invokevirtual 83, 3) := by decide +kernel
theorem dX0_bestPlace_43 : decode cX0_bestPlace 43 = .ok (.iload_n 3, 1) := by decide +kernel
theorem dX0_bestPlace_44 : decode cX0_bestPlace 44 = .ok (.if_icmp .le 11, 3) := by decide +kernel
theorem dX0_bestPlace_47 : decode cX0_bestPlace 47 = .ok (.aload_n 0, 1) := by decide +kernel
theorem dX0_bestPlace_48 : decode cX0_bestPlace 48 = .ok (.invokevirtual 83, 3) := by decide +kernel
theorem dX0_bestPlace_51 : decode cX0_bestPlace 51 = .ok (.istore_n 3, 1) := by decide +kernel
theorem dX0_bestPlace_52 : decode cX0_bestPlace 52 = .ok (.iload 4, 2) := by decide +kernel
theorem dX0_bestPlace_54 : decode cX0_bestPlace 54 = .ok (.istore_n 2, 1) := by decide +kernel
theorem dX0_bestPlace_55 : decode cX0_bestPlace 55 = .ok (.iinc 4 1, 3) := by decide +kernel
theorem dX0_bestPlace_58 : decode cX0_bestPlace 58 = .ok (.goto (-48), 3) := by decide +kernel
theorem dX0_bestPlace_61 : decode cX0_bestPlace 61 = .ok (.aload_n 0, 1) := by decide +kernel
theorem dX0_bestPlace_62 : decode cX0_bestPlace 62 = .ok (.invokevirtual 91, 3) := by decide +kernel
theorem dX0_bestPlace_65 : decode cX0_bestPlace 65 = .ok (.iload_n 2, 1) := by decide +kernel
theorem dX0_bestPlace_66 : decode cX0_bestPlace 66 = .ok (.ireturn, 1) := by decide +kernel
theorem dX1_init_0 : decode cX1_init 0 = .ok (.aload_n 0, 1) := by decide +kernel
theorem dX1_init_1 : decode cX1_init 1 = .ok (.invokespecial 3, 3) := by decide +kernel
theorem dX1_init_4 : decode cX1_init 4 = .ok (.aload_n 0, 1) := by decide +kernel
theorem dX1_init_5 : decode cX1_init 5 = .ok (.iconst 0, 1) := by decide +kernel
theorem dX1_init_6 : decode cX1_init 6 = .ok (.putfield 9, 3) := by decide +kernel
theorem dX1_init_9 : decode cX1_init 9 = .ok (.aload_n 0, 1) := by decide +kernel
theorem dX1_init_10 : decode cX1_init 10 = .ok (.iconst 0, 1) := by decide +kernel
theorem dX1_init_11 : decode cX1_init 11 = .ok (.putfield 15, 3) := by decide +kernel
theorem dX1_init_14 : decode cX1_init 14 = .ok (.aload_n 0, 1) := by decide +kernel
theorem dX1_init_15 : decode cX1_init 15 = .ok (.iconst 0, 1) := by decide +kernel
theorem dX1_init_16 : decode cX1_init 16 = .ok (.putfield 18, 3) := by decide +kernel
theorem dX1_init_19 : decode cX1_init 19 = .ok (.aload_n 0, 1) := by decide +kernel
theorem dX1_init_20 : decode cX1_init 20 = .ok (.iconst 0, 1) := by decide +kernel
theorem dX1_init_21 : decode cX1_init 21 = .ok (.putfield 21, 3) := by decide +kernel
theorem dX1_init_24 : decode cX1_init 24 = .ok (.aload_n 0, 1) := by decide +kernel
theorem dX1_init_25 : decode cX1_init 25 = .ok (.iconst 0, 1) := by decide +kernel
theorem dX1_init_26 : decode cX1_init 26 = .ok (.putfield 24, 3) := by decide +kernel
theorem dX1_init_29 : decode cX1_init 29 = .ok (.aload_n 0, 1) := by decide +kernel
theorem dX1_init_30 : decode cX1_init 30 = .ok (.iconst 0, 1) := by decide +kernel
theorem dX1_init_31 : decode cX1_init 31 = .ok (.putfield 27, 3) := by decide +kernel
theorem dX1_init_34 : decode cX1_init 34 = .ok (.aload_n 0, 1) := by decide +kernel
theorem dX1_init_35 : decode cX1_init 35 = .ok (.bipush 8, 2) := by decide +kernel
theorem dX1_init_37 : decode cX1_init 37 = .ok (.newarray .int, 2) := by decide +kernel
theorem dX1_init_39 : decode cX1_init 39 = .ok (.putfield 30, 3) := by decide +kernel
theorem dX1_init_42 : decode cX1_init 42 = .ok (.aload_n 0, 1) := by decide +kernel
theorem dX1_init_43 : decode cX1_init 43 = .ok (.bipush 8, 2) := by decide +kernel
theorem dX1_init_45 : decode cX1_init 45 = .ok (.newarray .int, 2) := by decide +kernel
theorem dX1_init_47 : decode cX1_init 47 = .ok (.putfield 34, 3) := by decide +kernel
theorem dX1_init_50 : decode cX1_init 50 = .ok (.aload_n 0, 1) := by decide +kernel
theorem dX1_init_51 : decode cX1_init 51 = .ok (.bipush 16, 2) := by decide +kernel
theorem dX1_init_53 : decode cX1_init 53 = .ok (.newarray .int, 2) := by decide +kernel
theorem dX1_init_55 : decode cX1_init 55 = .ok (.putfield 37, 3) := by decide +kernel
theorem dX1_init_58 : decode cX1_init 58 = .ok (.aload_n 0, 1) := by decide +kernel
theorem dX1_init_59 : decode cX1_init 59 = .ok (.bipush 16, 2) := by decide +kernel
theorem dX1_init_61 : decode cX1_init 61 = .ok (.newarray .int, 2) := by decide +kernel
theorem dX1_init_63 : decode cX1_init 63 = .ok (.putfield 40, 3) := by decide +kernel
theorem dX1_init_66 : decode cX1_init 66 = .ok (.aload_n 0, 1) := by decide +kernel
theorem dX1_init_67 : decode cX1_init 67 = .ok (.bipush 28, 2) := by decide +kernel
theorem dX1_init_69 : decode cX1_init 69 = .ok (.newarray .int, 2) := by decide +kernel
theorem dX1_init_71 : decode cX1_init 71 = .ok (.putfield 43, 3) := by decide +kernel
theorem dX1_init_74 : decode cX1_init 74 = .ok (.aload_n 0, 1) := by decide +kernel
theorem dX1_init_75 : decode cX1_init 75 = .ok (.bipush 28, 2) := by decide +kernel
theorem dX1_init_77 : decode cX1_init 77 = .ok (.newarray .int, 2) := by decide +kernel
theorem dX1_init_79 : decode cX1_init 79 = .ok (.putfield 46, 3) := by decide +kernel
theorem dX1_init_82 : decode cX1_init 82 = .ok (.aload_n 0, 1) := by decide +kernel
theorem dX1_init_83 : decode cX1_init 83 = .ok (.bipush 120, 2) := by decide +kernel
theorem dX1_init_85 : decode cX1_init 85 = .ok (.newarray .int, 2) := by decide +kernel
theorem dX1_init_87 : decode cX1_init 87 = .ok (.putfield 49, 3) := by decide +kernel
theorem dX1_init_90 : decode cX1_init 90 = .ok (.aload_n 0, 1) := by decide +kernel
theorem dX1_init_91 : decode cX1_init 91 = .ok (.bipush 120, 2) := by decide +kernel
theorem dX1_init_93 : decode cX1_init 93 = .ok (.newarray .int, 2) := by decide +kernel
theorem dX1_init_95 : decode cX1_init 95 = .ok (.putfield 52, 3) := by decide +kernel
theorem dX1_init_98 : decode cX1_init 98 = .ok (.aload_n 0, 1) := by decide +kernel
theorem dX1_init_99 : decode cX1_init 99 = .ok (.aload_n 1, 1) := by decide +kernel
theorem dX1_init_100 : decode cX1_init 100 = .ok (.putfield 55, 3) := by decide +kernel
theorem dX1_init_103 : decode cX1_init 103 = .ok (.return_, 1) := by decide +kernel
set_option maxRecDepth 20000 in
theorem ggX1_learn_X1_numberParts : GoodIn wsX1_learn wsX1_numberParts := goodIn_r _ [5, 6, 7, 8, 9, 10, 11, 12, 13, 14, 15, 16, 17, 18, 19, 20, 21, 22, 23, 24, 25, 4, 26, 27, 28, 101, 102, 103, 104, 105, 106, 107, 108, 109, 110, 111, 112, 113, 114, 115, 116, 117, 118, 119, 120, 121, 122, 123] (by decide +kernel) (by decide +kernel)
set_option maxRecDepth 20000 in
theorem gX1_learn_X1_numberParts : GoodIn wsX1_learn (wsV RX1 59 RX1 yX1_numberParts wsX1_numberParts) := goodIn_app (goodIn_of _ (by decide +kernel)) ggX1_learn_X1_numberParts
set_option maxRecDepth 20000 in
theorem ggX1_learn_X1_findBridges : GoodIn wsX1_learn wsX1_findBridges := goodIn_r _ [32, 33, 7, 6, 8, 9, 10, 11, 12, 13, 14, 15, 16, 34, 35, 36, 37, 38, 18, 19, 20, 21, 22, 101, 102, 103, 104, 105, 106, 107, 108, 109, 110, 111, 112, 113, 114, 115, 116, 117, 118, 119, 120, 121, 122, 123] (by decide +kernel) (by decide +kernel)
set_option maxRecDepth 20000 in
theorem gX1_learn_X1_findBridges : GoodIn wsX1_learn (wsV RX1 62 RX1 yX1_findBridges wsX1_findBridges) := goodIn_app (goodIn_of _ (by decide +kernel)) ggX1_learn_X1_findBridges
set_option maxRecDepth 20000 in
theorem ggX1_learn_X1_findCutPoints : GoodIn wsX1_learn wsX1_findCutPoints := goodIn_r _ [42, 43, 7, 28, 34, 35, 36, 14, 37, 16, 8, 9, 10, 38, 18, 19, 20, 21, 22, 101, 102, 103, 104, 105, 106, 107, 108, 109, 110, 111, 112, 113, 114, 115, 116, 117, 118, 119, 120, 121, 122, 123] (by decide +kernel) (by decide +kernel)
set_option maxRecDepth 20000 in
theorem gX1_learn_X1_findCutPoints : GoodIn wsX1_learn (wsV RX1 65 RX1 yX1_findCutPoints wsX1_findCutPoints) := goodIn_app (goodIn_of _ (by decide +kernel)) ggX1_learn_X1_findCutPoints
set_option maxRecDepth 20000 in
theorem ggX1_learn_X1_joinBlocks : GoodIn wsX1_learn wsX1_joinBlocks := goodIn_r _ [47, 7, 48, 49, 50, 51, 14, 52, 53, 54, 8, 9, 10, 55, 56, 57, 4, 58, 11, 12, 13, 15, 16, 59, 60, 61, 62, 63, 64, 17, 18, 19, 20, 21, 22, 65, 66, 67, 68, 69, 70, 71, 72, 101, 102, 103, 104, 105, 106, 107, 108, 109, 110, 111, 112, 113, 114, 115, 116, 117, 118, 119, 120, 121, 122, 123] (by decide +kernel) (by decide +kernel)
set_option maxRecDepth 20000 in
theorem gX1_learn_X1_joinBlocks : GoodIn wsX1_learn (wsV RX1 68 RX1 yX1_joinBlocks wsX1_joinBlocks) := goodIn_app (goodIn_of _ (by decide +kernel)) ggX1_learn_X1_joinBlocks
set_option maxRecDepth 20000 in
theorem ggX1_learn_X1_numberBlocks : GoodIn wsX1_learn wsX1_numberBlocks := goodIn_r _ [76, 77, 7, 78, 48, 8, 9, 10, 101, 102, 103, 104, 105, 106, 107, 108, 109, 110, 111, 112, 113, 114, 115, 116, 117, 118, 119, 120, 121, 122, 123] (by decide +kernel) (by decide +kernel)
set_option maxRecDepth 20000 in
theorem gX1_learn_X1_numberBlocks : GoodIn wsX1_learn (wsV RX1 71 RX1 yX1_numberBlocks wsX1_numberBlocks) := goodIn_app (goodIn_of _ (by decide +kernel)) ggX1_learn_X1_numberBlocks
set_option maxRecDepth 20000 in
theorem ggX1_learn_X1_findPairs : GoodIn wsX1_learn wsX1_findPairs := goodIn_r _ [82, 83, 7, 84, 85, 86, 87, 88, 4, 89, 27, 43, 28, 34, 35, 36, 14, 37, 16, 8, 9, 10, 38, 18, 19, 20, 21, 22, 101, 102, 103, 104, 105, 106, 107, 108, 109, 110, 111, 112, 113, 114, 115, 116, 117, 118, 119, 120, 121, 122, 123] (by decide +kernel) (by decide +kernel)
set_option maxRecDepth 20000 in
theorem gX1_learn_X1_findPairs : GoodIn wsX1_learn (wsV RX1 74 RX1 yX1_findPairs wsX1_findPairs) := goodIn_app (goodIn_of _ (by decide +kernel)) ggX1_learn_X1_findPairs
set_option maxRecDepth 20000 in
theorem ggX1_learn_X1_findTwins : GoodIn wsX1_learn wsX1_findTwins := goodIn_r _ [93, 94, 7, 95, 96, 97, 98, 99, 4, 100, 33, 6, 11, 12, 13, 14, 15, 16, 34, 35, 36, 37, 8, 9, 10, 38, 18, 19, 20, 21, 22, 101, 102, 103, 104, 105, 106, 107, 108, 109, 110, 111, 112, 113, 114, 115, 116, 117, 118, 119, 120, 121, 122, 123] (by decide +kernel) (by decide +kernel)
set_option maxRecDepth 20000 in
theorem gX1_learn_X1_findTwins : GoodIn wsX1_learn (wsV RX1 77 RX1 yX1_findTwins wsX1_findTwins) := goodIn_app (goodIn_of _ (by decide +kernel)) ggX1_learn_X1_findTwins
theorem dX1_learn_0 : decode cX1_learn 0 = .ok (.aload_n 0, 1) := by decide +kernel
theorem dX1_learn_1 : decode cX1_learn 1 = .ok (.invokevirtual 59, 3) := by decide +kernel
theorem dX1_learn_4 : decode cX1_learn 4 = .ok (.aload_n 0, 1) := by decide +kernel
theorem dX1_learn_5 : decode cX1_learn 5 = .ok (.invokevirtual 62, 3) := by decide +kernel
theorem dX1_learn_8 : decode cX1_learn 8 = .ok (.aload_n 0, 1) := by decide +kernel
theorem dX1_learn_9 : decode cX1_learn 9 = .ok (.invokevirtual 65, 3) := by decide +kernel
theorem dX1_learn_12 : decode cX1_learn 12 = .ok (.aload_n 0, 1) := by decide +kernel
theorem dX1_learn_13 : decode cX1_learn 13 = .ok (.invokevirtual 68, 3) := by decide +kernel
theorem dX1_learn_16 : decode cX1_learn 16 = .ok (.aload_n 0, 1) := by decide +kernel
theorem dX1_learn_17 : decode cX1_learn 17 = .ok (.invokevirtual 71, 3) := by decide +kernel
theorem dX1_learn_20 : decode cX1_learn 20 = .ok (.aload_n 0, 1) := by decide +kernel
theorem dX1_learn_21 : decode cX1_learn 21 = .ok (.invokevirtual 74, 3) := by decide +kernel
theorem dX1_learn_24 : decode cX1_learn 24 = .ok (.aload_n 0, 1) := by decide +kernel
theorem dX1_learn_25 : decode cX1_learn 25 = .ok (.invokevirtual 77, 3) := by decide +kernel
theorem dX1_learn_28 : decode cX1_learn 28 = .ok (.return_, 1) := by decide +kernel
set_option maxRecDepth 20000 in
theorem ggX1_blocksAt_X5_standingAt : GoodIn wsX1_blocksAt wsX5_standingAt := goodIn_r _ [7, 8, 9, 35, 36, 37, 38, 39, 40, 41, 42] (by decide +kernel) (by decide +kernel)
set_option maxRecDepth 20000 in
theorem gX1_blocksAt_X5_standingAt : GoodIn wsX1_blocksAt (wsV RX1 85 RX5 yX5_standingAt wsX5_standingAt) := goodIn_app (goodIn_of _ (by decide +kernel)) ggX1_blocksAt_X5_standingAt
set_option maxRecDepth 20000 in
theorem ggX1_blocksAt_X6_has : GoodIn wsX1_blocksAt wsX6_has := goodIn_r _ [12] (by decide +kernel) (by decide +kernel)
set_option maxRecDepth 20000 in
theorem gX1_blocksAt_X6_has_n89 : GoodIn wsX1_blocksAt (wsX6_has) := ggX1_blocksAt_X6_has
set_option maxRecDepth 20000 in
theorem ggX1_blocksAt_J6_bitCount_0f7a4 : GoodIn wsX1_blocksAt wsJ6_bitCount_0f7a4 := goodIn_r _ [16, 17, 18, 19] (by decide +kernel) (by decide +kernel)
set_option maxRecDepth 20000 in
theorem gX1_blocksAt_J6_bitCount_0f7a4 : GoodIn wsX1_blocksAt (va_wsS RX1 93 yJ6_bitCount_0f7a4 wsJ6_bitCount_0f7a4) := goodIn_app (goodIn_of _ (by decide +kernel)) ggX1_blocksAt_J6_bitCount_0f7a4
theorem dX1_blocksAt_0 : decode cX1_blocksAt 0 = .ok (.iconst 0, 1) := by decide +kernel
theorem dX1_blocksAt_1 : decode cX1_blocksAt 1 = .ok (.istore_n 2, 1) := by decide +kernel
theorem dX1_blocksAt_2 : decode cX1_blocksAt 2 = .ok (.iconst 0, 1) := by decide +kernel
theorem dX1_blocksAt_3 : decode cX1_blocksAt 3 = .ok (.istore_n 3, 1) := by decide +kernel
theorem dX1_blocksAt_4 : decode cX1_blocksAt 4 = .ok (.iload_n 3, 1) := by decide +kernel
theorem dX1_blocksAt_5 : decode cX1_blocksAt 5 = .ok (.aload_n 0, 1) := by decide +kernel
theorem dX1_blocksAt_6 : decode cX1_blocksAt 6 = .ok (.getfield 55, 3) := by decide +kernel
theorem dX1_blocksAt_9 : decode cX1_blocksAt 9 = .ok (.getfield 80, 3) := by decide +kernel
theorem dX1_blocksAt_12 : decode cX1_blocksAt 12 = .ok (.if_icmp .ge 35, 3) := by decide +kernel
theorem dX1_blocksAt_15 : decode cX1_blocksAt 15 = .ok (.aload_n 0, 1) := by decide +kernel
theorem dX1_blocksAt_16 : decode cX1_blocksAt 16 = .ok (.getfield 55, 3) := by decide +kernel
theorem dX1_blocksAt_19 : decode cX1_blocksAt 19 = .ok (.iload_n 1, 1) := by decide +kernel
theorem dX1_blocksAt_20 : decode cX1_blocksAt 20 = .ok (.invokevirtual 85, 3) := by decide +kernel
theorem dX1_blocksAt_23 : decode cX1_blocksAt 23 = .ok (.iload_n 3, 1) := by decide +kernel
theorem dX1_blocksAt_24 : decode cX1_blocksAt 24 = .ok (.invokestatic 89, 3) := by decide +kernel
theorem dX1_blocksAt_27 : decode cX1_blocksAt 27 = .ok (.ifCond .eq 14, 3) := by decide +kernel
theorem dX1_blocksAt_30 : decode cX1_blocksAt 30 = .ok (.iload_n 2, 1) := by decide +kernel
theorem dX1_blocksAt_31 : decode cX1_blocksAt 31 = .ok (.iconst 1, 1) := by decide +kernel
theorem dX1_blocksAt_32 : decode cX1_blocksAt 32 = .ok (.aload_n 0, 1) := by decide +kernel
theorem dX1_blocksAt_33 : decode cX1_blocksAt 33 = .ok (.getfield 40, 3) := by decide +kernel
theorem dX1_blocksAt_36 : decode cX1_blocksAt 36 = .ok (.iload_n 3, 1) := by decide +kernel
theorem dX1_blocksAt_37 : decode cX1_blocksAt 37 = .ok (.iaload, 1) := by decide +kernel
theorem dX1_blocksAt_38 : decode cX1_blocksAt 38 = .ok (.ishl, 1) := by decide +kernel
theorem dX1_blocksAt_39 : decode cX1_blocksAt 39 = .ok (.ior, 1) := by decide +kernel
theorem dX1_blocksAt_40 : decode cX1_blocksAt 40 = .ok (.istore_n 2, 1) := by decide +kernel
theorem dX1_blocksAt_41 : decode cX1_blocksAt 41 = .ok (.iinc 3 1, 3) := by decide +kernel
theorem dX1_blocksAt_44 : decode cX1_blocksAt 44 = .ok (.goto (-40), 3) := by decide +kernel
theorem dX1_blocksAt_47 : decode cX1_blocksAt 47 = .ok (.iload_n 2, 1) := by decide +kernel
theorem dX1_blocksAt_48 : decode cX1_blocksAt 48 = .ok (.invokestatic 93, 3) := by decide +kernel
theorem dX1_blocksAt_51 : decode cX1_blocksAt 51 = .ok (.ireturn, 1) := by decide +kernel
theorem dX1_isAloneInBlock_0 : decode cX1_isAloneInBlock 0 = .ok (.iconst 0, 1) := by decide +kernel
theorem dX1_isAloneInBlock_1 : decode cX1_isAloneInBlock 1 = .ok (.istore_n 2, 1) := by decide +kernel
theorem dX1_isAloneInBlock_2 : decode cX1_isAloneInBlock 2 = .ok (.iload_n 2, 1) := by decide +kernel
theorem dX1_isAloneInBlock_3 : decode cX1_isAloneInBlock 3 = .ok (.aload_n 0, 1) := by decide +kernel
theorem dX1_isAloneInBlock_4 : decode cX1_isAloneInBlock 4 = .ok (.getfield 55, 3) := by decide +kernel
theorem dX1_isAloneInBlock_7 : decode cX1_isAloneInBlock 7 = .ok (.getfield 80, 3) := by decide +kernel
theorem dX1_isAloneInBlock_10 : decode cX1_isAloneInBlock 10 = .ok (.if_icmp .ge 31, 3) := by decide +kernel
theorem dX1_isAloneInBlock_13 : decode cX1_isAloneInBlock 13 = .ok (.iload_n 2, 1) := by decide +kernel
theorem dX1_isAloneInBlock_14 : decode cX1_isAloneInBlock 14 = .ok (.iload_n 1, 1) := by decide +kernel
theorem dX1_isAloneInBlock_15 : decode cX1_isAloneInBlock 15 = .ok (.if_icmp .eq 20, 3) := by decide +kernel
theorem dX1_isAloneInBlock_18 : decode cX1_isAloneInBlock 18 = .ok (.aload_n 0, 1) := by decide +kernel
theorem dX1_isAloneInBlock_19 : decode cX1_isAloneInBlock 19 = .ok (.getfield 40, 3) := by decide +kernel
theorem dX1_isAloneInBlock_22 : decode cX1_isAloneInBlock 22 = .ok (.iload_n 2, 1) := by decide +kernel
theorem dX1_isAloneInBlock_23 : decode cX1_isAloneInBlock 23 = .ok (.iaload, 1) := by decide +kernel
theorem dX1_isAloneInBlock_24 : decode cX1_isAloneInBlock 24 = .ok (.aload_n 0, 1) := by decide +kernel
theorem dX1_isAloneInBlock_25 : decode cX1_isAloneInBlock 25 = .ok (.getfield 40, 3) := by decide +kernel
theorem dX1_isAloneInBlock_28 : decode cX1_isAloneInBlock 28 = .ok (.iload_n 1, 1) := by decide +kernel
theorem dX1_isAloneInBlock_29 : decode cX1_isAloneInBlock 29 = .ok (.iaload, 1) := by decide +kernel
theorem dX1_isAloneInBlock_30 : decode cX1_isAloneInBlock 30 = .ok (.if_icmp .ne 5, 3) := by decide +kernel
theorem dX1_isAloneInBlock_33 : decode cX1_isAloneInBlock 33 = .ok (.iconst 0, 1) := by decide +kernel
theorem dX1_isAloneInBlock_34 : decode cX1_isAloneInBlock 34 = .ok (.ireturn, 1) := by decide +kernel
theorem dX1_isAloneInBlock_35 : decode cX1_isAloneInBlock 35 = .ok (.iinc 2 1, 3) := by decide +kernel
theorem dX1_isAloneInBlock_38 : decode cX1_isAloneInBlock 38 = .ok (.goto (-36), 3) := by decide +kernel
theorem dX1_isAloneInBlock_41 : decode cX1_isAloneInBlock 41 = .ok (.iconst 1, 1) := by decide +kernel
theorem dX1_isAloneInBlock_42 : decode cX1_isAloneInBlock 42 = .ok (.ireturn, 1) := by decide +kernel
theorem dX1_pairPoint_0 : decode cX1_pairPoint 0 = .ok (.iload_n 1, 1) := by decide +kernel
theorem dX1_pairPoint_1 : decode cX1_pairPoint 1 = .ok (.ifCond .lt 11, 3) := by decide +kernel
theorem dX1_pairPoint_4 : decode cX1_pairPoint 4 = .ok (.iload_n 1, 1) := by decide +kernel
theorem dX1_pairPoint_5 : decode cX1_pairPoint 5 = .ok (.aload_n 0, 1) := by decide +kernel
theorem dX1_pairPoint_6 : decode cX1_pairPoint 6 = .ok (.getfield 24, 3) := by decide +kernel
theorem dX1_pairPoint_9 : decode cX1_pairPoint 9 = .ok (.if_icmp .lt 5, 3) := by decide +kernel
theorem dX1_pairPoint_12 : decode cX1_pairPoint 12 = .ok (.iconst (-1), 1) := by decide +kernel
theorem dX1_pairPoint_13 : decode cX1_pairPoint 13 = .ok (.ireturn, 1) := by decide +kernel
theorem dX1_pairPoint_14 : decode cX1_pairPoint 14 = .ok (.iload_n 2, 1) := by decide +kernel
theorem dX1_pairPoint_15 : decode cX1_pairPoint 15 = .ok (.ifCond .eq 12, 3) := by decide +kernel
theorem dX1_pairPoint_18 : decode cX1_pairPoint 18 = .ok (.aload_n 0, 1) := by decide +kernel
theorem dX1_pairPoint_19 : decode cX1_pairPoint 19 = .ok (.getfield 46, 3) := by decide +kernel
theorem dX1_pairPoint_22 : decode cX1_pairPoint 22 = .ok (.iload_n 1, 1) := by decide +kernel
theorem dX1_pairPoint_23 : decode cX1_pairPoint 23 = .ok (.iaload, 1) := by decide +kernel
theorem dX1_pairPoint_24 : decode cX1_pairPoint 24 = .ok (.goto 9, 3) := by decide +kernel
theorem dX1_pairPoint_27 : decode cX1_pairPoint 27 = .ok (.aload_n 0, 1) := by decide +kernel
theorem dX1_pairPoint_28 : decode cX1_pairPoint 28 = .ok (.getfield 43, 3) := by decide +kernel
theorem dX1_pairPoint_31 : decode cX1_pairPoint 31 = .ok (.iload_n 1, 1) := by decide +kernel
theorem dX1_pairPoint_32 : decode cX1_pairPoint 32 = .ok (.iaload, 1) := by decide +kernel
theorem dX1_pairPoint_33 : decode cX1_pairPoint 33 = .ok (.ireturn, 1) := by decide +kernel
theorem dX1_twinLine_0 : decode cX1_twinLine 0 = .ok (.iload_n 1, 1) := by decide +kernel
theorem dX1_twinLine_1 : decode cX1_twinLine 1 = .ok (.ifCond .lt 11, 3) := by decide +kernel
theorem dX1_twinLine_4 : decode cX1_twinLine 4 = .ok (.iload_n 1, 1) := by decide +kernel
theorem dX1_twinLine_5 : decode cX1_twinLine 5 = .ok (.aload_n 0, 1) := by decide +kernel
theorem dX1_twinLine_6 : decode cX1_twinLine 6 = .ok (.getfield 27, 3) := by decide +kernel
theorem dX1_twinLine_9 : decode cX1_twinLine 9 = .ok (.if_icmp .lt 5, 3) := by decide +kernel
theorem dX1_twinLine_12 : decode cX1_twinLine 12 = .ok (.iconst (-1), 1) := by decide +kernel
theorem dX1_twinLine_13 : decode cX1_twinLine 13 = .ok (.ireturn, 1) := by decide +kernel
theorem dX1_twinLine_14 : decode cX1_twinLine 14 = .ok (.iload_n 2, 1) := by decide +kernel
theorem dX1_twinLine_15 : decode cX1_twinLine 15 = .ok (.ifCond .eq 12, 3) := by decide +kernel
theorem dX1_twinLine_18 : decode cX1_twinLine 18 = .ok (.aload_n 0, 1) := by decide +kernel
theorem dX1_twinLine_19 : decode cX1_twinLine 19 = .ok (.getfield 52, 3) := by decide +kernel
theorem dX1_twinLine_22 : decode cX1_twinLine 22 = .ok (.iload_n 1, 1) := by decide +kernel
theorem dX1_twinLine_23 : decode cX1_twinLine 23 = .ok (.iaload, 1) := by decide +kernel
theorem dX1_twinLine_24 : decode cX1_twinLine 24 = .ok (.goto 9, 3) := by decide +kernel
theorem dX1_twinLine_27 : decode cX1_twinLine 27 = .ok (.aload_n 0, 1) := by decide +kernel
theorem dX1_twinLine_28 : decode cX1_twinLine 28 = .ok (.getfield 49, 3) := by decide +kernel
theorem dX1_twinLine_31 : decode cX1_twinLine 31 = .ok (.iload_n 1, 1) := by decide +kernel
theorem dX1_twinLine_32 : decode cX1_twinLine 32 = .ok (.iaload, 1) := by decide +kernel
theorem dX1_twinLine_33 : decode cX1_twinLine 33 = .ok (.ireturn, 1) := by decide +kernel
set_option maxRecDepth 20000 in
theorem ggX1_numberParts_X6_has : GoodIn wsX1_numberParts wsX6_has := goodIn_r _ [5] (by decide +kernel) (by decide +kernel)
set_option maxRecDepth 20000 in
theorem gX1_numberParts_X6_has_n89 : GoodIn wsX1_numberParts (wsX6_has) := ggX1_numberParts_X6_has
set_option maxRecDepth 20000 in
theorem ggX1_numberParts_X5_allPoints : GoodIn wsX1_numberParts wsX5_allPoints := goodIn_r _ [10, 11, 40, 41, 42, 43, 44, 45, 46, 47] (by decide +kernel) (by decide +kernel)
set_option maxRecDepth 20000 in
theorem gX1_numberParts_X5_allPoints : GoodIn wsX1_numberParts (wsV RX1 101 RX5 yX5_allPoints wsX5_allPoints) := goodIn_app (goodIn_of _ (by decide +kernel)) ggX1_numberParts_X5_allPoints
set_option maxRecDepth 20000 in
theorem ggX1_numberParts_X5_reach : GoodIn wsX1_numberParts wsX5_reach := goodIn_r _ [15, 16, 17, 40, 41, 42, 43, 44, 45, 46, 47] (by decide +kernel) (by decide +kernel)
set_option maxRecDepth 20000 in
theorem gX1_numberParts_X5_reach : GoodIn wsX1_numberParts (wsV RX1 108 RX5 yX5_reach wsX5_reach) := goodIn_app (goodIn_of _ (by decide +kernel)) ggX1_numberParts_X5_reach
set_option maxRecDepth 20000 in
theorem ggX1_numberParts_X1_putInPart : GoodIn wsX1_numberParts wsX1_putInPart := goodIn_r _ [22, 2, 23, 1, 24, 3, 4, 5, 25, 26, 27, 28, 29, 30, 31, 32, 33, 34, 35, 36, 37, 38, 39, 40, 41, 42, 43, 44, 45, 46, 47] (by decide +kernel) (by decide +kernel)
set_option maxRecDepth 20000 in
theorem gX1_numberParts_X1_putInPart : GoodIn wsX1_numberParts (wsV RX1 112 RX1 yX1_putInPart wsX1_putInPart) := goodIn_app (goodIn_of _ (by decide +kernel)) ggX1_numberParts_X1_putInPart
theorem dX1_numberParts_0 : decode cX1_numberParts 0 = .ok (.aload_n 0, 1) := by decide +kernel
theorem dX1_numberParts_1 : decode cX1_numberParts 1 = .ok (.iconst 0, 1) := by decide +kernel
theorem dX1_numberParts_2 : decode cX1_numberParts 2 = .ok (.putfield 9, 3) := by decide +kernel
theorem dX1_numberParts_5 : decode cX1_numberParts 5 = .ok (.iconst 0, 1) := by decide +kernel
theorem dX1_numberParts_6 : decode cX1_numberParts 6 = .ok (.istore_n 1, 1) := by decide +kernel
theorem dX1_numberParts_7 : decode cX1_numberParts 7 = .ok (.iconst 0, 1) := by decide +kernel
theorem dX1_numberParts_8 : decode cX1_numberParts 8 = .ok (.istore_n 2, 1) := by decide +kernel
theorem dX1_numberParts_9 : decode cX1_numberParts 9 = .ok (.iload_n 2, 1) := by decide +kernel
theorem dX1_numberParts_10 : decode cX1_numberParts 10 = .ok (.aload_n 0, 1) := by decide +kernel
theorem dX1_numberParts_11 : decode cX1_numberParts 11 = .ok (.getfield 55, 3) := by decide +kernel
theorem dX1_numberParts_14 : decode cX1_numberParts 14 = .ok (.getfield 98, 3) := by decide +kernel
theorem dX1_numberParts_17 : decode cX1_numberParts 17 = .ok (.if_icmp .ge 59, 3) := by decide +kernel
theorem dX1_numberParts_20 : decode cX1_numberParts 20 = .ok (.iload_n 1, 1) := by decide +kernel
theorem dX1_numberParts_21 : decode cX1_numberParts 21 = .ok (.iload_n 2, 1) := by decide +kernel
theorem dX1_numberParts_22 : decode cX1_numberParts 22 = .ok (.invokestatic 89, 3) := by decide +kernel
theorem dX1_numberParts_25 : decode cX1_numberParts 25 = .ok (.ifCond .ne 45, 3) := by decide +kernel
theorem dX1_numberParts_28 : decode cX1_numberParts 28 = .ok (.aload_n 0, 1) := by decide +kernel
theorem dX1_numberParts_29 : decode cX1_numberParts 29 = .ok (.getfield 55, 3) := by decide +kernel
theorem dX1_numberParts_32 : decode cX1_numberParts 32 = .ok (.iload_n 2, 1) := by decide +kernel
theorem dX1_numberParts_33 : decode cX1_numberParts 33 = .ok (.aload_n 0, 1) := by decide +kernel
theorem dX1_numberParts_34 : decode cX1_numberParts 34 = .ok (.getfield 55, 3) := by decide +kernel
theorem dX1_numberParts_37 : decode cX1_numberParts 37 = .ok (.invokevirtual 101, 3) := by decide +kernel
theorem dX1_numberParts_40 : decode cX1_numberParts 40 = .ok (.aload_n 0, 1) := by decide +kernel
theorem dX1_numberParts_41 : decode cX1_numberParts 41 = .ok (.getfield 55, 3) := by decide +kernel
theorem dX1_numberParts_44 : decode cX1_numberParts 44 = .ok (.getfield 105, 3) := by decide +kernel
theorem dX1_numberParts_47 : decode cX1_numberParts 47 = .ok (.invokevirtual 108, 3) := by decide +kernel
theorem dX1_numberParts_50 : decode cX1_numberParts 50 = .ok (.istore_n 3, 1) := by decide +kernel
theorem dX1_numberParts_51 : decode cX1_numberParts 51 = .ok (.aload_n 0, 1) := by decide +kernel
theorem dX1_numberParts_52 : decode cX1_numberParts 52 = .ok (.iload_n 3, 1) := by decide +kernel
theorem dX1_numberParts_53 : decode cX1_numberParts 53 = .ok (.invokevirtual 112, 3) := by decide +kernel
theorem dX1_numberParts_56 : decode cX1_numberParts 56 = .ok (.iload_n 1, 1) := by decide +kernel
theorem dX1_numberParts_57 : decode cX1_numberParts 57 = .ok (.iload_n 3, 1) := by decide +kernel
theorem dX1_numberParts_58 : decode cX1_numberParts 58 = .ok (.ior, 1) := by decide +kernel
theorem dX1_numberParts_59 : decode cX1_numberParts 59 = .ok (.istore_n 1, 1) := by decide +kernel
theorem dX1_numberParts_60 : decode cX1_numberParts 60 = .ok (.aload_n 0, 1) := by decide +kernel
theorem dX1_numberParts_61 : decode cX1_numberParts 61 = .ok (.dup, 1) := by decide +kernel
theorem dX1_numberParts_62 : decode cX1_numberParts 62 = .ok (.getfield 9, 3) := by decide +kernel
theorem dX1_numberParts_65 : decode cX1_numberParts 65 = .ok (.iconst 1, 1) := by decide +kernel
theorem dX1_numberParts_66 : decode cX1_numberParts 66 = .ok (.iadd, 1) := by decide +kernel
theorem dX1_numberParts_67 : decode cX1_numberParts 67 = .ok (.putfield 9, 3) := by decide +kernel
theorem dX1_numberParts_70 : decode cX1_numberParts 70 = .ok (.iinc 2 1, 3) := by decide +kernel
theorem dX1_numberParts_73 : decode cX1_numberParts 73 = .ok (.goto (-64), 3) := by decide +kernel
theorem dX1_numberParts_76 : decode cX1_numberParts 76 = .ok (.return_, 1) := by decide +kernel
set_option maxRecDepth 20000 in
theorem ggX1_putInPart_X6_has : GoodIn wsX1_putInPart wsX6_has := goodIn_r _ [7] (by decide +kernel) (by decide +kernel)
set_option maxRecDepth 20000 in
theorem gX1_putInPart_X6_has_n89 : GoodIn wsX1_putInPart (wsX6_has) := ggX1_putInPart_X6_has
theorem dX1_putInPart_0 : decode cX1_putInPart 0 = .ok (.iconst 0, 1) := by decide +kernel
theorem dX1_putInPart_1 : decode cX1_putInPart 1 = .ok (.istore_n 2, 1) := by decide +kernel
theorem dX1_putInPart_2 : decode cX1_putInPart 2 = .ok (.iload_n 2, 1) := by decide +kernel
theorem dX1_putInPart_3 : decode cX1_putInPart 3 = .ok (.aload_n 0, 1) := by decide +kernel
theorem dX1_putInPart_4 : decode cX1_putInPart 4 = .ok (.getfield 55, 3) := by decide +kernel
theorem dX1_putInPart_7 : decode cX1_putInPart 7 = .ok (.getfield 98, 3) := by decide +kernel
theorem dX1_putInPart_10 : decode cX1_putInPart 10 = .ok (.if_icmp .ge 34, 3) := by decide +kernel
theorem dX1_putInPart_13 : decode cX1_putInPart 13 = .ok (.iload_n 1, 1) := by decide +kernel
theorem dX1_putInPart_14 : decode cX1_putInPart 14 = .ok (.iload_n 2, 1) := by decide +kernel
theorem dX1_putInPart_15 : decode cX1_putInPart 15 = .ok (.invokestatic 89, 3) := by decide +kernel
theorem dX1_putInPart_18 : decode cX1_putInPart 18 = .ok (.ifCond .eq 20, 3) := by decide +kernel
theorem dX1_putInPart_21 : decode cX1_putInPart 21 = .ok (.aload_n 0, 1) := by decide +kernel
theorem dX1_putInPart_22 : decode cX1_putInPart 22 = .ok (.getfield 30, 3) := by decide +kernel
theorem dX1_putInPart_25 : decode cX1_putInPart 25 = .ok (.iload_n 2, 1) := by decide +kernel
theorem dX1_putInPart_26 : decode cX1_putInPart 26 = .ok (.aload_n 0, 1) := by decide +kernel
theorem dX1_putInPart_27 : decode cX1_putInPart 27 = .ok (.getfield 9, 3) := by decide +kernel
theorem dX1_putInPart_30 : decode cX1_putInPart 30 = .ok (.iastore, 1) := by decide +kernel
theorem dX1_putInPart_31 : decode cX1_putInPart 31 = .ok (.aload_n 0, 1) := by decide +kernel
theorem dX1_putInPart_32 : decode cX1_putInPart 32 = .ok (.getfield 34, 3) := by decide +kernel
theorem dX1_putInPart_35 : decode cX1_putInPart 35 = .ok (.iload_n 2, 1) := by decide +kernel
theorem dX1_putInPart_36 : decode cX1_putInPart 36 = .ok (.iload_n 1, 1) := by decide +kernel
theorem dX1_putInPart_37 : decode cX1_putInPart 37 = .ok (.iastore, 1) := by decide +kernel
theorem dX1_putInPart_38 : decode cX1_putInPart 38 = .ok (.iinc 2 1, 3) := by decide +kernel
theorem dX1_putInPart_41 : decode cX1_putInPart 41 = .ok (.goto (-39), 3) := by decide +kernel
theorem dX1_putInPart_44 : decode cX1_putInPart 44 = .ok (.return_, 1) := by decide +kernel
set_option maxRecDepth 20000 in
theorem ggX1_findBridges_X6_has : GoodIn wsX1_findBridges wsX6_has := goodIn_r _ [6] (by decide +kernel) (by decide +kernel)
set_option maxRecDepth 20000 in
theorem gX1_findBridges_X6_has_n89 : GoodIn wsX1_findBridges (wsX6_has) := ggX1_findBridges_X6_has
set_option maxRecDepth 20000 in
theorem ggX1_findBridges_X5_allPoints : GoodIn wsX1_findBridges wsX5_allPoints := goodIn_r _ [11, 12, 38, 39, 40, 41, 42, 43, 44, 45] (by decide +kernel) (by decide +kernel)
set_option maxRecDepth 20000 in
theorem gX1_findBridges_X5_allPoints : GoodIn wsX1_findBridges (wsV RX1 101 RX5 yX5_allPoints wsX5_allPoints) := goodIn_app (goodIn_of _ (by decide +kernel)) ggX1_findBridges_X5_allPoints
set_option maxRecDepth 20000 in
theorem ggX1_findBridges_X5_countParts : GoodIn wsX1_findBridges wsX5_countParts := goodIn_r _ [16, 12, 4, 5, 6, 17, 18, 19, 10, 20, 21, 22, 38, 39, 40, 41, 42, 43, 44, 45] (by decide +kernel) (by decide +kernel)
set_option maxRecDepth 20000 in
theorem gX1_findBridges_X5_countParts : GoodIn wsX1_findBridges (wsV RX1 116 RX5 yX5_countParts wsX5_countParts) := goodIn_app (goodIn_of _ (by decide +kernel)) ggX1_findBridges_X5_countParts
theorem dX1_findBridges_0 : decode cX1_findBridges 0 = .ok (.aload_n 0, 1) := by decide +kernel
theorem dX1_findBridges_1 : decode cX1_findBridges 1 = .ok (.iconst 0, 1) := by decide +kernel
theorem dX1_findBridges_2 : decode cX1_findBridges 2 = .ok (.putfield 15, 3) := by decide +kernel
theorem dX1_findBridges_5 : decode cX1_findBridges 5 = .ok (.iconst 0, 1) := by decide +kernel
theorem dX1_findBridges_6 : decode cX1_findBridges 6 = .ok (.istore_n 1, 1) := by decide +kernel
theorem dX1_findBridges_7 : decode cX1_findBridges 7 = .ok (.iload_n 1, 1) := by decide +kernel
theorem dX1_findBridges_8 : decode cX1_findBridges 8 = .ok (.aload_n 0, 1) := by decide +kernel
theorem dX1_findBridges_9 : decode cX1_findBridges 9 = .ok (.getfield 55, 3) := by decide +kernel
theorem dX1_findBridges_12 : decode cX1_findBridges 12 = .ok (.getfield 80, 3) := by decide +kernel
theorem dX1_findBridges_15 : decode cX1_findBridges 15 = .ok (.if_icmp .ge 71, 3) := by decide +kernel
theorem dX1_findBridges_18 : decode cX1_findBridges 18 = .ok (.aload_n 0, 1) := by decide +kernel
theorem dX1_findBridges_19 : decode cX1_findBridges 19 = .ok (.getfield 55, 3) := by decide +kernel
theorem dX1_findBridges_22 : decode cX1_findBridges 22 = .ok (.getfield 105, 3) := by decide +kernel
theorem dX1_findBridges_25 : decode cX1_findBridges 25 = .ok (.iconst 1, 1) := by decide +kernel
theorem dX1_findBridges_26 : decode cX1_findBridges 26 = .ok (.iload_n 1, 1) := by decide +kernel
theorem dX1_findBridges_27 : decode cX1_findBridges 27 = .ok (.ishl, 1) := by decide +kernel
theorem dX1_findBridges_28 : decode cX1_findBridges 28 = .ok (.iconst (-1), 1) := by decide +kernel
theorem dX1_findBridges_29 : decode cX1_findBridges 29 = .ok (.ixor, 1) := by decide +kernel
theorem dX1_findBridges_30 : decode cX1_findBridges 30 = .ok (.iand, 1) := by decide +kernel
theorem dX1_findBridges_31 : decode cX1_findBridges 31 = .ok (.istore_n 2, 1) := by decide +kernel
theorem dX1_findBridges_32 : decode cX1_findBridges 32 = .ok (.aload_n 0, 1) := by decide +kernel
theorem dX1_findBridges_33 : decode cX1_findBridges 33 = .ok (.getfield 55, 3) := by decide +kernel
theorem dX1_findBridges_36 : decode cX1_findBridges 36 = .ok (.getfield 105, 3) := by decide +kernel
theorem dX1_findBridges_39 : decode cX1_findBridges 39 = .ok (.iload_n 1, 1) := by decide +kernel
theorem dX1_findBridges_40 : decode cX1_findBridges 40 = .ok (.invokestatic 89, 3) := by decide +kernel
theorem dX1_findBridges_43 : decode cX1_findBridges 43 = .ok (.ifCond .eq 37, 3) := by decide +kernel
theorem dX1_findBridges_46 : decode cX1_findBridges 46 = .ok (.aload_n 0, 1) := by decide +kernel
theorem dX1_findBridges_47 : decode cX1_findBridges 47 = .ok (.getfield 55, 3) := by decide +kernel
theorem dX1_findBridges_50 : decode cX1_findBridges 50 = .ok (.aload_n 0, 1) := by decide +kernel
theorem dX1_findBridges_51 : decode cX1_findBridges 51 = .ok (.getfield 55, 3) := by decide +kernel
theorem dX1_findBridges_54 : decode cX1_findBridges 54 = .ok (.invokevirtual 101, 3) := by decide +kernel
theorem dX1_findBridges_57 : decode cX1_findBridges 57 = .ok (.iload_n 2, 1) := by decide +kernel
theorem dX1_findBridges_58 : decode cX1_findBridges 58 = .ok (.invokevirtual 116, 3) := by decide +kernel
theorem dX1_findBridges_61 : decode cX1_findBridges 61 = .ok (.aload_n 0, 1) := by decide +kernel
theorem dX1_findBridges_62 : decode cX1_findBridges 62 = .ok (.getfield 9, 3) := by decide +kernel
theorem dX1_findBridges_65 : decode cX1_findBridges 65 = .ok (.if_icmp .le 15, 3) := by decide +kernel
theorem dX1_findBridges_68 : decode cX1_findBridges 68 = .ok (.aload_n 0, 1) := by decide +kernel
theorem dX1_findBridges_69 : decode cX1_findBridges 69 = .ok (.dup, 1) := by decide +kernel
theorem dX1_findBridges_70 : decode cX1_findBridges 70 = .ok (.getfield 15, 3) := by decide +kernel
theorem dX1_findBridges_73 : decode cX1_findBridges 73 = .ok (.iconst 1, 1) := by decide +kernel
theorem dX1_findBridges_74 : decode cX1_findBridges 74 = .ok (.iload_n 1, 1) := by decide +kernel
theorem dX1_findBridges_75 : decode cX1_findBridges 75 = .ok (.ishl, 1) := by decide +kernel
theorem dX1_findBridges_76 : decode cX1_findBridges 76 = .ok (.ior, 1) := by decide +kernel
theorem dX1_findBridges_77 : decode cX1_findBridges 77 = .ok (.putfield 15, 3) := by decide +kernel
theorem dX1_findBridges_80 : decode cX1_findBridges 80 = .ok (.iinc 1 1, 3) := by decide +kernel
theorem dX1_findBridges_83 : decode cX1_findBridges 83 = .ok (.goto (-76), 3) := by decide +kernel
theorem dX1_findBridges_86 : decode cX1_findBridges 86 = .ok (.return_, 1) := by decide +kernel
set_option maxRecDepth 20000 in
theorem ggX1_findCutPoints_X5_countParts : GoodIn wsX1_findCutPoints wsX5_countParts := goodIn_r _ [8, 9, 10, 11, 12, 13, 14, 15, 7, 16, 17, 18, 34, 35, 36, 37, 38, 39, 40, 41] (by decide +kernel) (by decide +kernel)
set_option maxRecDepth 20000 in
theorem gX1_findCutPoints_X5_countParts : GoodIn wsX1_findCutPoints (wsV RX1 116 RX5 yX5_countParts wsX5_countParts) := goodIn_app (goodIn_of _ (by decide +kernel)) ggX1_findCutPoints_X5_countParts
theorem dX1_findCutPoints_0 : decode cX1_findCutPoints 0 = .ok (.aload_n 0, 1) := by decide +kernel
theorem dX1_findCutPoints_1 : decode cX1_findCutPoints 1 = .ok (.iconst 0, 1) := by decide +kernel
theorem dX1_findCutPoints_2 : decode cX1_findCutPoints 2 = .ok (.putfield 18, 3) := by decide +kernel
theorem dX1_findCutPoints_5 : decode cX1_findCutPoints 5 = .ok (.iconst 0, 1) := by decide +kernel
theorem dX1_findCutPoints_6 : decode cX1_findCutPoints 6 = .ok (.istore_n 1, 1) := by decide +kernel
theorem dX1_findCutPoints_7 : decode cX1_findCutPoints 7 = .ok (.iload_n 1, 1) := by decide +kernel
theorem dX1_findCutPoints_8 : decode cX1_findCutPoints 8 = .ok (.aload_n 0, 1) := by decide +kernel
theorem dX1_findCutPoints_9 : decode cX1_findCutPoints 9 = .ok (.getfield 55, 3) := by decide +kernel
theorem dX1_findCutPoints_12 : decode cX1_findCutPoints 12 = .ok (.getfield 98, 3) := by decide +kernel
theorem dX1_findCutPoints_15 : decode cX1_findCutPoints 15 = .ok (.if_icmp .ge 51, 3) := by decide +kernel
theorem dX1_findCutPoints_18 : decode cX1_findCutPoints 18 = .ok (.aload_n 0, 1) := by decide +kernel
theorem dX1_findCutPoints_19 : decode cX1_findCutPoints 19 = .ok (.getfield 55, 3) := by decide +kernel
theorem dX1_findCutPoints_22 : decode cX1_findCutPoints 22 = .ok (.aload_n 0, 1) := by decide +kernel
theorem dX1_findCutPoints_23 : decode cX1_findCutPoints 23 = .ok (.getfield 34, 3) := by decide +kernel
theorem dX1_findCutPoints_26 : decode cX1_findCutPoints 26 = .ok (.iload_n 1, 1) := by decide +kernel
theorem dX1_findCutPoints_27 : decode cX1_findCutPoints 27 = .ok (.iaload, 1) := by decide +kernel
theorem dX1_findCutPoints_28 : decode cX1_findCutPoints 28 = .ok (.iconst 1, 1) := by decide +kernel
theorem dX1_findCutPoints_29 : decode cX1_findCutPoints 29 = .ok (.iload_n 1, 1) := by decide +kernel
theorem dX1_findCutPoints_30 : decode cX1_findCutPoints 30 = .ok (.ishl, 1) := by decide +kernel
theorem dX1_findCutPoints_31 : decode cX1_findCutPoints 31 = .ok (.iconst (-1), 1) := by decide +kernel
theorem dX1_findCutPoints_32 : decode cX1_findCutPoints 32 = .ok (.ixor, 1) := by decide +kernel
theorem dX1_findCutPoints_33 : decode cX1_findCutPoints 33 = .ok (.iand, 1) := by decide +kernel
theorem dX1_findCutPoints_34 : decode cX1_findCutPoints 34 = .ok (.aload_n 0, 1) := by decide +kernel
theorem dX1_findCutPoints_35 : decode cX1_findCutPoints 35 = .ok (.getfield 55, 3) := by decide +kernel
theorem dX1_findCutPoints_38 : decode cX1_findCutPoints 38 = .ok (.getfield 105, 3) := by decide +kernel
theorem dX1_findCutPoints_41 : decode cX1_findCutPoints 41 = .ok (.invokevirtual 116, 3) := by decide +kernel
theorem dX1_findCutPoints_44 : decode cX1_findCutPoints 44 = .ok (.iconst 1, 1) := by decide +kernel
theorem dX1_findCutPoints_45 : decode cX1_findCutPoints 45 = .ok (.if_icmp .le 15, 3) := by decide +kernel
theorem dX1_findCutPoints_48 : decode cX1_findCutPoints 48 = .ok (.aload_n 0, 1) := by decide +kernel
theorem dX1_findCutPoints_49 : decode cX1_findCutPoints 49 = .ok (.dup, 1) := by decide +kernel
theorem dX1_findCutPoints_50 : decode cX1_findCutPoints 50 = .ok (.getfield 18, 3) := by decide +kernel
theorem dX1_findCutPoints_53 : decode cX1_findCutPoints 53 = .ok (.iconst 1, 1) := by decide +kernel
theorem dX1_findCutPoints_54 : decode cX1_findCutPoints 54 = .ok (.iload_n 1, 1) := by decide +kernel
theorem dX1_findCutPoints_55 : decode cX1_findCutPoints 55 = .ok (.ishl, 1) := by decide +kernel
theorem dX1_findCutPoints_56 : decode cX1_findCutPoints 56 = .ok (.ior, 1) := by decide +kernel
theorem dX1_findCutPoints_57 : decode cX1_findCutPoints 57 = .ok (.putfield 18, 3) := by decide +kernel
theorem dX1_findCutPoints_60 : decode cX1_findCutPoints 60 = .ok (.iinc 1 1, 3) := by decide +kernel
theorem dX1_findCutPoints_63 : decode cX1_findCutPoints 63 = .ok (.goto (-56), 3) := by decide +kernel
theorem dX1_findCutPoints_66 : decode cX1_findCutPoints 66 = .ok (.return_, 1) := by decide +kernel
set_option maxRecDepth 20000 in
theorem ggX1_joinBlocks_X5_standingAt : GoodIn wsX1_joinBlocks wsX5_standingAt := goodIn_r _ [7, 8, 9, 58, 59, 60, 61, 62, 63, 64, 65] (by decide +kernel) (by decide +kernel)
set_option maxRecDepth 20000 in
theorem gX1_joinBlocks_X5_standingAt : GoodIn wsX1_joinBlocks (wsV RX1 85 RX5 yX5_standingAt wsX5_standingAt) := goodIn_app (goodIn_of _ (by decide +kernel)) ggX1_joinBlocks_X5_standingAt
set_option maxRecDepth 20000 in
theorem ggX1_joinBlocks_X6_has : GoodIn wsX1_joinBlocks wsX6_has := goodIn_r _ [12] (by decide +kernel) (by decide +kernel)
set_option maxRecDepth 20000 in
theorem gX1_joinBlocks_X6_has_n89 : GoodIn wsX1_joinBlocks (wsX6_has) := ggX1_joinBlocks_X6_has
set_option maxRecDepth 20000 in
theorem ggX1_joinBlocks_X1_joinAtPoint : GoodIn wsX1_joinBlocks wsX1_joinAtPoint := goodIn_r _ [17, 1, 2, 18, 19, 20, 6, 21, 22, 23, 24, 25, 26, 27, 28, 29, 30, 31, 32, 33, 34, 3, 4, 5, 7, 8, 9, 10, 11, 12, 35, 36, 37, 16, 38, 39, 40, 41, 42, 43, 44, 45, 46, 47, 48, 49, 50, 51, 52, 53, 54, 55, 56, 57, 58, 59, 60, 61, 62, 63, 64, 65] (by decide +kernel) (by decide +kernel)
set_option maxRecDepth 20000 in
theorem gX1_joinBlocks_X1_joinAtPoint : GoodIn wsX1_joinBlocks (wsV RX1 120 RX1 yX1_joinAtPoint wsX1_joinAtPoint) := goodIn_app (goodIn_of _ (by decide +kernel)) ggX1_joinBlocks_X1_joinAtPoint
theorem dX1_joinBlocks_0 : decode cX1_joinBlocks 0 = .ok (.iconst 0, 1) := by decide +kernel
theorem dX1_joinBlocks_1 : decode cX1_joinBlocks 1 = .ok (.istore_n 1, 1) := by decide +kernel
theorem dX1_joinBlocks_2 : decode cX1_joinBlocks 2 = .ok (.iload_n 1, 1) := by decide +kernel
theorem dX1_joinBlocks_3 : decode cX1_joinBlocks 3 = .ok (.aload_n 0, 1) := by decide +kernel
theorem dX1_joinBlocks_4 : decode cX1_joinBlocks 4 = .ok (.getfield 55, 3) := by decide +kernel
theorem dX1_joinBlocks_7 : decode cX1_joinBlocks 7 = .ok (.getfield 80, 3) := by decide +kernel
theorem dX1_joinBlocks_10 : decode cX1_joinBlocks 10 = .ok (.if_icmp .ge 16, 3) := by decide +kernel
theorem dX1_joinBlocks_13 : decode cX1_joinBlocks 13 = .ok (.aload_n 0, 1) := by decide +kernel
theorem dX1_joinBlocks_14 : decode cX1_joinBlocks 14 = .ok (.getfield 37, 3) := by decide +kernel
theorem dX1_joinBlocks_17 : decode cX1_joinBlocks 17 = .ok (.iload_n 1, 1) := by decide +kernel
theorem dX1_joinBlocks_18 : decode cX1_joinBlocks 18 = .ok (.iload_n 1, 1) := by decide +kernel
theorem dX1_joinBlocks_19 : decode cX1_joinBlocks 19 = .ok (.iastore, 1) := by decide +kernel
theorem dX1_joinBlocks_20 : decode cX1_joinBlocks 20 = .ok (.iinc 1 1, 3) := by decide +kernel
theorem dX1_joinBlocks_23 : decode cX1_joinBlocks 23 = .ok (.goto (-21), 3) := by decide +kernel
theorem dX1_joinBlocks_26 : decode cX1_joinBlocks 26 = .ok (.iconst 0, 1) := by decide +kernel
theorem dX1_joinBlocks_27 : decode cX1_joinBlocks 27 = .ok (.istore_n 1, 1) := by decide +kernel
theorem dX1_joinBlocks_28 : decode cX1_joinBlocks 28 = .ok (.iload_n 1, 1) := by decide +kernel
theorem dX1_joinBlocks_29 : decode cX1_joinBlocks 29 = .ok (.aload_n 0, 1) := by decide +kernel
theorem dX1_joinBlocks_30 : decode cX1_joinBlocks 30 = .ok (.getfield 55, 3) := by decide +kernel
theorem dX1_joinBlocks_33 : decode cX1_joinBlocks 33 = .ok (.getfield 98, 3) := by decide +kernel
theorem dX1_joinBlocks_36 : decode cX1_joinBlocks 36 = .ok (.if_icmp .ge 49, 3) := by decide +kernel
theorem dX1_joinBlocks_39 : decode cX1_joinBlocks 39 = .ok (.iconst 0, 1) := by decide +kernel
theorem dX1_joinBlocks_40 : decode cX1_joinBlocks 40 = .ok (.istore_n 2, 1) := by decide +kernel
theorem dX1_joinBlocks_41 : decode cX1_joinBlocks 41 = .ok (.iload_n 2, 1) := by decide +kernel
theorem dX1_joinBlocks_42 : decode cX1_joinBlocks 42 = .ok (.aload_n 0, 1) := by decide +kernel
theorem dX1_joinBlocks_43 : decode cX1_joinBlocks 43 = .ok (.getfield 55, 3) := by decide +kernel
theorem dX1_joinBlocks_46 : decode cX1_joinBlocks 46 = .ok (.getfield 80, 3) := by decide +kernel
theorem dX1_joinBlocks_49 : decode cX1_joinBlocks 49 = .ok (.if_icmp .ge 30, 3) := by decide +kernel
theorem dX1_joinBlocks_52 : decode cX1_joinBlocks 52 = .ok (.aload_n 0, 1) := by decide +kernel
theorem dX1_joinBlocks_53 : decode cX1_joinBlocks 53 = .ok (.getfield 55, 3) := by decide +kernel
theorem dX1_joinBlocks_56 : decode cX1_joinBlocks 56 = .ok (.iload_n 1, 1) := by decide +kernel
theorem dX1_joinBlocks_57 : decode cX1_joinBlocks 57 = .ok (.invokevirtual 85, 3) := by decide +kernel
theorem dX1_joinBlocks_60 : decode cX1_joinBlocks 60 = .ok (.iload_n 2, 1) := by decide +kernel
theorem dX1_joinBlocks_61 : decode cX1_joinBlocks 61 = .ok (.invokestatic 89, 3) := by decide +kernel
theorem dX1_joinBlocks_64 : decode cX1_joinBlocks 64 = .ok (.ifCond .eq 9, 3) := by decide +kernel
theorem dX1_joinBlocks_67 : decode cX1_joinBlocks 67 = .ok (.aload_n 0, 1) := by decide +kernel
theorem dX1_joinBlocks_68 : decode cX1_joinBlocks 68 = .ok (.iload_n 1, 1) := by decide +kernel
theorem dX1_joinBlocks_69 : decode cX1_joinBlocks 69 = .ok (.iload_n 2, 1) := by decide +kernel
theorem dX1_joinBlocks_70 : decode cX1_joinBlocks 70 = .ok (.invokevirtual 120, 3) := by decide +kernel
theorem dX1_joinBlocks_73 : decode cX1_joinBlocks 73 = .ok (.iinc 2 1, 3) := by decide +kernel
theorem dX1_joinBlocks_76 : decode cX1_joinBlocks 76 = .ok (.goto (-35), 3) := by decide +kernel
theorem dX1_joinBlocks_79 : decode cX1_joinBlocks 79 = .ok (.iinc 1 1, 3) := by decide +kernel
theorem dX1_joinBlocks_82 : decode cX1_joinBlocks 82 = .ok (.goto (-54), 3) := by decide +kernel
theorem dX1_joinBlocks_85 : decode cX1_joinBlocks 85 = .ok (.return_, 1) := by decide +kernel
set_option maxRecDepth 20000 in
theorem ggX1_joinAtPoint_X5_allPoints : GoodIn wsX1_joinAtPoint wsX5_allPoints := goodIn_r _ [7, 8, 54, 55, 56, 57, 58, 59, 60, 61] (by decide +kernel) (by decide +kernel)
set_option maxRecDepth 20000 in
theorem gX1_joinAtPoint_X5_allPoints : GoodIn wsX1_joinAtPoint (wsV RX1 101 RX5 yX5_allPoints wsX5_allPoints) := goodIn_app (goodIn_of _ (by decide +kernel)) ggX1_joinAtPoint_X5_allPoints
set_option maxRecDepth 20000 in
theorem ggX1_joinAtPoint_X5_otherEnd : GoodIn wsX1_joinAtPoint wsX5_otherEnd := goodIn_r _ [12, 13, 14, 54, 55, 56, 57, 58, 59, 60, 61] (by decide +kernel) (by decide +kernel)
set_option maxRecDepth 20000 in
theorem gX1_joinAtPoint_X5_otherEnd : GoodIn wsX1_joinAtPoint (wsV RX1 124 RX5 yX5_otherEnd wsX5_otherEnd) := goodIn_app (goodIn_of _ (by decide +kernel)) ggX1_joinAtPoint_X5_otherEnd
set_option maxRecDepth 20000 in
theorem ggX1_joinAtPoint_X5_reach : GoodIn wsX1_joinAtPoint wsX5_reach := goodIn_r _ [18, 19, 20, 54, 55, 56, 57, 58, 59, 60, 61] (by decide +kernel) (by decide +kernel)
set_option maxRecDepth 20000 in
theorem gX1_joinAtPoint_X5_reach : GoodIn wsX1_joinAtPoint (wsV RX1 108 RX5 yX5_reach wsX5_reach) := goodIn_app (goodIn_of _ (by decide +kernel)) ggX1_joinAtPoint_X5_reach
set_option maxRecDepth 20000 in
theorem ggX1_joinAtPoint_X5_standingAt : GoodIn wsX1_joinAtPoint wsX5_standingAt := goodIn_r _ [24, 25, 26, 54, 55, 56, 57, 58, 59, 60, 61] (by decide +kernel) (by decide +kernel)
end
section
set_option maxRecDepth 20000 in
theorem gX1_joinAtPoint_X5_standingAt : GoodIn wsX1_joinAtPoint (wsV RX1 85 RX5 yX5_standingAt wsX5_standingAt) := goodIn_app (goodIn_of _ (by decide +kernel)) ggX1_joinAtPoint_X5_standingAt
set_option maxRecDepth 20000 in
theorem ggX1_joinAtPoint_X6_has : GoodIn wsX1_joinAtPoint wsX6_has := goodIn_r _ [29] (by decide +kernel) (by decide +kernel)
set_option maxRecDepth 20000 in
theorem gX1_joinAtPoint_X6_has_n89 : GoodIn wsX1_joinAtPoint (wsX6_has) := ggX1_joinAtPoint_X6_has
set_option maxRecDepth 20000 in
theorem ggX1_joinAtPoint_X1_join : GoodIn wsX1_joinAtPoint wsX1_join := goodIn_r _ [34, 35, 36, 37, 38, 1, 2, 39, 40, 41, 42, 43, 44, 45, 46, 47, 48, 49, 50, 51, 52, 53, 54, 55, 56, 57, 58, 59, 60, 61] (by decide +kernel) (by decide +kernel)
set_option maxRecDepth 20000 in
theorem gX1_joinAtPoint_X1_join : GoodIn wsX1_joinAtPoint (wsV RX1 127 RX1 yX1_join wsX1_join) := goodIn_app (goodIn_of _ (by decide +kernel)) ggX1_joinAtPoint_X1_join
theorem dX1_joinAtPoint_0 : decode cX1_joinAtPoint 0 = .ok (.aload_n 0, 1) := by decide +kernel
theorem dX1_joinAtPoint_1 : decode cX1_joinAtPoint 1 = .ok (.getfield 55, 3) := by decide +kernel
theorem dX1_joinAtPoint_4 : decode cX1_joinAtPoint 4 = .ok (.invokevirtual 101, 3) := by decide +kernel
theorem dX1_joinAtPoint_7 : decode cX1_joinAtPoint 7 = .ok (.iconst 1, 1) := by decide +kernel
theorem dX1_joinAtPoint_8 : decode cX1_joinAtPoint 8 = .ok (.iload_n 1, 1) := by decide +kernel
theorem dX1_joinAtPoint_9 : decode cX1_joinAtPoint 9 = .ok (.ishl, 1) := by decide +kernel
theorem dX1_joinAtPoint_10 : decode cX1_joinAtPoint 10 = .ok (.iconst (-1), 1) := by decide +kernel
theorem dX1_joinAtPoint_11 : decode cX1_joinAtPoint 11 = .ok (.ixor, 1) := by decide +kernel
theorem dX1_joinAtPoint_12 : decode cX1_joinAtPoint 12 = .ok (.iand, 1) := by decide +kernel
theorem dX1_joinAtPoint_13 : decode cX1_joinAtPoint 13 = .ok (.istore_n 3, 1) := by decide +kernel
theorem dX1_joinAtPoint_14 : decode cX1_joinAtPoint 14 = .ok (.aload_n 0, 1) := by decide +kernel
theorem dX1_joinAtPoint_15 : decode cX1_joinAtPoint 15 = .ok (.getfield 55, 3) := by decide +kernel
theorem dX1_joinAtPoint_18 : decode cX1_joinAtPoint 18 = .ok (.aload_n 0, 1) := by decide +kernel
theorem dX1_joinAtPoint_19 : decode cX1_joinAtPoint 19 = .ok (.getfield 55, 3) := by decide +kernel
theorem dX1_joinAtPoint_22 : decode cX1_joinAtPoint 22 = .ok (.iload_n 2, 1) := by decide +kernel
theorem dX1_joinAtPoint_23 : decode cX1_joinAtPoint 23 = .ok (.iload_n 1, 1) := by decide +kernel
theorem dX1_joinAtPoint_24 : decode cX1_joinAtPoint 24 = .ok (.invokevirtual 124, 3) := by decide +kernel
theorem dX1_joinAtPoint_27 : decode cX1_joinAtPoint 27 = .ok (.iload_n 3, 1) := by decide +kernel
theorem dX1_joinAtPoint_28 : decode cX1_joinAtPoint 28 = .ok (.aload_n 0, 1) := by decide +kernel
theorem dX1_joinAtPoint_29 : decode cX1_joinAtPoint 29 = .ok (.getfield 55, 3) := by decide +kernel
theorem dX1_joinAtPoint_32 : decode cX1_joinAtPoint 32 = .ok (.getfield 105, 3) := by decide +kernel
theorem dX1_joinAtPoint_35 : decode cX1_joinAtPoint 35 = .ok (.invokevirtual 108, 3) := by decide +kernel
theorem dX1_joinAtPoint_38 : decode cX1_joinAtPoint 38 = .ok (.istore 4, 2) := by decide +kernel
theorem dX1_joinAtPoint_40 : decode cX1_joinAtPoint 40 = .ok (.iload_n 2, 1) := by decide +kernel
theorem dX1_joinAtPoint_41 : decode cX1_joinAtPoint 41 = .ok (.iconst 1, 1) := by decide +kernel
theorem dX1_joinAtPoint_42 : decode cX1_joinAtPoint 42 = .ok (.iadd, 1) := by decide +kernel
theorem dX1_joinAtPoint_43 : decode cX1_joinAtPoint 43 = .ok (.istore 5, 2) := by decide +kernel
theorem dX1_joinAtPoint_45 : decode cX1_joinAtPoint 45 = .ok (.iload 5, 2) := by decide +kernel
theorem dX1_joinAtPoint_47 : decode cX1_joinAtPoint 47 = .ok (.aload_n 0, 1) := by decide +kernel
theorem dX1_joinAtPoint_48 : decode cX1_joinAtPoint 48 = .ok (.getfield 55, 3) := by decide +kernel
theorem dX1_joinAtPoint_51 : decode cX1_joinAtPoint 51 = .ok (.getfield 80, 3) := by decide +kernel
theorem dX1_joinAtPoint_54 : decode cX1_joinAtPoint 54 = .ok (.if_icmp .ge 60, 3) := by decide +kernel
theorem dX1_joinAtPoint_57 : decode cX1_joinAtPoint 57 = .ok (.aload_n 0, 1) := by decide +kernel
theorem dX1_joinAtPoint_58 : decode cX1_joinAtPoint 58 = .ok (.getfield 55, 3) := by decide +kernel
theorem dX1_joinAtPoint_61 : decode cX1_joinAtPoint 61 = .ok (.iload_n 1, 1) := by decide +kernel
theorem dX1_joinAtPoint_62 : decode cX1_joinAtPoint 62 = .ok (.invokevirtual 85, 3) := by decide +kernel
theorem dX1_joinAtPoint_65 : decode cX1_joinAtPoint 65 = .ok (.iload 5, 2) := by decide +kernel
theorem dX1_joinAtPoint_67 : decode cX1_joinAtPoint 67 = .ok (.invokestatic 89, 3) := by decide +kernel
theorem dX1_joinAtPoint_70 : decode cX1_joinAtPoint 70 = .ok (.ifCond .eq 38, 3) := by decide +kernel
theorem dX1_joinAtPoint_73 : decode cX1_joinAtPoint 73 = .ok (.iload 4, 2) := by decide +kernel
theorem dX1_joinAtPoint_75 : decode cX1_joinAtPoint 75 = .ok (.aload_n 0, 1) := by decide +kernel
theorem dX1_joinAtPoint_76 : decode cX1_joinAtPoint 76 = .ok (.getfield 55, 3) := by decide +kernel
theorem dX1_joinAtPoint_79 : decode cX1_joinAtPoint 79 = .ok (.iload 5, 2) := by decide +kernel
theorem dX1_joinAtPoint_81 : decode cX1_joinAtPoint 81 = .ok (.iload_n 1, 1) := by decide +kernel
theorem dX1_joinAtPoint_82 : decode cX1_joinAtPoint 82 = .ok (.invokevirtual 124, 3) := by decide +kernel
theorem dX1_joinAtPoint_85 : decode cX1_joinAtPoint 85 = .ok (.invokestatic 89, 3) := by decide +kernel
theorem dX1_joinAtPoint_88 : decode cX1_joinAtPoint 88 = .ok (.ifCond .eq 20, 3) := by decide +kernel
theorem dX1_joinAtPoint_91 : decode cX1_joinAtPoint 91 = .ok (.aload_n 0, 1) := by decide +kernel
theorem dX1_joinAtPoint_92 : decode cX1_joinAtPoint 92 = .ok (.aload_n 0, 1) := by decide +kernel
theorem dX1_joinAtPoint_93 : decode cX1_joinAtPoint 93 = .ok (.getfield 37, 3) := by decide +kernel
theorem dX1_joinAtPoint_96 : decode cX1_joinAtPoint 96 = .ok (.iload_n 2, 1) := by decide +kernel
theorem dX1_joinAtPoint_97 : decode cX1_joinAtPoint 97 = .ok (.iaload, 1) := by decide +kernel
theorem dX1_joinAtPoint_98 : decode cX1_joinAtPoint 98 = .ok (.aload_n 0, 1) := by decide +kernel
theorem dX1_joinAtPoint_99 : decode cX1_joinAtPoint 99 = .ok (.getfield 37, 3) := by decide +kernel
theorem dX1_joinAtPoint_102 : decode cX1_joinAtPoint 102 = .ok (.iload 5, 2) := by decide +kernel
theorem dX1_joinAtPoint_104 : decode cX1_joinAtPoint 104 = .ok (.iaload, 1) := by decide +kernel
theorem dX1_joinAtPoint_105 : decode cX1_joinAtPoint 105 = .ok (.invokevirtual 127, 3) := by decide +kernel
theorem dX1_joinAtPoint_108 : decode cX1_joinAtPoint 108 = .ok (.iinc 5 1, 3) := by decide +kernel
theorem dX1_joinAtPoint_111 : decode cX1_joinAtPoint 111 = .ok (.goto (-66), 3) := by decide +kernel
theorem dX1_joinAtPoint_114 : decode cX1_joinAtPoint 114 = .ok (.return_, 1) := by decide +kernel
theorem dX1_join_0 : decode cX1_join 0 = .ok (.iload_n 1, 1) := by decide +kernel
theorem dX1_join_1 : decode cX1_join 1 = .ok (.iload_n 2, 1) := by decide +kernel
theorem dX1_join_2 : decode cX1_join 2 = .ok (.invokestatic 130, 3) := by decide +kernel
theorem dX1_join_5 : decode cX1_join 5 = .ok (.istore_n 3, 1) := by decide +kernel
theorem dX1_join_6 : decode cX1_join 6 = .ok (.iconst 0, 1) := by decide +kernel
theorem dX1_join_7 : decode cX1_join 7 = .ok (.istore 4, 2) := by decide +kernel
theorem dX1_join_9 : decode cX1_join 9 = .ok (.iload 4, 2) := by decide +kernel
theorem dX1_join_11 : decode cX1_join 11 = .ok (.aload_n 0, 1) := by decide +kernel
theorem dX1_join_12 : decode cX1_join 12 = .ok (.getfield 55, 3) := by decide +kernel
theorem dX1_join_15 : decode cX1_join 15 = .ok (.getfield 80, 3) := by decide +kernel
theorem dX1_join_18 : decode cX1_join 18 = .ok (.if_icmp .ge 39, 3) := by decide +kernel
theorem dX1_join_21 : decode cX1_join 21 = .ok (.aload_n 0, 1) := by decide +kernel
theorem dX1_join_22 : decode cX1_join 22 = .ok (.getfield 37, 3) := by decide +kernel
theorem dX1_join_25 : decode cX1_join 25 = .ok (.iload 4, 2) := by decide +kernel
theorem dX1_join_27 : decode cX1_join 27 = .ok (.iaload, 1) := by decide +kernel
theorem dX1_join_28 : decode cX1_join 28 = .ok (.iload_n 1, 1) := by decide +kernel
theorem dX1_join_29 : decode cX1_join 29 = .ok (.if_icmp .eq 14, 3) := by decide +kernel
theorem dX1_join_32 : decode cX1_join 32 = .ok (.aload_n 0, 1) := by decide +kernel
theorem dX1_join_33 : decode cX1_join 33 = .ok (.getfield 37, 3) := by decide +kernel
theorem dX1_join_36 : decode cX1_join 36 = .ok (.iload 4, 2) := by decide +kernel
theorem dX1_join_38 : decode cX1_join 38 = .ok (.iaload, 1) := by decide +kernel
theorem dX1_join_39 : decode cX1_join 39 = .ok (.iload_n 2, 1) := by decide +kernel
theorem dX1_join_40 : decode cX1_join 40 = .ok (.if_icmp .ne 11, 3) := by decide +kernel
theorem dX1_join_43 : decode cX1_join 43 = .ok (.aload_n 0, 1) := by decide +kernel
theorem dX1_join_44 : decode cX1_join 44 = .ok (.getfield 37, 3) := by decide +kernel
theorem dX1_join_47 : decode cX1_join 47 = .ok (.iload 4, 2) := by decide +kernel
theorem dX1_join_49 : decode cX1_join 49 = .ok (.iload_n 3, 1) := by decide +kernel
theorem dX1_join_50 : decode cX1_join 50 = .ok (.iastore, 1) := by decide +kernel
theorem dX1_join_51 : decode cX1_join 51 = .ok (.iinc 4 1, 3) := by decide +kernel
theorem dX1_join_54 : decode cX1_join 54 = .ok (.goto (-45), 3) := by decide +kernel
theorem dX1_join_57 : decode cX1_join 57 = .ok (.return_, 1) := by decide +kernel
set_option maxRecDepth 20000 in
theorem ggX1_numberBlocks_X6_has : GoodIn wsX1_numberBlocks wsX6_has := goodIn_r _ [7] (by decide +kernel) (by decide +kernel)
set_option maxRecDepth 20000 in
theorem gX1_numberBlocks_X6_has_n89 : GoodIn wsX1_numberBlocks (wsX6_has) := ggX1_numberBlocks_X6_has
theorem dX1_numberBlocks_0 : decode cX1_numberBlocks 0 = .ok (.aload_n 0, 1) := by decide +kernel
theorem dX1_numberBlocks_1 : decode cX1_numberBlocks 1 = .ok (.iconst 0, 1) := by decide +kernel
theorem dX1_numberBlocks_2 : decode cX1_numberBlocks 2 = .ok (.putfield 21, 3) := by decide +kernel
theorem dX1_numberBlocks_5 : decode cX1_numberBlocks 5 = .ok (.iconst 0, 1) := by decide +kernel
theorem dX1_numberBlocks_6 : decode cX1_numberBlocks 6 = .ok (.istore_n 1, 1) := by decide +kernel
theorem dX1_numberBlocks_7 : decode cX1_numberBlocks 7 = .ok (.iload_n 1, 1) := by decide +kernel
theorem dX1_numberBlocks_8 : decode cX1_numberBlocks 8 = .ok (.aload_n 0, 1) := by decide +kernel
theorem dX1_numberBlocks_9 : decode cX1_numberBlocks 9 = .ok (.getfield 55, 3) := by decide +kernel
theorem dX1_numberBlocks_12 : decode cX1_numberBlocks 12 = .ok (.getfield 80, 3) := by decide +kernel
theorem dX1_numberBlocks_15 : decode cX1_numberBlocks 15 = .ok (.if_icmp .ge 83, 3) := by decide +kernel
theorem dX1_numberBlocks_18 : decode cX1_numberBlocks 18 = .ok (.aload_n 0, 1) := by decide +kernel
theorem dX1_numberBlocks_19 : decode cX1_numberBlocks 19 = .ok (.getfield 55, 3) := by decide +kernel
theorem dX1_numberBlocks_22 : decode cX1_numberBlocks 22 = .ok (.getfield 105, 3) := by decide +kernel
theorem dX1_numberBlocks_25 : decode cX1_numberBlocks 25 = .ok (.iload_n 1, 1) := by decide +kernel
theorem dX1_numberBlocks_26 : decode cX1_numberBlocks 26 = .ok (.invokestatic 89, 3) := by decide +kernel
theorem dX1_numberBlocks_29 : decode cX1_numberBlocks 29 = .ok (.ifCond .ne 13, 3) := by decide +kernel
theorem dX1_numberBlocks_32 : decode cX1_numberBlocks 32 = .ok (.aload_n 0, 1) := by decide +kernel
theorem dX1_numberBlocks_33 : decode cX1_numberBlocks 33 = .ok (.getfield 40, 3) := by decide +kernel
theorem dX1_numberBlocks_36 : decode cX1_numberBlocks 36 = .ok (.iload_n 1, 1) := by decide +kernel
theorem dX1_numberBlocks_37 : decode cX1_numberBlocks 37 = .ok (.iconst (-1), 1) := by decide +kernel
theorem dX1_numberBlocks_38 : decode cX1_numberBlocks 38 = .ok (.iastore, 1) := by decide +kernel
theorem dX1_numberBlocks_39 : decode cX1_numberBlocks 39 = .ok (.goto 53, 3) := by decide +kernel
theorem dX1_numberBlocks_42 : decode cX1_numberBlocks 42 = .ok (.aload_n 0, 1) := by decide +kernel
theorem dX1_numberBlocks_43 : decode cX1_numberBlocks 43 = .ok (.getfield 37, 3) := by decide +kernel
theorem dX1_numberBlocks_46 : decode cX1_numberBlocks 46 = .ok (.iload_n 1, 1) := by decide +kernel
theorem dX1_numberBlocks_47 : decode cX1_numberBlocks 47 = .ok (.iaload, 1) := by decide +kernel
theorem dX1_numberBlocks_48 : decode cX1_numberBlocks 48 = .ok (.iload_n 1, 1) := by decide +kernel
theorem dX1_numberBlocks_49 : decode cX1_numberBlocks 49 = .ok (.if_icmp .ne 26, 3) := by decide +kernel
theorem dX1_numberBlocks_52 : decode cX1_numberBlocks 52 = .ok (.aload_n 0, 1) := by decide +kernel
theorem dX1_numberBlocks_53 : decode cX1_numberBlocks 53 = .ok (.getfield 40, 3) := by decide +kernel
theorem dX1_numberBlocks_56 : decode cX1_numberBlocks 56 = .ok (.iload_n 1, 1) := by decide +kernel
theorem dX1_numberBlocks_57 : decode cX1_numberBlocks 57 = .ok (.aload_n 0, 1) := by decide +kernel
theorem dX1_numberBlocks_58 : decode cX1_numberBlocks 58 = .ok (.getfield 21, 3) := by decide +kernel
theorem dX1_numberBlocks_61 : decode cX1_numberBlocks 61 = .ok (.iastore, 1) := by decide +kernel
theorem dX1_numberBlocks_62 : decode cX1_numberBlocks 62 = .ok (.aload_n 0, 1) := by decide +kernel
theorem dX1_numberBlocks_63 : decode cX1_numberBlocks 63 = .ok (.dup, 1) := by decide +kernel
theorem dX1_numberBlocks_64 : decode cX1_numberBlocks 64 = .ok (.getfield 21, 3) := by decide +kernel
theorem dX1_numberBlocks_67 : decode cX1_numberBlocks 67 = .ok (.iconst 1, 1) := by decide +kernel
theorem dX1_numberBlocks_68 : decode cX1_numberBlocks 68 = .ok (.iadd, 1) := by decide +kernel
theorem dX1_numberBlocks_69 : decode cX1_numberBlocks 69 = .ok (.putfield 21, 3) := by decide +kernel
theorem dX1_numberBlocks_72 : decode cX1_numberBlocks 72 = .ok (.goto 20, 3) := by decide +kernel
theorem dX1_numberBlocks_75 : decode cX1_numberBlocks 75 = .ok (.aload_n 0, 1) := by decide +kernel
theorem dX1_numberBlocks_76 : decode cX1_numberBlocks 76 = .ok (.getfield 40, 3) := by decide +kernel
theorem dX1_numberBlocks_79 : decode cX1_numberBlocks 79 = .ok (.iload_n 1, 1) := by decide +kernel
theorem dX1_numberBlocks_80 : decode cX1_numberBlocks 80 = .ok (.aload_n 0, 1) := by decide +kernel
theorem dX1_numberBlocks_81 : decode cX1_numberBlocks 81 = .ok (.getfield 40, 3) := by decide +kernel
theorem dX1_numberBlocks_84 : decode cX1_numberBlocks 84 = .ok (.aload_n 0, 1) := by decide +kernel
theorem dX1_numberBlocks_85 : decode cX1_numberBlocks 85 = .ok (.getfield 37, 3) := by decide +kernel
theorem dX1_numberBlocks_88 : decode cX1_numberBlocks 88 = .ok (.iload_n 1, 1) := by decide +kernel
theorem dX1_numberBlocks_89 : decode cX1_numberBlocks 89 = .ok (.iaload, 1) := by decide +kernel
theorem dX1_numberBlocks_90 : decode cX1_numberBlocks 90 = .ok (.iaload, 1) := by decide +kernel
theorem dX1_numberBlocks_91 : decode cX1_numberBlocks 91 = .ok (.iastore, 1) := by decide +kernel
theorem dX1_numberBlocks_92 : decode cX1_numberBlocks 92 = .ok (.iinc 1 1, 3) := by decide +kernel
theorem dX1_numberBlocks_95 : decode cX1_numberBlocks 95 = .ok (.goto (-88), 3) := by decide +kernel
theorem dX1_numberBlocks_98 : decode cX1_numberBlocks 98 = .ok (.return_, 1) := by decide +kernel
set_option maxRecDepth 20000 in
theorem ggX1_findPairs_X1_isPair : GoodIn wsX1_findPairs wsX1_isPair := goodIn_r _ [9, 10, 11, 2, 12, 13, 14, 15, 16, 17, 18, 19, 20, 21, 22, 23, 24, 25, 26, 27, 28, 29, 30, 31, 32, 33, 34, 35, 36, 37, 38, 39, 40, 41, 42, 43, 44, 45, 46, 47, 48, 49, 50] (by decide +kernel) (by decide +kernel)
set_option maxRecDepth 20000 in
theorem gX1_findPairs_X1_isPair : GoodIn wsX1_findPairs (wsV RX1 135 RX1 yX1_isPair wsX1_isPair) := goodIn_app (goodIn_of _ (by decide +kernel)) ggX1_findPairs_X1_isPair
theorem dX1_findPairs_0 : decode cX1_findPairs 0 = .ok (.aload_n 0, 1) := by decide +kernel
theorem dX1_findPairs_1 : decode cX1_findPairs 1 = .ok (.iconst 0, 1) := by decide +kernel
theorem dX1_findPairs_2 : decode cX1_findPairs 2 = .ok (.putfield 24, 3) := by decide +kernel
theorem dX1_findPairs_5 : decode cX1_findPairs 5 = .ok (.iconst 0, 1) := by decide +kernel
theorem dX1_findPairs_6 : decode cX1_findPairs 6 = .ok (.istore_n 1, 1) := by decide +kernel
theorem dX1_findPairs_7 : decode cX1_findPairs 7 = .ok (.iload_n 1, 1) := by decide +kernel
theorem dX1_findPairs_8 : decode cX1_findPairs 8 = .ok (.aload_n 0, 1) := by decide +kernel
theorem dX1_findPairs_9 : decode cX1_findPairs 9 = .ok (.getfield 55, 3) := by decide +kernel
theorem dX1_findPairs_12 : decode cX1_findPairs 12 = .ok (.getfield 98, 3) := by decide +kernel
theorem dX1_findPairs_15 : decode cX1_findPairs 15 = .ok (.if_icmp .ge 78, 3) := by decide +kernel
theorem dX1_findPairs_18 : decode cX1_findPairs 18 = .ok (.iload_n 1, 1) := by decide +kernel
theorem dX1_findPairs_19 : decode cX1_findPairs 19 = .ok (.iconst 1, 1) := by decide +kernel
theorem dX1_findPairs_20 : decode cX1_findPairs 20 = .ok (.iadd, 1) := by decide +kernel
theorem dX1_findPairs_21 : decode cX1_findPairs 21 = .ok (.istore_n 2, 1) := by decide +kernel
theorem dX1_findPairs_22 : decode cX1_findPairs 22 = .ok (.iload_n 2, 1) := by decide +kernel
theorem dX1_findPairs_23 : decode cX1_findPairs 23 = .ok (.aload_n 0, 1) := by decide +kernel
theorem dX1_findPairs_24 : decode cX1_findPairs 24 = .ok (.getfield 55, 3) := by decide +kernel
theorem dX1_findPairs_27 : decode cX1_findPairs 27 = .ok (.getfield 98, 3) := by decide +kernel
theorem dX1_findPairs_30 : decode cX1_findPairs 30 = .ok (.if_icmp .ge 57, 3) := by decide +kernel
theorem dX1_findPairs_33 : decode cX1_findPairs 33 = .ok (.aload_n 0, 1) := by decide +kernel
theorem dX1_findPairs_34 : decode cX1_findPairs 34 = .ok (.iload_n 1, 1) := by decide +kernel
theorem dX1_findPairs_35 : decode cX1_findPairs 35 = .ok (.iload_n 2, 1) := by decide +kernel
theorem dX1_findPairs_36 : decode cX1_findPairs 36 = .ok (.invokevirtual 135, 3) := by decide +kernel
theorem dX1_findPairs_39 : decode cX1_findPairs 39 = .ok (.ifCond .eq 42, 3) := by decide +kernel
theorem dX1_findPairs_42 : decode cX1_findPairs 42 = .ok (.aload_n 0, 1) := by decide +kernel
theorem dX1_findPairs_43 : decode cX1_findPairs 43 = .ok (.getfield 24, 3) := by decide +kernel
theorem dX1_findPairs_46 : decode cX1_findPairs 46 = .ok (.bipush 28, 2) := by decide +kernel
theorem dX1_findPairs_48 : decode cX1_findPairs 48 = .ok (.if_icmp .ge 33, 3) := by decide +kernel
theorem dX1_findPairs_51 : decode cX1_findPairs 51 = .ok (.aload_n 0, 1) := by decide +kernel
theorem dX1_findPairs_52 : decode cX1_findPairs 52 = .ok (.getfield 43, 3) := by decide +kernel
theorem dX1_findPairs_55 : decode cX1_findPairs 55 = .ok (.aload_n 0, 1) := by decide +kernel
theorem dX1_findPairs_56 : decode cX1_findPairs 56 = .ok (.getfield 24, 3) := by decide +kernel
theorem dX1_findPairs_59 : decode cX1_findPairs 59 = .ok (.iload_n 1, 1) := by decide +kernel
theorem dX1_findPairs_60 : decode cX1_findPairs 60 = .ok (.iastore, 1) := by decide +kernel
theorem dX1_findPairs_61 : decode cX1_findPairs 61 = .ok (.aload_n 0, 1) := by decide +kernel
theorem dX1_findPairs_62 : decode cX1_findPairs 62 = .ok (.getfield 46, 3) := by decide +kernel
theorem dX1_findPairs_65 : decode cX1_findPairs 65 = .ok (.aload_n 0, 1) := by decide +kernel
theorem dX1_findPairs_66 : decode cX1_findPairs 66 = .ok (.getfield 24, 3) := by decide +kernel
theorem dX1_findPairs_69 : decode cX1_findPairs 69 = .ok (.iload_n 2, 1) := by decide +kernel
theorem dX1_findPairs_70 : decode cX1_findPairs 70 = .ok (.iastore, 1) := by decide +kernel
theorem dX1_findPairs_71 : decode cX1_findPairs 71 = .ok (.aload_n 0, 1) := by decide +kernel
theorem dX1_findPairs_72 : decode cX1_findPairs 72 = .ok (.dup, 1) := by decide +kernel
theorem dX1_findPairs_73 : decode cX1_findPairs 73 = .ok (.getfield 24, 3) := by decide +kernel
theorem dX1_findPairs_76 : decode cX1_findPairs 76 = .ok (.iconst 1, 1) := by decide +kernel
theorem dX1_findPairs_77 : decode cX1_findPairs 77 = .ok (.iadd, 1) := by decide +kernel
theorem dX1_findPairs_78 : decode cX1_findPairs 78 = .ok (.putfield 24, 3) := by decide +kernel
theorem dX1_findPairs_81 : decode cX1_findPairs 81 = .ok (.iinc 2 1, 3) := by decide +kernel
theorem dX1_findPairs_84 : decode cX1_findPairs 84 = .ok (.goto (-62), 3) := by decide +kernel
theorem dX1_findPairs_87 : decode cX1_findPairs 87 = .ok (.iinc 1 1, 3) := by decide +kernel
theorem dX1_findPairs_90 : decode cX1_findPairs 90 = .ok (.goto (-83), 3) := by decide +kernel
theorem dX1_findPairs_93 : decode cX1_findPairs 93 = .ok (.return_, 1) := by decide +kernel
set_option maxRecDepth 20000 in
theorem ggX1_isPair_X5_countParts : GoodIn wsX1_isPair wsX5_countParts := goodIn_r _ [9, 10, 11, 12, 13, 14, 15, 16, 8, 17, 18, 19, 35, 36, 37, 38, 39, 40, 41, 42] (by decide +kernel) (by decide +kernel)
set_option maxRecDepth 20000 in
theorem gX1_isPair_X5_countParts : GoodIn wsX1_isPair (wsV RX1 116 RX5 yX5_countParts wsX5_countParts) := goodIn_app (goodIn_of _ (by decide +kernel)) ggX1_isPair_X5_countParts
theorem dX1_isPair_0 : decode cX1_isPair 0 = .ok (.iconst 1, 1) := by decide +kernel
theorem dX1_isPair_1 : decode cX1_isPair 1 = .ok (.iload_n 1, 1) := by decide +kernel
theorem dX1_isPair_2 : decode cX1_isPair 2 = .ok (.ishl, 1) := by decide +kernel
theorem dX1_isPair_3 : decode cX1_isPair 3 = .ok (.iconst 1, 1) := by decide +kernel
theorem dX1_isPair_4 : decode cX1_isPair 4 = .ok (.iload_n 2, 1) := by decide +kernel
theorem dX1_isPair_5 : decode cX1_isPair 5 = .ok (.ishl, 1) := by decide +kernel
theorem dX1_isPair_6 : decode cX1_isPair 6 = .ok (.ior, 1) := by decide +kernel
theorem dX1_isPair_7 : decode cX1_isPair 7 = .ok (.istore_n 3, 1) := by decide +kernel
theorem dX1_isPair_8 : decode cX1_isPair 8 = .ok (.aload_n 0, 1) := by decide +kernel
theorem dX1_isPair_9 : decode cX1_isPair 9 = .ok (.getfield 30, 3) := by decide +kernel
theorem dX1_isPair_12 : decode cX1_isPair 12 = .ok (.iload_n 1, 1) := by decide +kernel
theorem dX1_isPair_13 : decode cX1_isPair 13 = .ok (.iaload, 1) := by decide +kernel
theorem dX1_isPair_14 : decode cX1_isPair 14 = .ok (.aload_n 0, 1) := by decide +kernel
theorem dX1_isPair_15 : decode cX1_isPair 15 = .ok (.getfield 30, 3) := by decide +kernel
theorem dX1_isPair_18 : decode cX1_isPair 18 = .ok (.iload_n 2, 1) := by decide +kernel
theorem dX1_isPair_19 : decode cX1_isPair 19 = .ok (.iaload, 1) := by decide +kernel
theorem dX1_isPair_20 : decode cX1_isPair 20 = .ok (.if_icmp .ne 44, 3) := by decide +kernel
theorem dX1_isPair_23 : decode cX1_isPair 23 = .ok (.aload_n 0, 1) := by decide +kernel
theorem dX1_isPair_24 : decode cX1_isPair 24 = .ok (.getfield 18, 3) := by decide +kernel
theorem dX1_isPair_27 : decode cX1_isPair 27 = .ok (.iload_n 3, 1) := by decide +kernel
theorem dX1_isPair_28 : decode cX1_isPair 28 = .ok (.iand, 1) := by decide +kernel
theorem dX1_isPair_29 : decode cX1_isPair 29 = .ok (.ifCond .ne 35, 3) := by decide +kernel
theorem dX1_isPair_32 : decode cX1_isPair 32 = .ok (.aload_n 0, 1) := by decide +kernel
theorem dX1_isPair_33 : decode cX1_isPair 33 = .ok (.getfield 55, 3) := by decide +kernel
theorem dX1_isPair_36 : decode cX1_isPair 36 = .ok (.aload_n 0, 1) := by decide +kernel
theorem dX1_isPair_37 : decode cX1_isPair 37 = .ok (.getfield 34, 3) := by decide +kernel
theorem dX1_isPair_40 : decode cX1_isPair 40 = .ok (.iload_n 1, 1) := by decide +kernel
theorem dX1_isPair_41 : decode cX1_isPair 41 = .ok (.iaload, 1) := by decide +kernel
theorem dX1_isPair_42 : decode cX1_isPair 42 = .ok (.iload_n 3, 1) := by decide +kernel
theorem dX1_isPair_43 : decode cX1_isPair 43 = .ok (.iconst (-1), 1) := by decide +kernel
theorem dX1_isPair_44 : decode cX1_isPair 44 = .ok (.ixor, 1) := by decide +kernel
theorem dX1_isPair_45 : decode cX1_isPair 45 = .ok (.iand, 1) := by decide +kernel
theorem dX1_isPair_46 : decode cX1_isPair 46 = .ok (.aload_n 0, 1) := by decide +kernel
theorem dX1_isPair_47 : decode cX1_isPair 47 = .ok (.getfield 55, 3) := by decide +kernel
theorem dX1_isPair_50 : decode cX1_isPair 50 = .ok (.getfield 105, 3) := by decide +kernel
theorem dX1_isPair_53 : decode cX1_isPair 53 = .ok (.invokevirtual 116, 3) := by decide +kernel
theorem dX1_isPair_56 : decode cX1_isPair 56 = .ok (.iconst 1, 1) := by decide +kernel
theorem dX1_isPair_57 : decode cX1_isPair 57 = .ok (.if_icmp .le 7, 3) := by decide +kernel
theorem dX1_isPair_60 : decode cX1_isPair 60 = .ok (.iconst 1, 1) := by decide +kernel
theorem dX1_isPair_61 : decode cX1_isPair 61 = .ok (.goto 4, 3) := by decide +kernel
theorem dX1_isPair_64 : decode cX1_isPair 64 = .ok (.iconst 0, 1) := by decide +kernel
theorem dX1_isPair_65 : decode cX1_isPair 65 = .ok (.ireturn, 1) := by decide +kernel
set_option maxRecDepth 20000 in
theorem ggX1_findTwins_X1_areTwins : GoodIn wsX1_findTwins wsX1_areTwins := goodIn_r _ [9, 2, 10, 11, 12, 13, 14, 15, 16, 17, 18, 19, 20, 21, 22, 23, 24, 25, 26, 27, 28, 29, 30, 31, 32, 33, 34, 35, 36, 37, 38, 39, 40, 41, 42, 43, 44, 45, 46, 47, 48, 49, 50, 51, 52, 53] (by decide +kernel) (by decide +kernel)
set_option maxRecDepth 20000 in
theorem gX1_findTwins_X1_areTwins : GoodIn wsX1_findTwins (wsV RX1 138 RX1 yX1_areTwins wsX1_areTwins) := goodIn_app (goodIn_of _ (by decide +kernel)) ggX1_findTwins_X1_areTwins
theorem dX1_findTwins_0 : decode cX1_findTwins 0 = .ok (.aload_n 0, 1) := by decide +kernel
theorem dX1_findTwins_1 : decode cX1_findTwins 1 = .ok (.iconst 0, 1) := by decide +kernel
theorem dX1_findTwins_2 : decode cX1_findTwins 2 = .ok (.putfield 27, 3) := by decide +kernel
theorem dX1_findTwins_5 : decode cX1_findTwins 5 = .ok (.iconst 0, 1) := by decide +kernel
theorem dX1_findTwins_6 : decode cX1_findTwins 6 = .ok (.istore_n 1, 1) := by decide +kernel
theorem dX1_findTwins_7 : decode cX1_findTwins 7 = .ok (.iload_n 1, 1) := by decide +kernel
theorem dX1_findTwins_8 : decode cX1_findTwins 8 = .ok (.aload_n 0, 1) := by decide +kernel
theorem dX1_findTwins_9 : decode cX1_findTwins 9 = .ok (.getfield 55, 3) := by decide +kernel
theorem dX1_findTwins_12 : decode cX1_findTwins 12 = .ok (.getfield 80, 3) := by decide +kernel
theorem dX1_findTwins_15 : decode cX1_findTwins 15 = .ok (.if_icmp .ge 78, 3) := by decide +kernel
theorem dX1_findTwins_18 : decode cX1_findTwins 18 = .ok (.iload_n 1, 1) := by decide +kernel
theorem dX1_findTwins_19 : decode cX1_findTwins 19 = .ok (.iconst 1, 1) := by decide +kernel
theorem dX1_findTwins_20 : decode cX1_findTwins 20 = .ok (.iadd, 1) := by decide +kernel
theorem dX1_findTwins_21 : decode cX1_findTwins 21 = .ok (.istore_n 2, 1) := by decide +kernel
theorem dX1_findTwins_22 : decode cX1_findTwins 22 = .ok (.iload_n 2, 1) := by decide +kernel
theorem dX1_findTwins_23 : decode cX1_findTwins 23 = .ok (.aload_n 0, 1) := by decide +kernel
theorem dX1_findTwins_24 : decode cX1_findTwins 24 = .ok (.getfield 55, 3) := by decide +kernel
theorem dX1_findTwins_27 : decode cX1_findTwins 27 = .ok (.getfield 80, 3) := by decide +kernel
theorem dX1_findTwins_30 : decode cX1_findTwins 30 = .ok (.if_icmp .ge 57, 3) := by decide +kernel
theorem dX1_findTwins_33 : decode cX1_findTwins 33 = .ok (.aload_n 0, 1) := by decide +kernel
theorem dX1_findTwins_34 : decode cX1_findTwins 34 = .ok (.iload_n 1, 1) := by decide +kernel
theorem dX1_findTwins_35 : decode cX1_findTwins 35 = .ok (.iload_n 2, 1) := by decide +kernel
theorem dX1_findTwins_36 : decode cX1_findTwins 36 = .ok (.invokevirtual 138, 3) := by decide +kernel
theorem dX1_findTwins_39 : decode cX1_findTwins 39 = .ok (.ifCond .eq 42, 3) := by decide +kernel
theorem dX1_findTwins_42 : decode cX1_findTwins 42 = .ok (.aload_n 0, 1) := by decide +kernel
theorem dX1_findTwins_43 : decode cX1_findTwins 43 = .ok (.getfield 27, 3) := by decide +kernel
theorem dX1_findTwins_46 : decode cX1_findTwins 46 = .ok (.bipush 120, 2) := by decide +kernel
theorem dX1_findTwins_48 : decode cX1_findTwins 48 = .ok (.if_icmp .ge 33, 3) := by decide +kernel
theorem dX1_findTwins_51 : decode cX1_findTwins 51 = .ok (.aload_n 0, 1) := by decide +kernel
theorem dX1_findTwins_52 : decode cX1_findTwins 52 = .ok (.getfield 49, 3) := by decide +kernel
theorem dX1_findTwins_55 : decode cX1_findTwins 55 = .ok (.aload_n 0, 1) := by decide +kernel
theorem dX1_findTwins_56 : decode cX1_findTwins 56 = .ok (.getfield 27, 3) := by decide +kernel
theorem dX1_findTwins_59 : decode cX1_findTwins 59 = .ok (.iload_n 1, 1) := by decide +kernel
theorem dX1_findTwins_60 : decode cX1_findTwins 60 = .ok (.iastore, 1) := by decide +kernel
theorem dX1_findTwins_61 : decode cX1_findTwins 61 = .ok (.aload_n 0, 1) := by decide +kernel
theorem dX1_findTwins_62 : decode cX1_findTwins 62 = .ok (.getfield 52, 3) := by decide +kernel
theorem dX1_findTwins_65 : decode cX1_findTwins 65 = .ok (.aload_n 0, 1) := by decide +kernel
theorem dX1_findTwins_66 : decode cX1_findTwins 66 = .ok (.getfield 27, 3) := by decide +kernel
theorem dX1_findTwins_69 : decode cX1_findTwins 69 = .ok (.iload_n 2, 1) := by decide +kernel
theorem dX1_findTwins_70 : decode cX1_findTwins 70 = .ok (.iastore, 1) := by decide +kernel
theorem dX1_findTwins_71 : decode cX1_findTwins 71 = .ok (.aload_n 0, 1) := by decide +kernel
theorem dX1_findTwins_72 : decode cX1_findTwins 72 = .ok (.dup, 1) := by decide +kernel
theorem dX1_findTwins_73 : decode cX1_findTwins 73 = .ok (.getfield 27, 3) := by decide +kernel
theorem dX1_findTwins_76 : decode cX1_findTwins 76 = .ok (.iconst 1, 1) := by decide +kernel
theorem dX1_findTwins_77 : decode cX1_findTwins 77 = .ok (.iadd, 1) := by decide +kernel
theorem dX1_findTwins_78 : decode cX1_findTwins 78 = .ok (.putfield 27, 3) := by decide +kernel
theorem dX1_findTwins_81 : decode cX1_findTwins 81 = .ok (.iinc 2 1, 3) := by decide +kernel
theorem dX1_findTwins_84 : decode cX1_findTwins 84 = .ok (.goto (-62), 3) := by decide +kernel
theorem dX1_findTwins_87 : decode cX1_findTwins 87 = .ok (.iinc 1 1, 3) := by decide +kernel
theorem dX1_findTwins_90 : decode cX1_findTwins 90 = .ok (.goto (-83), 3) := by decide +kernel
theorem dX1_findTwins_93 : decode cX1_findTwins 93 = .ok (.return_, 1) := by decide +kernel
set_option maxRecDepth 20000 in
theorem ggX1_areTwins_X5_allPoints : GoodIn wsX1_areTwins wsX5_allPoints := goodIn_r _ [8, 9, 38, 39, 40, 41, 42, 43, 44, 45] (by decide +kernel) (by decide +kernel)
set_option maxRecDepth 20000 in
theorem gX1_areTwins_X5_allPoints : GoodIn wsX1_areTwins (wsV RX1 101 RX5 yX5_allPoints wsX5_allPoints) := goodIn_app (goodIn_of _ (by decide +kernel)) ggX1_areTwins_X5_allPoints
set_option maxRecDepth 20000 in
theorem ggX1_areTwins_X5_countParts : GoodIn wsX1_areTwins wsX5_countParts := goodIn_r _ [13, 9, 14, 15, 16, 17, 18, 19, 7, 20, 21, 22, 38, 39, 40, 41, 42, 43, 44, 45] (by decide +kernel) (by decide +kernel)
set_option maxRecDepth 20000 in
theorem gX1_areTwins_X5_countParts : GoodIn wsX1_areTwins (wsV RX1 116 RX5 yX5_countParts wsX5_countParts) := goodIn_app (goodIn_of _ (by decide +kernel)) ggX1_areTwins_X5_countParts
theorem dX1_areTwins_0 : decode cX1_areTwins 0 = .ok (.iconst 1, 1) := by decide +kernel
theorem dX1_areTwins_1 : decode cX1_areTwins 1 = .ok (.iload_n 1, 1) := by decide +kernel
theorem dX1_areTwins_2 : decode cX1_areTwins 2 = .ok (.ishl, 1) := by decide +kernel
theorem dX1_areTwins_3 : decode cX1_areTwins 3 = .ok (.iconst 1, 1) := by decide +kernel
theorem dX1_areTwins_4 : decode cX1_areTwins 4 = .ok (.iload_n 2, 1) := by decide +kernel
theorem dX1_areTwins_5 : decode cX1_areTwins 5 = .ok (.ishl, 1) := by decide +kernel
theorem dX1_areTwins_6 : decode cX1_areTwins 6 = .ok (.ior, 1) := by decide +kernel
theorem dX1_areTwins_7 : decode cX1_areTwins 7 = .ok (.istore_n 3, 1) := by decide +kernel
theorem dX1_areTwins_8 : decode cX1_areTwins 8 = .ok (.aload_n 0, 1) := by decide +kernel
theorem dX1_areTwins_9 : decode cX1_areTwins 9 = .ok (.getfield 55, 3) := by decide +kernel
theorem dX1_areTwins_12 : decode cX1_areTwins 12 = .ok (.getfield 105, 3) := by decide +kernel
theorem dX1_areTwins_15 : decode cX1_areTwins 15 = .ok (.aload_n 0, 1) := by decide +kernel
theorem dX1_areTwins_16 : decode cX1_areTwins 16 = .ok (.getfield 15, 3) := by decide +kernel
theorem dX1_areTwins_19 : decode cX1_areTwins 19 = .ok (.iconst (-1), 1) := by decide +kernel
theorem dX1_areTwins_20 : decode cX1_areTwins 20 = .ok (.ixor, 1) := by decide +kernel
theorem dX1_areTwins_21 : decode cX1_areTwins 21 = .ok (.iand, 1) := by decide +kernel
theorem dX1_areTwins_22 : decode cX1_areTwins 22 = .ok (.iload_n 3, 1) := by decide +kernel
theorem dX1_areTwins_23 : decode cX1_areTwins 23 = .ok (.iand, 1) := by decide +kernel
theorem dX1_areTwins_24 : decode cX1_areTwins 24 = .ok (.iload_n 3, 1) := by decide +kernel
theorem dX1_areTwins_25 : decode cX1_areTwins 25 = .ok (.if_icmp .ne 39, 3) := by decide +kernel
theorem dX1_areTwins_28 : decode cX1_areTwins 28 = .ok (.aload_n 0, 1) := by decide +kernel
theorem dX1_areTwins_29 : decode cX1_areTwins 29 = .ok (.getfield 55, 3) := by decide +kernel
theorem dX1_areTwins_32 : decode cX1_areTwins 32 = .ok (.aload_n 0, 1) := by decide +kernel
theorem dX1_areTwins_33 : decode cX1_areTwins 33 = .ok (.getfield 55, 3) := by decide +kernel
theorem dX1_areTwins_36 : decode cX1_areTwins 36 = .ok (.invokevirtual 101, 3) := by decide +kernel
theorem dX1_areTwins_39 : decode cX1_areTwins 39 = .ok (.aload_n 0, 1) := by decide +kernel
theorem dX1_areTwins_40 : decode cX1_areTwins 40 = .ok (.getfield 55, 3) := by decide +kernel
theorem dX1_areTwins_43 : decode cX1_areTwins 43 = .ok (.getfield 105, 3) := by decide +kernel
theorem dX1_areTwins_46 : decode cX1_areTwins 46 = .ok (.iload_n 3, 1) := by decide +kernel
theorem dX1_areTwins_47 : decode cX1_areTwins 47 = .ok (.iconst (-1), 1) := by decide +kernel
theorem dX1_areTwins_48 : decode cX1_areTwins 48 = .ok (.ixor, 1) := by decide +kernel
theorem dX1_areTwins_49 : decode cX1_areTwins 49 = .ok (.iand, 1) := by decide +kernel
theorem dX1_areTwins_50 : decode cX1_areTwins 50 = .ok (.invokevirtual 116, 3) := by decide +kernel
theorem dX1_areTwins_53 : decode cX1_areTwins 53 = .ok (.aload_n 0, 1) := by decide +kernel
theorem dX1_areTwins_54 : decode cX1_areTwins 54 = .ok (.getfield 9, 3) := by decide +kernel
theorem dX1_areTwins_57 : decode cX1_areTwins 57 = .ok (.if_icmp .le 7, 3) := by decide +kernel
theorem dX1_areTwins_60 : decode cX1_areTwins 60 = .ok (.iconst 1, 1) := by decide +kernel
theorem dX1_areTwins_61 : decode cX1_areTwins 61 = .ok (.goto 4, 3) := by decide +kernel
theorem dX1_areTwins_64 : decode cX1_areTwins 64 = .ok (.iconst 0, 1) := by decide +kernel
theorem dX1_areTwins_65 : decode cX1_areTwins 65 = .ok (.ireturn, 1) := by decide +kernel
theorem dX2_init_0 : decode cX2_init 0 = .ok (.aload_n 0, 1) := by decide +kernel
theorem dX2_init_1 : decode cX2_init 1 = .ok (.invokespecial 3, 3) := by decide +kernel
theorem dX2_init_4 : decode cX2_init 4 = .ok (.aload_n 0, 1) := by decide +kernel
theorem dX2_init_5 : decode cX2_init 5 = .ok (.bipush 8, 2) := by decide +kernel
theorem dX2_init_7 : decode cX2_init 7 = .ok (.bipush 8, 2) := by decide +kernel
theorem dX2_init_9 : decode cX2_init 9 = .ok (.multianewarray 9 2, 4) := by decide +kernel
theorem dX2_init_13 : decode cX2_init 13 = .ok (.putfield 11, 3) := by decide +kernel
theorem dX2_init_16 : decode cX2_init 16 = .ok (.aload_n 0, 1) := by decide +kernel
theorem dX2_init_17 : decode cX2_init 17 = .ok (.iconst 0, 1) := by decide +kernel
theorem dX2_init_18 : decode cX2_init 18 = .ok (.putfield 16, 3) := by decide +kernel
theorem dX2_init_21 : decode cX2_init 21 = .ok (.aload_n 0, 1) := by decide +kernel
theorem dX2_init_22 : decode cX2_init 22 = .ok (.iconst (-1), 1) := by decide +kernel
theorem dX2_init_23 : decode cX2_init 23 = .ok (.putfield 20, 3) := by decide +kernel
theorem dX2_init_26 : decode cX2_init 26 = .ok (.aload_n 0, 1) := by decide +kernel
theorem dX2_init_27 : decode cX2_init 27 = .ok (.bipush 8, 2) := by decide +kernel
theorem dX2_init_29 : decode cX2_init 29 = .ok (.newarray .int, 2) := by decide +kernel
theorem dX2_init_31 : decode cX2_init 31 = .ok (.putfield 23, 3) := by decide +kernel
theorem dX2_init_34 : decode cX2_init 34 = .ok (.aload_n 0, 1) := by decide +kernel
theorem dX2_init_35 : decode cX2_init 35 = .ok (.aload_n 1, 1) := by decide +kernel
theorem dX2_init_36 : decode cX2_init 36 = .ok (.putfield 27, 3) := by decide +kernel
theorem dX2_init_39 : decode cX2_init 39 = .ok (.return_, 1) := by decide +kernel
set_option maxRecDepth 20000 in
theorem ggX2_countTrees_X2_fillTable : GoodIn wsX2_countTrees wsX2_fillTable := goodIn_r _ [5, 6, 7, 8, 9, 10, 11, 12, 13, 4, 14, 19, 20, 21, 22, 23, 24, 25, 26, 27, 28, 29, 30, 31] (by decide +kernel) (by decide +kernel)
set_option maxRecDepth 20000 in
theorem gX2_countTrees_X2_fillTable : GoodIn wsX2_countTrees (wsV RX2 31 RX2 yX2_fillTable wsX2_fillTable) := goodIn_app (goodIn_of _ (by decide +kernel)) ggX2_countTrees_X2_fillTable
set_option maxRecDepth 20000 in
theorem ggX2_countTrees_X2_countByTable : GoodIn wsX2_countTrees wsX2_countByTable := goodIn_r _ [18, 7, 6, 19, 20, 21, 22, 23, 24, 25, 26, 27, 28, 29, 30, 31] (by decide +kernel) (by decide +kernel)
set_option maxRecDepth 20000 in
theorem gX2_countTrees_X2_countByTable : GoodIn wsX2_countTrees (wsV RX2 34 RX2 yX2_countByTable wsX2_countByTable) := goodIn_app (goodIn_of _ (by decide +kernel)) ggX2_countTrees_X2_countByTable
theorem dX2_countTrees_0 : decode cX2_countTrees 0 = .ok (.aload_n 0, 1) := by decide +kernel
theorem dX2_countTrees_1 : decode cX2_countTrees 1 = .ok (.invokevirtual 31, 3) := by decide +kernel
theorem dX2_countTrees_4 : decode cX2_countTrees 4 = .ok (.aload_n 0, 1) := by decide +kernel
theorem dX2_countTrees_5 : decode cX2_countTrees 5 = .ok (.invokevirtual 34, 3) := by decide +kernel
theorem dX2_countTrees_8 : decode cX2_countTrees 8 = .ok (.lreturn, 1) := by decide +kernel
set_option maxRecDepth 20000 in
theorem ggX2_fillTable_X6_has : GoodIn wsX2_fillTable wsX6_has := goodIn_r _ [5] (by decide +kernel) (by decide +kernel)
set_option maxRecDepth 20000 in
theorem gX2_fillTable_X6_has_n50 : GoodIn wsX2_fillTable (wsX6_has) := ggX2_fillTable_X6_has
set_option maxRecDepth 20000 in
theorem ggX2_fillTable_X2_addToTable : GoodIn wsX2_fillTable wsX2_addToTable := goodIn_r _ [10, 1, 11, 12, 13, 14, 15] (by decide +kernel) (by decide +kernel)
set_option maxRecDepth 20000 in
theorem gX2_fillTable_X2_addToTable : GoodIn wsX2_fillTable (wsV RX2 38 RX2 yX2_addToTable wsX2_addToTable) := goodIn_app (goodIn_of _ (by decide +kernel)) ggX2_fillTable_X2_addToTable
theorem dX2_fillTable_0 : decode cX2_fillTable 0 = .ok (.iconst 0, 1) := by decide +kernel
theorem dX2_fillTable_1 : decode cX2_fillTable 1 = .ok (.istore_n 1, 1) := by decide +kernel
theorem dX2_fillTable_2 : decode cX2_fillTable 2 = .ok (.iload_n 1, 1) := by decide +kernel
theorem dX2_fillTable_3 : decode cX2_fillTable 3 = .ok (.bipush 8, 2) := by decide +kernel
theorem dX2_fillTable_5 : decode cX2_fillTable 5 = .ok (.if_icmp .ge 32, 3) := by decide +kernel
theorem dX2_fillTable_8 : decode cX2_fillTable 8 = .ok (.iconst 0, 1) := by decide +kernel
theorem dX2_fillTable_9 : decode cX2_fillTable 9 = .ok (.istore_n 2, 1) := by decide +kernel
theorem dX2_fillTable_10 : decode cX2_fillTable 10 = .ok (.iload_n 2, 1) := by decide +kernel
theorem dX2_fillTable_11 : decode cX2_fillTable 11 = .ok (.bipush 8, 2) := by decide +kernel
theorem dX2_fillTable_13 : decode cX2_fillTable 13 = .ok (.if_icmp .ge 18, 3) := by decide +kernel
theorem dX2_fillTable_16 : decode cX2_fillTable 16 = .ok (.aload_n 0, 1) := by decide +kernel
theorem dX2_fillTable_17 : decode cX2_fillTable 17 = .ok (.getfield 11, 3) := by decide +kernel
theorem dX2_fillTable_20 : decode cX2_fillTable 20 = .ok (.iload_n 1, 1) := by decide +kernel
theorem dX2_fillTable_21 : decode cX2_fillTable 21 = .ok (.aaload, 1) := by decide +kernel
theorem dX2_fillTable_22 : decode cX2_fillTable 22 = .ok (.iload_n 2, 1) := by decide +kernel
theorem dX2_fillTable_23 : decode cX2_fillTable 23 = .ok (.lconst 0, 1) := by decide +kernel
theorem dX2_fillTable_24 : decode cX2_fillTable 24 = .ok (.lastore, 1) := by decide +kernel
theorem dX2_fillTable_25 : decode cX2_fillTable 25 = .ok (.iinc 2 1, 3) := by decide +kernel
theorem dX2_fillTable_28 : decode cX2_fillTable 28 = .ok (.goto (-18), 3) := by decide +kernel
theorem dX2_fillTable_31 : decode cX2_fillTable 31 = .ok (.iinc 1 1, 3) := by decide +kernel
theorem dX2_fillTable_34 : decode cX2_fillTable 34 = .ok (.goto (-32), 3) := by decide +kernel
theorem dX2_fillTable_37 : decode cX2_fillTable 37 = .ok (.iconst 0, 1) := by decide +kernel
theorem dX2_fillTable_38 : decode cX2_fillTable 38 = .ok (.istore_n 1, 1) := by decide +kernel
theorem dX2_fillTable_39 : decode cX2_fillTable 39 = .ok (.iload_n 1, 1) := by decide +kernel
theorem dX2_fillTable_40 : decode cX2_fillTable 40 = .ok (.aload_n 0, 1) := by decide +kernel
theorem dX2_fillTable_41 : decode cX2_fillTable 41 = .ok (.getfield 27, 3) := by decide +kernel
theorem dX2_fillTable_44 : decode cX2_fillTable 44 = .ok (.getfield 42, 3) := by decide +kernel
theorem dX2_fillTable_47 : decode cX2_fillTable 47 = .ok (.if_icmp .ge 45, 3) := by decide +kernel
theorem dX2_fillTable_50 : decode cX2_fillTable 50 = .ok (.aload_n 0, 1) := by decide +kernel
theorem dX2_fillTable_51 : decode cX2_fillTable 51 = .ok (.getfield 27, 3) := by decide +kernel
theorem dX2_fillTable_54 : decode cX2_fillTable 54 = .ok (.getfield 47, 3) := by decide +kernel
theorem dX2_fillTable_57 : decode cX2_fillTable 57 = .ok (.iload_n 1, 1) := by decide +kernel
theorem dX2_fillTable_58 : decode cX2_fillTable 58 = .ok (.invokestatic 50, 3) := by decide +kernel
theorem dX2_fillTable_61 : decode cX2_fillTable 61 = .ok (.ifCond .eq 25, 3) := by decide +kernel
theorem dX2_fillTable_64 : decode cX2_fillTable 64 = .ok (.aload_n 0, 1) := by decide +kernel
theorem dX2_fillTable_65 : decode cX2_fillTable 65 = .ok (.aload_n 0, 1) := by decide +kernel
theorem dX2_fillTable_66 : decode cX2_fillTable 66 = .ok (.getfield 27, 3) := by decide +kernel
theorem dX2_fillTable_69 : decode cX2_fillTable 69 = .ok (.getfield 54, 3) := by decide +kernel
theorem dX2_fillTable_72 : decode cX2_fillTable 72 = .ok (.iload_n 1, 1) := by decide +kernel
theorem dX2_fillTable_73 : decode cX2_fillTable 73 = .ok (.iaload, 1) := by decide +kernel
theorem dX2_fillTable_74 : decode cX2_fillTable 74 = .ok (.aload_n 0, 1) := by decide +kernel
theorem dX2_fillTable_75 : decode cX2_fillTable 75 = .ok (.getfield 27, 3) := by decide +kernel
theorem dX2_fillTable_78 : decode cX2_fillTable 78 = .ok (.getfield 57, 3) := by decide +kernel
theorem dX2_fillTable_81 : decode cX2_fillTable 81 = .ok (.iload_n 1, 1) := by decide +kernel
theorem dX2_fillTable_82 : decode cX2_fillTable 82 = .ok (.iaload, 1) := by decide +kernel
theorem dX2_fillTable_83 : decode cX2_fillTable 83 = .ok (.invokevirtual 38, 3) := by decide +kernel
theorem dX2_fillTable_86 : decode cX2_fillTable 86 = .ok (.iinc 1 1, 3) := by decide +kernel
theorem dX2_fillTable_89 : decode cX2_fillTable 89 = .ok (.goto (-50), 3) := by decide +kernel
theorem dX2_fillTable_92 : decode cX2_fillTable 92 = .ok (.return_, 1) := by decide +kernel
theorem dX2_addToTable_0 : decode cX2_addToTable 0 = .ok (.aload_n 0, 1) := by decide +kernel
theorem dX2_addToTable_1 : decode cX2_addToTable 1 = .ok (.getfield 11, 3) := by decide +kernel
theorem dX2_addToTable_4 : decode cX2_addToTable 4 = .ok (.iload_n 1, 1) := by decide +kernel
theorem dX2_addToTable_5 : decode cX2_addToTable 5 = .ok (.aaload, 1) := by decide +kernel
theorem dX2_addToTable_6 : decode cX2_addToTable 6 = .ok (.iload_n 1, 1) := by decide +kernel
theorem dX2_addToTable_7 : decode cX2_addToTable 7 = .ok (.dup2, 1) := by decide +kernel
theorem dX2_addToTable_8 : decode cX2_addToTable 8 = .ok (.laload, 1) := by decide +kernel
theorem dX2_addToTable_9 : decode cX2_addToTable 9 = .ok (.lconst 1, 1) := by decide +kernel
theorem dX2_addToTable_10 : decode cX2_addToTable 10 = .ok (.ladd, 1) := by decide +kernel
theorem dX2_addToTable_11 : decode cX2_addToTable 11 = .ok (.lastore, 1) := by decide +kernel
theorem dX2_addToTable_12 : decode cX2_addToTable 12 = .ok (.aload_n 0, 1) := by decide +kernel
theorem dX2_addToTable_13 : decode cX2_addToTable 13 = .ok (.getfield 11, 3) := by decide +kernel
theorem dX2_addToTable_16 : decode cX2_addToTable 16 = .ok (.iload_n 2, 1) := by decide +kernel
theorem dX2_addToTable_17 : decode cX2_addToTable 17 = .ok (.aaload, 1) := by decide +kernel
theorem dX2_addToTable_18 : decode cX2_addToTable 18 = .ok (.iload_n 2, 1) := by decide +kernel
theorem dX2_addToTable_19 : decode cX2_addToTable 19 = .ok (.dup2, 1) := by decide +kernel
theorem dX2_addToTable_20 : decode cX2_addToTable 20 = .ok (.laload, 1) := by decide +kernel
theorem dX2_addToTable_21 : decode cX2_addToTable 21 = .ok (.lconst 1, 1) := by decide +kernel
theorem dX2_addToTable_22 : decode cX2_addToTable 22 = .ok (.ladd, 1) := by decide +kernel
theorem dX2_addToTable_23 : decode cX2_addToTable 23 = .ok (.lastore, 1) := by decide +kernel
theorem dX2_addToTable_24 : decode cX2_addToTable 24 = .ok (.aload_n 0, 1) := by decide +kernel
theorem dX2_addToTable_25 : decode cX2_addToTable 25 = .ok (.getfield 11, 3) := by decide +kernel
theorem dX2_addToTable_28 : decode cX2_addToTable 28 = .ok (.iload_n 1, 1) := by decide +kernel
theorem dX2_addToTable_29 : decode cX2_addToTable 29 = .ok (.aaload, 1) := by decide +kernel
theorem dX2_addToTable_30 : decode cX2_addToTable 30 = .ok (.iload_n 2, 1) := by decide +kernel
theorem dX2_addToTable_31 : decode cX2_addToTable 31 = .ok (.dup2, 1) := by decide +kernel
theorem dX2_addToTable_32 : decode cX2_addToTable 32 = .ok (.laload, 1) := by decide +kernel
theorem dX2_addToTable_33 : decode cX2_addToTable 33 = .ok (.lconst 1, 1) := by decide +kernel
theorem dX2_addToTable_34 : decode cX2_addToTable 34 = .ok (.lsub, 1) := by decide +kernel
theorem dX2_addToTable_35 : decode cX2_addToTable 35 = .ok (.lastore, 1) := by decide +kernel
theorem dX2_addToTable_36 : decode cX2_addToTable 36 = .ok (.aload_n 0, 1) := by decide +kernel
theorem dX2_addToTable_37 : decode cX2_addToTable 37 = .ok (.getfield 11, 3) := by decide +kernel
theorem dX2_addToTable_40 : decode cX2_addToTable 40 = .ok (.iload_n 2, 1) := by decide +kernel
theorem dX2_addToTable_41 : decode cX2_addToTable 41 = .ok (.aaload, 1) := by decide +kernel
theorem dX2_addToTable_42 : decode cX2_addToTable 42 = .ok (.iload_n 1, 1) := by decide +kernel
theorem dX2_addToTable_43 : decode cX2_addToTable 43 = .ok (.dup2, 1) := by decide +kernel
theorem dX2_addToTable_44 : decode cX2_addToTable 44 = .ok (.laload, 1) := by decide +kernel
theorem dX2_addToTable_45 : decode cX2_addToTable 45 = .ok (.lconst 1, 1) := by decide +kernel
theorem dX2_addToTable_46 : decode cX2_addToTable 46 = .ok (.lsub, 1) := by decide +kernel
theorem dX2_addToTable_47 : decode cX2_addToTable 47 = .ok (.lastore, 1) := by decide +kernel
theorem dX2_addToTable_48 : decode cX2_addToTable 48 = .ok (.return_, 1) := by decide +kernel
theorem dX2_countByTable_0 : decode cX2_countByTable 0 = .ok (.aload_n 0, 1) := by decide +kernel
theorem dX2_countByTable_1 : decode cX2_countByTable 1 = .ok (.getfield 27, 3) := by decide +kernel
theorem dX2_countByTable_4 : decode cX2_countByTable 4 = .ok (.getfield 60, 3) := by decide +kernel
theorem dX2_countByTable_7 : decode cX2_countByTable 7 = .ok (.ifCond .ne 5, 3) := by decide +kernel
theorem dX2_countByTable_10 : decode cX2_countByTable 10 = .ok (.lconst 0, 1) := by decide +kernel
theorem dX2_countByTable_11 : decode cX2_countByTable 11 = .ok (.lreturn, 1) := by decide +kernel
theorem dX2_countByTable_12 : decode cX2_countByTable 12 = .ok (.lconst 1, 1) := by decide +kernel
theorem dX2_countByTable_13 : decode cX2_countByTable 13 = .ok (.lstore_n 1, 1) := by decide +kernel
theorem dX2_countByTable_14 : decode cX2_countByTable 14 = .ok (.iconst 0, 1) := by decide +kernel
theorem dX2_countByTable_15 : decode cX2_countByTable 15 = .ok (.istore_n 3, 1) := by decide +kernel
theorem dX2_countByTable_16 : decode cX2_countByTable 16 = .ok (.iload_n 3, 1) := by decide +kernel
theorem dX2_countByTable_17 : decode cX2_countByTable 17 = .ok (.aload_n 0, 1) := by decide +kernel
theorem dX2_countByTable_18 : decode cX2_countByTable 18 = .ok (.getfield 27, 3) := by decide +kernel
theorem dX2_countByTable_21 : decode cX2_countByTable 21 = .ok (.getfield 60, 3) := by decide +kernel
theorem dX2_countByTable_24 : decode cX2_countByTable 24 = .ok (.iconst 1, 1) := by decide +kernel
theorem dX2_countByTable_25 : decode cX2_countByTable 25 = .ok (.isub, 1) := by decide +kernel
theorem dX2_countByTable_26 : decode cX2_countByTable 26 = .ok (.if_icmp .ge 136, 3) := by decide +kernel
theorem dX2_countByTable_29 : decode cX2_countByTable 29 = .ok (.aload_n 0, 1) := by decide +kernel
theorem dX2_countByTable_30 : decode cX2_countByTable 30 = .ok (.getfield 11, 3) := by decide +kernel
theorem dX2_countByTable_33 : decode cX2_countByTable 33 = .ok (.iload_n 3, 1) := by decide +kernel
theorem dX2_countByTable_34 : decode cX2_countByTable 34 = .ok (.aaload, 1) := by decide +kernel
theorem dX2_countByTable_35 : decode cX2_countByTable 35 = .ok (.iload_n 3, 1) := by decide +kernel
theorem dX2_countByTable_36 : decode cX2_countByTable 36 = .ok (.laload, 1) := by decide +kernel
theorem dX2_countByTable_37 : decode cX2_countByTable 37 = .ok (.lstore 4, 2) := by decide +kernel
theorem dX2_countByTable_39 : decode cX2_countByTable 39 = .ok (.lload 4, 2) := by decide +kernel
theorem dX2_countByTable_41 : decode cX2_countByTable 41 = .ok (.lconst 0, 1) := by decide +kernel
theorem dX2_countByTable_42 : decode cX2_countByTable 42 = .ok (.lcmp, 1) := by decide +kernel
theorem dX2_countByTable_43 : decode cX2_countByTable 43 = .ok (.ifCond .eq 9, 3) := by decide +kernel
theorem dX2_countByTable_46 : decode cX2_countByTable 46 = .ok (.lload_n 1, 1) := by decide +kernel
theorem dX2_countByTable_47 : decode cX2_countByTable 47 = .ok (.lconst 0, 1) := by decide +kernel
theorem dX2_countByTable_48 : decode cX2_countByTable 48 = .ok (.lcmp, 1) := by decide +kernel
theorem dX2_countByTable_49 : decode cX2_countByTable 49 = .ok (.ifCond .ne 5, 3) := by decide +kernel
theorem dX2_countByTable_52 : decode cX2_countByTable 52 = .ok (.lconst 0, 1) := by decide +kernel
theorem dX2_countByTable_53 : decode cX2_countByTable 53 = .ok (.lreturn, 1) := by decide +kernel
theorem dX2_countByTable_54 : decode cX2_countByTable 54 = .ok (.iload_n 3, 1) := by decide +kernel
theorem dX2_countByTable_55 : decode cX2_countByTable 55 = .ok (.iconst 1, 1) := by decide +kernel
theorem dX2_countByTable_56 : decode cX2_countByTable 56 = .ok (.iadd, 1) := by decide +kernel
theorem dX2_countByTable_57 : decode cX2_countByTable 57 = .ok (.istore 6, 2) := by decide +kernel
theorem dX2_countByTable_59 : decode cX2_countByTable 59 = .ok (.iload 6, 2) := by decide +kernel
theorem dX2_countByTable_61 : decode cX2_countByTable 61 = .ok (.aload_n 0, 1) := by decide +kernel
theorem dX2_countByTable_62 : decode cX2_countByTable 62 = .ok (.getfield 27, 3) := by decide +kernel
theorem dX2_countByTable_65 : decode cX2_countByTable 65 = .ok (.getfield 60, 3) := by decide +kernel
theorem dX2_countByTable_68 : decode cX2_countByTable 68 = .ok (.iconst 1, 1) := by decide +kernel
theorem dX2_countByTable_69 : decode cX2_countByTable 69 = .ok (.isub, 1) := by decide +kernel
theorem dX2_countByTable_70 : decode cX2_countByTable 70 = .ok (.if_icmp .ge 83, 3) := by decide +kernel
theorem dX2_countByTable_73 : decode cX2_countByTable 73 = .ok (.iload_n 3, 1) := by decide +kernel
theorem dX2_countByTable_74 : decode cX2_countByTable 74 = .ok (.iconst 1, 1) := by decide +kernel
theorem dX2_countByTable_75 : decode cX2_countByTable 75 = .ok (.iadd, 1) := by decide +kernel
theorem dX2_countByTable_76 : decode cX2_countByTable 76 = .ok (.istore 7, 2) := by decide +kernel
theorem dX2_countByTable_78 : decode cX2_countByTable 78 = .ok (.iload 7, 2) := by decide +kernel
theorem dX2_countByTable_80 : decode cX2_countByTable 80 = .ok (.aload_n 0, 1) := by decide +kernel
theorem dX2_countByTable_81 : decode cX2_countByTable 81 = .ok (.getfield 27, 3) := by decide +kernel
theorem dX2_countByTable_84 : decode cX2_countByTable 84 = .ok (.getfield 60, 3) := by decide +kernel
theorem dX2_countByTable_87 : decode cX2_countByTable 87 = .ok (.iconst 1, 1) := by decide +kernel
theorem dX2_countByTable_88 : decode cX2_countByTable 88 = .ok (.isub, 1) := by decide +kernel
theorem dX2_countByTable_89 : decode cX2_countByTable 89 = .ok (.if_icmp .ge 58, 3) := by decide +kernel
theorem dX2_countByTable_92 : decode cX2_countByTable 92 = .ok (.aload_n 0, 1) := by decide +kernel
theorem dX2_countByTable_93 : decode cX2_countByTable 93 = .ok (.getfield 11, 3) := by decide +kernel
theorem dX2_countByTable_96 : decode cX2_countByTable 96 = .ok (.iload 6, 2) := by decide +kernel
theorem dX2_countByTable_98 : decode cX2_countByTable 98 = .ok (.aaload, 1) := by decide +kernel
theorem dX2_countByTable_99 : decode cX2_countByTable 99 = .ok (.iload 7, 2) := by decide +kernel
theorem dX2_countByTable_101 : decode cX2_countByTable 101 = .ok (.laload, 1) := by decide +kernel
theorem dX2_countByTable_102 : decode cX2_countByTable 102 = .ok (.lload 4, 2) := by decide +kernel
theorem dX2_countByTable_104 : decode cX2_countByTable 104 = .ok (.lmul, 1) := by decide +kernel
theorem dX2_countByTable_105 : decode cX2_countByTable 105 = .ok (.aload_n 0, 1) := by decide +kernel
theorem dX2_countByTable_106 : decode cX2_countByTable 106 = .ok (.getfield 11, 3) := by decide +kernel
theorem dX2_countByTable_109 : decode cX2_countByTable 109 = .ok (.iload 6, 2) := by decide +kernel
theorem dX2_countByTable_111 : decode cX2_countByTable 111 = .ok (.aaload, 1) := by decide +kernel
theorem dX2_countByTable_112 : decode cX2_countByTable 112 = .ok (.iload_n 3, 1) := by decide +kernel
theorem dX2_countByTable_113 : decode cX2_countByTable 113 = .ok (.laload, 1) := by decide +kernel
theorem dX2_countByTable_114 : decode cX2_countByTable 114 = .ok (.aload_n 0, 1) := by decide +kernel
theorem dX2_countByTable_115 : decode cX2_countByTable 115 = .ok (.getfield 11, 3) := by decide +kernel
theorem dX2_countByTable_118 : decode cX2_countByTable 118 = .ok (.iload_n 3, 1) := by decide +kernel
theorem dX2_countByTable_119 : decode cX2_countByTable 119 = .ok (.aaload, 1) := by decide +kernel
theorem dX2_countByTable_120 : decode cX2_countByTable 120 = .ok (.iload 7, 2) := by decide +kernel
theorem dX2_countByTable_122 : decode cX2_countByTable 122 = .ok (.laload, 1) := by decide +kernel
theorem dX2_countByTable_123 : decode cX2_countByTable 123 = .ok (.lmul, 1) := by decide +kernel
theorem dX2_countByTable_124 : decode cX2_countByTable 124 = .ok (.lsub, 1) := by decide +kernel
theorem dX2_countByTable_125 : decode cX2_countByTable 125 = .ok (.lstore 8, 2) := by decide +kernel
theorem dX2_countByTable_127 : decode cX2_countByTable 127 = .ok (.aload_n 0, 1) := by decide +kernel
theorem dX2_countByTable_128 : decode cX2_countByTable 128 = .ok (.getfield 11, 3) := by decide +kernel
theorem dX2_countByTable_131 : decode cX2_countByTable 131 = .ok (.iload 6, 2) := by decide +kernel
theorem dX2_countByTable_133 : decode cX2_countByTable 133 = .ok (.aaload, 1) := by decide +kernel
theorem dX2_countByTable_134 : decode cX2_countByTable 134 = .ok (.iload 7, 2) := by decide +kernel
theorem dX2_countByTable_136 : decode cX2_countByTable 136 = .ok (.lload 8, 2) := by decide +kernel
theorem dX2_countByTable_138 : decode cX2_countByTable 138 = .ok (.lload_n 1, 1) := by decide +kernel
theorem dX2_countByTable_139 : decode cX2_countByTable 139 = .ok (.ldiv, 1) := by decide +kernel
theorem dX2_countByTable_140 : decode cX2_countByTable 140 = .ok (.lastore, 1) := by decide +kernel
theorem dX2_countByTable_141 : decode cX2_countByTable 141 = .ok (.iinc 7 1, 3) := by decide +kernel
theorem dX2_countByTable_144 : decode cX2_countByTable 144 = .ok (.goto (-66), 3) := by decide +kernel
theorem dX2_countByTable_147 : decode cX2_countByTable 147 = .ok (.iinc 6 1, 3) := by decide +kernel
theorem dX2_countByTable_150 : decode cX2_countByTable 150 = .ok (.goto (-91), 3) := by decide +kernel
theorem dX2_countByTable_153 : decode cX2_countByTable 153 = .ok (.lload 4, 2) := by decide +kernel
theorem dX2_countByTable_155 : decode cX2_countByTable 155 = .ok (.lstore_n 1, 1) := by decide +kernel
theorem dX2_countByTable_156 : decode cX2_countByTable 156 = .ok (.iinc 3 1, 3) := by decide +kernel
theorem dX2_countByTable_159 : decode cX2_countByTable 159 = .ok (.goto (-143), 3) := by decide +kernel
theorem dX2_countByTable_162 : decode cX2_countByTable 162 = .ok (.lload_n 1, 1) := by decide +kernel
theorem dX2_countByTable_163 : decode cX2_countByTable 163 = .ok (.lreturn, 1) := by decide +kernel
set_option maxRecDepth 20000 in
theorem ggX2_learn_X5_allPoints : GoodIn wsX2_learn wsX5_allPoints := goodIn_r _ [8, 9, 38, 39, 40, 41, 42, 43, 44, 45] (by decide +kernel) (by decide +kernel)
set_option maxRecDepth 20000 in
theorem gX2_learn_X5_allPoints : GoodIn wsX2_learn (wsV RX2 63 RX5 yX5_allPoints wsX5_allPoints) := goodIn_app (goodIn_of _ (by decide +kernel)) ggX2_learn_X5_allPoints
set_option maxRecDepth 20000 in
theorem ggX2_learn_X5_countParts : GoodIn wsX2_learn wsX5_countParts := goodIn_r _ [13, 9, 14, 15, 16, 17, 18, 19, 7, 20, 21, 22, 38, 39, 40, 41, 42, 43, 44, 45] (by decide +kernel) (by decide +kernel)
set_option maxRecDepth 20000 in
theorem gX2_learn_X5_countParts : GoodIn wsX2_learn (wsV RX2 67 RX5 yX5_countParts wsX5_countParts) := goodIn_app (goodIn_of _ (by decide +kernel)) ggX2_learn_X5_countParts
set_option maxRecDepth 20000 in
theorem ggX2_learn_X2_takeCheapest : GoodIn wsX2_learn wsX2_takeCheapest := goodIn_r _ [27, 2, 3, 28, 14, 15, 16, 29, 30, 31, 26, 32, 1, 33, 34, 35, 36, 37, 38, 39, 40, 41, 42, 43, 44, 45] (by decide +kernel) (by decide +kernel)
set_option maxRecDepth 20000 in
theorem gX2_learn_X2_takeCheapest : GoodIn wsX2_learn (wsV RX2 71 RX2 yX2_takeCheapest wsX2_takeCheapest) := goodIn_app (goodIn_of _ (by decide +kernel)) ggX2_learn_X2_takeCheapest
theorem dX2_learn_0 : decode cX2_learn 0 = .ok (.aload_n 0, 1) := by decide +kernel
theorem dX2_learn_1 : decode cX2_learn 1 = .ok (.iconst 0, 1) := by decide +kernel
theorem dX2_learn_2 : decode cX2_learn 2 = .ok (.putfield 16, 3) := by decide +kernel
theorem dX2_learn_5 : decode cX2_learn 5 = .ok (.aload_n 0, 1) := by decide +kernel
theorem dX2_learn_6 : decode cX2_learn 6 = .ok (.iconst (-1), 1) := by decide +kernel
theorem dX2_learn_7 : decode cX2_learn 7 = .ok (.putfield 20, 3) := by decide +kernel
theorem dX2_learn_10 : decode cX2_learn 10 = .ok (.aload_n 0, 1) := by decide +kernel
theorem dX2_learn_11 : decode cX2_learn 11 = .ok (.getfield 27, 3) := by decide +kernel
theorem dX2_learn_14 : decode cX2_learn 14 = .ok (.aload_n 0, 1) := by decide +kernel
theorem dX2_learn_15 : decode cX2_learn 15 = .ok (.getfield 27, 3) := by decide +kernel
theorem dX2_learn_18 : decode cX2_learn 18 = .ok (.invokevirtual 63, 3) := by decide +kernel
theorem dX2_learn_21 : decode cX2_learn 21 = .ok (.aload_n 0, 1) := by decide +kernel
theorem dX2_learn_22 : decode cX2_learn 22 = .ok (.getfield 27, 3) := by decide +kernel
theorem dX2_learn_25 : decode cX2_learn 25 = .ok (.getfield 47, 3) := by decide +kernel
theorem dX2_learn_28 : decode cX2_learn 28 = .ok (.invokevirtual 67, 3) := by decide +kernel
theorem dX2_learn_31 : decode cX2_learn 31 = .ok (.iconst 1, 1) := by decide +kernel
theorem dX2_learn_32 : decode cX2_learn 32 = .ok (.if_icmp .ne 7, 3) := by decide +kernel
theorem dX2_learn_35 : decode cX2_learn 35 = .ok (.aload_n 0, 1) := by decide +kernel
theorem dX2_learn_36 : decode cX2_learn 36 = .ok (.invokevirtual 71, 3) := by decide +kernel
theorem dX2_learn_39 : decode cX2_learn 39 = .ok (.return_, 1) := by decide +kernel
set_option maxRecDepth 20000 in
theorem ggX2_takeCheapest_X6_has : GoodIn wsX2_takeCheapest wsX6_has := goodIn_r _ [6] (by decide +kernel) (by decide +kernel)
set_option maxRecDepth 20000 in
theorem gX2_takeCheapest_X6_has_n50 : GoodIn wsX2_takeCheapest (wsX6_has) := ggX2_takeCheapest_X6_has
set_option maxRecDepth 20000 in
theorem ggX2_takeCheapest_X2_takeIfNew : GoodIn wsX2_takeCheapest wsX2_takeIfNew := goodIn_r _ [11, 3, 2, 12, 1, 4, 5, 6, 13, 14, 15, 16, 17, 18, 19, 20, 21, 22, 23, 24, 25] (by decide +kernel) (by decide +kernel)
set_option maxRecDepth 20000 in
theorem gX2_takeCheapest_X2_takeIfNew : GoodIn wsX2_takeCheapest (wsV RX2 77 RX2 yX2_takeIfNew wsX2_takeIfNew) := goodIn_app (goodIn_of _ (by decide +kernel)) ggX2_takeCheapest_X2_takeIfNew
theorem dX2_takeCheapest_0 : decode cX2_takeCheapest 0 = .ok (.aload_n 0, 1) := by decide +kernel
theorem dX2_takeCheapest_1 : decode cX2_takeCheapest 1 = .ok (.iconst 0, 1) := by decide +kernel
theorem dX2_takeCheapest_2 : decode cX2_takeCheapest 2 = .ok (.putfield 20, 3) := by decide +kernel
theorem dX2_takeCheapest_5 : decode cX2_takeCheapest 5 = .ok (.iconst 0, 1) := by decide +kernel
theorem dX2_takeCheapest_6 : decode cX2_takeCheapest 6 = .ok (.istore_n 1, 1) := by decide +kernel
theorem dX2_takeCheapest_7 : decode cX2_takeCheapest 7 = .ok (.iload_n 1, 1) := by decide +kernel
theorem dX2_takeCheapest_8 : decode cX2_takeCheapest 8 = .ok (.aload_n 0, 1) := by decide +kernel
theorem dX2_takeCheapest_9 : decode cX2_takeCheapest 9 = .ok (.getfield 27, 3) := by decide +kernel
theorem dX2_takeCheapest_12 : decode cX2_takeCheapest 12 = .ok (.getfield 60, 3) := by decide +kernel
theorem dX2_takeCheapest_15 : decode cX2_takeCheapest 15 = .ok (.if_icmp .ge 18, 3) := by decide +kernel
theorem dX2_takeCheapest_18 : decode cX2_takeCheapest 18 = .ok (.aload_n 0, 1) := by decide +kernel
theorem dX2_takeCheapest_19 : decode cX2_takeCheapest 19 = .ok (.getfield 23, 3) := by decide +kernel
theorem dX2_takeCheapest_22 : decode cX2_takeCheapest 22 = .ok (.iload_n 1, 1) := by decide +kernel
theorem dX2_takeCheapest_23 : decode cX2_takeCheapest 23 = .ok (.iconst 1, 1) := by decide +kernel
theorem dX2_takeCheapest_24 : decode cX2_takeCheapest 24 = .ok (.iload_n 1, 1) := by decide +kernel
theorem dX2_takeCheapest_25 : decode cX2_takeCheapest 25 = .ok (.ishl, 1) := by decide +kernel
theorem dX2_takeCheapest_26 : decode cX2_takeCheapest 26 = .ok (.iastore, 1) := by decide +kernel
theorem dX2_takeCheapest_27 : decode cX2_takeCheapest 27 = .ok (.iinc 1 1, 3) := by decide +kernel
theorem dX2_takeCheapest_30 : decode cX2_takeCheapest 30 = .ok (.goto (-23), 3) := by decide +kernel
theorem dX2_takeCheapest_33 : decode cX2_takeCheapest 33 = .ok (.iconst 1, 1) := by decide +kernel
theorem dX2_takeCheapest_34 : decode cX2_takeCheapest 34 = .ok (.istore_n 1, 1) := by decide +kernel
theorem dX2_takeCheapest_35 : decode cX2_takeCheapest 35 = .ok (.iload_n 1, 1) := by decide +kernel
theorem dX2_takeCheapest_36 : decode cX2_takeCheapest 36 = .ok (.bipush 20, 2) := by decide +kernel
theorem dX2_takeCheapest_38 : decode cX2_takeCheapest 38 = .ok (.if_icmp .gt 60, 3) := by decide +kernel
theorem dX2_takeCheapest_41 : decode cX2_takeCheapest 41 = .ok (.iconst 0, 1) := by decide +kernel
theorem dX2_takeCheapest_42 : decode cX2_takeCheapest 42 = .ok (.istore_n 2, 1) := by decide +kernel
theorem dX2_takeCheapest_43 : decode cX2_takeCheapest 43 = .ok (.iload_n 2, 1) := by decide +kernel
theorem dX2_takeCheapest_44 : decode cX2_takeCheapest 44 = .ok (.aload_n 0, 1) := by decide +kernel
theorem dX2_takeCheapest_45 : decode cX2_takeCheapest 45 = .ok (.getfield 27, 3) := by decide +kernel
theorem dX2_takeCheapest_48 : decode cX2_takeCheapest 48 = .ok (.getfield 42, 3) := by decide +kernel
theorem dX2_takeCheapest_51 : decode cX2_takeCheapest 51 = .ok (.if_icmp .ge 41, 3) := by decide +kernel
theorem dX2_takeCheapest_54 : decode cX2_takeCheapest 54 = .ok (.aload_n 0, 1) := by decide +kernel
theorem dX2_takeCheapest_55 : decode cX2_takeCheapest 55 = .ok (.getfield 27, 3) := by decide +kernel
theorem dX2_takeCheapest_58 : decode cX2_takeCheapest 58 = .ok (.getfield 47, 3) := by decide +kernel
theorem dX2_takeCheapest_61 : decode cX2_takeCheapest 61 = .ok (.iload_n 2, 1) := by decide +kernel
theorem dX2_takeCheapest_62 : decode cX2_takeCheapest 62 = .ok (.invokestatic 50, 3) := by decide +kernel
theorem dX2_takeCheapest_65 : decode cX2_takeCheapest 65 = .ok (.ifCond .eq 21, 3) := by decide +kernel
theorem dX2_takeCheapest_68 : decode cX2_takeCheapest 68 = .ok (.aload_n 0, 1) := by decide +kernel
theorem dX2_takeCheapest_69 : decode cX2_takeCheapest 69 = .ok (.getfield 27, 3) := by decide +kernel
theorem dX2_takeCheapest_72 : decode cX2_takeCheapest 72 = .ok (.getfield 74, 3) := by decide +kernel
theorem dX2_takeCheapest_75 : decode cX2_takeCheapest 75 = .ok (.iload_n 2, 1) := by decide +kernel
theorem dX2_takeCheapest_76 : decode cX2_takeCheapest 76 = .ok (.iaload, 1) := by decide +kernel
theorem dX2_takeCheapest_77 : decode cX2_takeCheapest 77 = .ok (.iload_n 1, 1) := by decide +kernel
theorem dX2_takeCheapest_78 : decode cX2_takeCheapest 78 = .ok (.if_icmp .ne 8, 3) := by decide +kernel
theorem dX2_takeCheapest_81 : decode cX2_takeCheapest 81 = .ok (.aload_n 0, 1) := by decide +kernel
theorem dX2_takeCheapest_82 : decode cX2_takeCheapest 82 = .ok (.iload_n 2, 1) := by decide +kernel
theorem dX2_takeCheapest_83 : decode cX2_takeCheapest 83 = .ok (.invokevirtual 77, 3) := by decide +kernel
theorem dX2_takeCheapest_86 : decode cX2_takeCheapest 86 = .ok (.iinc 2 1, 3) := by decide +kernel
theorem dX2_takeCheapest_89 : decode cX2_takeCheapest 89 = .ok (.goto (-46), 3) := by decide +kernel
theorem dX2_takeCheapest_92 : decode cX2_takeCheapest 92 = .ok (.iinc 1 1, 3) := by decide +kernel
theorem dX2_takeCheapest_95 : decode cX2_takeCheapest 95 = .ok (.goto (-60), 3) := by decide +kernel
theorem dX2_takeCheapest_98 : decode cX2_takeCheapest 98 = .ok (.return_, 1) := by decide +kernel
set_option maxRecDepth 20000 in
theorem ggX2_takeIfNew_X6_has : GoodIn wsX2_takeIfNew wsX6_has := goodIn_r _ [7] (by decide +kernel) (by decide +kernel)
set_option maxRecDepth 20000 in
theorem gX2_takeIfNew_X6_has_n50 : GoodIn wsX2_takeIfNew (wsX6_has) := ggX2_takeIfNew_X6_has
theorem dX2_takeIfNew_0 : decode cX2_takeIfNew 0 = .ok (.aload_n 0, 1) := by decide +kernel
theorem dX2_takeIfNew_1 : decode cX2_takeIfNew 1 = .ok (.getfield 23, 3) := by decide +kernel
theorem dX2_takeIfNew_4 : decode cX2_takeIfNew 4 = .ok (.aload_n 0, 1) := by decide +kernel
theorem dX2_takeIfNew_5 : decode cX2_takeIfNew 5 = .ok (.getfield 27, 3) := by decide +kernel
theorem dX2_takeIfNew_8 : decode cX2_takeIfNew 8 = .ok (.getfield 54, 3) := by decide +kernel
theorem dX2_takeIfNew_11 : decode cX2_takeIfNew 11 = .ok (.iload_n 1, 1) := by decide +kernel
theorem dX2_takeIfNew_12 : decode cX2_takeIfNew 12 = .ok (.iaload, 1) := by decide +kernel
theorem dX2_takeIfNew_13 : decode cX2_takeIfNew 13 = .ok (.iaload, 1) := by decide +kernel
theorem dX2_takeIfNew_14 : decode cX2_takeIfNew 14 = .ok (.istore_n 2, 1) := by decide +kernel
theorem dX2_takeIfNew_15 : decode cX2_takeIfNew 15 = .ok (.aload_n 0, 1) := by decide +kernel
theorem dX2_takeIfNew_16 : decode cX2_takeIfNew 16 = .ok (.getfield 23, 3) := by decide +kernel
theorem dX2_takeIfNew_19 : decode cX2_takeIfNew 19 = .ok (.aload_n 0, 1) := by decide +kernel
theorem dX2_takeIfNew_20 : decode cX2_takeIfNew 20 = .ok (.getfield 27, 3) := by decide +kernel
theorem dX2_takeIfNew_23 : decode cX2_takeIfNew 23 = .ok (.getfield 57, 3) := by decide +kernel
theorem dX2_takeIfNew_26 : decode cX2_takeIfNew 26 = .ok (.iload_n 1, 1) := by decide +kernel
theorem dX2_takeIfNew_27 : decode cX2_takeIfNew 27 = .ok (.iaload, 1) := by decide +kernel
theorem dX2_takeIfNew_28 : decode cX2_takeIfNew 28 = .ok (.iaload, 1) := by decide +kernel
theorem dX2_takeIfNew_29 : decode cX2_takeIfNew 29 = .ok (.istore_n 3, 1) := by decide +kernel
theorem dX2_takeIfNew_30 : decode cX2_takeIfNew 30 = .ok (.iload_n 2, 1) := by decide +kernel
theorem dX2_takeIfNew_31 : decode cX2_takeIfNew 31 = .ok (.iload_n 3, 1) := by decide +kernel
theorem dX2_takeIfNew_32 : decode cX2_takeIfNew 32 = .ok (.if_icmp .ne 4, 3) := by decide +kernel
theorem dX2_takeIfNew_35 : decode cX2_takeIfNew 35 = .ok (.return_, 1) := by decide +kernel
theorem dX2_takeIfNew_36 : decode cX2_takeIfNew 36 = .ok (.iconst 0, 1) := by decide +kernel
theorem dX2_takeIfNew_37 : decode cX2_takeIfNew 37 = .ok (.istore 4, 2) := by decide +kernel
theorem dX2_takeIfNew_39 : decode cX2_takeIfNew 39 = .ok (.iload 4, 2) := by decide +kernel
theorem dX2_takeIfNew_41 : decode cX2_takeIfNew 41 = .ok (.aload_n 0, 1) := by decide +kernel
theorem dX2_takeIfNew_42 : decode cX2_takeIfNew 42 = .ok (.getfield 27, 3) := by decide +kernel
theorem dX2_takeIfNew_45 : decode cX2_takeIfNew 45 = .ok (.getfield 60, 3) := by decide +kernel
theorem dX2_takeIfNew_48 : decode cX2_takeIfNew 48 = .ok (.if_icmp .ge 30, 3) := by decide +kernel
theorem dX2_takeIfNew_51 : decode cX2_takeIfNew 51 = .ok (.iload_n 2, 1) := by decide +kernel
theorem dX2_takeIfNew_52 : decode cX2_takeIfNew 52 = .ok (.iload_n 3, 1) := by decide +kernel
theorem dX2_takeIfNew_53 : decode cX2_takeIfNew 53 = .ok (.ior, 1) := by decide +kernel
theorem dX2_takeIfNew_54 : decode cX2_takeIfNew 54 = .ok (.iload 4, 2) := by decide +kernel
theorem dX2_takeIfNew_56 : decode cX2_takeIfNew 56 = .ok (.invokestatic 50, 3) := by decide +kernel
theorem dX2_takeIfNew_59 : decode cX2_takeIfNew 59 = .ok (.ifCond .eq 13, 3) := by decide +kernel
theorem dX2_takeIfNew_62 : decode cX2_takeIfNew 62 = .ok (.aload_n 0, 1) := by decide +kernel
theorem dX2_takeIfNew_63 : decode cX2_takeIfNew 63 = .ok (.getfield 23, 3) := by decide +kernel
theorem dX2_takeIfNew_66 : decode cX2_takeIfNew 66 = .ok (.iload 4, 2) := by decide +kernel
theorem dX2_takeIfNew_68 : decode cX2_takeIfNew 68 = .ok (.iload_n 2, 1) := by decide +kernel
theorem dX2_takeIfNew_69 : decode cX2_takeIfNew 69 = .ok (.iload_n 3, 1) := by decide +kernel
theorem dX2_takeIfNew_70 : decode cX2_takeIfNew 70 = .ok (.ior, 1) := by decide +kernel
theorem dX2_takeIfNew_71 : decode cX2_takeIfNew 71 = .ok (.iastore, 1) := by decide +kernel
theorem dX2_takeIfNew_72 : decode cX2_takeIfNew 72 = .ok (.iinc 4 1, 3) := by decide +kernel
theorem dX2_takeIfNew_75 : decode cX2_takeIfNew 75 = .ok (.goto (-36), 3) := by decide +kernel
theorem dX2_takeIfNew_78 : decode cX2_takeIfNew 78 = .ok (.aload_n 0, 1) := by decide +kernel
theorem dX2_takeIfNew_79 : decode cX2_takeIfNew 79 = .ok (.dup, 1) := by decide +kernel
theorem dX2_takeIfNew_80 : decode cX2_takeIfNew 80 = .ok (.getfield 16, 3) := by decide +kernel
theorem dX2_takeIfNew_83 : decode cX2_takeIfNew 83 = .ok (.iconst 1, 1) := by decide +kernel
theorem dX2_takeIfNew_84 : decode cX2_takeIfNew 84 = .ok (.iload_n 1, 1) := by decide +kernel
theorem dX2_takeIfNew_85 : decode cX2_takeIfNew 85 = .ok (.ishl, 1) := by decide +kernel
theorem dX2_takeIfNew_86 : decode cX2_takeIfNew 86 = .ok (.ior, 1) := by decide +kernel
theorem dX2_takeIfNew_87 : decode cX2_takeIfNew 87 = .ok (.putfield 16, 3) := by decide +kernel
theorem dX2_takeIfNew_90 : decode cX2_takeIfNew 90 = .ok (.aload_n 0, 1) := by decide +kernel
theorem dX2_takeIfNew_91 : decode cX2_takeIfNew 91 = .ok (.dup, 1) := by decide +kernel
theorem dX2_takeIfNew_92 : decode cX2_takeIfNew 92 = .ok (.getfield 20, 3) := by decide +kernel
theorem dX2_takeIfNew_95 : decode cX2_takeIfNew 95 = .ok (.aload_n 0, 1) := by decide +kernel
theorem dX2_takeIfNew_96 : decode cX2_takeIfNew 96 = .ok (.getfield 27, 3) := by decide +kernel
theorem dX2_takeIfNew_99 : decode cX2_takeIfNew 99 = .ok (.getfield 74, 3) := by decide +kernel
theorem dX2_takeIfNew_102 : decode cX2_takeIfNew 102 = .ok (.iload_n 1, 1) := by decide +kernel
theorem dX2_takeIfNew_103 : decode cX2_takeIfNew 103 = .ok (.iaload, 1) := by decide +kernel
theorem dX2_takeIfNew_104 : decode cX2_takeIfNew 104 = .ok (.iadd, 1) := by decide +kernel
theorem dX2_takeIfNew_105 : decode cX2_takeIfNew 105 = .ok (.putfield 20, 3) := by decide +kernel
theorem dX2_takeIfNew_108 : decode cX2_takeIfNew 108 = .ok (.return_, 1) := by decide +kernel
theorem dX3_init_0 : decode cX3_init 0 = .ok (.aload_n 0, 1) := by decide +kernel
theorem dX3_init_1 : decode cX3_init 1 = .ok (.invokespecial 3, 3) := by decide +kernel
theorem dX3_init_4 : decode cX3_init 4 = .ok (.aload_n 0, 1) := by decide +kernel
theorem dX3_init_5 : decode cX3_init 5 = .ok (.iconst 0, 1) := by decide +kernel
theorem dX3_init_6 : decode cX3_init 6 = .ok (.putfield 9, 3) := by decide +kernel
theorem dX3_init_9 : decode cX3_init 9 = .ok (.aload_n 0, 1) := by decide +kernel
theorem dX3_init_10 : decode cX3_init 10 = .ok (.bipush 8, 2) := by decide +kernel
theorem dX3_init_12 : decode cX3_init 12 = .ok (.newarray .int, 2) := by decide +kernel
theorem dX3_init_14 : decode cX3_init 14 = .ok (.putfield 15, 3) := by decide +kernel
theorem dX3_init_17 : decode cX3_init 17 = .ok (.aload_n 0, 1) := by decide +kernel
theorem dX3_init_18 : decode cX3_init 18 = .ok (.aload_n 1, 1) := by decide +kernel
theorem dX3_init_19 : decode cX3_init 19 = .ok (.putfield 19, 3) := by decide +kernel
theorem dX3_init_22 : decode cX3_init 22 = .ok (.return_, 1) := by decide +kernel
set_option maxRecDepth 20000 in
theorem ggX3_learn_X3_paintsFrom : GoodIn wsX3_learn wsX3_paintsFrom := goodIn_r _ [7, 1, 8, 9, 10, 11, 12, 13, 14, 15, 16, 17, 18, 19, 20, 21, 22, 23, 24, 25, 26, 27, 6, 28, 3, 4, 5, 29, 30, 31, 32, 33, 34, 35, 36, 37, 38, 39] (by decide +kernel) (by decide +kernel)
set_option maxRecDepth 20000 in
theorem gX3_learn_X3_paintsFrom : GoodIn wsX3_learn (wsV RX3 28 RX3 yX3_paintsFrom wsX3_paintsFrom) := goodIn_app (goodIn_of _ (by decide +kernel)) ggX3_learn_X3_paintsFrom
theorem dX3_learn_0 : decode cX3_learn 0 = .ok (.iconst 0, 1) := by decide +kernel
theorem dX3_learn_1 : decode cX3_learn 1 = .ok (.istore_n 1, 1) := by decide +kernel
theorem dX3_learn_2 : decode cX3_learn 2 = .ok (.iload_n 1, 1) := by decide +kernel
theorem dX3_learn_3 : decode cX3_learn 3 = .ok (.aload_n 0, 1) := by decide +kernel
theorem dX3_learn_4 : decode cX3_learn 4 = .ok (.getfield 19, 3) := by decide +kernel
theorem dX3_learn_7 : decode cX3_learn 7 = .ok (.getfield 23, 3) := by decide +kernel
theorem dX3_learn_10 : decode cX3_learn 10 = .ok (.if_icmp .gt 25, 3) := by decide +kernel
theorem dX3_learn_13 : decode cX3_learn 13 = .ok (.aload_n 0, 1) := by decide +kernel
theorem dX3_learn_14 : decode cX3_learn 14 = .ok (.iconst 0, 1) := by decide +kernel
theorem dX3_learn_15 : decode cX3_learn 15 = .ok (.iconst 0, 1) := by decide +kernel
theorem dX3_learn_16 : decode cX3_learn 16 = .ok (.iload_n 1, 1) := by decide +kernel
theorem dX3_learn_17 : decode cX3_learn 17 = .ok (.invokevirtual 28, 3) := by decide +kernel
theorem dX3_learn_20 : decode cX3_learn 20 = .ok (.ifCond .eq 9, 3) := by decide +kernel
theorem dX3_learn_23 : decode cX3_learn 23 = .ok (.aload_n 0, 1) := by decide +kernel
theorem dX3_learn_24 : decode cX3_learn 24 = .ok (.iload_n 1, 1) := by decide +kernel
theorem dX3_learn_25 : decode cX3_learn 25 = .ok (.putfield 9, 3) := by decide +kernel
theorem dX3_learn_28 : decode cX3_learn 28 = .ok (.return_, 1) := by decide +kernel
theorem dX3_learn_29 : decode cX3_learn 29 = .ok (.iinc 1 1, 3) := by decide +kernel
theorem dX3_learn_32 : decode cX3_learn 32 = .ok (.goto (-30), 3) := by decide +kernel
theorem dX3_learn_35 : decode cX3_learn 35 = .ok (.return_, 1) := by decide +kernel
set_option maxRecDepth 20000 in
theorem ggX3_paintsFrom_X5_linkedWith : GoodIn wsX3_paintsFrom wsX5_linkedWith := goodIn_r _ [11, 12, 13, 14, 15, 16, 17, 18, 30, 31, 32, 33, 34, 35, 36, 37] (by decide +kernel) (by decide +kernel)
set_option maxRecDepth 20000 in
theorem gX3_paintsFrom_X5_linkedWith : GoodIn wsX3_paintsFrom (wsV RX3 32 RX5 yX5_linkedWith wsX5_linkedWith) := goodIn_app (goodIn_of _ (by decide +kernel)) ggX3_paintsFrom_X5_linkedWith
set_option maxRecDepth 20000 in
theorem ggX3_paintsFrom_X3_isFree : GoodIn wsX3_paintsFrom wsX3_isFree := goodIn_r _ [23, 2, 16, 17, 18, 27, 28, 29] (by decide +kernel) (by decide +kernel)
set_option maxRecDepth 20000 in
theorem gX3_paintsFrom_X3_isFree : GoodIn wsX3_paintsFrom (wsV RX3 36 RX3 yX3_isFree wsX3_isFree) := goodIn_app (goodIn_of _ (by decide +kernel)) ggX3_paintsFrom_X3_isFree
set_option maxRecDepth 20000 in
theorem ggX3_paintsFrom_X3_paintsFrom : GoodIn wsX3_paintsFrom wsX3_paintsFrom := goodIn_r _ [0, 1, 2, 3, 4, 5, 6, 7, 8, 9, 10, 11, 12, 13, 14, 15, 16, 17, 18, 19, 20, 21, 22, 23, 24, 25, 26, 27, 28, 29, 30, 31, 32, 33, 34, 35, 36, 37] (by decide +kernel) (by decide +kernel)
set_option maxRecDepth 20000 in
theorem gX3_paintsFrom_X3_paintsFrom : GoodIn wsX3_paintsFrom (wsV RX3 28 RX3 yX3_paintsFrom wsX3_paintsFrom) := goodIn_app (goodIn_of _ (by decide +kernel)) ggX3_paintsFrom_X3_paintsFrom
theorem dX3_paintsFrom_0 : decode cX3_paintsFrom 0 = .ok (.iload_n 1, 1) := by decide +kernel
theorem dX3_paintsFrom_1 : decode cX3_paintsFrom 1 = .ok (.aload_n 0, 1) := by decide +kernel
theorem dX3_paintsFrom_2 : decode cX3_paintsFrom 2 = .ok (.getfield 19, 3) := by decide +kernel
theorem dX3_paintsFrom_5 : decode cX3_paintsFrom 5 = .ok (.getfield 23, 3) := by decide +kernel
theorem dX3_paintsFrom_8 : decode cX3_paintsFrom 8 = .ok (.if_icmp .lt 5, 3) := by decide +kernel
theorem dX3_paintsFrom_11 : decode cX3_paintsFrom 11 = .ok (.iconst 1, 1) := by decide +kernel
theorem dX3_paintsFrom_12 : decode cX3_paintsFrom 12 = .ok (.ireturn, 1) := by decide +kernel
theorem dX3_paintsFrom_13 : decode cX3_paintsFrom 13 = .ok (.aload_n 0, 1) := by decide +kernel
theorem dX3_paintsFrom_14 : decode cX3_paintsFrom 14 = .ok (.getfield 19, 3) := by decide +kernel
theorem dX3_paintsFrom_17 : decode cX3_paintsFrom 17 = .ok (.iload_n 1, 1) := by decide +kernel
theorem dX3_paintsFrom_18 : decode cX3_paintsFrom 18 = .ok (.invokevirtual 32, 3) := by decide +kernel
theorem dX3_paintsFrom_21 : decode cX3_paintsFrom 21 = .ok (.istore 4, 2) := by decide +kernel
theorem dX3_paintsFrom_23 : decode cX3_paintsFrom 23 = .ok (.iconst 0, 1) := by decide +kernel
theorem dX3_paintsFrom_24 : decode cX3_paintsFrom 24 = .ok (.istore 5, 2) := by decide +kernel
theorem dX3_paintsFrom_26 : decode cX3_paintsFrom 26 = .ok (.iload 5, 2) := by decide +kernel
theorem dX3_paintsFrom_28 : decode cX3_paintsFrom 28 = .ok (.iload_n 2, 1) := by decide +kernel
theorem dX3_paintsFrom_29 : decode cX3_paintsFrom 29 = .ok (.if_icmp .gt 56, 3) := by decide +kernel
theorem dX3_paintsFrom_32 : decode cX3_paintsFrom 32 = .ok (.iload 5, 2) := by decide +kernel
end
section
theorem dX3_paintsFrom_34 : decode cX3_paintsFrom 34 = .ok (.iload_n 3, 1) := by decide +kernel
theorem dX3_paintsFrom_35 : decode cX3_paintsFrom 35 = .ok (.if_icmp .ge 50, 3) := by decide +kernel
theorem dX3_paintsFrom_38 : decode cX3_paintsFrom 38 = .ok (.aload_n 0, 1) := by decide +kernel
theorem dX3_paintsFrom_39 : decode cX3_paintsFrom 39 = .ok (.iload_n 1, 1) := by decide +kernel
theorem dX3_paintsFrom_40 : decode cX3_paintsFrom 40 = .ok (.iload 5, 2) := by decide +kernel
theorem dX3_paintsFrom_42 : decode cX3_paintsFrom 42 = .ok (.iload 4, 2) := by decide +kernel
theorem dX3_paintsFrom_44 : decode cX3_paintsFrom 44 = .ok (.invokevirtual 36, 3) := by decide +kernel
theorem dX3_paintsFrom_47 : decode cX3_paintsFrom 47 = .ok (.ifCond .eq 32, 3) := by decide +kernel
theorem dX3_paintsFrom_50 : decode cX3_paintsFrom 50 = .ok (.aload_n 0, 1) := by decide +kernel
theorem dX3_paintsFrom_51 : decode cX3_paintsFrom 51 = .ok (.getfield 15, 3) := by decide +kernel
theorem dX3_paintsFrom_54 : decode cX3_paintsFrom 54 = .ok (.iload_n 1, 1) := by decide +kernel
theorem dX3_paintsFrom_55 : decode cX3_paintsFrom 55 = .ok (.iload 5, 2) := by decide +kernel
theorem dX3_paintsFrom_57 : decode cX3_paintsFrom 57 = .ok (.iastore, 1) := by decide +kernel
theorem dX3_paintsFrom_58 : decode cX3_paintsFrom 58 = .ok (.aload_n 0, 1) := by decide +kernel
theorem dX3_paintsFrom_59 : decode cX3_paintsFrom 59 = .ok (.iload_n 1, 1) := by decide +kernel
theorem dX3_paintsFrom_60 : decode cX3_paintsFrom 60 = .ok (.iconst 1, 1) := by decide +kernel
theorem dX3_paintsFrom_61 : decode cX3_paintsFrom 61 = .ok (.iadd, 1) := by decide +kernel
theorem dX3_paintsFrom_62 : decode cX3_paintsFrom 62 = .ok (.iload_n 2, 1) := by decide +kernel
theorem dX3_paintsFrom_63 : decode cX3_paintsFrom 63 = .ok (.iload 5, 2) := by decide +kernel
theorem dX3_paintsFrom_65 : decode cX3_paintsFrom 65 = .ok (.iconst 1, 1) := by decide +kernel
theorem dX3_paintsFrom_66 : decode cX3_paintsFrom 66 = .ok (.iadd, 1) := by decide +kernel
theorem dX3_paintsFrom_67 : decode cX3_paintsFrom 67 = .ok (.invokestatic 39, 3) := by decide +kernel
theorem dX3_paintsFrom_70 : decode cX3_paintsFrom 70 = .ok (.iload_n 3, 1) := by decide +kernel
theorem dX3_paintsFrom_71 : decode cX3_paintsFrom 71 = .ok (.invokevirtual 28, 3) := by decide +kernel
theorem dX3_paintsFrom_74 : decode cX3_paintsFrom 74 = .ok (.ifCond .eq 5, 3) := by decide +kernel
theorem dX3_paintsFrom_77 : decode cX3_paintsFrom 77 = .ok (.iconst 1, 1) := by decide +kernel
theorem dX3_paintsFrom_78 : decode cX3_paintsFrom 78 = .ok (.ireturn, 1) := by decide +kernel
theorem dX3_paintsFrom_79 : decode cX3_paintsFrom 79 = .ok (.iinc 5 1, 3) := by decide +kernel
theorem dX3_paintsFrom_82 : decode cX3_paintsFrom 82 = .ok (.goto (-56), 3) := by decide +kernel
theorem dX3_paintsFrom_85 : decode cX3_paintsFrom 85 = .ok (.iconst 0, 1) := by decide +kernel
theorem dX3_paintsFrom_86 : decode cX3_paintsFrom 86 = .ok (.ireturn, 1) := by decide +kernel
set_option maxRecDepth 20000 in
theorem ggX3_isFree_X6_has : GoodIn wsX3_isFree wsX6_has := goodIn_r _ [4] (by decide +kernel) (by decide +kernel)
set_option maxRecDepth 20000 in
theorem gX3_isFree_X6_has_n45 : GoodIn wsX3_isFree (wsX6_has) := ggX3_isFree_X6_has
theorem dX3_isFree_0 : decode cX3_isFree 0 = .ok (.iconst 0, 1) := by decide +kernel
theorem dX3_isFree_1 : decode cX3_isFree 1 = .ok (.istore 4, 2) := by decide +kernel
theorem dX3_isFree_3 : decode cX3_isFree 3 = .ok (.iload 4, 2) := by decide +kernel
theorem dX3_isFree_5 : decode cX3_isFree 5 = .ok (.iload_n 1, 1) := by decide +kernel
theorem dX3_isFree_6 : decode cX3_isFree 6 = .ok (.if_icmp .ge 31, 3) := by decide +kernel
theorem dX3_isFree_9 : decode cX3_isFree 9 = .ok (.iload_n 3, 1) := by decide +kernel
theorem dX3_isFree_10 : decode cX3_isFree 10 = .ok (.iload 4, 2) := by decide +kernel
theorem dX3_isFree_12 : decode cX3_isFree 12 = .ok (.invokestatic 45, 3) := by decide +kernel
theorem dX3_isFree_15 : decode cX3_isFree 15 = .ok (.ifCond .eq 16, 3) := by decide +kernel
theorem dX3_isFree_18 : decode cX3_isFree 18 = .ok (.aload_n 0, 1) := by decide +kernel
theorem dX3_isFree_19 : decode cX3_isFree 19 = .ok (.getfield 15, 3) := by decide +kernel
theorem dX3_isFree_22 : decode cX3_isFree 22 = .ok (.iload 4, 2) := by decide +kernel
theorem dX3_isFree_24 : decode cX3_isFree 24 = .ok (.iaload, 1) := by decide +kernel
theorem dX3_isFree_25 : decode cX3_isFree 25 = .ok (.iload_n 2, 1) := by decide +kernel
theorem dX3_isFree_26 : decode cX3_isFree 26 = .ok (.if_icmp .ne 5, 3) := by decide +kernel
theorem dX3_isFree_29 : decode cX3_isFree 29 = .ok (.iconst 0, 1) := by decide +kernel
theorem dX3_isFree_30 : decode cX3_isFree 30 = .ok (.ireturn, 1) := by decide +kernel
theorem dX3_isFree_31 : decode cX3_isFree 31 = .ok (.iinc 4 1, 3) := by decide +kernel
theorem dX3_isFree_34 : decode cX3_isFree 34 = .ok (.goto (-31), 3) := by decide +kernel
theorem dX3_isFree_37 : decode cX3_isFree 37 = .ok (.iconst 1, 1) := by decide +kernel
theorem dX3_isFree_38 : decode cX3_isFree 38 = .ok (.ireturn, 1) := by decide +kernel
theorem dX4_init_0 : decode cX4_init 0 = .ok (.aload_n 0, 1) := by decide +kernel
theorem dX4_init_1 : decode cX4_init 1 = .ok (.invokespecial 3, 3) := by decide +kernel
theorem dX4_init_4 : decode cX4_init 4 = .ok (.aload_n 0, 1) := by decide +kernel
theorem dX4_init_5 : decode cX4_init 5 = .ok (.bipush 16, 2) := by decide +kernel
theorem dX4_init_7 : decode cX4_init 7 = .ok (.bipush 16, 2) := by decide +kernel
theorem dX4_init_9 : decode cX4_init 9 = .ok (.multianewarray 11 2, 4) := by decide +kernel
theorem dX4_init_13 : decode cX4_init 13 = .ok (.putfield 13, 3) := by decide +kernel
theorem dX4_init_16 : decode cX4_init 16 = .ok (.aload_n 0, 1) := by decide +kernel
theorem dX4_init_17 : decode cX4_init 17 = .ok (.bipush 16, 2) := by decide +kernel
theorem dX4_init_19 : decode cX4_init 19 = .ok (.newarray .int, 2) := by decide +kernel
theorem dX4_init_21 : decode cX4_init 21 = .ok (.putfield 16, 3) := by decide +kernel
theorem dX4_init_24 : decode cX4_init 24 = .ok (.aload_n 0, 1) := by decide +kernel
theorem dX4_init_25 : decode cX4_init 25 = .ok (.bipush 16, 2) := by decide +kernel
theorem dX4_init_27 : decode cX4_init 27 = .ok (.newarray .int, 2) := by decide +kernel
theorem dX4_init_29 : decode cX4_init 29 = .ok (.putfield 20, 3) := by decide +kernel
theorem dX4_init_32 : decode cX4_init 32 = .ok (.aload_n 0, 1) := by decide +kernel
theorem dX4_init_33 : decode cX4_init 33 = .ok (.aload_n 1, 1) := by decide +kernel
theorem dX4_init_34 : decode cX4_init 34 = .ok (.putfield 23, 3) := by decide +kernel
theorem dX4_init_37 : decode cX4_init 37 = .ok (.return_, 1) := by decide +kernel
set_option maxRecDepth 20000 in
theorem ggX4_countWays_X4_clearRoom : GoodIn wsX4_countWays wsX4_clearRoom := goodIn_r _ [7, 2, 25, 26, 27, 28] (by decide +kernel) (by decide +kernel)
set_option maxRecDepth 20000 in
theorem gX4_countWays_X4_clearRoom : GoodIn wsX4_countWays (wsV RX4 27 RX4 yX4_clearRoom wsX4_clearRoom) := goodIn_app (goodIn_of _ (by decide +kernel)) ggX4_countWays_X4_clearRoom
set_option maxRecDepth 20000 in
theorem ggX4_countWays_X6_has : GoodIn wsX4_countWays wsX6_has := goodIn_r _ [10] (by decide +kernel) (by decide +kernel)
set_option maxRecDepth 20000 in
theorem gX4_countWays_X6_has_n42 : GoodIn wsX4_countWays (wsX6_has) := ggX4_countWays_X6_has
set_option maxRecDepth 20000 in
theorem ggX4_countWays_X4_countFlow : GoodIn wsX4_countWays wsX4_countFlow := goodIn_r _ [14, 15, 16, 17, 6, 18, 19, 20, 2, 21, 22, 23, 24, 25, 26, 27, 28] (by decide +kernel) (by decide +kernel)
set_option maxRecDepth 20000 in
theorem gX4_countWays_X4_countFlow : GoodIn wsX4_countWays (wsV RX4 52 RX4 yX4_countFlow wsX4_countFlow) := goodIn_app (goodIn_of _ (by decide +kernel)) ggX4_countWays_X4_countFlow
theorem dX4_countWays_0 : decode cX4_countWays 0 = .ok (.aload_n 0, 1) := by decide +kernel
theorem dX4_countWays_1 : decode cX4_countWays 1 = .ok (.invokevirtual 27, 3) := by decide +kernel
theorem dX4_countWays_4 : decode cX4_countWays 4 = .ok (.iconst 0, 1) := by decide +kernel
theorem dX4_countWays_5 : decode cX4_countWays 5 = .ok (.istore_n 3, 1) := by decide +kernel
theorem dX4_countWays_6 : decode cX4_countWays 6 = .ok (.iload_n 3, 1) := by decide +kernel
theorem dX4_countWays_7 : decode cX4_countWays 7 = .ok (.aload_n 0, 1) := by decide +kernel
theorem dX4_countWays_8 : decode cX4_countWays 8 = .ok (.getfield 23, 3) := by decide +kernel
theorem dX4_countWays_11 : decode cX4_countWays 11 = .ok (.getfield 30, 3) := by decide +kernel
theorem dX4_countWays_14 : decode cX4_countWays 14 = .ok (.if_icmp .ge 48, 3) := by decide +kernel
theorem dX4_countWays_17 : decode cX4_countWays 17 = .ok (.iload_n 3, 1) := by decide +kernel
theorem dX4_countWays_18 : decode cX4_countWays 18 = .ok (.iload_n 1, 1) := by decide +kernel
theorem dX4_countWays_19 : decode cX4_countWays 19 = .ok (.if_icmp .eq 8, 3) := by decide +kernel
theorem dX4_countWays_22 : decode cX4_countWays 22 = .ok (.iload_n 3, 1) := by decide +kernel
theorem dX4_countWays_23 : decode cX4_countWays 23 = .ok (.iload_n 2, 1) := by decide +kernel
theorem dX4_countWays_24 : decode cX4_countWays 24 = .ok (.if_icmp .ne 7, 3) := by decide +kernel
theorem dX4_countWays_27 : decode cX4_countWays 27 = .ok (.iconst 1, 1) := by decide +kernel
theorem dX4_countWays_28 : decode cX4_countWays 28 = .ok (.goto 4, 3) := by decide +kernel
theorem dX4_countWays_31 : decode cX4_countWays 31 = .ok (.iconst 0, 1) := by decide +kernel
theorem dX4_countWays_32 : decode cX4_countWays 32 = .ok (.istore 4, 2) := by decide +kernel
theorem dX4_countWays_34 : decode cX4_countWays 34 = .ok (.aload_n 0, 1) := by decide +kernel
theorem dX4_countWays_35 : decode cX4_countWays 35 = .ok (.getfield 13, 3) := by decide +kernel
theorem dX4_countWays_38 : decode cX4_countWays 38 = .ok (.iload_n 3, 1) := by decide +kernel
theorem dX4_countWays_39 : decode cX4_countWays 39 = .ok (.aaload, 1) := by decide +kernel
theorem dX4_countWays_40 : decode cX4_countWays 40 = .ok (.iload_n 3, 1) := by decide +kernel
theorem dX4_countWays_41 : decode cX4_countWays 41 = .ok (.bipush 8, 2) := by decide +kernel
theorem dX4_countWays_43 : decode cX4_countWays 43 = .ok (.iadd, 1) := by decide +kernel
theorem dX4_countWays_44 : decode cX4_countWays 44 = .ok (.iload 4, 2) := by decide +kernel
theorem dX4_countWays_46 : decode cX4_countWays 46 = .ok (.ifCond .eq 8, 3) := by decide +kernel
theorem dX4_countWays_49 : decode cX4_countWays 49 = .ok (.bipush 17, 2) := by decide +kernel
theorem dX4_countWays_51 : decode cX4_countWays 51 = .ok (.goto 4, 3) := by decide +kernel
theorem dX4_countWays_54 : decode cX4_countWays 54 = .ok (.iconst 1, 1) := by decide +kernel
theorem dX4_countWays_55 : decode cX4_countWays 55 = .ok (.iastore, 1) := by decide +kernel
theorem dX4_countWays_56 : decode cX4_countWays 56 = .ok (.iinc 3 1, 3) := by decide +kernel
theorem dX4_countWays_59 : decode cX4_countWays 59 = .ok (.goto (-53), 3) := by decide +kernel
theorem dX4_countWays_62 : decode cX4_countWays 62 = .ok (.iconst 0, 1) := by decide +kernel
theorem dX4_countWays_63 : decode cX4_countWays 63 = .ok (.istore_n 3, 1) := by decide +kernel
theorem dX4_countWays_64 : decode cX4_countWays 64 = .ok (.iload_n 3, 1) := by decide +kernel
theorem dX4_countWays_65 : decode cX4_countWays 65 = .ok (.aload_n 0, 1) := by decide +kernel
theorem dX4_countWays_66 : decode cX4_countWays 66 = .ok (.getfield 23, 3) := by decide +kernel
theorem dX4_countWays_69 : decode cX4_countWays 69 = .ok (.getfield 36, 3) := by decide +kernel
theorem dX4_countWays_72 : decode cX4_countWays 72 = .ok (.if_icmp .ge 85, 3) := by decide +kernel
theorem dX4_countWays_75 : decode cX4_countWays 75 = .ok (.aload_n 0, 1) := by decide +kernel
theorem dX4_countWays_76 : decode cX4_countWays 76 = .ok (.getfield 23, 3) := by decide +kernel
theorem dX4_countWays_79 : decode cX4_countWays 79 = .ok (.getfield 39, 3) := by decide +kernel
theorem dX4_countWays_82 : decode cX4_countWays 82 = .ok (.iload_n 3, 1) := by decide +kernel
theorem dX4_countWays_83 : decode cX4_countWays 83 = .ok (.invokestatic 42, 3) := by decide +kernel
theorem dX4_countWays_86 : decode cX4_countWays 86 = .ok (.ifCond .eq 65, 3) := by decide +kernel
theorem dX4_countWays_89 : decode cX4_countWays 89 = .ok (.aload_n 0, 1) := by decide +kernel
theorem dX4_countWays_90 : decode cX4_countWays 90 = .ok (.getfield 13, 3) := by decide +kernel
theorem dX4_countWays_93 : decode cX4_countWays 93 = .ok (.aload_n 0, 1) := by decide +kernel
theorem dX4_countWays_94 : decode cX4_countWays 94 = .ok (.getfield 23, 3) := by decide +kernel
theorem dX4_countWays_97 : decode cX4_countWays 97 = .ok (.getfield 46, 3) := by decide +kernel
theorem dX4_countWays_100 : decode cX4_countWays 100 = .ok (.iload_n 3, 1) := by decide +kernel
theorem dX4_countWays_101 : decode cX4_countWays 101 = .ok (.iaload, 1) := by decide +kernel
theorem dX4_countWays_102 : decode cX4_countWays 102 = .ok (.bipush 8, 2) := by decide +kernel
theorem dX4_countWays_104 : decode cX4_countWays 104 = .ok (.iadd, 1) := by decide +kernel
theorem dX4_countWays_105 : decode cX4_countWays 105 = .ok (.aaload, 1) := by decide +kernel
theorem dX4_countWays_106 : decode cX4_countWays 106 = .ok (.aload_n 0, 1) := by decide +kernel
theorem dX4_countWays_107 : decode cX4_countWays 107 = .ok (.getfield 23, 3) := by decide +kernel
theorem dX4_countWays_110 : decode cX4_countWays 110 = .ok (.getfield 49, 3) := by decide +kernel
theorem dX4_countWays_113 : decode cX4_countWays 113 = .ok (.iload_n 3, 1) := by decide +kernel
theorem dX4_countWays_114 : decode cX4_countWays 114 = .ok (.iaload, 1) := by decide +kernel
theorem dX4_countWays_115 : decode cX4_countWays 115 = .ok (.dup2, 1) := by decide +kernel
theorem dX4_countWays_116 : decode cX4_countWays 116 = .ok (.iaload, 1) := by decide +kernel
theorem dX4_countWays_117 : decode cX4_countWays 117 = .ok (.iconst 1, 1) := by decide +kernel
theorem dX4_countWays_118 : decode cX4_countWays 118 = .ok (.iadd, 1) := by decide +kernel
theorem dX4_countWays_119 : decode cX4_countWays 119 = .ok (.iastore, 1) := by decide +kernel
theorem dX4_countWays_120 : decode cX4_countWays 120 = .ok (.aload_n 0, 1) := by decide +kernel
theorem dX4_countWays_121 : decode cX4_countWays 121 = .ok (.getfield 13, 3) := by decide +kernel
theorem dX4_countWays_124 : decode cX4_countWays 124 = .ok (.aload_n 0, 1) := by decide +kernel
theorem dX4_countWays_125 : decode cX4_countWays 125 = .ok (.getfield 23, 3) := by decide +kernel
theorem dX4_countWays_128 : decode cX4_countWays 128 = .ok (.getfield 49, 3) := by decide +kernel
theorem dX4_countWays_131 : decode cX4_countWays 131 = .ok (.iload_n 3, 1) := by decide +kernel
theorem dX4_countWays_132 : decode cX4_countWays 132 = .ok (.iaload, 1) := by decide +kernel
theorem dX4_countWays_133 : decode cX4_countWays 133 = .ok (.bipush 8, 2) := by decide +kernel
theorem dX4_countWays_135 : decode cX4_countWays 135 = .ok (.iadd, 1) := by decide +kernel
theorem dX4_countWays_136 : decode cX4_countWays 136 = .ok (.aaload, 1) := by decide +kernel
theorem dX4_countWays_137 : decode cX4_countWays 137 = .ok (.aload_n 0, 1) := by decide +kernel
theorem dX4_countWays_138 : decode cX4_countWays 138 = .ok (.getfield 23, 3) := by decide +kernel
theorem dX4_countWays_141 : decode cX4_countWays 141 = .ok (.getfield 46, 3) := by decide +kernel
theorem dX4_countWays_144 : decode cX4_countWays 144 = .ok (.iload_n 3, 1) := by decide +kernel
theorem dX4_countWays_145 : decode cX4_countWays 145 = .ok (.iaload, 1) := by decide +kernel
theorem dX4_countWays_146 : decode cX4_countWays 146 = .ok (.dup2, 1) := by decide +kernel
theorem dX4_countWays_147 : decode cX4_countWays 147 = .ok (.iaload, 1) := by decide +kernel
theorem dX4_countWays_148 : decode cX4_countWays 148 = .ok (.iconst 1, 1) := by decide +kernel
theorem dX4_countWays_149 : decode cX4_countWays 149 = .ok (.iadd, 1) := by decide +kernel
theorem dX4_countWays_150 : decode cX4_countWays 150 = .ok (.iastore, 1) := by decide +kernel
theorem dX4_countWays_151 : decode cX4_countWays 151 = .ok (.iinc 3 1, 3) := by decide +kernel
theorem dX4_countWays_154 : decode cX4_countWays 154 = .ok (.goto (-90), 3) := by decide +kernel
theorem dX4_countWays_157 : decode cX4_countWays 157 = .ok (.aload_n 0, 1) := by decide +kernel
theorem dX4_countWays_158 : decode cX4_countWays 158 = .ok (.iload_n 1, 1) := by decide +kernel
theorem dX4_countWays_159 : decode cX4_countWays 159 = .ok (.iload_n 2, 1) := by decide +kernel
theorem dX4_countWays_160 : decode cX4_countWays 160 = .ok (.invokevirtual 52, 3) := by decide +kernel
theorem dX4_countWays_163 : decode cX4_countWays 163 = .ok (.ireturn, 1) := by decide +kernel
set_option maxRecDepth 20000 in
theorem ggX4_countLineWays_X4_clearRoom : GoodIn wsX4_countLineWays wsX4_clearRoom := goodIn_r _ [7, 2, 25, 26, 27, 28] (by decide +kernel) (by decide +kernel)
set_option maxRecDepth 20000 in
theorem gX4_countLineWays_X4_clearRoom : GoodIn wsX4_countLineWays (wsV RX4 27 RX4 yX4_clearRoom wsX4_clearRoom) := goodIn_app (goodIn_of _ (by decide +kernel)) ggX4_countLineWays_X4_clearRoom
set_option maxRecDepth 20000 in
theorem ggX4_countLineWays_X6_has : GoodIn wsX4_countLineWays wsX6_has := goodIn_r _ [10] (by decide +kernel) (by decide +kernel)
set_option maxRecDepth 20000 in
theorem gX4_countLineWays_X6_has_n42 : GoodIn wsX4_countLineWays (wsX6_has) := ggX4_countLineWays_X6_has
set_option maxRecDepth 20000 in
theorem ggX4_countLineWays_X4_countFlow : GoodIn wsX4_countLineWays wsX4_countFlow := goodIn_r _ [14, 15, 16, 17, 6, 18, 19, 20, 2, 21, 22, 23, 24, 25, 26, 27, 28] (by decide +kernel) (by decide +kernel)
set_option maxRecDepth 20000 in
theorem gX4_countLineWays_X4_countFlow : GoodIn wsX4_countLineWays (wsV RX4 52 RX4 yX4_countFlow wsX4_countFlow) := goodIn_app (goodIn_of _ (by decide +kernel)) ggX4_countLineWays_X4_countFlow
theorem dX4_countLineWays_0 : decode cX4_countLineWays 0 = .ok (.aload_n 0, 1) := by decide +kernel
theorem dX4_countLineWays_1 : decode cX4_countLineWays 1 = .ok (.invokevirtual 27, 3) := by decide +kernel
theorem dX4_countLineWays_4 : decode cX4_countLineWays 4 = .ok (.iconst 0, 1) := by decide +kernel
theorem dX4_countLineWays_5 : decode cX4_countLineWays 5 = .ok (.istore_n 3, 1) := by decide +kernel
theorem dX4_countLineWays_6 : decode cX4_countLineWays 6 = .ok (.iload_n 3, 1) := by decide +kernel
theorem dX4_countLineWays_7 : decode cX4_countLineWays 7 = .ok (.aload_n 0, 1) := by decide +kernel
theorem dX4_countLineWays_8 : decode cX4_countLineWays 8 = .ok (.getfield 23, 3) := by decide +kernel
theorem dX4_countLineWays_11 : decode cX4_countLineWays 11 = .ok (.getfield 36, 3) := by decide +kernel
theorem dX4_countLineWays_14 : decode cX4_countLineWays 14 = .ok (.if_icmp .ge 79, 3) := by decide +kernel
theorem dX4_countLineWays_17 : decode cX4_countLineWays 17 = .ok (.aload_n 0, 1) := by decide +kernel
theorem dX4_countLineWays_18 : decode cX4_countLineWays 18 = .ok (.getfield 23, 3) := by decide +kernel
theorem dX4_countLineWays_21 : decode cX4_countLineWays 21 = .ok (.getfield 39, 3) := by decide +kernel
theorem dX4_countLineWays_24 : decode cX4_countLineWays 24 = .ok (.iload_n 3, 1) := by decide +kernel
theorem dX4_countLineWays_25 : decode cX4_countLineWays 25 = .ok (.invokestatic 42, 3) := by decide +kernel
theorem dX4_countLineWays_28 : decode cX4_countLineWays 28 = .ok (.ifCond .eq 59, 3) := by decide +kernel
theorem dX4_countLineWays_31 : decode cX4_countLineWays 31 = .ok (.aload_n 0, 1) := by decide +kernel
theorem dX4_countLineWays_32 : decode cX4_countLineWays 32 = .ok (.getfield 13, 3) := by decide +kernel
theorem dX4_countLineWays_35 : decode cX4_countLineWays 35 = .ok (.aload_n 0, 1) := by decide +kernel
theorem dX4_countLineWays_36 : decode cX4_countLineWays 36 = .ok (.getfield 23, 3) := by decide +kernel
theorem dX4_countLineWays_39 : decode cX4_countLineWays 39 = .ok (.getfield 46, 3) := by decide +kernel
theorem dX4_countLineWays_42 : decode cX4_countLineWays 42 = .ok (.iload_n 3, 1) := by decide +kernel
theorem dX4_countLineWays_43 : decode cX4_countLineWays 43 = .ok (.iaload, 1) := by decide +kernel
theorem dX4_countLineWays_44 : decode cX4_countLineWays 44 = .ok (.aaload, 1) := by decide +kernel
theorem dX4_countLineWays_45 : decode cX4_countLineWays 45 = .ok (.aload_n 0, 1) := by decide +kernel
theorem dX4_countLineWays_46 : decode cX4_countLineWays 46 = .ok (.getfield 23, 3) := by decide +kernel
theorem dX4_countLineWays_49 : decode cX4_countLineWays 49 = .ok (.getfield 49, 3) := by decide +kernel
theorem dX4_countLineWays_52 : decode cX4_countLineWays 52 = .ok (.iload_n 3, 1) := by decide +kernel
theorem dX4_countLineWays_53 : decode cX4_countLineWays 53 = .ok (.iaload, 1) := by decide +kernel
theorem dX4_countLineWays_54 : decode cX4_countLineWays 54 = .ok (.dup2, 1) := by decide +kernel
theorem dX4_countLineWays_55 : decode cX4_countLineWays 55 = .ok (.iaload, 1) := by decide +kernel
theorem dX4_countLineWays_56 : decode cX4_countLineWays 56 = .ok (.iconst 1, 1) := by decide +kernel
theorem dX4_countLineWays_57 : decode cX4_countLineWays 57 = .ok (.iadd, 1) := by decide +kernel
theorem dX4_countLineWays_58 : decode cX4_countLineWays 58 = .ok (.iastore, 1) := by decide +kernel
theorem dX4_countLineWays_59 : decode cX4_countLineWays 59 = .ok (.aload_n 0, 1) := by decide +kernel
theorem dX4_countLineWays_60 : decode cX4_countLineWays 60 = .ok (.getfield 13, 3) := by decide +kernel
theorem dX4_countLineWays_63 : decode cX4_countLineWays 63 = .ok (.aload_n 0, 1) := by decide +kernel
theorem dX4_countLineWays_64 : decode cX4_countLineWays 64 = .ok (.getfield 23, 3) := by decide +kernel
theorem dX4_countLineWays_67 : decode cX4_countLineWays 67 = .ok (.getfield 49, 3) := by decide +kernel
theorem dX4_countLineWays_70 : decode cX4_countLineWays 70 = .ok (.iload_n 3, 1) := by decide +kernel
theorem dX4_countLineWays_71 : decode cX4_countLineWays 71 = .ok (.iaload, 1) := by decide +kernel
theorem dX4_countLineWays_72 : decode cX4_countLineWays 72 = .ok (.aaload, 1) := by decide +kernel
theorem dX4_countLineWays_73 : decode cX4_countLineWays 73 = .ok (.aload_n 0, 1) := by decide +kernel
theorem dX4_countLineWays_74 : decode cX4_countLineWays 74 = .ok (.getfield 23, 3) := by decide +kernel
theorem dX4_countLineWays_77 : decode cX4_countLineWays 77 = .ok (.getfield 46, 3) := by decide +kernel
theorem dX4_countLineWays_80 : decode cX4_countLineWays 80 = .ok (.iload_n 3, 1) := by decide +kernel
theorem dX4_countLineWays_81 : decode cX4_countLineWays 81 = .ok (.iaload, 1) := by decide +kernel
theorem dX4_countLineWays_82 : decode cX4_countLineWays 82 = .ok (.dup2, 1) := by decide +kernel
theorem dX4_countLineWays_83 : decode cX4_countLineWays 83 = .ok (.iaload, 1) := by decide +kernel
theorem dX4_countLineWays_84 : decode cX4_countLineWays 84 = .ok (.iconst 1, 1) := by decide +kernel
theorem dX4_countLineWays_85 : decode cX4_countLineWays 85 = .ok (.iadd, 1) := by decide +kernel
theorem dX4_countLineWays_86 : decode cX4_countLineWays 86 = .ok (.iastore, 1) := by decide +kernel
theorem dX4_countLineWays_87 : decode cX4_countLineWays 87 = .ok (.iinc 3 1, 3) := by decide +kernel
theorem dX4_countLineWays_90 : decode cX4_countLineWays 90 = .ok (.goto (-84), 3) := by decide +kernel
theorem dX4_countLineWays_93 : decode cX4_countLineWays 93 = .ok (.aload_n 0, 1) := by decide +kernel
theorem dX4_countLineWays_94 : decode cX4_countLineWays 94 = .ok (.iload_n 1, 1) := by decide +kernel
theorem dX4_countLineWays_95 : decode cX4_countLineWays 95 = .ok (.iload_n 2, 1) := by decide +kernel
theorem dX4_countLineWays_96 : decode cX4_countLineWays 96 = .ok (.invokevirtual 52, 3) := by decide +kernel
theorem dX4_countLineWays_99 : decode cX4_countLineWays 99 = .ok (.ireturn, 1) := by decide +kernel
theorem dX4_clearRoom_0 : decode cX4_clearRoom 0 = .ok (.iconst 0, 1) := by decide +kernel
theorem dX4_clearRoom_1 : decode cX4_clearRoom 1 = .ok (.istore_n 1, 1) := by decide +kernel
theorem dX4_clearRoom_2 : decode cX4_clearRoom 2 = .ok (.iload_n 1, 1) := by decide +kernel
theorem dX4_clearRoom_3 : decode cX4_clearRoom 3 = .ok (.bipush 16, 2) := by decide +kernel
theorem dX4_clearRoom_5 : decode cX4_clearRoom 5 = .ok (.if_icmp .ge 32, 3) := by decide +kernel
theorem dX4_clearRoom_8 : decode cX4_clearRoom 8 = .ok (.iconst 0, 1) := by decide +kernel
theorem dX4_clearRoom_9 : decode cX4_clearRoom 9 = .ok (.istore_n 2, 1) := by decide +kernel
theorem dX4_clearRoom_10 : decode cX4_clearRoom 10 = .ok (.iload_n 2, 1) := by decide +kernel
theorem dX4_clearRoom_11 : decode cX4_clearRoom 11 = .ok (.bipush 16, 2) := by decide +kernel
theorem dX4_clearRoom_13 : decode cX4_clearRoom 13 = .ok (.if_icmp .ge 18, 3) := by decide +kernel
theorem dX4_clearRoom_16 : decode cX4_clearRoom 16 = .ok (.aload_n 0, 1) := by decide +kernel
theorem dX4_clearRoom_17 : decode cX4_clearRoom 17 = .ok (.getfield 13, 3) := by decide +kernel
theorem dX4_clearRoom_20 : decode cX4_clearRoom 20 = .ok (.iload_n 1, 1) := by decide +kernel
theorem dX4_clearRoom_21 : decode cX4_clearRoom 21 = .ok (.aaload, 1) := by decide +kernel
theorem dX4_clearRoom_22 : decode cX4_clearRoom 22 = .ok (.iload_n 2, 1) := by decide +kernel
theorem dX4_clearRoom_23 : decode cX4_clearRoom 23 = .ok (.iconst 0, 1) := by decide +kernel
theorem dX4_clearRoom_24 : decode cX4_clearRoom 24 = .ok (.iastore, 1) := by decide +kernel
theorem dX4_clearRoom_25 : decode cX4_clearRoom 25 = .ok (.iinc 2 1, 3) := by decide +kernel
theorem dX4_clearRoom_28 : decode cX4_clearRoom 28 = .ok (.goto (-18), 3) := by decide +kernel
theorem dX4_clearRoom_31 : decode cX4_clearRoom 31 = .ok (.iinc 1 1, 3) := by decide +kernel
theorem dX4_clearRoom_34 : decode cX4_clearRoom 34 = .ok (.goto (-32), 3) := by decide +kernel
theorem dX4_clearRoom_37 : decode cX4_clearRoom 37 = .ok (.return_, 1) := by decide +kernel
set_option maxRecDepth 20000 in
theorem ggX4_countFlow_X4_findsWay : GoodIn wsX4_countFlow wsX4_findsWay := goodIn_r _ [5, 6, 7, 8, 13, 14, 15, 16] (by decide +kernel) (by decide +kernel)
set_option maxRecDepth 20000 in
theorem gX4_countFlow_X4_findsWay : GoodIn wsX4_countFlow (wsV RX4 56 RX4 yX4_findsWay wsX4_findsWay) := goodIn_app (goodIn_of _ (by decide +kernel)) ggX4_countFlow_X4_findsWay
set_option maxRecDepth 20000 in
theorem ggX4_countFlow_X4_fillWay : GoodIn wsX4_countFlow wsX4_fillWay := goodIn_r _ [12, 6, 8, 13, 14, 15, 16] (by decide +kernel) (by decide +kernel)
set_option maxRecDepth 20000 in
theorem gX4_countFlow_X4_fillWay : GoodIn wsX4_countFlow (wsV RX4 59 RX4 yX4_fillWay wsX4_fillWay) := goodIn_app (goodIn_of _ (by decide +kernel)) ggX4_countFlow_X4_fillWay
theorem dX4_countFlow_0 : decode cX4_countFlow 0 = .ok (.iconst 0, 1) := by decide +kernel
theorem dX4_countFlow_1 : decode cX4_countFlow 1 = .ok (.istore_n 3, 1) := by decide +kernel
theorem dX4_countFlow_2 : decode cX4_countFlow 2 = .ok (.iconst 0, 1) := by decide +kernel
theorem dX4_countFlow_3 : decode cX4_countFlow 3 = .ok (.istore 4, 2) := by decide +kernel
theorem dX4_countFlow_5 : decode cX4_countFlow 5 = .ok (.iload 4, 2) := by decide +kernel
theorem dX4_countFlow_7 : decode cX4_countFlow 7 = .ok (.bipush 16, 2) := by decide +kernel
theorem dX4_countFlow_9 : decode cX4_countFlow 9 = .ok (.if_icmp .ge 29, 3) := by decide +kernel
theorem dX4_countFlow_12 : decode cX4_countFlow 12 = .ok (.aload_n 0, 1) := by decide +kernel
theorem dX4_countFlow_13 : decode cX4_countFlow 13 = .ok (.iload_n 1, 1) := by decide +kernel
theorem dX4_countFlow_14 : decode cX4_countFlow 14 = .ok (.iload_n 2, 1) := by decide +kernel
theorem dX4_countFlow_15 : decode cX4_countFlow 15 = .ok (.invokevirtual 56, 3) := by decide +kernel
theorem dX4_countFlow_18 : decode cX4_countFlow 18 = .ok (.ifCond .ne 5, 3) := by decide +kernel
theorem dX4_countFlow_21 : decode cX4_countFlow 21 = .ok (.iload_n 3, 1) := by decide +kernel
theorem dX4_countFlow_22 : decode cX4_countFlow 22 = .ok (.ireturn, 1) := by decide +kernel
theorem dX4_countFlow_23 : decode cX4_countFlow 23 = .ok (.aload_n 0, 1) := by decide +kernel
theorem dX4_countFlow_24 : decode cX4_countFlow 24 = .ok (.iload_n 1, 1) := by decide +kernel
theorem dX4_countFlow_25 : decode cX4_countFlow 25 = .ok (.iload_n 2, 1) := by decide +kernel
theorem dX4_countFlow_26 : decode cX4_countFlow 26 = .ok (.invokevirtual 59, 3) := by decide +kernel
theorem dX4_countFlow_29 : decode cX4_countFlow 29 = .ok (.iinc 3 1, 3) := by decide +kernel
theorem dX4_countFlow_32 : decode cX4_countFlow 32 = .ok (.iinc 4 1, 3) := by decide +kernel
theorem dX4_countFlow_35 : decode cX4_countFlow 35 = .ok (.goto (-30), 3) := by decide +kernel
theorem dX4_countFlow_38 : decode cX4_countFlow 38 = .ok (.iload_n 3, 1) := by decide +kernel
theorem dX4_countFlow_39 : decode cX4_countFlow 39 = .ok (.ireturn, 1) := by decide +kernel
theorem dX4_findsWay_0 : decode cX4_findsWay 0 = .ok (.iconst 0, 1) := by decide +kernel
theorem dX4_findsWay_1 : decode cX4_findsWay 1 = .ok (.istore_n 3, 1) := by decide +kernel
theorem dX4_findsWay_2 : decode cX4_findsWay 2 = .ok (.iload_n 3, 1) := by decide +kernel
theorem dX4_findsWay_3 : decode cX4_findsWay 3 = .ok (.bipush 16, 2) := by decide +kernel
theorem dX4_findsWay_5 : decode cX4_findsWay 5 = .ok (.if_icmp .ge 16, 3) := by decide +kernel
theorem dX4_findsWay_8 : decode cX4_findsWay 8 = .ok (.aload_n 0, 1) := by decide +kernel
theorem dX4_findsWay_9 : decode cX4_findsWay 9 = .ok (.getfield 16, 3) := by decide +kernel
theorem dX4_findsWay_12 : decode cX4_findsWay 12 = .ok (.iload_n 3, 1) := by decide +kernel
theorem dX4_findsWay_13 : decode cX4_findsWay 13 = .ok (.iconst (-1), 1) := by decide +kernel
theorem dX4_findsWay_14 : decode cX4_findsWay 14 = .ok (.iastore, 1) := by decide +kernel
theorem dX4_findsWay_15 : decode cX4_findsWay 15 = .ok (.iinc 3 1, 3) := by decide +kernel
theorem dX4_findsWay_18 : decode cX4_findsWay 18 = .ok (.goto (-16), 3) := by decide +kernel
theorem dX4_findsWay_21 : decode cX4_findsWay 21 = .ok (.aload_n 0, 1) := by decide +kernel
theorem dX4_findsWay_22 : decode cX4_findsWay 22 = .ok (.getfield 16, 3) := by decide +kernel
theorem dX4_findsWay_25 : decode cX4_findsWay 25 = .ok (.iload_n 1, 1) := by decide +kernel
theorem dX4_findsWay_26 : decode cX4_findsWay 26 = .ok (.iload_n 1, 1) := by decide +kernel
theorem dX4_findsWay_27 : decode cX4_findsWay 27 = .ok (.iastore, 1) := by decide +kernel
theorem dX4_findsWay_28 : decode cX4_findsWay 28 = .ok (.aload_n 0, 1) := by decide +kernel
theorem dX4_findsWay_29 : decode cX4_findsWay 29 = .ok (.getfield 20, 3) := by decide +kernel
theorem dX4_findsWay_32 : decode cX4_findsWay 32 = .ok (.iconst 0, 1) := by decide +kernel
theorem dX4_findsWay_33 : decode cX4_findsWay 33 = .ok (.iload_n 1, 1) := by decide +kernel
theorem dX4_findsWay_34 : decode cX4_findsWay 34 = .ok (.iastore, 1) := by decide +kernel
theorem dX4_findsWay_35 : decode cX4_findsWay 35 = .ok (.iconst 1, 1) := by decide +kernel
theorem dX4_findsWay_36 : decode cX4_findsWay 36 = .ok (.istore_n 3, 1) := by decide +kernel
theorem dX4_findsWay_37 : decode cX4_findsWay 37 = .ok (.iconst 0, 1) := by decide +kernel
theorem dX4_findsWay_38 : decode cX4_findsWay 38 = .ok (.istore 4, 2) := by decide +kernel
theorem dX4_findsWay_40 : decode cX4_findsWay 40 = .ok (.iload 4, 2) := by decide +kernel
theorem dX4_findsWay_42 : decode cX4_findsWay 42 = .ok (.iload_n 3, 1) := by decide +kernel
theorem dX4_findsWay_43 : decode cX4_findsWay 43 = .ok (.if_icmp .ge 91, 3) := by decide +kernel
theorem dX4_findsWay_46 : decode cX4_findsWay 46 = .ok (.iload 4, 2) := by decide +kernel
theorem dX4_findsWay_48 : decode cX4_findsWay 48 = .ok (.bipush 16, 2) := by decide +kernel
theorem dX4_findsWay_50 : decode cX4_findsWay 50 = .ok (.if_icmp .ge 84, 3) := by decide +kernel
theorem dX4_findsWay_53 : decode cX4_findsWay 53 = .ok (.aload_n 0, 1) := by decide +kernel
theorem dX4_findsWay_54 : decode cX4_findsWay 54 = .ok (.getfield 20, 3) := by decide +kernel
theorem dX4_findsWay_57 : decode cX4_findsWay 57 = .ok (.iload 4, 2) := by decide +kernel
theorem dX4_findsWay_59 : decode cX4_findsWay 59 = .ok (.iaload, 1) := by decide +kernel
theorem dX4_findsWay_60 : decode cX4_findsWay 60 = .ok (.istore 5, 2) := by decide +kernel
theorem dX4_findsWay_62 : decode cX4_findsWay 62 = .ok (.iconst 0, 1) := by decide +kernel
theorem dX4_findsWay_63 : decode cX4_findsWay 63 = .ok (.istore 6, 2) := by decide +kernel
theorem dX4_findsWay_65 : decode cX4_findsWay 65 = .ok (.iload 6, 2) := by decide +kernel
theorem dX4_findsWay_67 : decode cX4_findsWay 67 = .ok (.bipush 16, 2) := by decide +kernel
theorem dX4_findsWay_69 : decode cX4_findsWay 69 = .ok (.if_icmp .ge 59, 3) := by decide +kernel
theorem dX4_findsWay_72 : decode cX4_findsWay 72 = .ok (.aload_n 0, 1) := by decide +kernel
theorem dX4_findsWay_73 : decode cX4_findsWay 73 = .ok (.getfield 13, 3) := by decide +kernel
theorem dX4_findsWay_76 : decode cX4_findsWay 76 = .ok (.iload 5, 2) := by decide +kernel
theorem dX4_findsWay_78 : decode cX4_findsWay 78 = .ok (.aaload, 1) := by decide +kernel
theorem dX4_findsWay_79 : decode cX4_findsWay 79 = .ok (.iload 6, 2) := by decide +kernel
theorem dX4_findsWay_81 : decode cX4_findsWay 81 = .ok (.iaload, 1) := by decide +kernel
theorem dX4_findsWay_82 : decode cX4_findsWay 82 = .ok (.ifCond .le 40, 3) := by decide +kernel
theorem dX4_findsWay_85 : decode cX4_findsWay 85 = .ok (.aload_n 0, 1) := by decide +kernel
theorem dX4_findsWay_86 : decode cX4_findsWay 86 = .ok (.getfield 16, 3) := by decide +kernel
theorem dX4_findsWay_89 : decode cX4_findsWay 89 = .ok (.iload 6, 2) := by decide +kernel
theorem dX4_findsWay_91 : decode cX4_findsWay 91 = .ok (.iaload, 1) := by decide +kernel
theorem dX4_findsWay_92 : decode cX4_findsWay 92 = .ok (.iconst (-1), 1) := by decide +kernel
theorem dX4_findsWay_93 : decode cX4_findsWay 93 = .ok (.if_icmp .ne 29, 3) := by decide +kernel
theorem dX4_findsWay_96 : decode cX4_findsWay 96 = .ok (.iload_n 3, 1) := by decide +kernel
theorem dX4_findsWay_97 : decode cX4_findsWay 97 = .ok (.bipush 16, 2) := by decide +kernel
theorem dX4_findsWay_99 : decode cX4_findsWay 99 = .ok (.if_icmp .ge 23, 3) := by decide +kernel
theorem dX4_findsWay_102 : decode cX4_findsWay 102 = .ok (.aload_n 0, 1) := by decide +kernel
theorem dX4_findsWay_103 : decode cX4_findsWay 103 = .ok (.getfield 16, 3) := by decide +kernel
theorem dX4_findsWay_106 : decode cX4_findsWay 106 = .ok (.iload 6, 2) := by decide +kernel
theorem dX4_findsWay_108 : decode cX4_findsWay 108 = .ok (.iload 5, 2) := by decide +kernel
theorem dX4_findsWay_110 : decode cX4_findsWay 110 = .ok (.iastore, 1) := by decide +kernel
theorem dX4_findsWay_111 : decode cX4_findsWay 111 = .ok (.aload_n 0, 1) := by decide +kernel
theorem dX4_findsWay_112 : decode cX4_findsWay 112 = .ok (.getfield 20, 3) := by decide +kernel
theorem dX4_findsWay_115 : decode cX4_findsWay 115 = .ok (.iload_n 3, 1) := by decide +kernel
theorem dX4_findsWay_116 : decode cX4_findsWay 116 = .ok (.iload 6, 2) := by decide +kernel
theorem dX4_findsWay_118 : decode cX4_findsWay 118 = .ok (.iastore, 1) := by decide +kernel
theorem dX4_findsWay_119 : decode cX4_findsWay 119 = .ok (.iinc 3 1, 3) := by decide +kernel
theorem dX4_findsWay_122 : decode cX4_findsWay 122 = .ok (.iinc 6 1, 3) := by decide +kernel
theorem dX4_findsWay_125 : decode cX4_findsWay 125 = .ok (.goto (-60), 3) := by decide +kernel
theorem dX4_findsWay_128 : decode cX4_findsWay 128 = .ok (.iinc 4 1, 3) := by decide +kernel
theorem dX4_findsWay_131 : decode cX4_findsWay 131 = .ok (.goto (-91), 3) := by decide +kernel
theorem dX4_findsWay_134 : decode cX4_findsWay 134 = .ok (.aload_n 0, 1) := by decide +kernel
theorem dX4_findsWay_135 : decode cX4_findsWay 135 = .ok (.getfield 16, 3) := by decide +kernel
theorem dX4_findsWay_138 : decode cX4_findsWay 138 = .ok (.iload_n 2, 1) := by decide +kernel
theorem dX4_findsWay_139 : decode cX4_findsWay 139 = .ok (.iaload, 1) := by decide +kernel
theorem dX4_findsWay_140 : decode cX4_findsWay 140 = .ok (.iconst (-1), 1) := by decide +kernel
theorem dX4_findsWay_141 : decode cX4_findsWay 141 = .ok (.if_icmp .eq 7, 3) := by decide +kernel
theorem dX4_findsWay_144 : decode cX4_findsWay 144 = .ok (.iconst 1, 1) := by decide +kernel
theorem dX4_findsWay_145 : decode cX4_findsWay 145 = .ok (.goto 4, 3) := by decide +kernel
theorem dX4_findsWay_148 : decode cX4_findsWay 148 = .ok (.iconst 0, 1) := by decide +kernel
theorem dX4_findsWay_149 : decode cX4_findsWay 149 = .ok (.ireturn, 1) := by decide +kernel
theorem dX4_fillWay_0 : decode cX4_fillWay 0 = .ok (.iload_n 2, 1) := by decide +kernel
theorem dX4_fillWay_1 : decode cX4_fillWay 1 = .ok (.istore_n 3, 1) := by decide +kernel
theorem dX4_fillWay_2 : decode cX4_fillWay 2 = .ok (.iconst 0, 1) := by decide +kernel
theorem dX4_fillWay_3 : decode cX4_fillWay 3 = .ok (.istore 4, 2) := by decide +kernel
theorem dX4_fillWay_5 : decode cX4_fillWay 5 = .ok (.iload 4, 2) := by decide +kernel
theorem dX4_fillWay_7 : decode cX4_fillWay 7 = .ok (.bipush 16, 2) := by decide +kernel
theorem dX4_fillWay_9 : decode cX4_fillWay 9 = .ok (.if_icmp .ge 61, 3) := by decide +kernel
theorem dX4_fillWay_12 : decode cX4_fillWay 12 = .ok (.iload_n 3, 1) := by decide +kernel
theorem dX4_fillWay_13 : decode cX4_fillWay 13 = .ok (.iload_n 1, 1) := by decide +kernel
theorem dX4_fillWay_14 : decode cX4_fillWay 14 = .ok (.if_icmp .eq 56, 3) := by decide +kernel
theorem dX4_fillWay_17 : decode cX4_fillWay 17 = .ok (.aload_n 0, 1) := by decide +kernel
theorem dX4_fillWay_18 : decode cX4_fillWay 18 = .ok (.getfield 16, 3) := by decide +kernel
theorem dX4_fillWay_21 : decode cX4_fillWay 21 = .ok (.iload_n 3, 1) := by decide +kernel
theorem dX4_fillWay_22 : decode cX4_fillWay 22 = .ok (.iaload, 1) := by decide +kernel
theorem dX4_fillWay_23 : decode cX4_fillWay 23 = .ok (.iconst (-1), 1) := by decide +kernel
theorem dX4_fillWay_24 : decode cX4_fillWay 24 = .ok (.if_icmp .eq 46, 3) := by decide +kernel
theorem dX4_fillWay_27 : decode cX4_fillWay 27 = .ok (.aload_n 0, 1) := by decide +kernel
theorem dX4_fillWay_28 : decode cX4_fillWay 28 = .ok (.getfield 16, 3) := by decide +kernel
theorem dX4_fillWay_31 : decode cX4_fillWay 31 = .ok (.iload_n 3, 1) := by decide +kernel
theorem dX4_fillWay_32 : decode cX4_fillWay 32 = .ok (.iaload, 1) := by decide +kernel
theorem dX4_fillWay_33 : decode cX4_fillWay 33 = .ok (.istore 5, 2) := by decide +kernel
theorem dX4_fillWay_35 : decode cX4_fillWay 35 = .ok (.aload_n 0, 1) := by decide +kernel
theorem dX4_fillWay_36 : decode cX4_fillWay 36 = .ok (.getfield 13, 3) := by decide +kernel
theorem dX4_fillWay_39 : decode cX4_fillWay 39 = .ok (.iload 5, 2) := by decide +kernel
theorem dX4_fillWay_41 : decode cX4_fillWay 41 = .ok (.aaload, 1) := by decide +kernel
theorem dX4_fillWay_42 : decode cX4_fillWay 42 = .ok (.iload_n 3, 1) := by decide +kernel
theorem dX4_fillWay_43 : decode cX4_fillWay 43 = .ok (.dup2, 1) := by decide +kernel
theorem dX4_fillWay_44 : decode cX4_fillWay 44 = .ok (.iaload, 1) := by decide +kernel
theorem dX4_fillWay_45 : decode cX4_fillWay 45 = .ok (.iconst 1, 1) := by decide +kernel
theorem dX4_fillWay_46 : decode cX4_fillWay 46 = .ok (.isub, 1) := by decide +kernel
theorem dX4_fillWay_47 : decode cX4_fillWay 47 = .ok (.iastore, 1) := by decide +kernel
theorem dX4_fillWay_48 : decode cX4_fillWay 48 = .ok (.aload_n 0, 1) := by decide +kernel
theorem dX4_fillWay_49 : decode cX4_fillWay 49 = .ok (.getfield 13, 3) := by decide +kernel
theorem dX4_fillWay_52 : decode cX4_fillWay 52 = .ok (.iload_n 3, 1) := by decide +kernel
theorem dX4_fillWay_53 : decode cX4_fillWay 53 = .ok (.aaload, 1) := by decide +kernel
theorem dX4_fillWay_54 : decode cX4_fillWay 54 = .ok (.iload 5, 2) := by decide +kernel
theorem dX4_fillWay_56 : decode cX4_fillWay 56 = .ok (.dup2, 1) := by decide +kernel
theorem dX4_fillWay_57 : decode cX4_fillWay 57 = .ok (.iaload, 1) := by decide +kernel
theorem dX4_fillWay_58 : decode cX4_fillWay 58 = .ok (.iconst 1, 1) := by decide +kernel
theorem dX4_fillWay_59 : decode cX4_fillWay 59 = .ok (.iadd, 1) := by decide +kernel
theorem dX4_fillWay_60 : decode cX4_fillWay 60 = .ok (.iastore, 1) := by decide +kernel
theorem dX4_fillWay_61 : decode cX4_fillWay 61 = .ok (.iload 5, 2) := by decide +kernel
theorem dX4_fillWay_63 : decode cX4_fillWay 63 = .ok (.istore_n 3, 1) := by decide +kernel
theorem dX4_fillWay_64 : decode cX4_fillWay 64 = .ok (.iinc 4 1, 3) := by decide +kernel
theorem dX4_fillWay_67 : decode cX4_fillWay 67 = .ok (.goto (-62), 3) := by decide +kernel
theorem dX4_fillWay_70 : decode cX4_fillWay 70 = .ok (.return_, 1) := by decide +kernel
set_option maxRecDepth 20000 in
theorem ggX4_gap_X5_linkedWith : GoodIn wsX4_gap wsX5_linkedWith := goodIn_r _ [6, 7, 8, 9, 10, 11, 12, 13, 39, 40, 41, 42, 43, 44, 45, 46] (by decide +kernel) (by decide +kernel)
set_option maxRecDepth 20000 in
theorem gX4_gap_X5_linkedWith : GoodIn wsX4_gap (wsV RX4 63 RX5 yX5_linkedWith wsX5_linkedWith) := goodIn_app (goodIn_of _ (by decide +kernel)) ggX4_gap_X5_linkedWith
set_option maxRecDepth 20000 in
theorem ggX4_gap_X6_has : GoodIn wsX4_gap wsX6_has := goodIn_r _ [13] (by decide +kernel) (by decide +kernel)
set_option maxRecDepth 20000 in
theorem gX4_gap_X6_has_n42 : GoodIn wsX4_gap (wsX6_has) := ggX4_gap_X6_has
set_option maxRecDepth 20000 in
theorem ggX4_gap_X5_allPoints : GoodIn wsX4_gap wsX5_allPoints := goodIn_r _ [17, 18, 39, 40, 41, 42, 43, 44, 45, 46] (by decide +kernel) (by decide +kernel)
set_option maxRecDepth 20000 in
theorem gX4_gap_X5_allPoints : GoodIn wsX4_gap (wsV RX4 67 RX5 yX5_allPoints wsX5_allPoints) := goodIn_app (goodIn_of _ (by decide +kernel)) ggX4_gap_X5_allPoints
set_option maxRecDepth 20000 in
theorem ggX4_gap_J6_bitCount_0f7a4 : GoodIn wsX4_gap wsJ6_bitCount_0f7a4 := goodIn_r _ [22, 23, 24, 25] (by decide +kernel) (by decide +kernel)
set_option maxRecDepth 20000 in
theorem gX4_gap_J6_bitCount_0f7a4 : GoodIn wsX4_gap (va_wsS RX4 71 yJ6_bitCount_0f7a4 wsJ6_bitCount_0f7a4) := goodIn_app (goodIn_of _ (by decide +kernel)) ggX4_gap_J6_bitCount_0f7a4
set_option maxRecDepth 20000 in
theorem ggX4_gap_X4_isApartWithout : GoodIn wsX4_gap wsX4_isApartWithout := goodIn_r _ [30, 1, 14, 15, 16, 5, 17, 18, 31, 32, 33, 34, 7, 10, 11, 12, 13, 35, 36, 37, 38, 39, 40, 41, 42, 43, 44, 45, 46] (by decide +kernel) (by decide +kernel)
set_option maxRecDepth 20000 in
theorem gX4_gap_X4_isApartWithout : GoodIn wsX4_gap (wsV RX4 76 RX4 yX4_isApartWithout wsX4_isApartWithout) := goodIn_app (goodIn_of _ (by decide +kernel)) ggX4_gap_X4_isApartWithout
theorem dX4_gap_0 : decode cX4_gap 0 = .ok (.aload_n 0, 1) := by decide +kernel
theorem dX4_gap_1 : decode cX4_gap 1 = .ok (.getfield 23, 3) := by decide +kernel
theorem dX4_gap_4 : decode cX4_gap 4 = .ok (.iload_n 1, 1) := by decide +kernel
theorem dX4_gap_5 : decode cX4_gap 5 = .ok (.invokevirtual 63, 3) := by decide +kernel
theorem dX4_gap_8 : decode cX4_gap 8 = .ok (.iload_n 2, 1) := by decide +kernel
theorem dX4_gap_9 : decode cX4_gap 9 = .ok (.invokestatic 42, 3) := by decide +kernel
theorem dX4_gap_12 : decode cX4_gap 12 = .ok (.ifCond .eq 5, 3) := by decide +kernel
theorem dX4_gap_15 : decode cX4_gap 15 = .ok (.iconst (-1), 1) := by decide +kernel
theorem dX4_gap_16 : decode cX4_gap 16 = .ok (.ireturn, 1) := by decide +kernel
theorem dX4_gap_17 : decode cX4_gap 17 = .ok (.iconst 1, 1) := by decide +kernel
theorem dX4_gap_18 : decode cX4_gap 18 = .ok (.iload_n 1, 1) := by decide +kernel
theorem dX4_gap_19 : decode cX4_gap 19 = .ok (.ishl, 1) := by decide +kernel
theorem dX4_gap_20 : decode cX4_gap 20 = .ok (.iconst 1, 1) := by decide +kernel
theorem dX4_gap_21 : decode cX4_gap 21 = .ok (.iload_n 2, 1) := by decide +kernel
theorem dX4_gap_22 : decode cX4_gap 22 = .ok (.ishl, 1) := by decide +kernel
theorem dX4_gap_23 : decode cX4_gap 23 = .ok (.ior, 1) := by decide +kernel
theorem dX4_gap_24 : decode cX4_gap 24 = .ok (.istore_n 3, 1) := by decide +kernel
theorem dX4_gap_25 : decode cX4_gap 25 = .ok (.aload_n 0, 1) := by decide +kernel
theorem dX4_gap_26 : decode cX4_gap 26 = .ok (.getfield 23, 3) := by decide +kernel
theorem dX4_gap_29 : decode cX4_gap 29 = .ok (.invokevirtual 67, 3) := by decide +kernel
theorem dX4_gap_32 : decode cX4_gap 32 = .ok (.iload_n 3, 1) := by decide +kernel
theorem dX4_gap_33 : decode cX4_gap 33 = .ok (.iconst (-1), 1) := by decide +kernel
theorem dX4_gap_34 : decode cX4_gap 34 = .ok (.ixor, 1) := by decide +kernel
theorem dX4_gap_35 : decode cX4_gap 35 = .ok (.iand, 1) := by decide +kernel
theorem dX4_gap_36 : decode cX4_gap 36 = .ok (.istore 4, 2) := by decide +kernel
theorem dX4_gap_38 : decode cX4_gap 38 = .ok (.iconst 0, 1) := by decide +kernel
theorem dX4_gap_39 : decode cX4_gap 39 = .ok (.istore 5, 2) := by decide +kernel
theorem dX4_gap_41 : decode cX4_gap 41 = .ok (.iload 5, 2) := by decide +kernel
theorem dX4_gap_43 : decode cX4_gap 43 = .ok (.aload_n 0, 1) := by decide +kernel
theorem dX4_gap_44 : decode cX4_gap 44 = .ok (.getfield 23, 3) := by decide +kernel
theorem dX4_gap_47 : decode cX4_gap 47 = .ok (.invokevirtual 67, 3) := by decide +kernel
theorem dX4_gap_50 : decode cX4_gap 50 = .ok (.if_icmp .gt 56, 3) := by decide +kernel
theorem dX4_gap_53 : decode cX4_gap 53 = .ok (.iload 5, 2) := by decide +kernel
theorem dX4_gap_55 : decode cX4_gap 55 = .ok (.invokestatic 71, 3) := by decide +kernel
theorem dX4_gap_58 : decode cX4_gap 58 = .ok (.iload 4, 2) := by decide +kernel
theorem dX4_gap_60 : decode cX4_gap 60 = .ok (.invokestatic 71, 3) := by decide +kernel
theorem dX4_gap_63 : decode cX4_gap 63 = .ok (.if_icmp .ge 7, 3) := by decide +kernel
theorem dX4_gap_66 : decode cX4_gap 66 = .ok (.iconst 1, 1) := by decide +kernel
theorem dX4_gap_67 : decode cX4_gap 67 = .ok (.goto 4, 3) := by decide +kernel
theorem dX4_gap_70 : decode cX4_gap 70 = .ok (.iconst 0, 1) := by decide +kernel
theorem dX4_gap_71 : decode cX4_gap 71 = .ok (.istore 6, 2) := by decide +kernel
theorem dX4_gap_73 : decode cX4_gap 73 = .ok (.iload 5, 2) := by decide +kernel
theorem dX4_gap_75 : decode cX4_gap 75 = .ok (.iload_n 3, 1) := by decide +kernel
theorem dX4_gap_76 : decode cX4_gap 76 = .ok (.iand, 1) := by decide +kernel
theorem dX4_gap_77 : decode cX4_gap 77 = .ok (.ifCond .ne 23, 3) := by decide +kernel
theorem dX4_gap_80 : decode cX4_gap 80 = .ok (.iload 6, 2) := by decide +kernel
theorem dX4_gap_82 : decode cX4_gap 82 = .ok (.ifCond .eq 18, 3) := by decide +kernel
theorem dX4_gap_85 : decode cX4_gap 85 = .ok (.aload_n 0, 1) := by decide +kernel
theorem dX4_gap_86 : decode cX4_gap 86 = .ok (.iload_n 1, 1) := by decide +kernel
theorem dX4_gap_87 : decode cX4_gap 87 = .ok (.iload_n 2, 1) := by decide +kernel
theorem dX4_gap_88 : decode cX4_gap 88 = .ok (.iload 5, 2) := by decide +kernel
theorem dX4_gap_90 : decode cX4_gap 90 = .ok (.invokevirtual 76, 3) := by decide +kernel
theorem dX4_gap_93 : decode cX4_gap 93 = .ok (.ifCond .eq 7, 3) := by decide +kernel
theorem dX4_gap_96 : decode cX4_gap 96 = .ok (.iload 5, 2) := by decide +kernel
theorem dX4_gap_98 : decode cX4_gap 98 = .ok (.istore 4, 2) := by decide +kernel
theorem dX4_gap_100 : decode cX4_gap 100 = .ok (.iinc 5 1, 3) := by decide +kernel
theorem dX4_gap_103 : decode cX4_gap 103 = .ok (.goto (-62), 3) := by decide +kernel
theorem dX4_gap_106 : decode cX4_gap 106 = .ok (.iload 4, 2) := by decide +kernel
theorem dX4_gap_108 : decode cX4_gap 108 = .ok (.ireturn, 1) := by decide +kernel
set_option maxRecDepth 20000 in
theorem ggX4_isApartWithout_X5_allPoints : GoodIn wsX4_isApartWithout wsX5_allPoints := goodIn_r _ [6, 7, 21, 22, 23, 24, 25, 26, 27, 28] (by decide +kernel) (by decide +kernel)
set_option maxRecDepth 20000 in
theorem gX4_isApartWithout_X5_allPoints : GoodIn wsX4_isApartWithout (wsV RX4 67 RX5 yX5_allPoints wsX5_allPoints) := goodIn_app (goodIn_of _ (by decide +kernel)) ggX4_isApartWithout_X5_allPoints
set_option maxRecDepth 20000 in
theorem ggX4_isApartWithout_X5_reach : GoodIn wsX4_isApartWithout wsX5_reach := goodIn_r _ [11, 12, 13, 21, 22, 23, 24, 25, 26, 27, 28] (by decide +kernel) (by decide +kernel)
set_option maxRecDepth 20000 in
theorem gX4_isApartWithout_X5_reach : GoodIn wsX4_isApartWithout (wsV RX4 80 RX5 yX5_reach wsX5_reach) := goodIn_app (goodIn_of _ (by decide +kernel)) ggX4_isApartWithout_X5_reach
set_option maxRecDepth 20000 in
theorem ggX4_isApartWithout_X6_has : GoodIn wsX4_isApartWithout wsX6_has := goodIn_r _ [16] (by decide +kernel) (by decide +kernel)
set_option maxRecDepth 20000 in
theorem gX4_isApartWithout_X6_has_n42 : GoodIn wsX4_isApartWithout (wsX6_has) := ggX4_isApartWithout_X6_has
theorem dX4_isApartWithout_0 : decode cX4_isApartWithout 0 = .ok (.aload_n 0, 1) := by decide +kernel
theorem dX4_isApartWithout_1 : decode cX4_isApartWithout 1 = .ok (.getfield 23, 3) := by decide +kernel
theorem dX4_isApartWithout_4 : decode cX4_isApartWithout 4 = .ok (.iload_n 1, 1) := by decide +kernel
theorem dX4_isApartWithout_5 : decode cX4_isApartWithout 5 = .ok (.aload_n 0, 1) := by decide +kernel
theorem dX4_isApartWithout_6 : decode cX4_isApartWithout 6 = .ok (.getfield 23, 3) := by decide +kernel
theorem dX4_isApartWithout_9 : decode cX4_isApartWithout 9 = .ok (.invokevirtual 67, 3) := by decide +kernel
theorem dX4_isApartWithout_12 : decode cX4_isApartWithout 12 = .ok (.iload_n 3, 1) := by decide +kernel
theorem dX4_isApartWithout_13 : decode cX4_isApartWithout 13 = .ok (.iconst (-1), 1) := by decide +kernel
theorem dX4_isApartWithout_14 : decode cX4_isApartWithout 14 = .ok (.ixor, 1) := by decide +kernel
theorem dX4_isApartWithout_15 : decode cX4_isApartWithout 15 = .ok (.iand, 1) := by decide +kernel
theorem dX4_isApartWithout_16 : decode cX4_isApartWithout 16 = .ok (.aload_n 0, 1) := by decide +kernel
theorem dX4_isApartWithout_17 : decode cX4_isApartWithout 17 = .ok (.getfield 23, 3) := by decide +kernel
theorem dX4_isApartWithout_20 : decode cX4_isApartWithout 20 = .ok (.getfield 39, 3) := by decide +kernel
theorem dX4_isApartWithout_23 : decode cX4_isApartWithout 23 = .ok (.invokevirtual 80, 3) := by decide +kernel
theorem dX4_isApartWithout_26 : decode cX4_isApartWithout 26 = .ok (.iload_n 2, 1) := by decide +kernel
theorem dX4_isApartWithout_27 : decode cX4_isApartWithout 27 = .ok (.invokestatic 42, 3) := by decide +kernel
theorem dX4_isApartWithout_30 : decode cX4_isApartWithout 30 = .ok (.ifCond .ne 7, 3) := by decide +kernel
theorem dX4_isApartWithout_33 : decode cX4_isApartWithout 33 = .ok (.iconst 1, 1) := by decide +kernel
theorem dX4_isApartWithout_34 : decode cX4_isApartWithout 34 = .ok (.goto 4, 3) := by decide +kernel
theorem dX4_isApartWithout_37 : decode cX4_isApartWithout 37 = .ok (.iconst 0, 1) := by decide +kernel
theorem dX4_isApartWithout_38 : decode cX4_isApartWithout 38 = .ok (.ireturn, 1) := by decide +kernel
set_option maxRecDepth 20000 in
theorem ggX4_side_X5_linesOutOf : GoodIn wsX4_side wsX5_linesOutOf := goodIn_r _ [6, 7, 8, 9, 10, 11, 12, 13, 5, 14, 15, 16, 32, 33, 34, 35, 36, 37, 38, 39] (by decide +kernel) (by decide +kernel)
set_option maxRecDepth 20000 in
theorem gX4_side_X5_linesOutOf : GoodIn wsX4_side (wsV RX4 84 RX5 yX5_linesOutOf wsX5_linesOutOf) := goodIn_app (goodIn_of _ (by decide +kernel)) ggX4_side_X5_linesOutOf
set_option maxRecDepth 20000 in
theorem ggX4_side_J6_bitCount_0f7a4 : GoodIn wsX4_side wsJ6_bitCount_0f7a4 := goodIn_r _ [20, 21, 22, 23] (by decide +kernel) (by decide +kernel)
set_option maxRecDepth 20000 in
theorem gX4_side_J6_bitCount_0f7a4 : GoodIn wsX4_side (va_wsS RX4 71 yJ6_bitCount_0f7a4 wsJ6_bitCount_0f7a4) := goodIn_app (goodIn_of _ (by decide +kernel)) ggX4_side_J6_bitCount_0f7a4
set_option maxRecDepth 20000 in
theorem ggX4_side_X5_allPoints : GoodIn wsX4_side wsX5_allPoints := goodIn_r _ [27, 7, 32, 33, 34, 35, 36, 37, 38, 39] (by decide +kernel) (by decide +kernel)
set_option maxRecDepth 20000 in
theorem gX4_side_X5_allPoints : GoodIn wsX4_side (wsV RX4 67 RX5 yX5_allPoints wsX5_allPoints) := goodIn_app (goodIn_of _ (by decide +kernel)) ggX4_side_X5_allPoints
set_option maxRecDepth 20000 in
theorem ggX4_side_X6_has : GoodIn wsX4_side wsX6_has := goodIn_r _ [10] (by decide +kernel) (by decide +kernel)
set_option maxRecDepth 20000 in
theorem gX4_side_X6_has_n42 : GoodIn wsX4_side (wsX6_has) := ggX4_side_X6_has
theorem dX4_side_0 : decode cX4_side 0 = .ok (.iconst 1, 1) := by decide +kernel
theorem dX4_side_1 : decode cX4_side 1 = .ok (.iload_n 1, 1) := by decide +kernel
theorem dX4_side_2 : decode cX4_side 2 = .ok (.ishl, 1) := by decide +kernel
theorem dX4_side_3 : decode cX4_side 3 = .ok (.istore_n 3, 1) := by decide +kernel
theorem dX4_side_4 : decode cX4_side 4 = .ok (.aload_n 0, 1) := by decide +kernel
theorem dX4_side_5 : decode cX4_side 5 = .ok (.getfield 23, 3) := by decide +kernel
theorem dX4_side_8 : decode cX4_side 8 = .ok (.iload_n 3, 1) := by decide +kernel
theorem dX4_side_9 : decode cX4_side 9 = .ok (.invokevirtual 84, 3) := by decide +kernel
theorem dX4_side_12 : decode cX4_side 12 = .ok (.invokestatic 71, 3) := by decide +kernel
theorem dX4_side_15 : decode cX4_side 15 = .ok (.istore 4, 2) := by decide +kernel
theorem dX4_side_17 : decode cX4_side 17 = .ok (.iconst 0, 1) := by decide +kernel
theorem dX4_side_18 : decode cX4_side 18 = .ok (.istore 5, 2) := by decide +kernel
theorem dX4_side_20 : decode cX4_side 20 = .ok (.iload 5, 2) := by decide +kernel
theorem dX4_side_22 : decode cX4_side 22 = .ok (.aload_n 0, 1) := by decide +kernel
theorem dX4_side_23 : decode cX4_side 23 = .ok (.getfield 23, 3) := by decide +kernel
theorem dX4_side_26 : decode cX4_side 26 = .ok (.invokevirtual 67, 3) := by decide +kernel
theorem dX4_side_29 : decode cX4_side 29 = .ok (.if_icmp .gt 86, 3) := by decide +kernel
theorem dX4_side_32 : decode cX4_side 32 = .ok (.iload 5, 2) := by decide +kernel
theorem dX4_side_34 : decode cX4_side 34 = .ok (.iload_n 1, 1) := by decide +kernel
theorem dX4_side_35 : decode cX4_side 35 = .ok (.invokestatic 42, 3) := by decide +kernel
theorem dX4_side_38 : decode cX4_side 38 = .ok (.ifCond .eq 71, 3) := by decide +kernel
theorem dX4_side_41 : decode cX4_side 41 = .ok (.iload 5, 2) := by decide +kernel
theorem dX4_side_43 : decode cX4_side 43 = .ok (.iload_n 2, 1) := by decide +kernel
theorem dX4_side_44 : decode cX4_side 44 = .ok (.invokestatic 42, 3) := by decide +kernel
theorem dX4_side_47 : decode cX4_side 47 = .ok (.ifCond .ne 62, 3) := by decide +kernel
theorem dX4_side_50 : decode cX4_side 50 = .ok (.aload_n 0, 1) := by decide +kernel
theorem dX4_side_51 : decode cX4_side 51 = .ok (.getfield 23, 3) := by decide +kernel
theorem dX4_side_54 : decode cX4_side 54 = .ok (.iload 5, 2) := by decide +kernel
theorem dX4_side_56 : decode cX4_side 56 = .ok (.invokevirtual 84, 3) := by decide +kernel
theorem dX4_side_59 : decode cX4_side 59 = .ok (.invokestatic 71, 3) := by decide +kernel
theorem dX4_side_62 : decode cX4_side 62 = .ok (.istore 6, 2) := by decide +kernel
theorem dX4_side_64 : decode cX4_side 64 = .ok (.iload 5, 2) := by decide +kernel
theorem dX4_side_66 : decode cX4_side 66 = .ok (.invokestatic 71, 3) := by decide +kernel
theorem dX4_side_69 : decode cX4_side 69 = .ok (.iload_n 3, 1) := by decide +kernel
theorem dX4_side_70 : decode cX4_side 70 = .ok (.invokestatic 71, 3) := by decide +kernel
theorem dX4_side_73 : decode cX4_side 73 = .ok (.if_icmp .ge 7, 3) := by decide +kernel
theorem dX4_side_76 : decode cX4_side 76 = .ok (.iconst 1, 1) := by decide +kernel
theorem dX4_side_77 : decode cX4_side 77 = .ok (.goto 4, 3) := by decide +kernel
theorem dX4_side_80 : decode cX4_side 80 = .ok (.iconst 0, 1) := by decide +kernel
theorem dX4_side_81 : decode cX4_side 81 = .ok (.istore 7, 2) := by decide +kernel
theorem dX4_side_83 : decode cX4_side 83 = .ok (.iload 6, 2) := by decide +kernel
theorem dX4_side_85 : decode cX4_side 85 = .ok (.iload 4, 2) := by decide +kernel
theorem dX4_side_87 : decode cX4_side 87 = .ok (.if_icmp .lt 15, 3) := by decide +kernel
theorem dX4_side_90 : decode cX4_side 90 = .ok (.iload 6, 2) := by decide +kernel
theorem dX4_side_92 : decode cX4_side 92 = .ok (.iload 4, 2) := by decide +kernel
theorem dX4_side_94 : decode cX4_side 94 = .ok (.if_icmp .ne 15, 3) := by decide +kernel
theorem dX4_side_97 : decode cX4_side 97 = .ok (.iload 7, 2) := by decide +kernel
theorem dX4_side_99 : decode cX4_side 99 = .ok (.ifCond .eq 10, 3) := by decide +kernel
theorem dX4_side_102 : decode cX4_side 102 = .ok (.iload 5, 2) := by decide +kernel
theorem dX4_side_104 : decode cX4_side 104 = .ok (.istore_n 3, 1) := by decide +kernel
theorem dX4_side_105 : decode cX4_side 105 = .ok (.iload 6, 2) := by decide +kernel
theorem dX4_side_107 : decode cX4_side 107 = .ok (.istore 4, 2) := by decide +kernel
theorem dX4_side_109 : decode cX4_side 109 = .ok (.iinc 5 1, 3) := by decide +kernel
theorem dX4_side_112 : decode cX4_side 112 = .ok (.goto (-92), 3) := by decide +kernel
theorem dX4_side_115 : decode cX4_side 115 = .ok (.iload_n 3, 1) := by decide +kernel
theorem dX4_side_116 : decode cX4_side 116 = .ok (.ireturn, 1) := by decide +kernel
theorem dX5_init_0 : decode cX5_init 0 = .ok (.aload_n 0, 1) := by decide +kernel
theorem dX5_init_1 : decode cX5_init 1 = .ok (.invokespecial 3, 3) := by decide +kernel
theorem dX5_init_4 : decode cX5_init 4 = .ok (.aload_n 0, 1) := by decide +kernel
theorem dX5_init_5 : decode cX5_init 5 = .ok (.iconst 0, 1) := by decide +kernel
theorem dX5_init_6 : decode cX5_init 6 = .ok (.putfield 9, 3) := by decide +kernel
theorem dX5_init_9 : decode cX5_init 9 = .ok (.aload_n 0, 1) := by decide +kernel
theorem dX5_init_10 : decode cX5_init 10 = .ok (.iconst 0, 1) := by decide +kernel
theorem dX5_init_11 : decode cX5_init 11 = .ok (.putfield 15, 3) := by decide +kernel
theorem dX5_init_14 : decode cX5_init 14 = .ok (.aload_n 0, 1) := by decide +kernel
theorem dX5_init_15 : decode cX5_init 15 = .ok (.iconst 0, 1) := by decide +kernel
theorem dX5_init_16 : decode cX5_init 16 = .ok (.putfield 18, 3) := by decide +kernel
theorem dX5_init_19 : decode cX5_init 19 = .ok (.aload_n 0, 1) := by decide +kernel
theorem dX5_init_20 : decode cX5_init 20 = .ok (.bipush 16, 2) := by decide +kernel
theorem dX5_init_22 : decode cX5_init 22 = .ok (.newarray .int, 2) := by decide +kernel
theorem dX5_init_24 : decode cX5_init 24 = .ok (.putfield 21, 3) := by decide +kernel
theorem dX5_init_27 : decode cX5_init 27 = .ok (.aload_n 0, 1) := by decide +kernel
theorem dX5_init_28 : decode cX5_init 28 = .ok (.bipush 16, 2) := by decide +kernel
theorem dX5_init_30 : decode cX5_init 30 = .ok (.newarray .int, 2) := by decide +kernel
theorem dX5_init_32 : decode cX5_init 32 = .ok (.putfield 25, 3) := by decide +kernel
theorem dX5_init_35 : decode cX5_init 35 = .ok (.aload_n 0, 1) := by decide +kernel
theorem dX5_init_36 : decode cX5_init 36 = .ok (.bipush 16, 2) := by decide +kernel
theorem dX5_init_38 : decode cX5_init 38 = .ok (.newarray .int, 2) := by decide +kernel
theorem dX5_init_40 : decode cX5_init 40 = .ok (.putfield 28, 3) := by decide +kernel
theorem dX5_init_43 : decode cX5_init 43 = .ok (.aload_n 0, 1) := by decide +kernel
theorem dX5_init_44 : decode cX5_init 44 = .ok (.bipush 16, 2) := by decide +kernel
theorem dX5_init_46 : decode cX5_init 46 = .ok (.newarray .int, 2) := by decide +kernel
theorem dX5_init_48 : decode cX5_init 48 = .ok (.putfield 31, 3) := by decide +kernel
theorem dX5_init_51 : decode cX5_init 51 = .ok (.aload_n 0, 1) := by decide +kernel
theorem dX5_init_52 : decode cX5_init 52 = .ok (.bipush 8, 2) := by decide +kernel
theorem dX5_init_54 : decode cX5_init 54 = .ok (.newarray .int, 2) := by decide +kernel
theorem dX5_init_56 : decode cX5_init 56 = .ok (.putfield 34, 3) := by decide +kernel
theorem dX5_init_59 : decode cX5_init 59 = .ok (.return_, 1) := by decide +kernel
theorem dX5_addPoint_0 : decode cX5_addPoint 0 = .ok (.aload_n 0, 1) := by decide +kernel
theorem dX5_addPoint_1 : decode cX5_addPoint 1 = .ok (.dup, 1) := by decide +kernel
theorem dX5_addPoint_2 : decode cX5_addPoint 2 = .ok (.getfield 9, 3) := by decide +kernel
theorem dX5_addPoint_5 : decode cX5_addPoint 5 = .ok (.iconst 1, 1) := by decide +kernel
theorem dX5_addPoint_6 : decode cX5_addPoint 6 = .ok (.iadd, 1) := by decide +kernel
theorem dX5_addPoint_7 : decode cX5_addPoint 7 = .ok (.putfield 9, 3) := by decide +kernel
theorem dX5_addPoint_10 : decode cX5_addPoint 10 = .ok (.aload_n 0, 1) := by decide +kernel
theorem dX5_addPoint_11 : decode cX5_addPoint 11 = .ok (.getfield 9, 3) := by decide +kernel
theorem dX5_addPoint_14 : decode cX5_addPoint 14 = .ok (.iconst 1, 1) := by decide +kernel
theorem dX5_addPoint_15 : decode cX5_addPoint 15 = .ok (.isub, 1) := by decide +kernel
theorem dX5_addPoint_16 : decode cX5_addPoint 16 = .ok (.ireturn, 1) := by decide +kernel
theorem dX5_addLine_0 : decode cX5_addLine 0 = .ok (.aload_n 0, 1) := by decide +kernel
theorem dX5_addLine_1 : decode cX5_addLine 1 = .ok (.getfield 15, 3) := by decide +kernel
theorem dX5_addLine_4 : decode cX5_addLine 4 = .ok (.istore 4, 2) := by decide +kernel
theorem dX5_addLine_6 : decode cX5_addLine 6 = .ok (.aload_n 0, 1) := by decide +kernel
theorem dX5_addLine_7 : decode cX5_addLine 7 = .ok (.getfield 21, 3) := by decide +kernel
theorem dX5_addLine_10 : decode cX5_addLine 10 = .ok (.iload 4, 2) := by decide +kernel
theorem dX5_addLine_12 : decode cX5_addLine 12 = .ok (.iload_n 1, 1) := by decide +kernel
theorem dX5_addLine_13 : decode cX5_addLine 13 = .ok (.iastore, 1) := by decide +kernel
theorem dX5_addLine_14 : decode cX5_addLine 14 = .ok (.aload_n 0, 1) := by decide +kernel
theorem dX5_addLine_15 : decode cX5_addLine 15 = .ok (.getfield 25, 3) := by decide +kernel
theorem dX5_addLine_18 : decode cX5_addLine 18 = .ok (.iload 4, 2) := by decide +kernel
theorem dX5_addLine_20 : decode cX5_addLine 20 = .ok (.iload_n 2, 1) := by decide +kernel
theorem dX5_addLine_21 : decode cX5_addLine 21 = .ok (.iastore, 1) := by decide +kernel
theorem dX5_addLine_22 : decode cX5_addLine 22 = .ok (.aload_n 0, 1) := by decide +kernel
theorem dX5_addLine_23 : decode cX5_addLine 23 = .ok (.getfield 28, 3) := by decide +kernel
theorem dX5_addLine_26 : decode cX5_addLine 26 = .ok (.iload 4, 2) := by decide +kernel
theorem dX5_addLine_28 : decode cX5_addLine 28 = .ok (.iload_n 3, 1) := by decide +kernel
theorem dX5_addLine_29 : decode cX5_addLine 29 = .ok (.iastore, 1) := by decide +kernel
theorem dX5_addLine_30 : decode cX5_addLine 30 = .ok (.aload_n 0, 1) := by decide +kernel
theorem dX5_addLine_31 : decode cX5_addLine 31 = .ok (.getfield 31, 3) := by decide +kernel
theorem dX5_addLine_34 : decode cX5_addLine 34 = .ok (.iload 4, 2) := by decide +kernel
theorem dX5_addLine_36 : decode cX5_addLine 36 = .ok (.iconst 1, 1) := by decide +kernel
theorem dX5_addLine_37 : decode cX5_addLine 37 = .ok (.iload_n 1, 1) := by decide +kernel
theorem dX5_addLine_38 : decode cX5_addLine 38 = .ok (.ishl, 1) := by decide +kernel
theorem dX5_addLine_39 : decode cX5_addLine 39 = .ok (.iconst 1, 1) := by decide +kernel
theorem dX5_addLine_40 : decode cX5_addLine 40 = .ok (.iload_n 2, 1) := by decide +kernel
theorem dX5_addLine_41 : decode cX5_addLine 41 = .ok (.ishl, 1) := by decide +kernel
theorem dX5_addLine_42 : decode cX5_addLine 42 = .ok (.ior, 1) := by decide +kernel
theorem dX5_addLine_43 : decode cX5_addLine 43 = .ok (.iastore, 1) := by decide +kernel
theorem dX5_addLine_44 : decode cX5_addLine 44 = .ok (.aload_n 0, 1) := by decide +kernel
theorem dX5_addLine_45 : decode cX5_addLine 45 = .ok (.getfield 34, 3) := by decide +kernel
theorem dX5_addLine_48 : decode cX5_addLine 48 = .ok (.iload_n 1, 1) := by decide +kernel
theorem dX5_addLine_49 : decode cX5_addLine 49 = .ok (.dup2, 1) := by decide +kernel
theorem dX5_addLine_50 : decode cX5_addLine 50 = .ok (.iaload, 1) := by decide +kernel
theorem dX5_addLine_51 : decode cX5_addLine 51 = .ok (.iconst 1, 1) := by decide +kernel
theorem dX5_addLine_52 : decode cX5_addLine 52 = .ok (.iload 4, 2) := by decide +kernel
theorem dX5_addLine_54 : decode cX5_addLine 54 = .ok (.ishl, 1) := by decide +kernel
theorem dX5_addLine_55 : decode cX5_addLine 55 = .ok (.ior, 1) := by decide +kernel
theorem dX5_addLine_56 : decode cX5_addLine 56 = .ok (.iastore, 1) := by decide +kernel
theorem dX5_addLine_57 : decode cX5_addLine 57 = .ok (.aload_n 0, 1) := by decide +kernel
theorem dX5_addLine_58 : decode cX5_addLine 58 = .ok (.getfield 34, 3) := by decide +kernel
theorem dX5_addLine_61 : decode cX5_addLine 61 = .ok (.iload_n 2, 1) := by decide +kernel
theorem dX5_addLine_62 : decode cX5_addLine 62 = .ok (.dup2, 1) := by decide +kernel
theorem dX5_addLine_63 : decode cX5_addLine 63 = .ok (.iaload, 1) := by decide +kernel
theorem dX5_addLine_64 : decode cX5_addLine 64 = .ok (.iconst 1, 1) := by decide +kernel
theorem dX5_addLine_65 : decode cX5_addLine 65 = .ok (.iload 4, 2) := by decide +kernel
theorem dX5_addLine_67 : decode cX5_addLine 67 = .ok (.ishl, 1) := by decide +kernel
theorem dX5_addLine_68 : decode cX5_addLine 68 = .ok (.ior, 1) := by decide +kernel
theorem dX5_addLine_69 : decode cX5_addLine 69 = .ok (.iastore, 1) := by decide +kernel
theorem dX5_addLine_70 : decode cX5_addLine 70 = .ok (.aload_n 0, 1) := by decide +kernel
theorem dX5_addLine_71 : decode cX5_addLine 71 = .ok (.dup, 1) := by decide +kernel
theorem dX5_addLine_72 : decode cX5_addLine 72 = .ok (.getfield 18, 3) := by decide +kernel
theorem dX5_addLine_75 : decode cX5_addLine 75 = .ok (.iconst 1, 1) := by decide +kernel
theorem dX5_addLine_76 : decode cX5_addLine 76 = .ok (.iload 4, 2) := by decide +kernel
theorem dX5_addLine_78 : decode cX5_addLine 78 = .ok (.ishl, 1) := by decide +kernel
theorem dX5_addLine_79 : decode cX5_addLine 79 = .ok (.ior, 1) := by decide +kernel
theorem dX5_addLine_80 : decode cX5_addLine 80 = .ok (.putfield 18, 3) := by decide +kernel
theorem dX5_addLine_83 : decode cX5_addLine 83 = .ok (.aload_n 0, 1) := by decide +kernel
theorem dX5_addLine_84 : decode cX5_addLine 84 = .ok (.dup, 1) := by decide +kernel
theorem dX5_addLine_85 : decode cX5_addLine 85 = .ok (.getfield 15, 3) := by decide +kernel
theorem dX5_addLine_88 : decode cX5_addLine 88 = .ok (.iconst 1, 1) := by decide +kernel
theorem dX5_addLine_89 : decode cX5_addLine 89 = .ok (.iadd, 1) := by decide +kernel
theorem dX5_addLine_90 : decode cX5_addLine 90 = .ok (.putfield 15, 3) := by decide +kernel
theorem dX5_addLine_93 : decode cX5_addLine 93 = .ok (.iload 4, 2) := by decide +kernel
theorem dX5_addLine_95 : decode cX5_addLine 95 = .ok (.ireturn, 1) := by decide +kernel
theorem dX5_setCut_0 : decode cX5_setCut 0 = .ok (.aload_n 0, 1) := by decide +kernel
theorem dX5_setCut_1 : decode cX5_setCut 1 = .ok (.iload_n 2, 1) := by decide +kernel
theorem dX5_setCut_2 : decode cX5_setCut 2 = .ok (.ifCond .eq 16, 3) := by decide +kernel
theorem dX5_setCut_5 : decode cX5_setCut 5 = .ok (.aload_n 0, 1) := by decide +kernel
theorem dX5_setCut_6 : decode cX5_setCut 6 = .ok (.getfield 18, 3) := by decide +kernel
theorem dX5_setCut_9 : decode cX5_setCut 9 = .ok (.iconst 1, 1) := by decide +kernel
theorem dX5_setCut_10 : decode cX5_setCut 10 = .ok (.iload_n 1, 1) := by decide +kernel
theorem dX5_setCut_11 : decode cX5_setCut 11 = .ok (.ishl, 1) := by decide +kernel
theorem dX5_setCut_12 : decode cX5_setCut 12 = .ok (.iconst (-1), 1) := by decide +kernel
theorem dX5_setCut_13 : decode cX5_setCut 13 = .ok (.ixor, 1) := by decide +kernel
theorem dX5_setCut_14 : decode cX5_setCut 14 = .ok (.iand, 1) := by decide +kernel
theorem dX5_setCut_15 : decode cX5_setCut 15 = .ok (.goto 11, 3) := by decide +kernel
theorem dX5_setCut_18 : decode cX5_setCut 18 = .ok (.aload_n 0, 1) := by decide +kernel
theorem dX5_setCut_19 : decode cX5_setCut 19 = .ok (.getfield 18, 3) := by decide +kernel
theorem dX5_setCut_22 : decode cX5_setCut 22 = .ok (.iconst 1, 1) := by decide +kernel
theorem dX5_setCut_23 : decode cX5_setCut 23 = .ok (.iload_n 1, 1) := by decide +kernel
theorem dX5_setCut_24 : decode cX5_setCut 24 = .ok (.ishl, 1) := by decide +kernel
theorem dX5_setCut_25 : decode cX5_setCut 25 = .ok (.ior, 1) := by decide +kernel
theorem dX5_setCut_26 : decode cX5_setCut 26 = .ok (.putfield 18, 3) := by decide +kernel
theorem dX5_setCut_29 : decode cX5_setCut 29 = .ok (.return_, 1) := by decide +kernel
theorem dX5_allPoints_0 : decode cX5_allPoints 0 = .ok (.iconst 1, 1) := by decide +kernel
theorem dX5_allPoints_1 : decode cX5_allPoints 1 = .ok (.aload_n 0, 1) := by decide +kernel
theorem dX5_allPoints_2 : decode cX5_allPoints 2 = .ok (.getfield 9, 3) := by decide +kernel
theorem dX5_allPoints_5 : decode cX5_allPoints 5 = .ok (.ishl, 1) := by decide +kernel
theorem dX5_allPoints_6 : decode cX5_allPoints 6 = .ok (.iconst 1, 1) := by decide +kernel
theorem dX5_allPoints_7 : decode cX5_allPoints 7 = .ok (.isub, 1) := by decide +kernel
theorem dX5_allPoints_8 : decode cX5_allPoints 8 = .ok (.ireturn, 1) := by decide +kernel
theorem dX5_standingAt_0 : decode cX5_standingAt 0 = .ok (.aload_n 0, 1) := by decide +kernel
theorem dX5_standingAt_1 : decode cX5_standingAt 1 = .ok (.getfield 34, 3) := by decide +kernel
theorem dX5_standingAt_4 : decode cX5_standingAt 4 = .ok (.iload_n 1, 1) := by decide +kernel
theorem dX5_standingAt_5 : decode cX5_standingAt 5 = .ok (.iaload, 1) := by decide +kernel
theorem dX5_standingAt_6 : decode cX5_standingAt 6 = .ok (.aload_n 0, 1) := by decide +kernel
theorem dX5_standingAt_7 : decode cX5_standingAt 7 = .ok (.getfield 18, 3) := by decide +kernel
theorem dX5_standingAt_10 : decode cX5_standingAt 10 = .ok (.iand, 1) := by decide +kernel
theorem dX5_standingAt_11 : decode cX5_standingAt 11 = .ok (.ireturn, 1) := by decide +kernel
theorem dX5_otherEnd_0 : decode cX5_otherEnd 0 = .ok (.aload_n 0, 1) := by decide +kernel
theorem dX5_otherEnd_1 : decode cX5_otherEnd 1 = .ok (.getfield 21, 3) := by decide +kernel
theorem dX5_otherEnd_4 : decode cX5_otherEnd 4 = .ok (.iload_n 1, 1) := by decide +kernel
theorem dX5_otherEnd_5 : decode cX5_otherEnd 5 = .ok (.iaload, 1) := by decide +kernel
theorem dX5_otherEnd_6 : decode cX5_otherEnd 6 = .ok (.iload_n 2, 1) := by decide +kernel
theorem dX5_otherEnd_7 : decode cX5_otherEnd 7 = .ok (.if_icmp .ne 12, 3) := by decide +kernel
theorem dX5_otherEnd_10 : decode cX5_otherEnd 10 = .ok (.aload_n 0, 1) := by decide +kernel
theorem dX5_otherEnd_11 : decode cX5_otherEnd 11 = .ok (.getfield 25, 3) := by decide +kernel
theorem dX5_otherEnd_14 : decode cX5_otherEnd 14 = .ok (.iload_n 1, 1) := by decide +kernel
theorem dX5_otherEnd_15 : decode cX5_otherEnd 15 = .ok (.iaload, 1) := by decide +kernel
theorem dX5_otherEnd_16 : decode cX5_otherEnd 16 = .ok (.goto 9, 3) := by decide +kernel
theorem dX5_otherEnd_19 : decode cX5_otherEnd 19 = .ok (.aload_n 0, 1) := by decide +kernel
theorem dX5_otherEnd_20 : decode cX5_otherEnd 20 = .ok (.getfield 21, 3) := by decide +kernel
theorem dX5_otherEnd_23 : decode cX5_otherEnd 23 = .ok (.iload_n 1, 1) := by decide +kernel
theorem dX5_otherEnd_24 : decode cX5_otherEnd 24 = .ok (.iaload, 1) := by decide +kernel
theorem dX5_otherEnd_25 : decode cX5_otherEnd 25 = .ok (.ireturn, 1) := by decide +kernel
set_option maxRecDepth 20000 in
theorem ggX5_linkedWith_X6_has : GoodIn wsX5_linkedWith wsX6_has := goodIn_r _ [7] (by decide +kernel) (by decide +kernel)
set_option maxRecDepth 20000 in
theorem gX5_linkedWith_X6_has_n37 : GoodIn wsX5_linkedWith (wsX6_has) := ggX5_linkedWith_X6_has
theorem dX5_linkedWith_0 : decode cX5_linkedWith 0 = .ok (.iconst 0, 1) := by decide +kernel
theorem dX5_linkedWith_1 : decode cX5_linkedWith 1 = .ok (.istore_n 2, 1) := by decide +kernel
theorem dX5_linkedWith_2 : decode cX5_linkedWith 2 = .ok (.iconst 0, 1) := by decide +kernel
theorem dX5_linkedWith_3 : decode cX5_linkedWith 3 = .ok (.istore_n 3, 1) := by decide +kernel
theorem dX5_linkedWith_4 : decode cX5_linkedWith 4 = .ok (.iload_n 3, 1) := by decide +kernel
theorem dX5_linkedWith_5 : decode cX5_linkedWith 5 = .ok (.aload_n 0, 1) := by decide +kernel
theorem dX5_linkedWith_6 : decode cX5_linkedWith 6 = .ok (.getfield 15, 3) := by decide +kernel
theorem dX5_linkedWith_9 : decode cX5_linkedWith 9 = .ok (.if_icmp .ge 36, 3) := by decide +kernel
theorem dX5_linkedWith_12 : decode cX5_linkedWith 12 = .ok (.aload_n 0, 1) := by decide +kernel
theorem dX5_linkedWith_13 : decode cX5_linkedWith 13 = .ok (.getfield 34, 3) := by decide +kernel
theorem dX5_linkedWith_16 : decode cX5_linkedWith 16 = .ok (.iload_n 1, 1) := by decide +kernel
theorem dX5_linkedWith_17 : decode cX5_linkedWith 17 = .ok (.iaload, 1) := by decide +kernel
theorem dX5_linkedWith_18 : decode cX5_linkedWith 18 = .ok (.aload_n 0, 1) := by decide +kernel
theorem dX5_linkedWith_19 : decode cX5_linkedWith 19 = .ok (.getfield 18, 3) := by decide +kernel
theorem dX5_linkedWith_22 : decode cX5_linkedWith 22 = .ok (.iand, 1) := by decide +kernel
theorem dX5_linkedWith_23 : decode cX5_linkedWith 23 = .ok (.iload_n 3, 1) := by decide +kernel
theorem dX5_linkedWith_24 : decode cX5_linkedWith 24 = .ok (.invokestatic 37, 3) := by decide +kernel
theorem dX5_linkedWith_27 : decode cX5_linkedWith 27 = .ok (.ifCond .eq 12, 3) := by decide +kernel
theorem dX5_linkedWith_30 : decode cX5_linkedWith 30 = .ok (.iload_n 2, 1) := by decide +kernel
theorem dX5_linkedWith_31 : decode cX5_linkedWith 31 = .ok (.aload_n 0, 1) := by decide +kernel
theorem dX5_linkedWith_32 : decode cX5_linkedWith 32 = .ok (.getfield 31, 3) := by decide +kernel
theorem dX5_linkedWith_35 : decode cX5_linkedWith 35 = .ok (.iload_n 3, 1) := by decide +kernel
theorem dX5_linkedWith_36 : decode cX5_linkedWith 36 = .ok (.iaload, 1) := by decide +kernel
theorem dX5_linkedWith_37 : decode cX5_linkedWith 37 = .ok (.ior, 1) := by decide +kernel
theorem dX5_linkedWith_38 : decode cX5_linkedWith 38 = .ok (.istore_n 2, 1) := by decide +kernel
theorem dX5_linkedWith_39 : decode cX5_linkedWith 39 = .ok (.iinc 3 1, 3) := by decide +kernel
theorem dX5_linkedWith_42 : decode cX5_linkedWith 42 = .ok (.goto (-38), 3) := by decide +kernel
theorem dX5_linkedWith_45 : decode cX5_linkedWith 45 = .ok (.iload_n 2, 1) := by decide +kernel
theorem dX5_linkedWith_46 : decode cX5_linkedWith 46 = .ok (.iconst 1, 1) := by decide +kernel
theorem dX5_linkedWith_47 : decode cX5_linkedWith 47 = .ok (.iload_n 1, 1) := by decide +kernel
theorem dX5_linkedWith_48 : decode cX5_linkedWith 48 = .ok (.ishl, 1) := by decide +kernel
theorem dX5_linkedWith_49 : decode cX5_linkedWith 49 = .ok (.iconst (-1), 1) := by decide +kernel
theorem dX5_linkedWith_50 : decode cX5_linkedWith 50 = .ok (.ixor, 1) := by decide +kernel
theorem dX5_linkedWith_51 : decode cX5_linkedWith 51 = .ok (.iand, 1) := by decide +kernel
theorem dX5_linkedWith_52 : decode cX5_linkedWith 52 = .ok (.ireturn, 1) := by decide +kernel
theorem dX5_reach_0 : decode cX5_reach 0 = .ok (.iconst 1, 1) := by decide +kernel
theorem dX5_reach_1 : decode cX5_reach 1 = .ok (.iload_n 1, 1) := by decide +kernel
theorem dX5_reach_2 : decode cX5_reach 2 = .ok (.ishl, 1) := by decide +kernel
theorem dX5_reach_3 : decode cX5_reach 3 = .ok (.istore 4, 2) := by decide +kernel
theorem dX5_reach_5 : decode cX5_reach 5 = .ok (.iconst 0, 1) := by decide +kernel
end
section
theorem dX5_reach_6 : decode cX5_reach 6 = .ok (.istore 5, 2) := by decide +kernel
theorem dX5_reach_8 : decode cX5_reach 8 = .ok (.iload 5, 2) := by decide +kernel
theorem dX5_reach_10 : decode cX5_reach 10 = .ok (.bipush 8, 2) := by decide +kernel
theorem dX5_reach_12 : decode cX5_reach 12 = .ok (.if_icmp .ge 101, 3) := by decide +kernel
theorem dX5_reach_15 : decode cX5_reach 15 = .ok (.iload 4, 2) := by decide +kernel
theorem dX5_reach_17 : decode cX5_reach 17 = .ok (.istore 6, 2) := by decide +kernel
theorem dX5_reach_19 : decode cX5_reach 19 = .ok (.iconst 0, 1) := by decide +kernel
theorem dX5_reach_20 : decode cX5_reach 20 = .ok (.istore 7, 2) := by decide +kernel
theorem dX5_reach_22 : decode cX5_reach 22 = .ok (.iload 7, 2) := by decide +kernel
theorem dX5_reach_24 : decode cX5_reach 24 = .ok (.aload_n 0, 1) := by decide +kernel
theorem dX5_reach_25 : decode cX5_reach 25 = .ok (.getfield 15, 3) := by decide +kernel
theorem dX5_reach_28 : decode cX5_reach 28 = .ok (.if_icmp .ge 69, 3) := by decide +kernel
theorem dX5_reach_31 : decode cX5_reach 31 = .ok (.iload_n 3, 1) := by decide +kernel
theorem dX5_reach_32 : decode cX5_reach 32 = .ok (.iload 7, 2) := by decide +kernel
theorem dX5_reach_34 : decode cX5_reach 34 = .ok (.ishr, 1) := by decide +kernel
theorem dX5_reach_35 : decode cX5_reach 35 = .ok (.iconst 1, 1) := by decide +kernel
theorem dX5_reach_36 : decode cX5_reach 36 = .ok (.iand, 1) := by decide +kernel
theorem dX5_reach_37 : decode cX5_reach 37 = .ok (.ifCond .eq 20, 3) := by decide +kernel
theorem dX5_reach_40 : decode cX5_reach 40 = .ok (.aload_n 0, 1) := by decide +kernel
theorem dX5_reach_41 : decode cX5_reach 41 = .ok (.getfield 31, 3) := by decide +kernel
theorem dX5_reach_44 : decode cX5_reach 44 = .ok (.iload 7, 2) := by decide +kernel
theorem dX5_reach_46 : decode cX5_reach 46 = .ok (.iaload, 1) := by decide +kernel
theorem dX5_reach_47 : decode cX5_reach 47 = .ok (.iload 4, 2) := by decide +kernel
theorem dX5_reach_49 : decode cX5_reach 49 = .ok (.iand, 1) := by decide +kernel
theorem dX5_reach_50 : decode cX5_reach 50 = .ok (.ifCond .eq 7, 3) := by decide +kernel
theorem dX5_reach_53 : decode cX5_reach 53 = .ok (.iconst 1, 1) := by decide +kernel
theorem dX5_reach_54 : decode cX5_reach 54 = .ok (.goto 4, 3) := by decide +kernel
theorem dX5_reach_57 : decode cX5_reach 57 = .ok (.iconst 0, 1) := by decide +kernel
theorem dX5_reach_58 : decode cX5_reach 58 = .ok (.istore 8, 2) := by decide +kernel
theorem dX5_reach_60 : decode cX5_reach 60 = .ok (.iload 8, 2) := by decide +kernel
theorem dX5_reach_62 : decode cX5_reach 62 = .ok (.ifCond .eq 29, 3) := by decide +kernel
theorem dX5_reach_65 : decode cX5_reach 65 = .ok (.aload_n 0, 1) := by decide +kernel
theorem dX5_reach_66 : decode cX5_reach 66 = .ok (.getfield 31, 3) := by decide +kernel
theorem dX5_reach_69 : decode cX5_reach 69 = .ok (.iload 7, 2) := by decide +kernel
theorem dX5_reach_71 : decode cX5_reach 71 = .ok (.iaload, 1) := by decide +kernel
theorem dX5_reach_72 : decode cX5_reach 72 = .ok (.iload_n 2, 1) := by decide +kernel
theorem dX5_reach_73 : decode cX5_reach 73 = .ok (.iconst (-1), 1) := by decide +kernel
theorem dX5_reach_74 : decode cX5_reach 74 = .ok (.ixor, 1) := by decide +kernel
theorem dX5_reach_75 : decode cX5_reach 75 = .ok (.iand, 1) := by decide +kernel
theorem dX5_reach_76 : decode cX5_reach 76 = .ok (.ifCond .ne 15, 3) := by decide +kernel
theorem dX5_reach_79 : decode cX5_reach 79 = .ok (.iload 4, 2) := by decide +kernel
theorem dX5_reach_81 : decode cX5_reach 81 = .ok (.aload_n 0, 1) := by decide +kernel
theorem dX5_reach_82 : decode cX5_reach 82 = .ok (.getfield 31, 3) := by decide +kernel
theorem dX5_reach_85 : decode cX5_reach 85 = .ok (.iload 7, 2) := by decide +kernel
theorem dX5_reach_87 : decode cX5_reach 87 = .ok (.iaload, 1) := by decide +kernel
theorem dX5_reach_88 : decode cX5_reach 88 = .ok (.ior, 1) := by decide +kernel
theorem dX5_reach_89 : decode cX5_reach 89 = .ok (.istore 4, 2) := by decide +kernel
theorem dX5_reach_91 : decode cX5_reach 91 = .ok (.iinc 7 1, 3) := by decide +kernel
theorem dX5_reach_94 : decode cX5_reach 94 = .ok (.goto (-72), 3) := by decide +kernel
theorem dX5_reach_97 : decode cX5_reach 97 = .ok (.iload 4, 2) := by decide +kernel
theorem dX5_reach_99 : decode cX5_reach 99 = .ok (.iload 6, 2) := by decide +kernel
theorem dX5_reach_101 : decode cX5_reach 101 = .ok (.if_icmp .ne 6, 3) := by decide +kernel
theorem dX5_reach_104 : decode cX5_reach 104 = .ok (.iload 4, 2) := by decide +kernel
theorem dX5_reach_106 : decode cX5_reach 106 = .ok (.ireturn, 1) := by decide +kernel
theorem dX5_reach_107 : decode cX5_reach 107 = .ok (.iinc 5 1, 3) := by decide +kernel
theorem dX5_reach_110 : decode cX5_reach 110 = .ok (.goto (-102), 3) := by decide +kernel
theorem dX5_reach_113 : decode cX5_reach 113 = .ok (.iload 4, 2) := by decide +kernel
theorem dX5_reach_115 : decode cX5_reach 115 = .ok (.ireturn, 1) := by decide +kernel
set_option maxRecDepth 20000 in
theorem ggX5_countParts_X6_has : GoodIn wsX5_countParts wsX6_has := goodIn_r _ [4] (by decide +kernel) (by decide +kernel)
set_option maxRecDepth 20000 in
theorem gX5_countParts_X6_has_n37 : GoodIn wsX5_countParts (wsX6_has) := ggX5_countParts_X6_has
set_option maxRecDepth 20000 in
theorem ggX5_countParts_X5_reach : GoodIn wsX5_countParts wsX5_reach := goodIn_r _ [9, 10, 11, 12, 13, 14, 15, 16, 17, 18, 19] (by decide +kernel) (by decide +kernel)
set_option maxRecDepth 20000 in
theorem gX5_countParts_X5_reach : GoodIn wsX5_countParts (wsV RX5 41 RX5 yX5_reach wsX5_reach) := goodIn_app (goodIn_of _ (by decide +kernel)) ggX5_countParts_X5_reach
theorem dX5_countParts_0 : decode cX5_countParts 0 = .ok (.iconst 0, 1) := by decide +kernel
theorem dX5_countParts_1 : decode cX5_countParts 1 = .ok (.istore_n 3, 1) := by decide +kernel
theorem dX5_countParts_2 : decode cX5_countParts 2 = .ok (.iconst 0, 1) := by decide +kernel
theorem dX5_countParts_3 : decode cX5_countParts 3 = .ok (.istore 4, 2) := by decide +kernel
theorem dX5_countParts_5 : decode cX5_countParts 5 = .ok (.iconst 0, 1) := by decide +kernel
theorem dX5_countParts_6 : decode cX5_countParts 6 = .ok (.istore 5, 2) := by decide +kernel
theorem dX5_countParts_8 : decode cX5_countParts 8 = .ok (.iload 5, 2) := by decide +kernel
theorem dX5_countParts_10 : decode cX5_countParts 10 = .ok (.aload_n 0, 1) := by decide +kernel
theorem dX5_countParts_11 : decode cX5_countParts 11 = .ok (.getfield 9, 3) := by decide +kernel
theorem dX5_countParts_14 : decode cX5_countParts 14 = .ok (.if_icmp .ge 39, 3) := by decide +kernel
theorem dX5_countParts_17 : decode cX5_countParts 17 = .ok (.iload_n 1, 1) := by decide +kernel
theorem dX5_countParts_18 : decode cX5_countParts 18 = .ok (.iload 4, 2) := by decide +kernel
theorem dX5_countParts_20 : decode cX5_countParts 20 = .ok (.iconst (-1), 1) := by decide +kernel
theorem dX5_countParts_21 : decode cX5_countParts 21 = .ok (.ixor, 1) := by decide +kernel
theorem dX5_countParts_22 : decode cX5_countParts 22 = .ok (.iand, 1) := by decide +kernel
theorem dX5_countParts_23 : decode cX5_countParts 23 = .ok (.iload 5, 2) := by decide +kernel
theorem dX5_countParts_25 : decode cX5_countParts 25 = .ok (.invokestatic 37, 3) := by decide +kernel
theorem dX5_countParts_28 : decode cX5_countParts 28 = .ok (.ifCond .eq 19, 3) := by decide +kernel
theorem dX5_countParts_31 : decode cX5_countParts 31 = .ok (.iload 4, 2) := by decide +kernel
theorem dX5_countParts_33 : decode cX5_countParts 33 = .ok (.aload_n 0, 1) := by decide +kernel
theorem dX5_countParts_34 : decode cX5_countParts 34 = .ok (.iload 5, 2) := by decide +kernel
theorem dX5_countParts_36 : decode cX5_countParts 36 = .ok (.iload_n 1, 1) := by decide +kernel
theorem dX5_countParts_37 : decode cX5_countParts 37 = .ok (.iload_n 2, 1) := by decide +kernel
theorem dX5_countParts_38 : decode cX5_countParts 38 = .ok (.invokevirtual 41, 3) := by decide +kernel
theorem dX5_countParts_41 : decode cX5_countParts 41 = .ok (.ior, 1) := by decide +kernel
theorem dX5_countParts_42 : decode cX5_countParts 42 = .ok (.istore 4, 2) := by decide +kernel
theorem dX5_countParts_44 : decode cX5_countParts 44 = .ok (.iinc 3 1, 3) := by decide +kernel
theorem dX5_countParts_47 : decode cX5_countParts 47 = .ok (.iinc 5 1, 3) := by decide +kernel
theorem dX5_countParts_50 : decode cX5_countParts 50 = .ok (.goto (-42), 3) := by decide +kernel
theorem dX5_countParts_53 : decode cX5_countParts 53 = .ok (.iload_n 3, 1) := by decide +kernel
theorem dX5_countParts_54 : decode cX5_countParts 54 = .ok (.ireturn, 1) := by decide +kernel
set_option maxRecDepth 20000 in
theorem ggX5_distance_X6_has : GoodIn wsX5_distance wsX6_has := goodIn_r _ [3] (by decide +kernel) (by decide +kernel)
set_option maxRecDepth 20000 in
theorem gX5_distance_X6_has_n37 : GoodIn wsX5_distance (wsX6_has) := ggX5_distance_X6_has
set_option maxRecDepth 20000 in
theorem ggX5_distance_X5_linkedWithAny : GoodIn wsX5_distance wsX5_linkedWithAny := goodIn_r _ [8, 9, 1, 2, 3, 10, 11, 12, 7, 13, 14, 15, 16, 17, 18, 19, 20, 21, 22, 23, 24, 25] (by decide +kernel) (by decide +kernel)
set_option maxRecDepth 20000 in
theorem gX5_distance_X5_linkedWithAny : GoodIn wsX5_distance (wsV RX5 45 RX5 yX5_linkedWithAny wsX5_linkedWithAny) := goodIn_app (goodIn_of _ (by decide +kernel)) ggX5_distance_X5_linkedWithAny
theorem dX5_distance_0 : decode cX5_distance 0 = .ok (.iconst 1, 1) := by decide +kernel
theorem dX5_distance_1 : decode cX5_distance 1 = .ok (.iload_n 1, 1) := by decide +kernel
theorem dX5_distance_2 : decode cX5_distance 2 = .ok (.ishl, 1) := by decide +kernel
theorem dX5_distance_3 : decode cX5_distance 3 = .ok (.istore_n 3, 1) := by decide +kernel
theorem dX5_distance_4 : decode cX5_distance 4 = .ok (.iconst 0, 1) := by decide +kernel
theorem dX5_distance_5 : decode cX5_distance 5 = .ok (.istore 4, 2) := by decide +kernel
theorem dX5_distance_7 : decode cX5_distance 7 = .ok (.iload 4, 2) := by decide +kernel
theorem dX5_distance_9 : decode cX5_distance 9 = .ok (.bipush 8, 2) := by decide +kernel
theorem dX5_distance_11 : decode cX5_distance 11 = .ok (.if_icmp .ge 28, 3) := by decide +kernel
theorem dX5_distance_14 : decode cX5_distance 14 = .ok (.iload_n 3, 1) := by decide +kernel
theorem dX5_distance_15 : decode cX5_distance 15 = .ok (.iload_n 2, 1) := by decide +kernel
theorem dX5_distance_16 : decode cX5_distance 16 = .ok (.invokestatic 37, 3) := by decide +kernel
theorem dX5_distance_19 : decode cX5_distance 19 = .ok (.ifCond .eq 6, 3) := by decide +kernel
theorem dX5_distance_22 : decode cX5_distance 22 = .ok (.iload 4, 2) := by decide +kernel
theorem dX5_distance_24 : decode cX5_distance 24 = .ok (.ireturn, 1) := by decide +kernel
theorem dX5_distance_25 : decode cX5_distance 25 = .ok (.iload_n 3, 1) := by decide +kernel
theorem dX5_distance_26 : decode cX5_distance 26 = .ok (.aload_n 0, 1) := by decide +kernel
theorem dX5_distance_27 : decode cX5_distance 27 = .ok (.iload_n 3, 1) := by decide +kernel
theorem dX5_distance_28 : decode cX5_distance 28 = .ok (.invokevirtual 45, 3) := by decide +kernel
theorem dX5_distance_31 : decode cX5_distance 31 = .ok (.ior, 1) := by decide +kernel
theorem dX5_distance_32 : decode cX5_distance 32 = .ok (.istore_n 3, 1) := by decide +kernel
theorem dX5_distance_33 : decode cX5_distance 33 = .ok (.iinc 4 1, 3) := by decide +kernel
theorem dX5_distance_36 : decode cX5_distance 36 = .ok (.goto (-29), 3) := by decide +kernel
theorem dX5_distance_39 : decode cX5_distance 39 = .ok (.iconst (-1), 1) := by decide +kernel
theorem dX5_distance_40 : decode cX5_distance 40 = .ok (.ireturn, 1) := by decide +kernel
set_option maxRecDepth 20000 in
theorem ggX5_linkedWithAny_X6_has : GoodIn wsX5_linkedWithAny wsX6_has := goodIn_r _ [4] (by decide +kernel) (by decide +kernel)
set_option maxRecDepth 20000 in
theorem gX5_linkedWithAny_X6_has_n37 : GoodIn wsX5_linkedWithAny (wsX6_has) := ggX5_linkedWithAny_X6_has
set_option maxRecDepth 20000 in
theorem ggX5_linkedWithAny_X5_linkedWith : GoodIn wsX5_linkedWithAny wsX5_linkedWith := goodIn_r _ [9, 10, 11, 12, 13, 2, 3, 4, 14, 15, 16, 17, 18, 19, 20, 21] (by decide +kernel) (by decide +kernel)
set_option maxRecDepth 20000 in
theorem gX5_linkedWithAny_X5_linkedWith : GoodIn wsX5_linkedWithAny (wsV RX5 49 RX5 yX5_linkedWith wsX5_linkedWith) := goodIn_app (goodIn_of _ (by decide +kernel)) ggX5_linkedWithAny_X5_linkedWith
theorem dX5_linkedWithAny_0 : decode cX5_linkedWithAny 0 = .ok (.iconst 0, 1) := by decide +kernel
theorem dX5_linkedWithAny_1 : decode cX5_linkedWithAny 1 = .ok (.istore_n 2, 1) := by decide +kernel
theorem dX5_linkedWithAny_2 : decode cX5_linkedWithAny 2 = .ok (.iconst 0, 1) := by decide +kernel
theorem dX5_linkedWithAny_3 : decode cX5_linkedWithAny 3 = .ok (.istore_n 3, 1) := by decide +kernel
theorem dX5_linkedWithAny_4 : decode cX5_linkedWithAny 4 = .ok (.iload_n 3, 1) := by decide +kernel
theorem dX5_linkedWithAny_5 : decode cX5_linkedWithAny 5 = .ok (.aload_n 0, 1) := by decide +kernel
theorem dX5_linkedWithAny_6 : decode cX5_linkedWithAny 6 = .ok (.getfield 9, 3) := by decide +kernel
theorem dX5_linkedWithAny_9 : decode cX5_linkedWithAny 9 = .ok (.if_icmp .ge 25, 3) := by decide +kernel
theorem dX5_linkedWithAny_12 : decode cX5_linkedWithAny 12 = .ok (.iload_n 1, 1) := by decide +kernel
theorem dX5_linkedWithAny_13 : decode cX5_linkedWithAny 13 = .ok (.iload_n 3, 1) := by decide +kernel
theorem dX5_linkedWithAny_14 : decode cX5_linkedWithAny 14 = .ok (.invokestatic 37, 3) := by decide +kernel
theorem dX5_linkedWithAny_17 : decode cX5_linkedWithAny 17 = .ok (.ifCond .eq 11, 3) := by decide +kernel
theorem dX5_linkedWithAny_20 : decode cX5_linkedWithAny 20 = .ok (.iload_n 2, 1) := by decide +kernel
theorem dX5_linkedWithAny_21 : decode cX5_linkedWithAny 21 = .ok (.aload_n 0, 1) := by decide +kernel
theorem dX5_linkedWithAny_22 : decode cX5_linkedWithAny 22 = .ok (.iload_n 3, 1) := by decide +kernel
theorem dX5_linkedWithAny_23 : decode cX5_linkedWithAny 23 = .ok (.invokevirtual 49, 3) := by decide +kernel
theorem dX5_linkedWithAny_26 : decode cX5_linkedWithAny 26 = .ok (.ior, 1) := by decide +kernel
theorem dX5_linkedWithAny_27 : decode cX5_linkedWithAny 27 = .ok (.istore_n 2, 1) := by decide +kernel
theorem dX5_linkedWithAny_28 : decode cX5_linkedWithAny 28 = .ok (.iinc 3 1, 3) := by decide +kernel
theorem dX5_linkedWithAny_31 : decode cX5_linkedWithAny 31 = .ok (.goto (-27), 3) := by decide +kernel
theorem dX5_linkedWithAny_34 : decode cX5_linkedWithAny 34 = .ok (.iload_n 2, 1) := by decide +kernel
theorem dX5_linkedWithAny_35 : decode cX5_linkedWithAny 35 = .ok (.ireturn, 1) := by decide +kernel
set_option maxRecDepth 20000 in
theorem ggX5_greatestDistance_X5_distance : GoodIn wsX5_greatestDistance wsX5_distance := goodIn_r _ [10, 11, 12, 13, 14, 15, 16, 9, 17, 1, 18, 19, 20, 21, 22, 23, 24, 25, 26, 27, 28, 29, 30, 31, 32, 33] (by decide +kernel) (by decide +kernel)
set_option maxRecDepth 20000 in
theorem gX5_greatestDistance_X5_distance : GoodIn wsX5_greatestDistance (wsV RX5 52 RX5 yX5_distance wsX5_distance) := goodIn_app (goodIn_of _ (by decide +kernel)) ggX5_greatestDistance_X5_distance
theorem dX5_greatestDistance_0 : decode cX5_greatestDistance 0 = .ok (.iconst 0, 1) := by decide +kernel
theorem dX5_greatestDistance_1 : decode cX5_greatestDistance 1 = .ok (.istore_n 1, 1) := by decide +kernel
theorem dX5_greatestDistance_2 : decode cX5_greatestDistance 2 = .ok (.iconst 0, 1) := by decide +kernel
theorem dX5_greatestDistance_3 : decode cX5_greatestDistance 3 = .ok (.istore_n 2, 1) := by decide +kernel
theorem dX5_greatestDistance_4 : decode cX5_greatestDistance 4 = .ok (.iload_n 2, 1) := by decide +kernel
theorem dX5_greatestDistance_5 : decode cX5_greatestDistance 5 = .ok (.aload_n 0, 1) := by decide +kernel
theorem dX5_greatestDistance_6 : decode cX5_greatestDistance 6 = .ok (.getfield 9, 3) := by decide +kernel
theorem dX5_greatestDistance_9 : decode cX5_greatestDistance 9 = .ok (.if_icmp .ge 38, 3) := by decide +kernel
theorem dX5_greatestDistance_12 : decode cX5_greatestDistance 12 = .ok (.iload_n 2, 1) := by decide +kernel
theorem dX5_greatestDistance_13 : decode cX5_greatestDistance 13 = .ok (.iconst 1, 1) := by decide +kernel
theorem dX5_greatestDistance_14 : decode cX5_greatestDistance 14 = .ok (.iadd, 1) := by decide +kernel
theorem dX5_greatestDistance_15 : decode cX5_greatestDistance 15 = .ok (.istore_n 3, 1) := by decide +kernel
theorem dX5_greatestDistance_16 : decode cX5_greatestDistance 16 = .ok (.iload_n 3, 1) := by decide +kernel
theorem dX5_greatestDistance_17 : decode cX5_greatestDistance 17 = .ok (.aload_n 0, 1) := by decide +kernel
theorem dX5_greatestDistance_18 : decode cX5_greatestDistance 18 = .ok (.getfield 9, 3) := by decide +kernel
theorem dX5_greatestDistance_21 : decode cX5_greatestDistance 21 = .ok (.if_icmp .ge 20, 3) := by decide +kernel
theorem dX5_greatestDistance_24 : decode cX5_greatestDistance 24 = .ok (.iload_n 1, 1) := by decide +kernel
theorem dX5_greatestDistance_25 : decode cX5_greatestDistance 25 = .ok (.aload_n 0, 1) := by decide +kernel
theorem dX5_greatestDistance_26 : decode cX5_greatestDistance 26 = .ok (.iload_n 2, 1) := by decide +kernel
theorem dX5_greatestDistance_27 : decode cX5_greatestDistance 27 = .ok (.iload_n 3, 1) := by decide +kernel
theorem dX5_greatestDistance_28 : decode cX5_greatestDistance 28 = .ok (.invokevirtual 52, 3) := by decide +kernel
theorem dX5_greatestDistance_31 : decode cX5_greatestDistance 31 = .ok (.invokestatic 56, 3) := by decide +kernel
theorem dX5_greatestDistance_34 : decode cX5_greatestDistance 34 = .ok (.istore_n 1, 1) := by decide +kernel
theorem dX5_greatestDistance_35 : decode cX5_greatestDistance 35 = .ok (.iinc 3 1, 3) := by decide +kernel
theorem dX5_greatestDistance_38 : decode cX5_greatestDistance 38 = .ok (.goto (-22), 3) := by decide +kernel
theorem dX5_greatestDistance_41 : decode cX5_greatestDistance 41 = .ok (.iinc 2 1, 3) := by decide +kernel
theorem dX5_greatestDistance_44 : decode cX5_greatestDistance 44 = .ok (.goto (-40), 3) := by decide +kernel
theorem dX5_greatestDistance_47 : decode cX5_greatestDistance 47 = .ok (.iload_n 1, 1) := by decide +kernel
theorem dX5_greatestDistance_48 : decode cX5_greatestDistance 48 = .ok (.ireturn, 1) := by decide +kernel
set_option maxRecDepth 20000 in
theorem ggX5_linesOutOf_X6_has : GoodIn wsX5_linesOutOf wsX6_has := goodIn_r _ [4] (by decide +kernel) (by decide +kernel)
set_option maxRecDepth 20000 in
theorem gX5_linesOutOf_X6_has_n37 : GoodIn wsX5_linesOutOf (wsX6_has) := ggX5_linesOutOf_X6_has
set_option maxRecDepth 20000 in
theorem ggX5_linesOutOf_X5_standingAt : GoodIn wsX5_linesOutOf wsX5_standingAt := goodIn_r _ [9, 10, 11, 12, 13, 14, 15, 16, 17, 18, 19] (by decide +kernel) (by decide +kernel)
set_option maxRecDepth 20000 in
theorem gX5_linesOutOf_X5_standingAt : GoodIn wsX5_linesOutOf (wsV RX5 61 RX5 yX5_standingAt wsX5_standingAt) := goodIn_app (goodIn_of _ (by decide +kernel)) ggX5_linesOutOf_X5_standingAt
theorem dX5_linesOutOf_0 : decode cX5_linesOutOf 0 = .ok (.iconst 0, 1) := by decide +kernel
theorem dX5_linesOutOf_1 : decode cX5_linesOutOf 1 = .ok (.istore_n 2, 1) := by decide +kernel
theorem dX5_linesOutOf_2 : decode cX5_linesOutOf 2 = .ok (.iconst 0, 1) := by decide +kernel
theorem dX5_linesOutOf_3 : decode cX5_linesOutOf 3 = .ok (.istore_n 3, 1) := by decide +kernel
theorem dX5_linesOutOf_4 : decode cX5_linesOutOf 4 = .ok (.iload_n 3, 1) := by decide +kernel
theorem dX5_linesOutOf_5 : decode cX5_linesOutOf 5 = .ok (.aload_n 0, 1) := by decide +kernel
theorem dX5_linesOutOf_6 : decode cX5_linesOutOf 6 = .ok (.getfield 9, 3) := by decide +kernel
theorem dX5_linesOutOf_9 : decode cX5_linesOutOf 9 = .ok (.if_icmp .ge 25, 3) := by decide +kernel
theorem dX5_linesOutOf_12 : decode cX5_linesOutOf 12 = .ok (.iload_n 1, 1) := by decide +kernel
theorem dX5_linesOutOf_13 : decode cX5_linesOutOf 13 = .ok (.iload_n 3, 1) := by decide +kernel
theorem dX5_linesOutOf_14 : decode cX5_linesOutOf 14 = .ok (.invokestatic 37, 3) := by decide +kernel
theorem dX5_linesOutOf_17 : decode cX5_linesOutOf 17 = .ok (.ifCond .eq 11, 3) := by decide +kernel
theorem dX5_linesOutOf_20 : decode cX5_linesOutOf 20 = .ok (.iload_n 2, 1) := by decide +kernel
theorem dX5_linesOutOf_21 : decode cX5_linesOutOf 21 = .ok (.aload_n 0, 1) := by decide +kernel
theorem dX5_linesOutOf_22 : decode cX5_linesOutOf 22 = .ok (.iload_n 3, 1) := by decide +kernel
theorem dX5_linesOutOf_23 : decode cX5_linesOutOf 23 = .ok (.invokevirtual 61, 3) := by decide +kernel
theorem dX5_linesOutOf_26 : decode cX5_linesOutOf 26 = .ok (.ixor, 1) := by decide +kernel
theorem dX5_linesOutOf_27 : decode cX5_linesOutOf 27 = .ok (.istore_n 2, 1) := by decide +kernel
theorem dX5_linesOutOf_28 : decode cX5_linesOutOf 28 = .ok (.iinc 3 1, 3) := by decide +kernel
theorem dX5_linesOutOf_31 : decode cX5_linesOutOf 31 = .ok (.goto (-27), 3) := by decide +kernel
theorem dX5_linesOutOf_34 : decode cX5_linesOutOf 34 = .ok (.iload_n 2, 1) := by decide +kernel
theorem dX5_linesOutOf_35 : decode cX5_linesOutOf 35 = .ok (.ireturn, 1) := by decide +kernel
set_option maxRecDepth 20000 in
theorem ggX6_init_X5_init : GoodIn wsX6_init wsX5_init := goodIn_r _ [30, 31, 2, 3, 32, 33, 34, 35, 36, 37, 38, 39, 40, 97, 98, 99, 100, 101, 102, 103, 104] (by decide +kernel) (by decide +kernel)
set_option maxRecDepth 20000 in
theorem gX6_init_X5_init_n9 : GoodIn wsX6_init (wsX5_init) := ggX6_init_X5_init
set_option maxRecDepth 20000 in
theorem ggX6_init_X1_init : GoodIn wsX6_init wsX1_init := goodIn_r _ [43, 44, 2, 3, 45, 46, 47, 48, 49, 50, 35, 51, 52, 53, 54, 55, 56, 57, 58, 59, 112, 113, 114, 115, 116, 117, 118, 119, 120, 121, 122, 123, 124, 125, 126] (by decide +kernel) (by decide +kernel)
set_option maxRecDepth 20000 in
theorem gX6_init_X1_init : GoodIn wsX6_init (wsX1_init) := ggX6_init_X1_init
set_option maxRecDepth 20000 in
theorem ggX6_init_X4_init : GoodIn wsX6_init wsX4_init := goodIn_r _ [62, 63, 2, 3, 64, 35, 65, 66, 67, 68, 127, 128, 129, 130] (by decide +kernel) (by decide +kernel)
set_option maxRecDepth 20000 in
theorem gX6_init_X4_init : GoodIn wsX6_init (wsX4_init) := ggX6_init_X4_init
set_option maxRecDepth 20000 in
theorem ggX6_init_X2_init : GoodIn wsX6_init wsX2_init := goodIn_r _ [71, 72, 2, 3, 73, 74, 75, 76, 77, 35, 78, 79, 131, 132, 133, 134, 135] (by decide +kernel) (by decide +kernel)
set_option maxRecDepth 20000 in
theorem gX6_init_X2_init : GoodIn wsX6_init (wsX2_init) := ggX6_init_X2_init
set_option maxRecDepth 20000 in
theorem ggX6_init_X3_init : GoodIn wsX6_init wsX3_init := goodIn_r _ [82, 83, 2, 3, 84, 35, 85, 86, 136, 137, 138] (by decide +kernel) (by decide +kernel)
set_option maxRecDepth 20000 in
theorem gX6_init_X3_init : GoodIn wsX6_init (wsX3_init) := ggX6_init_X3_init
set_option maxRecDepth 20000 in
theorem ggX6_init_X0_init : GoodIn wsX6_init wsX0_init := goodIn_r _ [89, 90, 2, 3, 91, 35, 92, 93, 94, 95, 96, 139, 140, 141, 142, 143] (by decide +kernel) (by decide +kernel)
set_option maxRecDepth 20000 in
theorem gX6_init_X0_init : GoodIn wsX6_init (wsX0_init) := ggX6_init_X0_init
theorem dX6_init_0 : decode cX6_init 0 = .ok (.aload_n 0, 1) := by decide +kernel
theorem dX6_init_1 : decode cX6_init 1 = .ok (.invokespecial 1, 3) := by decide +kernel
theorem dX6_init_4 : decode cX6_init 4 = .ok (.aload_n 0, 1) := by decide +kernel
theorem dX6_init_5 : decode cX6_init 5 = .ok (.new 7, 3) := by decide +kernel
theorem dX6_init_8 : decode cX6_init 8 = .ok (.dup, 1) := by decide +kernel
theorem dX6_init_9 : decode cX6_init 9 = .ok (.invokespecial 9, 3) := by decide +kernel
theorem dX6_init_12 : decode cX6_init 12 = .ok (.putfield 10, 3) := by decide +kernel
theorem dX6_init_15 : decode cX6_init 15 = .ok (.aload_n 0, 1) := by decide +kernel
theorem dX6_init_16 : decode cX6_init 16 = .ok (.new 16, 3) := by decide +kernel
theorem dX6_init_19 : decode cX6_init 19 = .ok (.dup, 1) := by decide +kernel
theorem dX6_init_20 : decode cX6_init 20 = .ok (.aload_n 0, 1) := by decide +kernel
theorem dX6_init_21 : decode cX6_init 21 = .ok (.getfield 10, 3) := by decide +kernel
theorem dX6_init_24 : decode cX6_init 24 = .ok (.invokespecial 18, 3) := by decide +kernel
theorem dX6_init_27 : decode cX6_init 27 = .ok (.putfield 21, 3) := by decide +kernel
theorem dX6_init_30 : decode cX6_init 30 = .ok (.aload_n 0, 1) := by decide +kernel
theorem dX6_init_31 : decode cX6_init 31 = .ok (.new 25, 3) := by decide +kernel
theorem dX6_init_34 : decode cX6_init 34 = .ok (.dup, 1) := by decide +kernel
theorem dX6_init_35 : decode cX6_init 35 = .ok (.aload_n 0, 1) := by decide +kernel
theorem dX6_init_36 : decode cX6_init 36 = .ok (.getfield 10, 3) := by decide +kernel
theorem dX6_init_39 : decode cX6_init 39 = .ok (.invokespecial 27, 3) := by decide +kernel
theorem dX6_init_42 : decode cX6_init 42 = .ok (.putfield 28, 3) := by decide +kernel
theorem dX6_init_45 : decode cX6_init 45 = .ok (.aload_n 0, 1) := by decide +kernel
theorem dX6_init_46 : decode cX6_init 46 = .ok (.new 32, 3) := by decide +kernel
theorem dX6_init_49 : decode cX6_init 49 = .ok (.dup, 1) := by decide +kernel
theorem dX6_init_50 : decode cX6_init 50 = .ok (.aload_n 0, 1) := by decide +kernel
theorem dX6_init_51 : decode cX6_init 51 = .ok (.getfield 10, 3) := by decide +kernel
theorem dX6_init_54 : decode cX6_init 54 = .ok (.invokespecial 34, 3) := by decide +kernel
theorem dX6_init_57 : decode cX6_init 57 = .ok (.putfield 35, 3) := by decide +kernel
theorem dX6_init_60 : decode cX6_init 60 = .ok (.aload_n 0, 1) := by decide +kernel
theorem dX6_init_61 : decode cX6_init 61 = .ok (.new 39, 3) := by decide +kernel
theorem dX6_init_64 : decode cX6_init 64 = .ok (.dup, 1) := by decide +kernel
theorem dX6_init_65 : decode cX6_init 65 = .ok (.aload_n 0, 1) := by decide +kernel
theorem dX6_init_66 : decode cX6_init 66 = .ok (.getfield 10, 3) := by decide +kernel
theorem dX6_init_69 : decode cX6_init 69 = .ok (.invokespecial 41, 3) := by decide +kernel
theorem dX6_init_72 : decode cX6_init 72 = .ok (.putfield 42, 3) := by decide +kernel
theorem dX6_init_75 : decode cX6_init 75 = .ok (.aload_n 0, 1) := by decide +kernel
theorem dX6_init_76 : decode cX6_init 76 = .ok (.new 46, 3) := by decide +kernel
theorem dX6_init_79 : decode cX6_init 79 = .ok (.dup, 1) := by decide +kernel
theorem dX6_init_80 : decode cX6_init 80 = .ok (.aload_n 0, 1) := by decide +kernel
theorem dX6_init_81 : decode cX6_init 81 = .ok (.getfield 10, 3) := by decide +kernel
theorem dX6_init_84 : decode cX6_init 84 = .ok (.invokespecial 48, 3) := by decide +kernel
theorem dX6_init_87 : decode cX6_init 87 = .ok (.putfield 49, 3) := by decide +kernel
theorem dX6_init_90 : decode cX6_init 90 = .ok (.aload_n 0, 1) := by decide +kernel
theorem dX6_init_91 : decode cX6_init 91 = .ok (.iconst 0, 1) := by decide +kernel
theorem dX6_init_92 : decode cX6_init 92 = .ok (.putfield 53, 3) := by decide +kernel
theorem dX6_init_95 : decode cX6_init 95 = .ok (.return_, 1) := by decide +kernel
set_option maxRecDepth 20000 in
theorem ggX6_point_X5_addPoint : GoodIn wsX6_point wsX5_addPoint := goodIn_r _ [8, 9, 191, 192, 193, 194, 195, 196, 197, 198] (by decide +kernel) (by decide +kernel)
set_option maxRecDepth 20000 in
theorem gX6_point_X5_addPoint : GoodIn wsX6_point (wsV RX6 67 RX5 yX5_addPoint wsX5_addPoint) := goodIn_app (goodIn_of _ (by decide +kernel)) ggX6_point_X5_addPoint
set_option maxRecDepth 20000 in
theorem ggX6_point_X6_learnAll : GoodIn wsX6_point wsX6_learnAll := goodIn_r _ [14, 15, 16, 17, 18, 19, 20, 21, 22, 23, 24, 25, 26, 27, 28, 29, 30, 13, 31, 32, 33, 34, 7, 35, 9, 36, 37, 38, 39, 40, 41, 42, 43, 44, 45, 46, 47, 48, 49, 50, 51, 52, 53, 54, 55, 56, 57, 58, 59, 60, 61, 62, 63, 64, 65, 66, 67, 68, 69, 70, 71, 72, 73, 74, 75, 76, 77, 78, 79, 80, 81, 82, 83, 84, 85, 86, 87, 88, 89, 90, 91, 92, 93, 94, 95, 96, 97, 98, 99, 100, 101, 102, 103, 104, 105, 106, 107, 108, 109, 110, 111, 112, 113, 114, 115, 116, 117, 118, 119, 120, 121, 122, 123, 124, 125, 126, 127, 128, 129, 130, 131, 132, 133, 134, 135, 136, 137, 138, 139, 140, 141, 142, 143, 144, 145, 146, 147, 148, 149, 150, 151, 152, 153, 154, 155, 156, 157, 158, 159, 160, 161, 162, 163, 164, 165, 166, 167, 168, 169, 170, 171, 172, 173, 174, 175, 176, 177, 178, 179, 180, 181, 182, 183, 184, 185, 186, 187, 188, 189, 190, 199, 200, 201, 202, 203, 204, 205, 206, 207, 208, 209, 210, 211, 212, 213, 191, 192, 193, 194, 195, 196, 197, 198, 214, 215, 216, 217, 218, 219, 220, 221, 222, 223, 224, 225, 226] (by decide +kernel) (by decide +kernel)
set_option maxRecDepth 20000 in
theorem gX6_point_X6_learnAll : GoodIn wsX6_point (wsV RX6 71 RX6 yX6_learnAll wsX6_learnAll) := goodIn_app (goodIn_of _ (by decide +kernel)) ggX6_point_X6_learnAll
theorem dX6_point_0 : decode cX6_point 0 = .ok (.aload_n 0, 1) := by decide +kernel
theorem dX6_point_1 : decode cX6_point 1 = .ok (.getfield 10, 3) := by decide +kernel
theorem dX6_point_4 : decode cX6_point 4 = .ok (.getfield 57, 3) := by decide +kernel
theorem dX6_point_7 : decode cX6_point 7 = .ok (.bipush 8, 2) := by decide +kernel
theorem dX6_point_9 : decode cX6_point 9 = .ok (.if_icmp .lt 13, 3) := by decide +kernel
theorem dX6_point_12 : decode cX6_point 12 = .ok (.new 60, 3) := by decide +kernel
theorem dX6_point_15 : decode cX6_point 15 = .ok (.dup, 1) := by decide +kernel
theorem dX6_point_16 : decode cX6_point 16 = .ok (.ldc 62, 2) := by decide +kernel
theorem dX6_point_18 : decode cX6_point 18 = .ok (.invokespecial 64, 3) := by decide +kernel
theorem dX6_point_21 : decode cX6_point 21 = .ok (.athrow, 1) := by decide +kernel
theorem dX6_point_22 : decode cX6_point 22 = .ok (.aload_n 0, 1) := by decide +kernel
theorem dX6_point_23 : decode cX6_point 23 = .ok (.getfield 10, 3) := by decide +kernel
theorem dX6_point_26 : decode cX6_point 26 = .ok (.invokevirtual 67, 3) := by decide +kernel
theorem dX6_point_29 : decode cX6_point 29 = .ok (.istore_n 1, 1) := by decide +kernel
theorem dX6_point_30 : decode cX6_point 30 = .ok (.aload_n 0, 1) := by decide +kernel
theorem dX6_point_31 : decode cX6_point 31 = .ok (.invokevirtual 71, 3) := by decide +kernel
theorem dX6_point_34 : decode cX6_point 34 = .ok (.iload_n 1, 1) := by decide +kernel
theorem dX6_point_35 : decode cX6_point 35 = .ok (.ireturn, 1) := by decide +kernel
set_option maxRecDepth 20000 in
theorem ggX6_line_X6_demandPoint : GoodIn wsX6_line wsX6_demandPoint := goodIn_ca (goodIn_r _ [16, 17, 18, 3, 205, 206, 207, 208, 209, 210, 211, 212, 213, 214, 215, 216, 217, 218, 219] (by decide +kernel) (by decide +kernel)) (goodIn_sub (fun _ h => List.mem_cons_of_mem _ (List.mem_append_left _ (List.mem_append_right _ h))) (by decide +kernel))
set_option maxRecDepth 20000 in
theorem gX6_line_X6_demandPoint : GoodIn wsX6_line (wsV RX6 74 RX6 yX6_demandPoint wsX6_demandPoint) := goodIn_app (goodIn_of _ (by decide +kernel)) ggX6_line_X6_demandPoint
set_option maxRecDepth 20000 in
theorem ggX6_line_X6_demandUnlike : GoodIn wsX6_line wsX6_demandUnlike := goodIn_ca (goodIn_r _ [21, 22, 23] (by decide +kernel) (by decide +kernel)) (goodIn_sub (fun _ h => List.mem_cons_of_mem _ (List.mem_append_right _ h)) (by decide +kernel))
set_option maxRecDepth 20000 in
theorem gX6_line_X6_demandUnlike : GoodIn wsX6_line (va_wsS RX6 78 yX6_demandUnlike wsX6_demandUnlike) := goodIn_app (goodIn_of _ (by decide +kernel)) ggX6_line_X6_demandUnlike
set_option maxRecDepth 20000 in
theorem ggX6_line_X6_demandCost : GoodIn wsX6_line wsX6_demandCost := goodIn_ca (goodIn_r _ [26, 22, 23] (by decide +kernel) (by decide +kernel)) (goodIn_sub (fun _ h => List.mem_cons_of_mem _ (List.mem_append_right _ h)) (by decide +kernel))
set_option maxRecDepth 20000 in
theorem gX6_line_X6_demandCost : GoodIn wsX6_line (va_wsS RX6 82 yX6_demandCost wsX6_demandCost) := goodIn_app (goodIn_of _ (by decide +kernel)) ggX6_line_X6_demandCost
set_option maxRecDepth 20000 in
theorem ggX6_line_X5_addLine : GoodIn wsX6_line wsX5_addLine := goodIn_r _ [31, 32, 33, 34, 35, 36, 37, 38, 212, 213, 214, 215, 216, 217, 218, 219] (by decide +kernel) (by decide +kernel)
set_option maxRecDepth 20000 in
theorem gX6_line_X5_addLine : GoodIn wsX6_line (wsV RX6 99 RX5 yX5_addLine wsX5_addLine) := goodIn_app (goodIn_of _ (by decide +kernel)) ggX6_line_X5_addLine
set_option maxRecDepth 20000 in
theorem ggX6_line_X0_append : GoodIn wsX6_line wsX0_append := goodIn_r _ [43, 44, 45, 220, 221, 222, 223, 224] (by decide +kernel) (by decide +kernel)
set_option maxRecDepth 20000 in
theorem gX6_line_X0_append : GoodIn wsX6_line (wsV RX6 103 RX0 yX0_append wsX0_append) := goodIn_app (goodIn_of _ (by decide +kernel)) ggX6_line_X0_append
set_option maxRecDepth 20000 in
theorem ggX6_line_X6_learnAll : GoodIn wsX6_line wsX6_learnAll := goodIn_r _ [49, 50, 51, 52, 11, 53, 54, 55, 56, 57, 58, 59, 60, 61, 62, 63, 64, 15, 65, 66, 67, 68, 30, 69, 70, 71, 72, 73, 74, 32, 36, 75, 76, 77, 78, 79, 80, 81, 82, 83, 84, 85, 86, 87, 88, 89, 90, 91, 92, 93, 94, 95, 96, 97, 98, 99, 100, 101, 102, 103, 104, 37, 38, 105, 106, 107, 108, 109, 110, 111, 112, 33, 34, 113, 114, 115, 116, 117, 5, 6, 7, 118, 119, 120, 121, 122, 123, 124, 125, 126, 127, 128, 129, 130, 131, 132, 133, 134, 135, 136, 137, 138, 139, 140, 141, 142, 143, 144, 145, 146, 147, 148, 149, 150, 151, 152, 153, 154, 155, 156, 157, 158, 159, 160, 161, 162, 163, 164, 165, 166, 167, 168, 169, 170, 171, 172, 173, 174, 175, 176, 177, 9, 10, 178, 179, 180, 181, 182, 183, 184, 185, 186, 187, 188, 42, 189, 190, 191, 192, 193, 194, 195, 196, 44, 45, 197, 198, 199, 200, 201, 202, 203, 204, 205, 206, 207, 208, 209, 210, 211, 225, 226, 227, 228, 229, 230, 231, 232, 233, 234, 235, 236, 237, 238, 239, 212, 213, 214, 215, 216, 217, 218, 219, 240, 241, 242, 243, 244, 245, 246, 247, 220, 221, 222, 223, 224] (by decide +kernel) (by decide +kernel)
set_option maxRecDepth 20000 in
theorem gX6_line_X6_learnAll : GoodIn wsX6_line (wsV RX6 71 RX6 yX6_learnAll wsX6_learnAll) := goodIn_app (goodIn_of _ (by decide +kernel)) ggX6_line_X6_learnAll
theorem dX6_line_0 : decode cX6_line 0 = .ok (.aload_n 0, 1) := by decide +kernel
theorem dX6_line_1 : decode cX6_line 1 = .ok (.iload_n 1, 1) := by decide +kernel
theorem dX6_line_2 : decode cX6_line 2 = .ok (.invokevirtual 74, 3) := by decide +kernel
theorem dX6_line_5 : decode cX6_line 5 = .ok (.aload_n 0, 1) := by decide +kernel
theorem dX6_line_6 : decode cX6_line 6 = .ok (.iload_n 2, 1) := by decide +kernel
theorem dX6_line_7 : decode cX6_line 7 = .ok (.invokevirtual 74, 3) := by decide +kernel
theorem dX6_line_10 : decode cX6_line 10 = .ok (.iload_n 1, 1) := by decide +kernel
theorem dX6_line_11 : decode cX6_line 11 = .ok (.iload_n 2, 1) := by decide +kernel
theorem dX6_line_12 : decode cX6_line 12 = .ok (.invokestatic 78, 3) := by decide +kernel
theorem dX6_line_15 : decode cX6_line 15 = .ok (.iload_n 3, 1) := by decide +kernel
theorem dX6_line_16 : decode cX6_line 16 = .ok (.invokestatic 82, 3) := by decide +kernel
theorem dX6_line_19 : decode cX6_line 19 = .ok (.aload_n 0, 1) := by decide +kernel
theorem dX6_line_20 : decode cX6_line 20 = .ok (.getfield 10, 3) := by decide +kernel
theorem dX6_line_23 : decode cX6_line 23 = .ok (.getfield 85, 3) := by decide +kernel
theorem dX6_line_26 : decode cX6_line 26 = .ok (.bipush 16, 2) := by decide +kernel
theorem dX6_line_28 : decode cX6_line 28 = .ok (.if_icmp .lt 13, 3) := by decide +kernel
theorem dX6_line_31 : decode cX6_line 31 = .ok (.new 60, 3) := by decide +kernel
theorem dX6_line_34 : decode cX6_line 34 = .ok (.dup, 1) := by decide +kernel
theorem dX6_line_35 : decode cX6_line 35 = .ok (.ldc 88, 2) := by decide +kernel
theorem dX6_line_37 : decode cX6_line 37 = .ok (.invokespecial 64, 3) := by decide +kernel
theorem dX6_line_40 : decode cX6_line 40 = .ok (.athrow, 1) := by decide +kernel
theorem dX6_line_41 : decode cX6_line 41 = .ok (.aload_n 0, 1) := by decide +kernel
theorem dX6_line_42 : decode cX6_line 42 = .ok (.getfield 10, 3) := by decide +kernel
theorem dX6_line_45 : decode cX6_line 45 = .ok (.iload_n 1, 1) := by decide +kernel
theorem dX6_line_46 : decode cX6_line 46 = .ok (.iload_n 2, 1) := by decide +kernel
theorem dX6_line_47 : decode cX6_line 47 = .ok (.invokestatic 90, 3) := by decide +kernel
theorem dX6_line_50 : decode cX6_line 50 = .ok (.iload_n 1, 1) := by decide +kernel
theorem dX6_line_51 : decode cX6_line 51 = .ok (.iload_n 2, 1) := by decide +kernel
theorem dX6_line_52 : decode cX6_line 52 = .ok (.invokestatic 96, 3) := by decide +kernel
theorem dX6_line_55 : decode cX6_line 55 = .ok (.iload_n 3, 1) := by decide +kernel
theorem dX6_line_56 : decode cX6_line 56 = .ok (.invokevirtual 99, 3) := by decide +kernel
theorem dX6_line_59 : decode cX6_line 59 = .ok (.istore 4, 2) := by decide +kernel
theorem dX6_line_61 : decode cX6_line 61 = .ok (.aload_n 0, 1) := by decide +kernel
theorem dX6_line_62 : decode cX6_line 62 = .ok (.getfield 49, 3) := by decide +kernel
theorem dX6_line_65 : decode cX6_line 65 = .ok (.iload_n 1, 1) := by decide +kernel
theorem dX6_line_66 : decode cX6_line 66 = .ok (.iload 4, 2) := by decide +kernel
theorem dX6_line_68 : decode cX6_line 68 = .ok (.invokevirtual 103, 3) := by decide +kernel
theorem dX6_line_71 : decode cX6_line 71 = .ok (.aload_n 0, 1) := by decide +kernel
theorem dX6_line_72 : decode cX6_line 72 = .ok (.getfield 49, 3) := by decide +kernel
theorem dX6_line_75 : decode cX6_line 75 = .ok (.iload_n 2, 1) := by decide +kernel
theorem dX6_line_76 : decode cX6_line 76 = .ok (.iload 4, 2) := by decide +kernel
theorem dX6_line_78 : decode cX6_line 78 = .ok (.invokevirtual 103, 3) := by decide +kernel
theorem dX6_line_81 : decode cX6_line 81 = .ok (.aload_n 0, 1) := by decide +kernel
theorem dX6_line_82 : decode cX6_line 82 = .ok (.invokevirtual 71, 3) := by decide +kernel
theorem dX6_line_85 : decode cX6_line 85 = .ok (.iload 4, 2) := by decide +kernel
theorem dX6_line_87 : decode cX6_line 87 = .ok (.ireturn, 1) := by decide +kernel
set_option maxRecDepth 20000 in
theorem ggX6_cut_X6_demandLine : GoodIn wsX6_cut wsX6_demandLine := goodIn_ca (goodIn_r _ [7, 8, 9, 1, 188, 189, 190, 191, 192, 193, 194, 210, 211, 212, 213, 214, 215, 216, 217] (by decide +kernel) (by decide +kernel)) (goodIn_sub (fun _ h => List.mem_cons_of_mem _ (List.mem_append_right _ h)) (by decide +kernel))
set_option maxRecDepth 20000 in
theorem gX6_cut_X6_demandLine : GoodIn wsX6_cut (wsV RX6 106 RX6 yX6_demandLine wsX6_demandLine) := goodIn_app (goodIn_of _ (by decide +kernel)) ggX6_cut_X6_demandLine
set_option maxRecDepth 20000 in
theorem ggX6_cut_X5_setCut : GoodIn wsX6_cut wsX5_setCut := goodIn_r _ [14, 15, 210, 211, 212, 213, 214, 215, 216, 217] (by decide +kernel) (by decide +kernel)
set_option maxRecDepth 20000 in
theorem gX6_cut_X5_setCut : GoodIn wsX6_cut (wsV RX6 109 RX5 yX5_setCut wsX5_setCut) := goodIn_app (goodIn_of _ (by decide +kernel)) ggX6_cut_X5_setCut
set_option maxRecDepth 20000 in
theorem ggX6_cut_X6_learnAll : GoodIn wsX6_cut wsX6_learnAll := goodIn_r _ [19, 2, 20, 21, 22, 23, 24, 25, 26, 27, 28, 29, 30, 31, 32, 33, 34, 6, 35, 36, 37, 38, 13, 39, 40, 41, 42, 43, 44, 45, 46, 47, 48, 49, 50, 51, 52, 53, 54, 55, 56, 57, 58, 59, 60, 61, 62, 63, 64, 65, 66, 67, 68, 69, 70, 71, 72, 73, 74, 75, 76, 77, 15, 78, 79, 80, 81, 82, 83, 84, 85, 86, 87, 88, 89, 90, 91, 92, 93, 94, 95, 96, 97, 98, 99, 100, 101, 102, 103, 104, 105, 106, 107, 108, 109, 110, 111, 112, 113, 114, 115, 116, 117, 118, 119, 120, 121, 122, 123, 124, 125, 126, 127, 128, 129, 130, 131, 132, 133, 134, 135, 136, 137, 138, 139, 140, 141, 142, 143, 144, 145, 146, 147, 148, 149, 150, 151, 152, 153, 154, 155, 156, 157, 158, 159, 160, 161, 162, 163, 164, 165, 166, 167, 168, 169, 170, 171, 172, 173, 174, 175, 176, 177, 178, 179, 180, 181, 182, 183, 184, 185, 186, 187, 188, 189, 190, 191, 192, 193, 194, 195, 196, 197, 198, 199, 200, 201, 202, 203, 204, 205, 206, 207, 208, 209, 210, 211, 212, 213, 214, 215, 216, 217, 218, 219, 220, 221, 222, 223, 224, 225, 226, 227, 228, 229, 230] (by decide +kernel) (by decide +kernel)
set_option maxRecDepth 20000 in
theorem gX6_cut_X6_learnAll : GoodIn wsX6_cut (wsV RX6 71 RX6 yX6_learnAll wsX6_learnAll) := goodIn_app (goodIn_of _ (by decide +kernel)) ggX6_cut_X6_learnAll
theorem dX6_cut_0 : decode cX6_cut 0 = .ok (.aload_n 0, 1) := by decide +kernel
theorem dX6_cut_1 : decode cX6_cut 1 = .ok (.iload_n 1, 1) := by decide +kernel
theorem dX6_cut_2 : decode cX6_cut 2 = .ok (.invokevirtual 106, 3) := by decide +kernel
theorem dX6_cut_5 : decode cX6_cut 5 = .ok (.aload_n 0, 1) := by decide +kernel
theorem dX6_cut_6 : decode cX6_cut 6 = .ok (.getfield 10, 3) := by decide +kernel
theorem dX6_cut_9 : decode cX6_cut 9 = .ok (.iload_n 1, 1) := by decide +kernel
theorem dX6_cut_10 : decode cX6_cut 10 = .ok (.iload_n 2, 1) := by decide +kernel
theorem dX6_cut_11 : decode cX6_cut 11 = .ok (.invokevirtual 109, 3) := by decide +kernel
theorem dX6_cut_14 : decode cX6_cut 14 = .ok (.aload_n 0, 1) := by decide +kernel
theorem dX6_cut_15 : decode cX6_cut 15 = .ok (.invokevirtual 71, 3) := by decide +kernel
theorem dX6_cut_18 : decode cX6_cut 18 = .ok (.aload_n 0, 1) := by decide +kernel
theorem dX6_cut_19 : decode cX6_cut 19 = .ok (.getfield 21, 3) := by decide +kernel
theorem dX6_cut_22 : decode cX6_cut 22 = .ok (.getfield 113, 3) := by decide +kernel
theorem dX6_cut_25 : decode cX6_cut 25 = .ok (.ireturn, 1) := by decide +kernel
set_option maxRecDepth 20000 in
theorem ggX6_price_X6_demandLine : GoodIn wsX6_price wsX6_demandLine := goodIn_ca (goodIn_r _ [7, 8, 9, 1, 50, 51, 52, 53, 54, 55, 56, 57, 58, 59, 60, 61, 62, 63, 64] (by decide +kernel) (by decide +kernel)) (goodIn_sub (fun _ h => List.mem_cons_of_mem _ (List.mem_append_left _ (List.mem_append_right _ h))) (by decide +kernel))
set_option maxRecDepth 20000 in
theorem gX6_price_X6_demandLine : GoodIn wsX6_price (wsV RX6 106 RX6 yX6_demandLine wsX6_demandLine) := goodIn_app (goodIn_of _ (by decide +kernel)) ggX6_price_X6_demandLine
set_option maxRecDepth 20000 in
theorem ggX6_price_X6_demandCost : GoodIn wsX6_price wsX6_demandCost := goodIn_ca (goodIn_r _ [12, 13, 14] (by decide +kernel) (by decide +kernel)) (goodIn_sub (fun _ h => List.mem_cons_of_mem _ (List.mem_append_right _ h)) (by decide +kernel))
set_option maxRecDepth 20000 in
theorem gX6_price_X6_demandCost : GoodIn wsX6_price (va_wsS RX6 82 yX6_demandCost wsX6_demandCost) := goodIn_app (goodIn_of _ (by decide +kernel)) ggX6_price_X6_demandCost
set_option maxRecDepth 20000 in
theorem ggX6_price_X2_learn : GoodIn wsX6_price wsX2_learn := goodIn_r _ [19, 20, 21, 22, 23, 24, 25, 26, 27, 28, 29, 30, 31, 32, 33, 6, 34, 35, 36, 37, 38, 39, 40, 41, 42, 43, 18, 44, 45, 46, 47, 48, 49, 65, 66, 67, 68, 69, 57, 58, 59, 60, 61, 62, 63, 64] (by decide +kernel) (by decide +kernel)
set_option maxRecDepth 20000 in
theorem gX6_price_X2_learn : GoodIn wsX6_price (wsV RX6 120 RX2 yX2_learn wsX2_learn) := goodIn_app (goodIn_of _ (by decide +kernel)) ggX6_price_X2_learn
theorem dX6_price_0 : decode cX6_price 0 = .ok (.aload_n 0, 1) := by decide +kernel
theorem dX6_price_1 : decode cX6_price 1 = .ok (.iload_n 1, 1) := by decide +kernel
theorem dX6_price_2 : decode cX6_price 2 = .ok (.invokevirtual 106, 3) := by decide +kernel
theorem dX6_price_5 : decode cX6_price 5 = .ok (.iload_n 2, 1) := by decide +kernel
theorem dX6_price_6 : decode cX6_price 6 = .ok (.invokestatic 82, 3) := by decide +kernel
theorem dX6_price_9 : decode cX6_price 9 = .ok (.aload_n 0, 1) := by decide +kernel
theorem dX6_price_10 : decode cX6_price 10 = .ok (.getfield 10, 3) := by decide +kernel
theorem dX6_price_13 : decode cX6_price 13 = .ok (.getfield 116, 3) := by decide +kernel
theorem dX6_price_16 : decode cX6_price 16 = .ok (.iload_n 1, 1) := by decide +kernel
theorem dX6_price_17 : decode cX6_price 17 = .ok (.iaload, 1) := by decide +kernel
theorem dX6_price_18 : decode cX6_price 18 = .ok (.istore_n 3, 1) := by decide +kernel
theorem dX6_price_19 : decode cX6_price 19 = .ok (.aload_n 0, 1) := by decide +kernel
theorem dX6_price_20 : decode cX6_price 20 = .ok (.getfield 10, 3) := by decide +kernel
theorem dX6_price_23 : decode cX6_price 23 = .ok (.getfield 116, 3) := by decide +kernel
theorem dX6_price_26 : decode cX6_price 26 = .ok (.iload_n 1, 1) := by decide +kernel
theorem dX6_price_27 : decode cX6_price 27 = .ok (.iload_n 2, 1) := by decide +kernel
theorem dX6_price_28 : decode cX6_price 28 = .ok (.iastore, 1) := by decide +kernel
theorem dX6_price_29 : decode cX6_price 29 = .ok (.aload_n 0, 1) := by decide +kernel
theorem dX6_price_30 : decode cX6_price 30 = .ok (.getfield 35, 3) := by decide +kernel
theorem dX6_price_33 : decode cX6_price 33 = .ok (.invokevirtual 120, 3) := by decide +kernel
theorem dX6_price_36 : decode cX6_price 36 = .ok (.iload_n 3, 1) := by decide +kernel
theorem dX6_price_37 : decode cX6_price 37 = .ok (.ireturn, 1) := by decide +kernel
set_option maxRecDepth 20000 in
theorem ggX6_turn_X6_demandPoint : GoodIn wsX6_turn wsX6_demandPoint := goodIn_ca (goodIn_r _ [6, 7, 8, 9, 53, 54, 55, 56, 57, 58, 59, 60, 61, 62, 63, 64, 65, 66, 67] (by decide +kernel) (by decide +kernel)) (goodIn_sub (fun _ h => List.mem_cons_of_mem _ (List.mem_append_right _ h)) (by decide +kernel))
set_option maxRecDepth 20000 in
theorem gX6_turn_X6_demandPoint : GoodIn wsX6_turn (wsV RX6 74 RX6 yX6_demandPoint wsX6_demandPoint) := goodIn_app (goodIn_of _ (by decide +kernel)) ggX6_turn_X6_demandPoint
set_option maxRecDepth 20000 in
theorem ggX6_turn_X6_demandPlace : GoodIn wsX6_turn wsX6_demandPlace := goodIn_ca (goodIn_r _ [13, 7, 8, 1, 53, 54, 55, 56, 57, 58, 59, 68, 69, 70, 71, 72] (by decide +kernel) (by decide +kernel)) (goodIn_sub (fun _ h => List.mem_cons_of_mem _ (List.mem_append_right _ h)) (by decide +kernel))
set_option maxRecDepth 20000 in
theorem gX6_turn_X6_demandPlace : GoodIn wsX6_turn (wsV RX6 123 RX6 yX6_demandPlace wsX6_demandPlace) := goodIn_app (goodIn_of _ (by decide +kernel)) ggX6_turn_X6_demandPlace
set_option maxRecDepth 20000 in
theorem ggX6_turn_X0_swap : GoodIn wsX6_turn wsX0_swap := goodIn_r _ [18, 19, 20, 21, 22, 17, 23, 24, 68, 69, 70, 71, 72] (by decide +kernel) (by decide +kernel)
set_option maxRecDepth 20000 in
theorem gX6_turn_X0_swap : GoodIn wsX6_turn (wsV RX6 126 RX0 yX0_swap wsX0_swap) := goodIn_app (goodIn_of _ (by decide +kernel)) ggX6_turn_X0_swap
set_option maxRecDepth 20000 in
theorem ggX6_turn_X0_learn : GoodIn wsX6_turn wsX0_learn := goodIn_r _ [28, 29, 30, 31, 32, 5, 33, 34, 35, 36, 17, 37, 24, 19, 38, 39, 40, 41, 20, 21, 22, 23, 68, 69, 70, 71, 72, 60, 61, 62, 63, 64, 65, 66, 67] (by decide +kernel) (by decide +kernel)
set_option maxRecDepth 20000 in
theorem gX6_turn_X0_learn : GoodIn wsX6_turn (wsV RX6 129 RX0 yX0_learn wsX0_learn) := goodIn_app (goodIn_of _ (by decide +kernel)) ggX6_turn_X0_learn
set_option maxRecDepth 20000 in
theorem ggX6_turn_X0_allFaces : GoodIn wsX6_turn wsX0_allFaces := goodIn_r _ [45, 29, 31, 46, 47, 48, 49, 50, 51, 52, 68, 69, 70, 71, 72, 60, 61, 62, 63, 64, 65, 66, 67] (by decide +kernel) (by decide +kernel)
set_option maxRecDepth 20000 in
theorem gX6_turn_X0_allFaces : GoodIn wsX6_turn (wsV RX6 130 RX0 yX0_allFaces wsX0_allFaces) := goodIn_app (goodIn_of _ (by decide +kernel)) ggX6_turn_X0_allFaces
theorem dX6_turn_0 : decode cX6_turn 0 = .ok (.aload_n 0, 1) := by decide +kernel
theorem dX6_turn_1 : decode cX6_turn 1 = .ok (.iload_n 1, 1) := by decide +kernel
theorem dX6_turn_2 : decode cX6_turn 2 = .ok (.invokevirtual 74, 3) := by decide +kernel
theorem dX6_turn_5 : decode cX6_turn 5 = .ok (.aload_n 0, 1) := by decide +kernel
theorem dX6_turn_6 : decode cX6_turn 6 = .ok (.iload_n 1, 1) := by decide +kernel
theorem dX6_turn_7 : decode cX6_turn 7 = .ok (.iload_n 2, 1) := by decide +kernel
theorem dX6_turn_8 : decode cX6_turn 8 = .ok (.invokevirtual 123, 3) := by decide +kernel
theorem dX6_turn_11 : decode cX6_turn 11 = .ok (.aload_n 0, 1) := by decide +kernel
theorem dX6_turn_12 : decode cX6_turn 12 = .ok (.getfield 49, 3) := by decide +kernel
theorem dX6_turn_15 : decode cX6_turn 15 = .ok (.iload_n 1, 1) := by decide +kernel
theorem dX6_turn_16 : decode cX6_turn 16 = .ok (.iload_n 2, 1) := by decide +kernel
theorem dX6_turn_17 : decode cX6_turn 17 = .ok (.invokevirtual 126, 3) := by decide +kernel
theorem dX6_turn_20 : decode cX6_turn 20 = .ok (.aload_n 0, 1) := by decide +kernel
theorem dX6_turn_21 : decode cX6_turn 21 = .ok (.getfield 49, 3) := by decide +kernel
theorem dX6_turn_24 : decode cX6_turn 24 = .ok (.invokevirtual 129, 3) := by decide +kernel
theorem dX6_turn_27 : decode cX6_turn 27 = .ok (.aload_n 0, 1) := by decide +kernel
theorem dX6_turn_28 : decode cX6_turn 28 = .ok (.getfield 49, 3) := by decide +kernel
theorem dX6_turn_31 : decode cX6_turn 31 = .ok (.invokevirtual 130, 3) := by decide +kernel
theorem dX6_turn_34 : decode cX6_turn 34 = .ok (.ireturn, 1) := by decide +kernel
set_option maxRecDepth 20000 in
theorem ggX6_ofPoint_X6_demandPoint : GoodIn wsX6_ofPoint wsX6_demandPoint := goodIn_ca (goodIn_r _ [9, 10, 11, 2, 49, 50, 51, 52, 53, 54, 55, 79, 80, 81, 82, 83, 84, 85, 86] (by decide +kernel) (by decide +kernel)) (goodIn_sub (fun _ h => List.mem_cons_of_mem _ (List.mem_append_left _ (List.mem_append_right _ h))) (by decide +kernel))
set_option maxRecDepth 20000 in
theorem gX6_ofPoint_X6_demandPoint : GoodIn wsX6_ofPoint (wsV RX6 74 RX6 yX6_demandPoint wsX6_demandPoint) := goodIn_app (goodIn_of _ (by decide +kernel)) ggX6_ofPoint_X6_demandPoint
set_option maxRecDepth 20000 in
theorem ggX6_ofPoint_X6_demandWhat : GoodIn wsX6_ofPoint wsX6_demandWhat := goodIn_ca (goodIn_r _ [14, 15, 16] (by decide +kernel) (by decide +kernel)) (goodIn_sub (fun _ h => List.mem_cons_of_mem _ (List.mem_append_right _ h)) (by decide +kernel))
set_option maxRecDepth 20000 in
theorem gX6_ofPoint_X6_demandWhat : GoodIn wsX6_ofPoint (va_wsS RX6 133 yX6_demandWhat wsX6_demandWhat) := goodIn_app (goodIn_of _ (by decide +kernel)) ggX6_ofPoint_X6_demandWhat
set_option maxRecDepth 20000 in
theorem ggX6_ofPoint_X5_standingAt : GoodIn wsX6_ofPoint wsX5_standingAt := goodIn_r _ [21, 22, 23, 79, 80, 81, 82, 83, 84, 85, 86] (by decide +kernel) (by decide +kernel)
set_option maxRecDepth 20000 in
theorem gX6_ofPoint_X5_standingAt : GoodIn wsX6_ofPoint (wsV RX6 139 RX5 yX5_standingAt wsX5_standingAt) := goodIn_app (goodIn_of _ (by decide +kernel)) ggX6_ofPoint_X5_standingAt
set_option maxRecDepth 20000 in
theorem ggX6_ofPoint_J6_bitCount_0f7a4 : GoodIn wsX6_ofPoint wsJ6_bitCount_0f7a4 := goodIn_r _ [27, 28, 29, 30] (by decide +kernel) (by decide +kernel)
set_option maxRecDepth 20000 in
theorem gX6_ofPoint_J6_bitCount_0f7a4 : GoodIn wsX6_ofPoint (va_wsS RX6 143 yJ6_bitCount_0f7a4 wsJ6_bitCount_0f7a4) := goodIn_app (goodIn_of _ (by decide +kernel)) ggX6_ofPoint_J6_bitCount_0f7a4
set_option maxRecDepth 20000 in
theorem ggX6_ofPoint_X6_has : GoodIn wsX6_ofPoint wsX6_has := goodIn_r _ [33] (by decide +kernel) (by decide +kernel)
set_option maxRecDepth 20000 in
theorem gX6_ofPoint_X6_has : GoodIn wsX6_ofPoint (va_wsS RX6 151 yX6_has wsX6_has) := goodIn_app (goodIn_of _ (by decide +kernel)) ggX6_ofPoint_X6_has
set_option maxRecDepth 20000 in
theorem ggX6_ofPoint_X1_blocksAt : GoodIn wsX6_ofPoint wsX1_blocksAt := goodIn_r _ [38, 39, 40, 41, 18, 19, 20, 21, 22, 23, 32, 8, 33, 42, 25, 26, 27, 28, 29, 30, 56, 57, 58, 59, 60, 61, 62, 63, 64, 65, 66, 67, 68, 69, 70, 79, 80, 81, 82, 83, 84, 85, 86] (by decide +kernel) (by decide +kernel)
set_option maxRecDepth 20000 in
theorem gX6_ofPoint_X1_blocksAt : GoodIn wsX6_ofPoint (wsV RX6 155 RX1 yX1_blocksAt wsX1_blocksAt) := goodIn_app (goodIn_of _ (by decide +kernel)) ggX6_ofPoint_X1_blocksAt
set_option maxRecDepth 20000 in
theorem ggX6_ofPoint_X5_linkedWith : GoodIn wsX6_ofPoint wsX5_linkedWith := goodIn_r _ [46, 47, 22, 23, 48, 32, 8, 33, 79, 80, 81, 82, 83, 84, 85, 86] (by decide +kernel) (by decide +kernel)
set_option maxRecDepth 20000 in
theorem gX6_ofPoint_X5_linkedWith : GoodIn wsX6_ofPoint (wsV RX6 161 RX5 yX5_linkedWith wsX5_linkedWith) := goodIn_app (goodIn_of _ (by decide +kernel)) ggX6_ofPoint_X5_linkedWith
theorem dX6_ofPoint_0 : decode cX6_ofPoint 0 = .ok (.aload_n 0, 1) := by decide +kernel
theorem dX6_ofPoint_1 : decode cX6_ofPoint 1 = .ok (.iload_n 1, 1) := by decide +kernel
theorem dX6_ofPoint_2 : decode cX6_ofPoint 2 = .ok (.invokevirtual 74, 3) := by decide +kernel
theorem dX6_ofPoint_5 : decode cX6_ofPoint 5 = .ok (.iload_n 2, 1) := by decide +kernel
theorem dX6_ofPoint_6 : decode cX6_ofPoint 6 = .ok (.bipush 6, 2) := by decide +kernel
theorem dX6_ofPoint_8 : decode cX6_ofPoint 8 = .ok (.invokestatic 133, 3) := by decide +kernel
theorem dX6_ofPoint_11 : decode cX6_ofPoint 11 = .ok (.iload_n 2, 1) := by decide +kernel
theorem dX6_ofPoint_12 : decode cX6_ofPoint 12 = .ok (.tableswitch 110 0 5 #[40, 50, 62, 82, 91, 101], 40) := by decide +kernel
theorem dX6_ofPoint_52 : decode cX6_ofPoint 52 = .ok (.aload_n 0, 1) := by decide +kernel
theorem dX6_ofPoint_53 : decode cX6_ofPoint 53 = .ok (.getfield 21, 3) := by decide +kernel
theorem dX6_ofPoint_56 : decode cX6_ofPoint 56 = .ok (.getfield 136, 3) := by decide +kernel
theorem dX6_ofPoint_59 : decode cX6_ofPoint 59 = .ok (.iload_n 1, 1) := by decide +kernel
theorem dX6_ofPoint_60 : decode cX6_ofPoint 60 = .ok (.iaload, 1) := by decide +kernel
theorem dX6_ofPoint_61 : decode cX6_ofPoint 61 = .ok (.ireturn, 1) := by decide +kernel
theorem dX6_ofPoint_62 : decode cX6_ofPoint 62 = .ok (.aload_n 0, 1) := by decide +kernel
theorem dX6_ofPoint_63 : decode cX6_ofPoint 63 = .ok (.getfield 10, 3) := by decide +kernel
theorem dX6_ofPoint_66 : decode cX6_ofPoint 66 = .ok (.iload_n 1, 1) := by decide +kernel
theorem dX6_ofPoint_67 : decode cX6_ofPoint 67 = .ok (.invokevirtual 139, 3) := by decide +kernel
theorem dX6_ofPoint_70 : decode cX6_ofPoint 70 = .ok (.invokestatic 143, 3) := by decide +kernel
theorem dX6_ofPoint_73 : decode cX6_ofPoint 73 = .ok (.ireturn, 1) := by decide +kernel
theorem dX6_ofPoint_74 : decode cX6_ofPoint 74 = .ok (.aload_n 0, 1) := by decide +kernel
theorem dX6_ofPoint_75 : decode cX6_ofPoint 75 = .ok (.getfield 21, 3) := by decide +kernel
theorem dX6_ofPoint_78 : decode cX6_ofPoint 78 = .ok (.getfield 148, 3) := by decide +kernel
theorem dX6_ofPoint_81 : decode cX6_ofPoint 81 = .ok (.iload_n 1, 1) := by decide +kernel
theorem dX6_ofPoint_82 : decode cX6_ofPoint 82 = .ok (.invokestatic 151, 3) := by decide +kernel
theorem dX6_ofPoint_85 : decode cX6_ofPoint 85 = .ok (.ifCond .eq 7, 3) := by decide +kernel
theorem dX6_ofPoint_88 : decode cX6_ofPoint 88 = .ok (.iconst 1, 1) := by decide +kernel
theorem dX6_ofPoint_89 : decode cX6_ofPoint 89 = .ok (.goto 4, 3) := by decide +kernel
theorem dX6_ofPoint_92 : decode cX6_ofPoint 92 = .ok (.iconst 0, 1) := by decide +kernel
theorem dX6_ofPoint_93 : decode cX6_ofPoint 93 = .ok (.ireturn, 1) := by decide +kernel
theorem dX6_ofPoint_94 : decode cX6_ofPoint 94 = .ok (.aload_n 0, 1) := by decide +kernel
theorem dX6_ofPoint_95 : decode cX6_ofPoint 95 = .ok (.getfield 21, 3) := by decide +kernel
theorem dX6_ofPoint_98 : decode cX6_ofPoint 98 = .ok (.iload_n 1, 1) := by decide +kernel
theorem dX6_ofPoint_99 : decode cX6_ofPoint 99 = .ok (.invokevirtual 155, 3) := by decide +kernel
theorem dX6_ofPoint_102 : decode cX6_ofPoint 102 = .ok (.ireturn, 1) := by decide +kernel
theorem dX6_ofPoint_103 : decode cX6_ofPoint 103 = .ok (.aload_n 0, 1) := by decide +kernel
theorem dX6_ofPoint_104 : decode cX6_ofPoint 104 = .ok (.getfield 42, 3) := by decide +kernel
theorem dX6_ofPoint_107 : decode cX6_ofPoint 107 = .ok (.getfield 158, 3) := by decide +kernel
theorem dX6_ofPoint_110 : decode cX6_ofPoint 110 = .ok (.iload_n 1, 1) := by decide +kernel
theorem dX6_ofPoint_111 : decode cX6_ofPoint 111 = .ok (.iaload, 1) := by decide +kernel
theorem dX6_ofPoint_112 : decode cX6_ofPoint 112 = .ok (.ireturn, 1) := by decide +kernel
theorem dX6_ofPoint_113 : decode cX6_ofPoint 113 = .ok (.aload_n 0, 1) := by decide +kernel
theorem dX6_ofPoint_114 : decode cX6_ofPoint 114 = .ok (.getfield 10, 3) := by decide +kernel
theorem dX6_ofPoint_117 : decode cX6_ofPoint 117 = .ok (.iload_n 1, 1) := by decide +kernel
theorem dX6_ofPoint_118 : decode cX6_ofPoint 118 = .ok (.invokevirtual 161, 3) := by decide +kernel
theorem dX6_ofPoint_121 : decode cX6_ofPoint 121 = .ok (.ireturn, 1) := by decide +kernel
theorem dX6_ofPoint_122 : decode cX6_ofPoint 122 = .ok (.aload_n 0, 1) := by decide +kernel
theorem dX6_ofPoint_123 : decode cX6_ofPoint 123 = .ok (.getfield 49, 3) := by decide +kernel
theorem dX6_ofPoint_126 : decode cX6_ofPoint 126 = .ok (.getfield 164, 3) := by decide +kernel
theorem dX6_ofPoint_129 : decode cX6_ofPoint 129 = .ok (.iload_n 1, 1) := by decide +kernel
theorem dX6_ofPoint_130 : decode cX6_ofPoint 130 = .ok (.iaload, 1) := by decide +kernel
theorem dX6_ofPoint_131 : decode cX6_ofPoint 131 = .ok (.ireturn, 1) := by decide +kernel
set_option maxRecDepth 20000 in
theorem ggX6_ofLine_X6_demandLine : GoodIn wsX6_ofLine wsX6_demandLine := goodIn_ca (goodIn_r _ [9, 10, 11, 1, 20, 21, 22, 23, 24, 25, 26, 27, 28, 29, 30, 31, 32, 33, 34] (by decide +kernel) (by decide +kernel)) (goodIn_sub (fun _ h => List.mem_cons_of_mem _ (List.mem_append_left _ (List.mem_append_right _ h))) (by decide +kernel))
set_option maxRecDepth 20000 in
theorem gX6_ofLine_X6_demandLine : GoodIn wsX6_ofLine (wsV RX6 106 RX6 yX6_demandLine wsX6_demandLine) := goodIn_app (goodIn_of _ (by decide +kernel)) ggX6_ofLine_X6_demandLine
set_option maxRecDepth 20000 in
theorem ggX6_ofLine_X6_demandWhat : GoodIn wsX6_ofLine wsX6_demandWhat := goodIn_ca (goodIn_r _ [14, 15, 16] (by decide +kernel) (by decide +kernel)) (goodIn_sub (fun _ h => List.mem_cons_of_mem _ (List.mem_append_right _ h)) (by decide +kernel))
set_option maxRecDepth 20000 in
theorem gX6_ofLine_X6_demandWhat : GoodIn wsX6_ofLine (va_wsS RX6 133 yX6_demandWhat wsX6_demandWhat) := goodIn_app (goodIn_of _ (by decide +kernel)) ggX6_ofLine_X6_demandWhat
set_option maxRecDepth 20000 in
theorem ggX6_ofLine_X6_has : GoodIn wsX6_ofLine wsX6_has := goodIn_r _ [19] (by decide +kernel) (by decide +kernel)
set_option maxRecDepth 20000 in
theorem gX6_ofLine_X6_has : GoodIn wsX6_ofLine (va_wsS RX6 151 yX6_has wsX6_has) := goodIn_app (goodIn_of _ (by decide +kernel)) ggX6_ofLine_X6_has
theorem dX6_ofLine_0 : decode cX6_ofLine 0 = .ok (.aload_n 0, 1) := by decide +kernel
theorem dX6_ofLine_1 : decode cX6_ofLine 1 = .ok (.iload_n 1, 1) := by decide +kernel
theorem dX6_ofLine_2 : decode cX6_ofLine 2 = .ok (.invokevirtual 106, 3) := by decide +kernel
theorem dX6_ofLine_5 : decode cX6_ofLine 5 = .ok (.iload_n 2, 1) := by decide +kernel
theorem dX6_ofLine_6 : decode cX6_ofLine 6 = .ok (.bipush 8, 2) := by decide +kernel
theorem dX6_ofLine_8 : decode cX6_ofLine 8 = .ok (.invokestatic 133, 3) := by decide +kernel
theorem dX6_ofLine_11 : decode cX6_ofLine 11 = .ok (.iload_n 2, 1) := by decide +kernel
theorem dX6_ofLine_12 : decode cX6_ofLine 12 = .ok (.tableswitch 160 0 7 #[48, 58, 68, 78, 98, 118, 128, 148], 48) := by decide +kernel
theorem dX6_ofLine_60 : decode cX6_ofLine 60 = .ok (.aload_n 0, 1) := by decide +kernel
theorem dX6_ofLine_61 : decode cX6_ofLine 61 = .ok (.getfield 10, 3) := by decide +kernel
theorem dX6_ofLine_64 : decode cX6_ofLine 64 = .ok (.getfield 167, 3) := by decide +kernel
theorem dX6_ofLine_67 : decode cX6_ofLine 67 = .ok (.iload_n 1, 1) := by decide +kernel
theorem dX6_ofLine_68 : decode cX6_ofLine 68 = .ok (.iaload, 1) := by decide +kernel
theorem dX6_ofLine_69 : decode cX6_ofLine 69 = .ok (.ireturn, 1) := by decide +kernel
theorem dX6_ofLine_70 : decode cX6_ofLine 70 = .ok (.aload_n 0, 1) := by decide +kernel
theorem dX6_ofLine_71 : decode cX6_ofLine 71 = .ok (.getfield 10, 3) := by decide +kernel
theorem dX6_ofLine_74 : decode cX6_ofLine 74 = .ok (.getfield 170, 3) := by decide +kernel
theorem dX6_ofLine_77 : decode cX6_ofLine 77 = .ok (.iload_n 1, 1) := by decide +kernel
theorem dX6_ofLine_78 : decode cX6_ofLine 78 = .ok (.iaload, 1) := by decide +kernel
theorem dX6_ofLine_79 : decode cX6_ofLine 79 = .ok (.ireturn, 1) := by decide +kernel
theorem dX6_ofLine_80 : decode cX6_ofLine 80 = .ok (.aload_n 0, 1) := by decide +kernel
theorem dX6_ofLine_81 : decode cX6_ofLine 81 = .ok (.getfield 10, 3) := by decide +kernel
theorem dX6_ofLine_84 : decode cX6_ofLine 84 = .ok (.getfield 116, 3) := by decide +kernel
theorem dX6_ofLine_87 : decode cX6_ofLine 87 = .ok (.iload_n 1, 1) := by decide +kernel
theorem dX6_ofLine_88 : decode cX6_ofLine 88 = .ok (.iaload, 1) := by decide +kernel
theorem dX6_ofLine_89 : decode cX6_ofLine 89 = .ok (.ireturn, 1) := by decide +kernel
theorem dX6_ofLine_90 : decode cX6_ofLine 90 = .ok (.aload_n 0, 1) := by decide +kernel
theorem dX6_ofLine_91 : decode cX6_ofLine 91 = .ok (.getfield 10, 3) := by decide +kernel
theorem dX6_ofLine_94 : decode cX6_ofLine 94 = .ok (.getfield 173, 3) := by decide +kernel
theorem dX6_ofLine_97 : decode cX6_ofLine 97 = .ok (.iload_n 1, 1) := by decide +kernel
theorem dX6_ofLine_98 : decode cX6_ofLine 98 = .ok (.invokestatic 151, 3) := by decide +kernel
theorem dX6_ofLine_101 : decode cX6_ofLine 101 = .ok (.ifCond .eq 7, 3) := by decide +kernel
theorem dX6_ofLine_104 : decode cX6_ofLine 104 = .ok (.iconst 1, 1) := by decide +kernel
theorem dX6_ofLine_105 : decode cX6_ofLine 105 = .ok (.goto 4, 3) := by decide +kernel
theorem dX6_ofLine_108 : decode cX6_ofLine 108 = .ok (.iconst 0, 1) := by decide +kernel
theorem dX6_ofLine_109 : decode cX6_ofLine 109 = .ok (.ireturn, 1) := by decide +kernel
theorem dX6_ofLine_110 : decode cX6_ofLine 110 = .ok (.aload_n 0, 1) := by decide +kernel
theorem dX6_ofLine_111 : decode cX6_ofLine 111 = .ok (.getfield 21, 3) := by decide +kernel
theorem dX6_ofLine_114 : decode cX6_ofLine 114 = .ok (.getfield 176, 3) := by decide +kernel
theorem dX6_ofLine_117 : decode cX6_ofLine 117 = .ok (.iload_n 1, 1) := by decide +kernel
theorem dX6_ofLine_118 : decode cX6_ofLine 118 = .ok (.invokestatic 151, 3) := by decide +kernel
theorem dX6_ofLine_121 : decode cX6_ofLine 121 = .ok (.ifCond .eq 7, 3) := by decide +kernel
theorem dX6_ofLine_124 : decode cX6_ofLine 124 = .ok (.iconst 1, 1) := by decide +kernel
theorem dX6_ofLine_125 : decode cX6_ofLine 125 = .ok (.goto 4, 3) := by decide +kernel
theorem dX6_ofLine_128 : decode cX6_ofLine 128 = .ok (.iconst 0, 1) := by decide +kernel
theorem dX6_ofLine_129 : decode cX6_ofLine 129 = .ok (.ireturn, 1) := by decide +kernel
theorem dX6_ofLine_130 : decode cX6_ofLine 130 = .ok (.aload_n 0, 1) := by decide +kernel
theorem dX6_ofLine_131 : decode cX6_ofLine 131 = .ok (.getfield 21, 3) := by decide +kernel
theorem dX6_ofLine_134 : decode cX6_ofLine 134 = .ok (.getfield 179, 3) := by decide +kernel
theorem dX6_ofLine_137 : decode cX6_ofLine 137 = .ok (.iload_n 1, 1) := by decide +kernel
theorem dX6_ofLine_138 : decode cX6_ofLine 138 = .ok (.iaload, 1) := by decide +kernel
theorem dX6_ofLine_139 : decode cX6_ofLine 139 = .ok (.ireturn, 1) := by decide +kernel
theorem dX6_ofLine_140 : decode cX6_ofLine 140 = .ok (.aload_n 0, 1) := by decide +kernel
theorem dX6_ofLine_141 : decode cX6_ofLine 141 = .ok (.getfield 35, 3) := by decide +kernel
theorem dX6_ofLine_144 : decode cX6_ofLine 144 = .ok (.getfield 182, 3) := by decide +kernel
theorem dX6_ofLine_147 : decode cX6_ofLine 147 = .ok (.iload_n 1, 1) := by decide +kernel
theorem dX6_ofLine_148 : decode cX6_ofLine 148 = .ok (.invokestatic 151, 3) := by decide +kernel
theorem dX6_ofLine_151 : decode cX6_ofLine 151 = .ok (.ifCond .eq 7, 3) := by decide +kernel
theorem dX6_ofLine_154 : decode cX6_ofLine 154 = .ok (.iconst 1, 1) := by decide +kernel
theorem dX6_ofLine_155 : decode cX6_ofLine 155 = .ok (.goto 4, 3) := by decide +kernel
theorem dX6_ofLine_158 : decode cX6_ofLine 158 = .ok (.iconst 0, 1) := by decide +kernel
theorem dX6_ofLine_159 : decode cX6_ofLine 159 = .ok (.ireturn, 1) := by decide +kernel
theorem dX6_ofLine_160 : decode cX6_ofLine 160 = .ok (.aload_n 0, 1) := by decide +kernel
theorem dX6_ofLine_161 : decode cX6_ofLine 161 = .ok (.getfield 49, 3) := by decide +kernel
theorem dX6_ofLine_164 : decode cX6_ofLine 164 = .ok (.getfield 185, 3) := by decide +kernel
theorem dX6_ofLine_167 : decode cX6_ofLine 167 = .ok (.iconst 2, 1) := by decide +kernel
theorem dX6_ofLine_168 : decode cX6_ofLine 168 = .ok (.iload_n 1, 1) := by decide +kernel
theorem dX6_ofLine_169 : decode cX6_ofLine 169 = .ok (.imul, 1) := by decide +kernel
theorem dX6_ofLine_170 : decode cX6_ofLine 170 = .ok (.iaload, 1) := by decide +kernel
theorem dX6_ofLine_171 : decode cX6_ofLine 171 = .ok (.ireturn, 1) := by decide +kernel
theorem dX6_ofLine_172 : decode cX6_ofLine 172 = .ok (.aload_n 0, 1) := by decide +kernel
theorem dX6_ofLine_173 : decode cX6_ofLine 173 = .ok (.getfield 49, 3) := by decide +kernel
theorem dX6_ofLine_176 : decode cX6_ofLine 176 = .ok (.getfield 185, 3) := by decide +kernel
theorem dX6_ofLine_179 : decode cX6_ofLine 179 = .ok (.iconst 2, 1) := by decide +kernel
theorem dX6_ofLine_180 : decode cX6_ofLine 180 = .ok (.iload_n 1, 1) := by decide +kernel
theorem dX6_ofLine_181 : decode cX6_ofLine 181 = .ok (.imul, 1) := by decide +kernel
theorem dX6_ofLine_182 : decode cX6_ofLine 182 = .ok (.iconst 1, 1) := by decide +kernel
theorem dX6_ofLine_183 : decode cX6_ofLine 183 = .ok (.iadd, 1) := by decide +kernel
theorem dX6_ofLine_184 : decode cX6_ofLine 184 = .ok (.iaload, 1) := by decide +kernel
theorem dX6_ofLine_185 : decode cX6_ofLine 185 = .ok (.ireturn, 1) := by decide +kernel
set_option maxRecDepth 20000 in
theorem ggX6_net_X6_demandWhat : GoodIn wsX6_net wsX6_demandWhat := goodIn_ca (goodIn_r _ [10, 11, 12] (by decide +kernel) (by decide +kernel)) (goodIn_sub (fun _ h => List.mem_cons_of_mem _ (List.mem_append_right _ h)) (by decide +kernel))
set_option maxRecDepth 20000 in
theorem gX6_net_X6_demandWhat : GoodIn wsX6_net (va_wsS RX6 133 yX6_demandWhat wsX6_demandWhat) := goodIn_app (goodIn_of _ (by decide +kernel)) ggX6_net_X6_demandWhat
set_option maxRecDepth 20000 in
theorem ggX6_net_J6_bitCount_0f7a4 : GoodIn wsX6_net wsJ6_bitCount_0f7a4 := goodIn_r _ [16, 17, 18, 19] (by decide +kernel) (by decide +kernel)
set_option maxRecDepth 20000 in
theorem gX6_net_J6_bitCount_0f7a4 : GoodIn wsX6_net (va_wsS RX6 143 yJ6_bitCount_0f7a4 wsJ6_bitCount_0f7a4) := goodIn_app (goodIn_of _ (by decide +kernel)) ggX6_net_J6_bitCount_0f7a4
set_option maxRecDepth 20000 in
theorem ggX6_net_X0_allFaces : GoodIn wsX6_net wsX0_allFaces := goodIn_r _ [24, 25, 26, 27, 28, 29, 30, 31, 32, 33, 101, 102, 103, 104, 105, 70, 71, 72, 73, 74, 75, 76, 77] (by decide +kernel) (by decide +kernel)
set_option maxRecDepth 20000 in
theorem gX6_net_X0_allFaces : GoodIn wsX6_net (wsV RX6 130 RX0 yX0_allFaces wsX0_allFaces) := goodIn_app (goodIn_of _ (by decide +kernel)) ggX6_net_X0_allFaces
set_option maxRecDepth 20000 in
theorem ggX6_net_X6_handles : GoodIn wsX6_net wsX6_handles := goodIn_r _ [37, 2, 1, 5, 13, 14, 15, 16, 17, 18, 19, 20, 21, 22, 23, 24, 25, 26, 27, 28, 29, 30, 31, 32, 33, 63, 64, 65, 66, 67, 68, 69, 78, 79, 80, 81, 82, 83, 84, 85, 86, 87, 88, 89, 90, 91, 92, 70, 71, 72, 73, 74, 75, 76, 77, 101, 102, 103, 104, 105] (by decide +kernel) (by decide +kernel)
set_option maxRecDepth 20000 in
theorem gX6_net_X6_handles : GoodIn wsX6_net (wsV RX6 203 RX6 yX6_handles wsX6_handles) := goodIn_app (goodIn_of _ (by decide +kernel)) ggX6_net_X6_handles
set_option maxRecDepth 20000 in
theorem ggX6_net_X5_greatestDistance : GoodIn wsX6_net wsX5_greatestDistance := goodIn_r _ [41, 42, 43, 44, 45, 46, 47, 48, 49, 30, 50, 51, 9, 52, 53, 54, 55, 56, 57, 58, 59, 60, 61, 32, 33, 62, 70, 71, 72, 73, 74, 75, 76, 77] (by decide +kernel) (by decide +kernel)
set_option maxRecDepth 20000 in
theorem gX6_net_X5_greatestDistance : GoodIn wsX6_net (wsV RX6 206 RX5 yX5_greatestDistance wsX5_greatestDistance) := goodIn_app (goodIn_of _ (by decide +kernel)) ggX6_net_X5_greatestDistance
theorem dX6_net_0 : decode cX6_net 0 = .ok (.iload_n 1, 1) := by decide +kernel
theorem dX6_net_1 : decode cX6_net 1 = .ok (.bipush 14, 2) := by decide +kernel
theorem dX6_net_3 : decode cX6_net 3 = .ok (.invokestatic 133, 3) := by decide +kernel
theorem dX6_net_6 : decode cX6_net 6 = .ok (.iload_n 1, 1) := by decide +kernel
theorem dX6_net_7 : decode cX6_net 7 = .ok (.tableswitch 187 0 13 #[69, 77, 85, 96, 104, 115, 126, 134, 142, 150, 158, 166, 174, 179], 69) := by decide +kernel
theorem dX6_net_76 : decode cX6_net 76 = .ok (.aload_n 0, 1) := by decide +kernel
theorem dX6_net_77 : decode cX6_net 77 = .ok (.getfield 10, 3) := by decide +kernel
theorem dX6_net_80 : decode cX6_net 80 = .ok (.getfield 57, 3) := by decide +kernel
theorem dX6_net_83 : decode cX6_net 83 = .ok (.ireturn, 1) := by decide +kernel
theorem dX6_net_84 : decode cX6_net 84 = .ok (.aload_n 0, 1) := by decide +kernel
theorem dX6_net_85 : decode cX6_net 85 = .ok (.getfield 10, 3) := by decide +kernel
theorem dX6_net_88 : decode cX6_net 88 = .ok (.getfield 85, 3) := by decide +kernel
theorem dX6_net_91 : decode cX6_net 91 = .ok (.ireturn, 1) := by decide +kernel
theorem dX6_net_92 : decode cX6_net 92 = .ok (.aload_n 0, 1) := by decide +kernel
theorem dX6_net_93 : decode cX6_net 93 = .ok (.getfield 10, 3) := by decide +kernel
theorem dX6_net_96 : decode cX6_net 96 = .ok (.getfield 173, 3) := by decide +kernel
theorem dX6_net_99 : decode cX6_net 99 = .ok (.invokestatic 143, 3) := by decide +kernel
theorem dX6_net_102 : decode cX6_net 102 = .ok (.ireturn, 1) := by decide +kernel
theorem dX6_net_103 : decode cX6_net 103 = .ok (.aload_n 0, 1) := by decide +kernel
theorem dX6_net_104 : decode cX6_net 104 = .ok (.getfield 21, 3) := by decide +kernel
theorem dX6_net_107 : decode cX6_net 107 = .ok (.getfield 113, 3) := by decide +kernel
theorem dX6_net_110 : decode cX6_net 110 = .ok (.ireturn, 1) := by decide +kernel
theorem dX6_net_111 : decode cX6_net 111 = .ok (.aload_n 0, 1) := by decide +kernel
theorem dX6_net_112 : decode cX6_net 112 = .ok (.getfield 21, 3) := by decide +kernel
theorem dX6_net_115 : decode cX6_net 115 = .ok (.getfield 176, 3) := by decide +kernel
theorem dX6_net_118 : decode cX6_net 118 = .ok (.invokestatic 143, 3) := by decide +kernel
theorem dX6_net_121 : decode cX6_net 121 = .ok (.ireturn, 1) := by decide +kernel
theorem dX6_net_122 : decode cX6_net 122 = .ok (.aload_n 0, 1) := by decide +kernel
theorem dX6_net_123 : decode cX6_net 123 = .ok (.getfield 21, 3) := by decide +kernel
theorem dX6_net_126 : decode cX6_net 126 = .ok (.getfield 148, 3) := by decide +kernel
theorem dX6_net_129 : decode cX6_net 129 = .ok (.invokestatic 143, 3) := by decide +kernel
theorem dX6_net_132 : decode cX6_net 132 = .ok (.ireturn, 1) := by decide +kernel
theorem dX6_net_133 : decode cX6_net 133 = .ok (.aload_n 0, 1) := by decide +kernel
theorem dX6_net_134 : decode cX6_net 134 = .ok (.getfield 21, 3) := by decide +kernel
theorem dX6_net_137 : decode cX6_net 137 = .ok (.getfield 188, 3) := by decide +kernel
theorem dX6_net_140 : decode cX6_net 140 = .ok (.ireturn, 1) := by decide +kernel
theorem dX6_net_141 : decode cX6_net 141 = .ok (.aload_n 0, 1) := by decide +kernel
theorem dX6_net_142 : decode cX6_net 142 = .ok (.getfield 21, 3) := by decide +kernel
theorem dX6_net_145 : decode cX6_net 145 = .ok (.getfield 191, 3) := by decide +kernel
theorem dX6_net_148 : decode cX6_net 148 = .ok (.ireturn, 1) := by decide +kernel
theorem dX6_net_149 : decode cX6_net 149 = .ok (.aload_n 0, 1) := by decide +kernel
theorem dX6_net_150 : decode cX6_net 150 = .ok (.getfield 21, 3) := by decide +kernel
theorem dX6_net_153 : decode cX6_net 153 = .ok (.getfield 194, 3) := by decide +kernel
theorem dX6_net_156 : decode cX6_net 156 = .ok (.ireturn, 1) := by decide +kernel
theorem dX6_net_157 : decode cX6_net 157 = .ok (.aload_n 0, 1) := by decide +kernel
theorem dX6_net_158 : decode cX6_net 158 = .ok (.getfield 35, 3) := by decide +kernel
theorem dX6_net_161 : decode cX6_net 161 = .ok (.getfield 197, 3) := by decide +kernel
theorem dX6_net_164 : decode cX6_net 164 = .ok (.ireturn, 1) := by decide +kernel
theorem dX6_net_165 : decode cX6_net 165 = .ok (.aload_n 0, 1) := by decide +kernel
theorem dX6_net_166 : decode cX6_net 166 = .ok (.getfield 42, 3) := by decide +kernel
theorem dX6_net_169 : decode cX6_net 169 = .ok (.getfield 200, 3) := by decide +kernel
theorem dX6_net_172 : decode cX6_net 172 = .ok (.ireturn, 1) := by decide +kernel
theorem dX6_net_173 : decode cX6_net 173 = .ok (.aload_n 0, 1) := by decide +kernel
theorem dX6_net_174 : decode cX6_net 174 = .ok (.getfield 49, 3) := by decide +kernel
theorem dX6_net_177 : decode cX6_net 177 = .ok (.invokevirtual 130, 3) := by decide +kernel
theorem dX6_net_180 : decode cX6_net 180 = .ok (.ireturn, 1) := by decide +kernel
theorem dX6_net_181 : decode cX6_net 181 = .ok (.aload_n 0, 1) := by decide +kernel
theorem dX6_net_182 : decode cX6_net 182 = .ok (.invokevirtual 203, 3) := by decide +kernel
theorem dX6_net_185 : decode cX6_net 185 = .ok (.ireturn, 1) := by decide +kernel
theorem dX6_net_186 : decode cX6_net 186 = .ok (.aload_n 0, 1) := by decide +kernel
theorem dX6_net_187 : decode cX6_net 187 = .ok (.getfield 10, 3) := by decide +kernel
theorem dX6_net_190 : decode cX6_net 190 = .ok (.invokevirtual 206, 3) := by decide +kernel
theorem dX6_net_193 : decode cX6_net 193 = .ok (.ireturn, 1) := by decide +kernel
theorem dX6_net_194 : decode cX6_net 194 = .ok (.aload_n 0, 1) := by decide +kernel
theorem dX6_net_195 : decode cX6_net 195 = .ok (.getfield 53, 3) := by decide +kernel
theorem dX6_net_198 : decode cX6_net 198 = .ok (.ireturn, 1) := by decide +kernel
set_option maxRecDepth 20000 in
theorem ggX6_pair_X6_demandNth : GoodIn wsX6_pair wsX6_demandNth := goodIn_ca (goodIn_r _ [5, 6, 7] (by decide +kernel) (by decide +kernel)) (goodIn_sub (fun _ h => List.mem_cons_of_mem _ (List.mem_append_right _ h)) (by decide +kernel))
set_option maxRecDepth 20000 in
theorem gX6_pair_X6_demandNth : GoodIn wsX6_pair (va_wsS RX6 209 yX6_demandNth wsX6_demandNth) := goodIn_app (goodIn_of _ (by decide +kernel)) ggX6_pair_X6_demandNth
set_option maxRecDepth 20000 in
theorem ggX6_pair_X1_pairPoint : GoodIn wsX6_pair wsX1_pairPoint := goodIn_r _ [12, 13, 14, 15, 23, 24, 25, 26, 27, 28, 29, 30, 31, 32, 33, 34, 35, 36, 37] (by decide +kernel) (by decide +kernel)
set_option maxRecDepth 20000 in
theorem gX6_pair_X1_pairPoint : GoodIn wsX6_pair (wsV RX6 212 RX1 yX1_pairPoint wsX1_pairPoint) := goodIn_app (goodIn_of _ (by decide +kernel)) ggX6_pair_X1_pairPoint
theorem dX6_pair_0 : decode cX6_pair 0 = .ok (.iload_n 1, 1) := by decide +kernel
theorem dX6_pair_1 : decode cX6_pair 1 = .ok (.invokestatic 209, 3) := by decide +kernel
theorem dX6_pair_4 : decode cX6_pair 4 = .ok (.aload_n 0, 1) := by decide +kernel
theorem dX6_pair_5 : decode cX6_pair 5 = .ok (.getfield 21, 3) := by decide +kernel
theorem dX6_pair_8 : decode cX6_pair 8 = .ok (.iload_n 1, 1) := by decide +kernel
theorem dX6_pair_9 : decode cX6_pair 9 = .ok (.iload_n 2, 1) := by decide +kernel
theorem dX6_pair_10 : decode cX6_pair 10 = .ok (.invokevirtual 212, 3) := by decide +kernel
theorem dX6_pair_13 : decode cX6_pair 13 = .ok (.ireturn, 1) := by decide +kernel
set_option maxRecDepth 20000 in
theorem ggX6_twin_X6_demandNth : GoodIn wsX6_twin wsX6_demandNth := goodIn_ca (goodIn_r _ [5, 6, 7] (by decide +kernel) (by decide +kernel)) (goodIn_sub (fun _ h => List.mem_cons_of_mem _ (List.mem_append_right _ h)) (by decide +kernel))
set_option maxRecDepth 20000 in
theorem gX6_twin_X6_demandNth : GoodIn wsX6_twin (va_wsS RX6 209 yX6_demandNth wsX6_demandNth) := goodIn_app (goodIn_of _ (by decide +kernel)) ggX6_twin_X6_demandNth
set_option maxRecDepth 20000 in
theorem ggX6_twin_X1_twinLine : GoodIn wsX6_twin wsX1_twinLine := goodIn_r _ [12, 13, 14, 15, 23, 24, 25, 26, 27, 28, 29, 30, 31, 32, 33, 34, 35, 36, 37] (by decide +kernel) (by decide +kernel)
set_option maxRecDepth 20000 in
theorem gX6_twin_X1_twinLine : GoodIn wsX6_twin (wsV RX6 216 RX1 yX1_twinLine wsX1_twinLine) := goodIn_app (goodIn_of _ (by decide +kernel)) ggX6_twin_X1_twinLine
theorem dX6_twin_0 : decode cX6_twin 0 = .ok (.iload_n 1, 1) := by decide +kernel
theorem dX6_twin_1 : decode cX6_twin 1 = .ok (.invokestatic 209, 3) := by decide +kernel
theorem dX6_twin_4 : decode cX6_twin 4 = .ok (.aload_n 0, 1) := by decide +kernel
theorem dX6_twin_5 : decode cX6_twin 5 = .ok (.getfield 21, 3) := by decide +kernel
theorem dX6_twin_8 : decode cX6_twin 8 = .ok (.iload_n 1, 1) := by decide +kernel
theorem dX6_twin_9 : decode cX6_twin 9 = .ok (.iload_n 2, 1) := by decide +kernel
theorem dX6_twin_10 : decode cX6_twin 10 = .ok (.invokevirtual 216, 3) := by decide +kernel
theorem dX6_twin_13 : decode cX6_twin 13 = .ok (.ireturn, 1) := by decide +kernel
set_option maxRecDepth 20000 in
theorem ggX6_between_X6_demandPoint : GoodIn wsX6_between wsX6_demandPoint := goodIn_ca (goodIn_r _ [7, 8, 9, 2, 104, 105, 106, 107, 108, 109, 110, 111, 112, 113, 114, 115, 116, 117, 118] (by decide +kernel) (by decide +kernel)) (goodIn_sub (fun _ h => List.mem_cons_of_mem _ (List.mem_append_left _ (List.mem_append_right _ h))) (by decide +kernel))
set_option maxRecDepth 20000 in
theorem gX6_between_X6_demandPoint : GoodIn wsX6_between (wsV RX6 74 RX6 yX6_demandPoint wsX6_demandPoint) := goodIn_app (goodIn_of _ (by decide +kernel)) ggX6_between_X6_demandPoint
set_option maxRecDepth 20000 in
theorem ggX6_between_X6_demandUnlike : GoodIn wsX6_between wsX6_demandUnlike := goodIn_ca (goodIn_r _ [12, 13, 14] (by decide +kernel) (by decide +kernel)) (goodIn_sub (fun _ h => List.mem_cons_of_mem _ (List.mem_append_right _ h)) (by decide +kernel))
set_option maxRecDepth 20000 in
theorem gX6_between_X6_demandUnlike : GoodIn wsX6_between (va_wsS RX6 78 yX6_demandUnlike wsX6_demandUnlike) := goodIn_app (goodIn_of _ (by decide +kernel)) ggX6_between_X6_demandUnlike
set_option maxRecDepth 20000 in
theorem ggX6_between_X6_demandWhat : GoodIn wsX6_between wsX6_demandWhat := goodIn_ca (goodIn_r _ [17, 13, 14] (by decide +kernel) (by decide +kernel)) (goodIn_sub (fun _ h => List.mem_cons_of_mem _ (List.mem_append_right _ h)) (by decide +kernel))
set_option maxRecDepth 20000 in
theorem gX6_between_X6_demandWhat : GoodIn wsX6_between (va_wsS RX6 133 yX6_demandWhat wsX6_demandWhat) := goodIn_app (goodIn_of _ (by decide +kernel)) ggX6_between_X6_demandWhat
set_option maxRecDepth 20000 in
theorem ggX6_between_X4_countWays : GoodIn wsX6_between wsX4_countWays := goodIn_r _ [22, 23, 24, 25, 26, 27, 21, 28, 29, 6, 30, 31, 32, 33, 34, 35, 36, 37, 38, 39, 40, 41, 42, 43, 44, 119, 120, 121, 122, 111, 112, 113, 114, 115, 116, 117, 118] (by decide +kernel) (by decide +kernel)
set_option maxRecDepth 20000 in
theorem gX6_between_X4_countWays : GoodIn wsX6_between (wsV RX6 219 RX4 yX4_countWays wsX4_countWays) := goodIn_app (goodIn_of _ (by decide +kernel)) ggX6_between_X4_countWays
set_option maxRecDepth 20000 in
theorem ggX6_between_X4_countLineWays : GoodIn wsX6_between wsX4_countLineWays := goodIn_r _ [48, 23, 24, 25, 26, 27, 21, 28, 29, 6, 30, 31, 32, 33, 34, 35, 36, 37, 38, 39, 40, 41, 42, 43, 44, 119, 120, 121, 122, 111, 112, 113, 114, 115, 116, 117, 118] (by decide +kernel) (by decide +kernel)
set_option maxRecDepth 20000 in
theorem gX6_between_X4_countLineWays : GoodIn wsX6_between (wsV RX6 222 RX4 yX4_countLineWays wsX4_countLineWays) := goodIn_app (goodIn_of _ (by decide +kernel)) ggX6_between_X4_countLineWays
set_option maxRecDepth 20000 in
theorem ggX6_between_X5_distance : GoodIn wsX6_between wsX5_distance := goodIn_r _ [53, 29, 6, 30, 54, 55, 56, 52, 57, 58, 59, 60, 61, 62, 63, 64, 65, 66, 111, 112, 113, 114, 115, 116, 117, 118] (by decide +kernel) (by decide +kernel)
set_option maxRecDepth 20000 in
theorem gX6_between_X5_distance : GoodIn wsX6_between (wsV RX6 225 RX5 yX5_distance wsX5_distance) := goodIn_app (goodIn_of _ (by decide +kernel)) ggX6_between_X5_distance
set_option maxRecDepth 20000 in
theorem ggX6_between_X4_gap : GoodIn wsX6_between wsX4_gap := goodIn_r _ [70, 23, 71, 60, 61, 52, 62, 63, 64, 65, 66, 29, 6, 30, 72, 73, 74, 75, 58, 76, 77, 78, 79, 80, 81, 82, 83, 84, 85, 21, 86, 87, 88, 89, 90, 119, 120, 121, 122, 111, 112, 113, 114, 115, 116, 117, 118] (by decide +kernel) (by decide +kernel)
set_option maxRecDepth 20000 in
theorem gX6_between_X4_gap : GoodIn wsX6_between (wsV RX6 228 RX4 yX4_gap wsX4_gap) := goodIn_app (goodIn_of _ (by decide +kernel)) ggX6_between_X4_gap
set_option maxRecDepth 20000 in
theorem ggX6_between_X4_side : GoodIn wsX6_between wsX4_side := goodIn_r _ [94, 23, 95, 96, 97, 52, 98, 58, 29, 6, 30, 99, 100, 101, 102, 64, 65, 76, 77, 78, 79, 80, 81, 82, 72, 73, 74, 75, 119, 120, 121, 122, 111, 112, 113, 114, 115, 116, 117, 118] (by decide +kernel) (by decide +kernel)
set_option maxRecDepth 20000 in
theorem gX6_between_X4_side : GoodIn wsX6_between (wsV RX6 231 RX4 yX4_side wsX4_side) := goodIn_app (goodIn_of _ (by decide +kernel)) ggX6_between_X4_side
set_option maxRecDepth 20000 in
theorem ggX6_between_X5_linesOutOf : GoodIn wsX6_between wsX5_linesOutOf := goodIn_r _ [98, 58, 29, 6, 30, 99, 100, 101, 52, 102, 64, 65, 111, 112, 113, 114, 115, 116, 117, 118] (by decide +kernel) (by decide +kernel)
set_option maxRecDepth 20000 in
theorem gX6_between_X5_linesOutOf : GoodIn wsX6_between (wsV RX6 234 RX5 yX5_linesOutOf wsX5_linesOutOf) := goodIn_app (goodIn_of _ (by decide +kernel)) ggX6_between_X5_linesOutOf
theorem dX6_between_0 : decode cX6_between 0 = .ok (.aload_n 0, 1) := by decide +kernel
theorem dX6_between_1 : decode cX6_between 1 = .ok (.iload_n 1, 1) := by decide +kernel
theorem dX6_between_2 : decode cX6_between 2 = .ok (.invokevirtual 74, 3) := by decide +kernel
theorem dX6_between_5 : decode cX6_between 5 = .ok (.aload_n 0, 1) := by decide +kernel
theorem dX6_between_6 : decode cX6_between 6 = .ok (.iload_n 2, 1) := by decide +kernel
theorem dX6_between_7 : decode cX6_between 7 = .ok (.invokevirtual 74, 3) := by decide +kernel
end
section
theorem dX6_between_10 : decode cX6_between 10 = .ok (.iload_n 1, 1) := by decide +kernel
theorem dX6_between_11 : decode cX6_between 11 = .ok (.iload_n 2, 1) := by decide +kernel
theorem dX6_between_12 : decode cX6_between 12 = .ok (.invokestatic 78, 3) := by decide +kernel
theorem dX6_between_15 : decode cX6_between 15 = .ok (.iload_n 3, 1) := by decide +kernel
theorem dX6_between_16 : decode cX6_between 16 = .ok (.iconst 5, 1) := by decide +kernel
theorem dX6_between_17 : decode cX6_between 17 = .ok (.invokestatic 133, 3) := by decide +kernel
theorem dX6_between_20 : decode cX6_between 20 = .ok (.iload_n 3, 1) := by decide +kernel
theorem dX6_between_21 : decode cX6_between 21 = .ok (.tableswitch 85 0 4 #[35, 45, 55, 65, 75], 35) := by decide +kernel
theorem dX6_between_56 : decode cX6_between 56 = .ok (.aload_n 0, 1) := by decide +kernel
theorem dX6_between_57 : decode cX6_between 57 = .ok (.getfield 28, 3) := by decide +kernel
theorem dX6_between_60 : decode cX6_between 60 = .ok (.iload_n 1, 1) := by decide +kernel
theorem dX6_between_61 : decode cX6_between 61 = .ok (.iload_n 2, 1) := by decide +kernel
theorem dX6_between_62 : decode cX6_between 62 = .ok (.invokevirtual 219, 3) := by decide +kernel
theorem dX6_between_65 : decode cX6_between 65 = .ok (.ireturn, 1) := by decide +kernel
theorem dX6_between_66 : decode cX6_between 66 = .ok (.aload_n 0, 1) := by decide +kernel
theorem dX6_between_67 : decode cX6_between 67 = .ok (.getfield 28, 3) := by decide +kernel
theorem dX6_between_70 : decode cX6_between 70 = .ok (.iload_n 1, 1) := by decide +kernel
theorem dX6_between_71 : decode cX6_between 71 = .ok (.iload_n 2, 1) := by decide +kernel
theorem dX6_between_72 : decode cX6_between 72 = .ok (.invokevirtual 222, 3) := by decide +kernel
theorem dX6_between_75 : decode cX6_between 75 = .ok (.ireturn, 1) := by decide +kernel
theorem dX6_between_76 : decode cX6_between 76 = .ok (.aload_n 0, 1) := by decide +kernel
theorem dX6_between_77 : decode cX6_between 77 = .ok (.getfield 10, 3) := by decide +kernel
theorem dX6_between_80 : decode cX6_between 80 = .ok (.iload_n 1, 1) := by decide +kernel
theorem dX6_between_81 : decode cX6_between 81 = .ok (.iload_n 2, 1) := by decide +kernel
theorem dX6_between_82 : decode cX6_between 82 = .ok (.invokevirtual 225, 3) := by decide +kernel
theorem dX6_between_85 : decode cX6_between 85 = .ok (.ireturn, 1) := by decide +kernel
theorem dX6_between_86 : decode cX6_between 86 = .ok (.aload_n 0, 1) := by decide +kernel
theorem dX6_between_87 : decode cX6_between 87 = .ok (.getfield 28, 3) := by decide +kernel
theorem dX6_between_90 : decode cX6_between 90 = .ok (.iload_n 1, 1) := by decide +kernel
theorem dX6_between_91 : decode cX6_between 91 = .ok (.iload_n 2, 1) := by decide +kernel
theorem dX6_between_92 : decode cX6_between 92 = .ok (.invokevirtual 228, 3) := by decide +kernel
theorem dX6_between_95 : decode cX6_between 95 = .ok (.ireturn, 1) := by decide +kernel
theorem dX6_between_96 : decode cX6_between 96 = .ok (.aload_n 0, 1) := by decide +kernel
theorem dX6_between_97 : decode cX6_between 97 = .ok (.getfield 28, 3) := by decide +kernel
theorem dX6_between_100 : decode cX6_between 100 = .ok (.iload_n 1, 1) := by decide +kernel
theorem dX6_between_101 : decode cX6_between 101 = .ok (.iload_n 2, 1) := by decide +kernel
theorem dX6_between_102 : decode cX6_between 102 = .ok (.invokevirtual 231, 3) := by decide +kernel
theorem dX6_between_105 : decode cX6_between 105 = .ok (.ireturn, 1) := by decide +kernel
theorem dX6_between_106 : decode cX6_between 106 = .ok (.aload_n 0, 1) := by decide +kernel
theorem dX6_between_107 : decode cX6_between 107 = .ok (.getfield 10, 3) := by decide +kernel
theorem dX6_between_110 : decode cX6_between 110 = .ok (.aload_n 0, 1) := by decide +kernel
theorem dX6_between_111 : decode cX6_between 111 = .ok (.getfield 28, 3) := by decide +kernel
theorem dX6_between_114 : decode cX6_between 114 = .ok (.iload_n 1, 1) := by decide +kernel
theorem dX6_between_115 : decode cX6_between 115 = .ok (.iload_n 2, 1) := by decide +kernel
theorem dX6_between_116 : decode cX6_between 116 = .ok (.invokevirtual 231, 3) := by decide +kernel
theorem dX6_between_119 : decode cX6_between 119 = .ok (.invokevirtual 234, 3) := by decide +kernel
theorem dX6_between_122 : decode cX6_between 122 = .ok (.ireturn, 1) := by decide +kernel
set_option maxRecDepth 20000 in
theorem ggX6_trees_X2_countTrees : GoodIn wsX6_trees wsX2_countTrees := goodIn_r _ [6, 7, 8, 9, 5, 10, 11, 12, 13, 14, 15, 16, 17, 18, 19, 20, 21, 22, 23, 31, 32, 33, 34, 35, 36, 37, 38, 39, 40, 41, 42, 43] (by decide +kernel) (by decide +kernel)
set_option maxRecDepth 20000 in
theorem gX6_trees_X2_countTrees : GoodIn wsX6_trees (wsV RX6 237 RX2 yX2_countTrees wsX2_countTrees) := goodIn_app (goodIn_of _ (by decide +kernel)) ggX6_trees_X2_countTrees
theorem dX6_trees_0 : decode cX6_trees 0 = .ok (.aload_n 0, 1) := by decide +kernel
theorem dX6_trees_1 : decode cX6_trees 1 = .ok (.getfield 35, 3) := by decide +kernel
theorem dX6_trees_4 : decode cX6_trees 4 = .ok (.invokevirtual 237, 3) := by decide +kernel
theorem dX6_trees_7 : decode cX6_trees 7 = .ok (.lreturn, 1) := by decide +kernel
set_option maxRecDepth 20000 in
theorem ggX6_without_X5_allPoints : GoodIn wsX6_without wsX5_allPoints := goodIn_r _ [8, 9, 30, 31, 32, 33, 34, 35, 36, 37] (by decide +kernel) (by decide +kernel)
set_option maxRecDepth 20000 in
theorem gX6_without_X5_allPoints : GoodIn wsX6_without (wsV RX6 256 RX5 yX5_allPoints wsX5_allPoints) := goodIn_app (goodIn_of _ (by decide +kernel)) ggX6_without_X5_allPoints
set_option maxRecDepth 20000 in
theorem ggX6_without_X5_countParts : GoodIn wsX6_without wsX5_countParts := goodIn_r _ [13, 9, 14, 15, 16, 17, 18, 19, 7, 20, 21, 22, 30, 31, 32, 33, 34, 35, 36, 37] (by decide +kernel) (by decide +kernel)
set_option maxRecDepth 20000 in
theorem gX6_without_X5_countParts : GoodIn wsX6_without (wsV RX6 259 RX5 yX5_countParts wsX5_countParts) := goodIn_app (goodIn_of _ (by decide +kernel)) ggX6_without_X5_countParts
theorem dX6_without_0 : decode cX6_without 0 = .ok (.iload_n 1, 1) := by decide +kernel
theorem dX6_without_1 : decode cX6_without 1 = .ok (.aload_n 0, 1) := by decide +kernel
theorem dX6_without_2 : decode cX6_without 2 = .ok (.getfield 10, 3) := by decide +kernel
theorem dX6_without_5 : decode cX6_without 5 = .ok (.getfield 57, 3) := by decide +kernel
theorem dX6_without_8 : decode cX6_without 8 = .ok (.ishr, 1) := by decide +kernel
theorem dX6_without_9 : decode cX6_without 9 = .ok (.ifCond .eq 13, 3) := by decide +kernel
theorem dX6_without_12 : decode cX6_without 12 = .ok (.new 249, 3) := by decide +kernel
theorem dX6_without_15 : decode cX6_without 15 = .ok (.dup, 1) := by decide +kernel
theorem dX6_without_16 : decode cX6_without 16 = .ok (.ldc 251, 2) := by decide +kernel
theorem dX6_without_18 : decode cX6_without 18 = .ok (.invokespecial 253, 3) := by decide +kernel
theorem dX6_without_21 : decode cX6_without 21 = .ok (.athrow, 1) := by decide +kernel
theorem dX6_without_22 : decode cX6_without 22 = .ok (.iload_n 2, 1) := by decide +kernel
theorem dX6_without_23 : decode cX6_without 23 = .ok (.aload_n 0, 1) := by decide +kernel
theorem dX6_without_24 : decode cX6_without 24 = .ok (.getfield 10, 3) := by decide +kernel
theorem dX6_without_27 : decode cX6_without 27 = .ok (.getfield 85, 3) := by decide +kernel
theorem dX6_without_30 : decode cX6_without 30 = .ok (.ishr, 1) := by decide +kernel
theorem dX6_without_31 : decode cX6_without 31 = .ok (.ifCond .eq 13, 3) := by decide +kernel
theorem dX6_without_34 : decode cX6_without 34 = .ok (.new 249, 3) := by decide +kernel
theorem dX6_without_37 : decode cX6_without 37 = .ok (.dup, 1) := by decide +kernel
theorem dX6_without_38 : decode cX6_without 38 = .ok (.ldc 254, 2) := by decide +kernel
theorem dX6_without_40 : decode cX6_without 40 = .ok (.invokespecial 253, 3) := by decide +kernel
theorem dX6_without_43 : decode cX6_without 43 = .ok (.athrow, 1) := by decide +kernel
theorem dX6_without_44 : decode cX6_without 44 = .ok (.aload_n 0, 1) := by decide +kernel
theorem dX6_without_45 : decode cX6_without 45 = .ok (.getfield 10, 3) := by decide +kernel
theorem dX6_without_48 : decode cX6_without 48 = .ok (.aload_n 0, 1) := by decide +kernel
theorem dX6_without_49 : decode cX6_without 49 = .ok (.getfield 10, 3) := by decide +kernel
theorem dX6_without_52 : decode cX6_without 52 = .ok (.invokevirtual 256, 3) := by decide +kernel
theorem dX6_without_55 : decode cX6_without 55 = .ok (.iload_n 1, 1) := by decide +kernel
theorem dX6_without_56 : decode cX6_without 56 = .ok (.iconst (-1), 1) := by decide +kernel
theorem dX6_without_57 : decode cX6_without 57 = .ok (.ixor, 1) := by decide +kernel
theorem dX6_without_58 : decode cX6_without 58 = .ok (.iand, 1) := by decide +kernel
theorem dX6_without_59 : decode cX6_without 59 = .ok (.aload_n 0, 1) := by decide +kernel
theorem dX6_without_60 : decode cX6_without 60 = .ok (.getfield 10, 3) := by decide +kernel
theorem dX6_without_63 : decode cX6_without 63 = .ok (.getfield 173, 3) := by decide +kernel
theorem dX6_without_66 : decode cX6_without 66 = .ok (.iload_n 2, 1) := by decide +kernel
theorem dX6_without_67 : decode cX6_without 67 = .ok (.iconst (-1), 1) := by decide +kernel
theorem dX6_without_68 : decode cX6_without 68 = .ok (.ixor, 1) := by decide +kernel
theorem dX6_without_69 : decode cX6_without 69 = .ok (.iand, 1) := by decide +kernel
theorem dX6_without_70 : decode cX6_without 70 = .ok (.invokevirtual 259, 3) := by decide +kernel
theorem dX6_without_73 : decode cX6_without 73 = .ok (.ireturn, 1) := by decide +kernel
set_option maxRecDepth 20000 in
theorem ggX6_wouldTurn_X6_demandPoint : GoodIn wsX6_wouldTurn wsX6_demandPoint := goodIn_ca (goodIn_r _ [6, 7, 8, 9, 53, 54, 55, 56, 57, 58, 59, 60, 61, 62, 63, 64, 65, 66, 67] (by decide +kernel) (by decide +kernel)) (goodIn_sub (fun _ h => List.mem_cons_of_mem _ (List.mem_append_right _ h)) (by decide +kernel))
set_option maxRecDepth 20000 in
theorem gX6_wouldTurn_X6_demandPoint : GoodIn wsX6_wouldTurn (wsV RX6 74 RX6 yX6_demandPoint wsX6_demandPoint) := goodIn_app (goodIn_of _ (by decide +kernel)) ggX6_wouldTurn_X6_demandPoint
set_option maxRecDepth 20000 in
theorem ggX6_wouldTurn_X0_bestPlace : GoodIn wsX6_wouldTurn wsX0_bestPlace := goodIn_r _ [14, 15, 16, 17, 18, 13, 19, 20, 21, 22, 23, 24, 25, 26, 27, 28, 29, 30, 31, 32, 33, 34, 35, 36, 37, 38, 39, 40, 41, 42, 43, 5, 44, 45, 46, 47, 48, 49, 50, 51, 52, 68, 69, 70, 71, 72, 60, 61, 62, 63, 64, 65, 66, 67] (by decide +kernel) (by decide +kernel)
set_option maxRecDepth 20000 in
theorem gX6_wouldTurn_X0_bestPlace : GoodIn wsX6_wouldTurn (wsV RX6 266 RX0 yX0_bestPlace wsX0_bestPlace) := goodIn_app (goodIn_of _ (by decide +kernel)) ggX6_wouldTurn_X0_bestPlace
theorem dX6_wouldTurn_0 : decode cX6_wouldTurn 0 = .ok (.aload_n 0, 1) := by decide +kernel
theorem dX6_wouldTurn_1 : decode cX6_wouldTurn 1 = .ok (.iload_n 1, 1) := by decide +kernel
theorem dX6_wouldTurn_2 : decode cX6_wouldTurn 2 = .ok (.invokevirtual 74, 3) := by decide +kernel
theorem dX6_wouldTurn_5 : decode cX6_wouldTurn 5 = .ok (.aload_n 0, 1) := by decide +kernel
theorem dX6_wouldTurn_6 : decode cX6_wouldTurn 6 = .ok (.getfield 49, 3) := by decide +kernel
theorem dX6_wouldTurn_9 : decode cX6_wouldTurn 9 = .ok (.iload_n 1, 1) := by decide +kernel
theorem dX6_wouldTurn_10 : decode cX6_wouldTurn 10 = .ok (.invokevirtual 266, 3) := by decide +kernel
theorem dX6_wouldTurn_13 : decode cX6_wouldTurn 13 = .ok (.ireturn, 1) := by decide +kernel
set_option maxRecDepth 20000 in
theorem ggX6_isSound_X6_areAllWaysSound : GoodIn wsX6_isSound wsX6_areAllWaysSound := goodIn_r _ [5, 6, 7, 8, 9, 4, 10, 11, 12, 13, 14, 15, 16, 17, 18, 19, 20, 21, 22, 23, 24, 25, 26, 27, 28, 29, 30, 31, 32, 33, 34, 35, 36, 37, 38, 39, 40, 41, 42, 43, 44, 45, 46, 47, 48, 49, 50, 51, 52, 53, 54, 55, 56, 57, 58, 59, 60, 61, 62, 63, 64, 65, 66, 67, 68, 69, 70, 71, 72, 73, 74, 75, 76, 77, 78, 79, 80, 81, 82, 83, 84, 85, 86, 87, 88, 89, 145, 146, 147, 148, 149, 150, 151, 152, 153, 154, 155, 156, 157, 158, 159, 160, 161, 162, 163] (by decide +kernel) (by decide +kernel)
set_option maxRecDepth 20000 in
theorem gX6_isSound_X6_areAllWaysSound : GoodIn wsX6_isSound (wsV RX6 269 RX6 yX6_areAllWaysSound wsX6_areAllWaysSound) := goodIn_app (goodIn_of _ (by decide +kernel)) ggX6_isSound_X6_areAllWaysSound
set_option maxRecDepth 20000 in
theorem ggX6_isSound_X6_handles : GoodIn wsX6_isSound wsX6_handles := goodIn_r _ [93, 94, 6, 95, 76, 62, 63, 64, 65, 66, 67, 96, 97, 98, 99, 100, 101, 102, 103, 86, 87, 50, 88, 53, 54, 145, 146, 147, 148, 149, 150, 151, 164, 165, 166, 167, 168, 169, 170, 171, 172, 173, 174, 175, 176, 177, 178, 152, 153, 154, 155, 156, 157, 158, 159, 179, 180, 181, 182, 183] (by decide +kernel) (by decide +kernel)
set_option maxRecDepth 20000 in
theorem gX6_isSound_X6_handles : GoodIn wsX6_isSound (wsV RX6 203 RX6 yX6_handles wsX6_handles) := goodIn_app (goodIn_of _ (by decide +kernel)) ggX6_isSound_X6_handles
set_option maxRecDepth 20000 in
theorem ggX6_isSound_X6_areTreesSound : GoodIn wsX6_isSound wsX6_areTreesSound := goodIn_r _ [107, 108, 94, 109, 110, 111, 112, 113, 114, 115, 116, 117, 118, 119, 23, 4, 24, 120, 121, 122, 123, 124, 125, 126, 127, 145, 146, 147, 148, 149, 150, 151, 164, 165, 166, 167, 168, 169, 170, 171, 172, 173, 174, 175, 176, 177, 178, 184, 185, 186, 187, 188, 152, 153, 154, 155, 156, 157, 158, 159] (by decide +kernel) (by decide +kernel)
set_option maxRecDepth 20000 in
theorem gX6_isSound_X6_areTreesSound : GoodIn wsX6_isSound (wsV RX6 273 RX6 yX6_areTreesSound wsX6_areTreesSound) := goodIn_app (goodIn_of _ (by decide +kernel)) ggX6_isSound_X6_areTreesSound
set_option maxRecDepth 20000 in
theorem ggX6_isSound_X6_isColouringSound : GoodIn wsX6_isSound wsX6_isColouringSound := goodIn_r _ [131, 6, 132, 133, 23, 4, 24, 145, 146, 147, 148, 149, 150, 151, 152, 153, 154, 155, 156, 157, 158, 159, 189, 190, 191] (by decide +kernel) (by decide +kernel)
set_option maxRecDepth 20000 in
theorem gX6_isSound_X6_isColouringSound : GoodIn wsX6_isSound (wsV RX6 276 RX6 yX6_isColouringSound wsX6_isColouringSound) := goodIn_app (goodIn_of _ (by decide +kernel)) ggX6_isSound_X6_isColouringSound
set_option maxRecDepth 20000 in
theorem ggX6_isSound_X6_areBlocksSound : GoodIn wsX6_isSound wsX6_areBlocksSound := goodIn_r _ [137, 6, 94, 133, 23, 4, 24, 138, 139, 140, 141, 142, 143, 144, 145, 146, 147, 148, 149, 150, 151, 152, 153, 154, 155, 156, 157, 158, 159, 164, 165, 166, 167, 168, 169, 170, 171, 172, 173, 174, 175, 176, 177, 178] (by decide +kernel) (by decide +kernel)
set_option maxRecDepth 20000 in
theorem gX6_isSound_X6_areBlocksSound : GoodIn wsX6_isSound (wsV RX6 279 RX6 yX6_areBlocksSound wsX6_areBlocksSound) := goodIn_app (goodIn_of _ (by decide +kernel)) ggX6_isSound_X6_areBlocksSound
theorem dX6_isSound_0 : decode cX6_isSound 0 = .ok (.aload_n 0, 1) := by decide +kernel
theorem dX6_isSound_1 : decode cX6_isSound 1 = .ok (.invokevirtual 269, 3) := by decide +kernel
theorem dX6_isSound_4 : decode cX6_isSound 4 = .ok (.ifCond .eq 35, 3) := by decide +kernel
theorem dX6_isSound_7 : decode cX6_isSound 7 = .ok (.aload_n 0, 1) := by decide +kernel
theorem dX6_isSound_8 : decode cX6_isSound 8 = .ok (.invokevirtual 203, 3) := by decide +kernel
theorem dX6_isSound_11 : decode cX6_isSound 11 = .ok (.ifCond .lt 28, 3) := by decide +kernel
theorem dX6_isSound_14 : decode cX6_isSound 14 = .ok (.aload_n 0, 1) := by decide +kernel
theorem dX6_isSound_15 : decode cX6_isSound 15 = .ok (.invokevirtual 273, 3) := by decide +kernel
theorem dX6_isSound_18 : decode cX6_isSound 18 = .ok (.ifCond .eq 21, 3) := by decide +kernel
theorem dX6_isSound_21 : decode cX6_isSound 21 = .ok (.aload_n 0, 1) := by decide +kernel
theorem dX6_isSound_22 : decode cX6_isSound 22 = .ok (.invokevirtual 276, 3) := by decide +kernel
theorem dX6_isSound_25 : decode cX6_isSound 25 = .ok (.ifCond .eq 14, 3) := by decide +kernel
theorem dX6_isSound_28 : decode cX6_isSound 28 = .ok (.aload_n 0, 1) := by decide +kernel
theorem dX6_isSound_29 : decode cX6_isSound 29 = .ok (.invokevirtual 279, 3) := by decide +kernel
theorem dX6_isSound_32 : decode cX6_isSound 32 = .ok (.ifCond .eq 7, 3) := by decide +kernel
theorem dX6_isSound_35 : decode cX6_isSound 35 = .ok (.iconst 1, 1) := by decide +kernel
theorem dX6_isSound_36 : decode cX6_isSound 36 = .ok (.goto 4, 3) := by decide +kernel
theorem dX6_isSound_39 : decode cX6_isSound 39 = .ok (.iconst 0, 1) := by decide +kernel
theorem dX6_isSound_40 : decode cX6_isSound 40 = .ok (.ireturn, 1) := by decide +kernel
set_option maxRecDepth 20000 in
theorem ggX6_digest_X6_net : GoodIn wsX6_digest wsX6_net := goodIn_ca (goodIn_r _ [8, 2, 3, 9, 10, 11, 12, 13, 14, 7, 15, 16, 17, 18, 19, 20, 21, 22, 23, 24, 25, 26, 27, 28, 29, 30, 31, 32, 33, 34, 35, 36, 37, 38, 39, 40, 41, 42, 43, 44, 45, 46, 47, 48, 49, 50, 51, 52, 53, 54, 55, 56, 57, 58, 59, 60, 61, 62, 63, 64, 65, 66, 67, 280, 281, 282, 283, 284, 285, 286, 287, 288, 289, 290, 291, 292, 293, 294, 295, 296, 297, 298, 299, 300, 301, 302, 303, 304, 305, 306, 307, 308, 309, 310, 311, 312, 313, 314, 315, 316, 317, 318, 319, 320, 321, 322] (by decide +kernel) (by decide +kernel)) (goodIn_sub (fun _ h => List.mem_cons_of_mem _ (List.mem_append_left _ (List.mem_append_right _ h))) (by decide +kernel))
set_option maxRecDepth 20000 in
theorem gX6_digest_X6_net : GoodIn wsX6_digest (wsV RX6 284 RX6 yX6_net wsX6_net) := goodIn_app (goodIn_of _ (by decide +kernel)) ggX6_digest_X6_net
set_option maxRecDepth 20000 in
theorem ggX6_digest_X6_mixed : GoodIn wsX6_digest wsX6_mixed := goodIn_r _ [70, 71] (by decide +kernel) (by decide +kernel)
set_option maxRecDepth 20000 in
theorem gX6_digest_X6_mixed : GoodIn wsX6_digest (va_wsS RX6 287 yX6_mixed wsX6_mixed) := goodIn_app (goodIn_of _ (by decide +kernel)) ggX6_digest_X6_mixed
set_option maxRecDepth 20000 in
theorem ggX6_digest_X6_mixedPoint : GoodIn wsX6_digest wsX6_mixedPoint := goodIn_ca (goodIn_ca (goodIn_r _ [75, 2, 76, 77, 78, 7, 79, 3, 10, 11, 80, 81, 82, 83, 84, 85, 13, 14, 15, 16, 17, 86, 33, 34, 35, 36, 37, 38, 18, 19, 20, 21, 22, 23, 24, 87, 56, 57, 88, 89, 90, 91, 92, 93, 94, 95, 96, 97, 63, 64, 65, 66, 67, 68, 69, 70, 71, 98, 99, 100, 101, 102, 103, 104, 28, 105, 106, 107, 26, 27, 29, 30, 31, 32, 108, 109, 110, 111, 112, 113, 114, 115, 116, 117, 118, 119, 120, 121, 122, 123, 124, 125, 126, 127, 128, 129, 130, 131, 132, 133, 134, 135, 136, 137, 138, 139, 140, 141, 142, 143, 144, 145, 146, 147, 148, 149, 150, 151, 152, 153, 154, 155, 156, 157, 158, 159, 160, 161, 162, 163, 164, 165, 166, 167, 53, 54, 55, 58, 59, 60, 61, 47, 62, 168, 169, 170, 171, 172, 173, 174, 175, 176, 177, 178, 179, 180, 181, 182, 183, 184, 185, 186, 187, 188, 189, 190, 191, 192, 193, 194, 195, 280, 281, 282, 283, 284, 285, 286, 287, 288, 289, 290, 291, 292, 293, 294, 295, 296, 297, 298, 299, 300, 301, 302, 303, 304, 305, 306, 307, 308, 309, 315, 316, 317, 318, 319, 320, 321, 322, 323, 324, 325, 326] (by decide +kernel) (by decide +kernel)) (goodIn_sub (fun _ h => List.mem_cons_of_mem _ (List.mem_append_right _ h)) (by decide +kernel))) (goodIn_sub (fun _ h => List.mem_cons_of_mem _ (List.mem_append_left _ (List.mem_append_right _ h))) (by decide +kernel))
set_option maxRecDepth 20000 in
theorem gX6_digest_X6_mixedPoint : GoodIn wsX6_digest (wsV RX6 291 RX6 yX6_mixedPoint wsX6_mixedPoint) := goodIn_app (goodIn_of _ (by decide +kernel)) ggX6_digest_X6_mixedPoint
set_option maxRecDepth 20000 in
theorem ggX6_digest_X6_ofLine : GoodIn wsX6_digest wsX6_ofLine := goodIn_ca (goodIn_ca (goodIn_r _ [199, 2, 3, 9, 11, 200, 201, 202, 7, 203, 84, 85, 13, 14, 15, 16, 17, 87, 56, 57, 280, 281, 282, 283, 284, 285, 286, 287, 288, 289, 290, 291, 292, 293, 294, 295, 296, 297, 298, 299, 300, 301, 302, 303, 304, 305, 306, 307, 308, 309, 310, 311, 312, 313, 314, 318, 319, 320, 321, 322] (by decide +kernel) (by decide +kernel)) (goodIn_sub (fun _ h => List.mem_cons_of_mem _ (List.mem_append_right _ h)) (by decide +kernel))) (goodIn_sub (fun _ h => List.mem_cons_of_mem _ (List.mem_append_left _ (List.mem_append_right _ h))) (by decide +kernel))
set_option maxRecDepth 20000 in
theorem gX6_digest_X6_ofLine : GoodIn wsX6_digest (wsV RX6 295 RX6 yX6_ofLine wsX6_ofLine) := goodIn_app (goodIn_of _ (by decide +kernel)) ggX6_digest_X6_ofLine
set_option maxRecDepth 20000 in
theorem ggX6_digest_X6_pair : GoodIn wsX6_digest wsX6_pair := goodIn_ca (goodIn_r _ [207, 3, 208, 209, 7, 210, 16, 17, 211, 212, 213, 91, 214, 215, 216, 217, 280, 281, 282, 283, 284, 285, 286, 295, 296, 297, 298, 299, 300, 301, 302, 303, 304, 305, 306, 307, 308, 309] (by decide +kernel) (by decide +kernel)) (goodIn_sub (fun _ h => List.mem_cons_of_mem _ (List.mem_append_left _ (List.mem_append_right _ h))) (by decide +kernel))
set_option maxRecDepth 20000 in
theorem gX6_digest_X6_pair : GoodIn wsX6_digest (wsV RX6 298 RX6 yX6_pair wsX6_pair) := goodIn_app (goodIn_of _ (by decide +kernel)) ggX6_digest_X6_pair
set_option maxRecDepth 20000 in
theorem ggX6_digest_X6_twin : GoodIn wsX6_digest wsX6_twin := goodIn_ca (goodIn_r _ [221, 3, 208, 209, 7, 210, 16, 17, 222, 223, 224, 91, 225, 226, 227, 228, 280, 281, 282, 283, 284, 285, 286, 295, 296, 297, 298, 299, 300, 301, 302, 303, 304, 305, 306, 307, 308, 309] (by decide +kernel) (by decide +kernel)) (goodIn_sub (fun _ h => List.mem_cons_of_mem _ (List.mem_append_left _ (List.mem_append_right _ h))) (by decide +kernel))
set_option maxRecDepth 20000 in
theorem gX6_digest_X6_twin : GoodIn wsX6_digest (wsV RX6 301 RX6 yX6_twin wsX6_twin) := goodIn_app (goodIn_of _ (by decide +kernel)) ggX6_digest_X6_twin
set_option maxRecDepth 20000 in
theorem ggX6_digest_X6_trees : GoodIn wsX6_digest wsX6_trees := goodIn_r _ [232, 9, 233, 234, 235, 236, 237, 238, 239, 240, 241, 242, 243, 56, 7, 57, 244, 245, 246, 247, 248, 249, 250, 251, 280, 281, 282, 283, 284, 285, 286, 310, 311, 312, 313, 314, 287, 288, 289, 290, 291, 292, 293, 294] (by decide +kernel) (by decide +kernel)
set_option maxRecDepth 20000 in
theorem gX6_digest_X6_trees : GoodIn wsX6_digest (wsV RX6 304 RX6 yX6_trees wsX6_trees) := goodIn_app (goodIn_of _ (by decide +kernel)) ggX6_digest_X6_trees
set_option maxRecDepth 20000 in
theorem ggX6_digest_X6_isSound : GoodIn wsX6_digest wsX6_isSound := goodIn_r _ [255, 256, 257, 258, 7, 259, 2, 260, 261, 262, 263, 134, 138, 139, 140, 141, 142, 143, 144, 145, 146, 147, 148, 56, 57, 149, 150, 151, 152, 153, 154, 155, 156, 157, 158, 159, 160, 161, 162, 163, 164, 165, 166, 168, 169, 170, 171, 172, 63, 64, 35, 65, 66, 37, 38, 67, 173, 174, 175, 176, 47, 177, 19, 20, 21, 22, 23, 24, 178, 179, 180, 181, 182, 183, 184, 185, 18, 186, 187, 188, 189, 190, 191, 192, 193, 194, 33, 34, 36, 195, 39, 40, 41, 42, 3, 11, 25, 26, 27, 28, 29, 30, 31, 32, 264, 265, 266, 267, 9, 233, 234, 235, 236, 237, 238, 239, 240, 241, 242, 243, 244, 245, 246, 247, 248, 249, 250, 251, 268, 269, 270, 271, 10, 87, 272, 273, 274, 275, 276, 277, 278, 91, 279, 93, 94, 280, 281, 282, 283, 284, 285, 286, 287, 288, 289, 290, 291, 292, 293, 294, 323, 324, 325, 326, 295, 296, 297, 298, 299, 300, 301, 302, 303, 304, 305, 306, 307, 308, 309, 318, 319, 320, 321, 322, 310, 311, 312, 313, 314, 315, 316, 317] (by decide +kernel) (by decide +kernel)
set_option maxRecDepth 20000 in
theorem gX6_digest_X6_isSound : GoodIn wsX6_digest (wsV RX6 307 RX6 yX6_isSound wsX6_isSound) := goodIn_app (goodIn_of _ (by decide +kernel)) ggX6_digest_X6_isSound
theorem dX6_digest_0 : decode cX6_digest 0 = .ok (.ldc2_w 282, 3) := by decide +kernel
theorem dX6_digest_3 : decode cX6_digest 3 = .ok (.lstore_n 1, 1) := by decide +kernel
theorem dX6_digest_4 : decode cX6_digest 4 = .ok (.iconst 0, 1) := by decide +kernel
theorem dX6_digest_5 : decode cX6_digest 5 = .ok (.istore_n 3, 1) := by decide +kernel
theorem dX6_digest_6 : decode cX6_digest 6 = .ok (.iload_n 3, 1) := by decide +kernel
theorem dX6_digest_7 : decode cX6_digest 7 = .ok (.bipush 14, 2) := by decide +kernel
theorem dX6_digest_9 : decode cX6_digest 9 = .ok (.if_icmp .gt 20, 3) := by decide +kernel
theorem dX6_digest_12 : decode cX6_digest 12 = .ok (.lload_n 1, 1) := by decide +kernel
theorem dX6_digest_13 : decode cX6_digest 13 = .ok (.aload_n 0, 1) := by decide +kernel
theorem dX6_digest_14 : decode cX6_digest 14 = .ok (.iload_n 3, 1) := by decide +kernel
theorem dX6_digest_15 : decode cX6_digest 15 = .ok (.invokevirtual 284, 3) := by decide +kernel
theorem dX6_digest_18 : decode cX6_digest 18 = .ok (.i2l, 1) := by decide +kernel
theorem dX6_digest_19 : decode cX6_digest 19 = .ok (.invokestatic 287, 3) := by decide +kernel
theorem dX6_digest_22 : decode cX6_digest 22 = .ok (.lstore_n 1, 1) := by decide +kernel
theorem dX6_digest_23 : decode cX6_digest 23 = .ok (.iinc 3 1, 3) := by decide +kernel
theorem dX6_digest_26 : decode cX6_digest 26 = .ok (.goto (-20), 3) := by decide +kernel
theorem dX6_digest_29 : decode cX6_digest 29 = .ok (.iconst 0, 1) := by decide +kernel
theorem dX6_digest_30 : decode cX6_digest 30 = .ok (.istore_n 3, 1) := by decide +kernel
theorem dX6_digest_31 : decode cX6_digest 31 = .ok (.iload_n 3, 1) := by decide +kernel
theorem dX6_digest_32 : decode cX6_digest 32 = .ok (.aload_n 0, 1) := by decide +kernel
theorem dX6_digest_33 : decode cX6_digest 33 = .ok (.getfield 10, 3) := by decide +kernel
theorem dX6_digest_36 : decode cX6_digest 36 = .ok (.getfield 57, 3) := by decide +kernel
theorem dX6_digest_39 : decode cX6_digest 39 = .ok (.if_icmp .ge 16, 3) := by decide +kernel
theorem dX6_digest_42 : decode cX6_digest 42 = .ok (.aload_n 0, 1) := by decide +kernel
theorem dX6_digest_43 : decode cX6_digest 43 = .ok (.lload_n 1, 1) := by decide +kernel
theorem dX6_digest_44 : decode cX6_digest 44 = .ok (.iload_n 3, 1) := by decide +kernel
theorem dX6_digest_45 : decode cX6_digest 45 = .ok (.invokevirtual 291, 3) := by decide +kernel
theorem dX6_digest_48 : decode cX6_digest 48 = .ok (.lstore_n 1, 1) := by decide +kernel
theorem dX6_digest_49 : decode cX6_digest 49 = .ok (.iinc 3 1, 3) := by decide +kernel
theorem dX6_digest_52 : decode cX6_digest 52 = .ok (.goto (-21), 3) := by decide +kernel
theorem dX6_digest_55 : decode cX6_digest 55 = .ok (.iconst 0, 1) := by decide +kernel
theorem dX6_digest_56 : decode cX6_digest 56 = .ok (.istore_n 3, 1) := by decide +kernel
theorem dX6_digest_57 : decode cX6_digest 57 = .ok (.iload_n 3, 1) := by decide +kernel
theorem dX6_digest_58 : decode cX6_digest 58 = .ok (.aload_n 0, 1) := by decide +kernel
theorem dX6_digest_59 : decode cX6_digest 59 = .ok (.getfield 10, 3) := by decide +kernel
theorem dX6_digest_62 : decode cX6_digest 62 = .ok (.getfield 85, 3) := by decide +kernel
theorem dX6_digest_65 : decode cX6_digest 65 = .ok (.if_icmp .ge 38, 3) := by decide +kernel
theorem dX6_digest_68 : decode cX6_digest 68 = .ok (.iconst 0, 1) := by decide +kernel
theorem dX6_digest_69 : decode cX6_digest 69 = .ok (.istore 4, 2) := by decide +kernel
theorem dX6_digest_71 : decode cX6_digest 71 = .ok (.iload 4, 2) := by decide +kernel
theorem dX6_digest_73 : decode cX6_digest 73 = .ok (.bipush 8, 2) := by decide +kernel
theorem dX6_digest_75 : decode cX6_digest 75 = .ok (.if_icmp .gt 22, 3) := by decide +kernel
theorem dX6_digest_78 : decode cX6_digest 78 = .ok (.lload_n 1, 1) := by decide +kernel
theorem dX6_digest_79 : decode cX6_digest 79 = .ok (.aload_n 0, 1) := by decide +kernel
theorem dX6_digest_80 : decode cX6_digest 80 = .ok (.iload_n 3, 1) := by decide +kernel
theorem dX6_digest_81 : decode cX6_digest 81 = .ok (.iload 4, 2) := by decide +kernel
theorem dX6_digest_83 : decode cX6_digest 83 = .ok (.invokevirtual 295, 3) := by decide +kernel
theorem dX6_digest_86 : decode cX6_digest 86 = .ok (.i2l, 1) := by decide +kernel
theorem dX6_digest_87 : decode cX6_digest 87 = .ok (.invokestatic 287, 3) := by decide +kernel
theorem dX6_digest_90 : decode cX6_digest 90 = .ok (.lstore_n 1, 1) := by decide +kernel
theorem dX6_digest_91 : decode cX6_digest 91 = .ok (.iinc 4 1, 3) := by decide +kernel
theorem dX6_digest_94 : decode cX6_digest 94 = .ok (.goto (-23), 3) := by decide +kernel
theorem dX6_digest_97 : decode cX6_digest 97 = .ok (.iinc 3 1, 3) := by decide +kernel
theorem dX6_digest_100 : decode cX6_digest 100 = .ok (.goto (-43), 3) := by decide +kernel
theorem dX6_digest_103 : decode cX6_digest 103 = .ok (.iconst 0, 1) := by decide +kernel
theorem dX6_digest_104 : decode cX6_digest 104 = .ok (.istore_n 3, 1) := by decide +kernel
theorem dX6_digest_105 : decode cX6_digest 105 = .ok (.iload_n 3, 1) := by decide +kernel
theorem dX6_digest_106 : decode cX6_digest 106 = .ok (.aload_n 0, 1) := by decide +kernel
theorem dX6_digest_107 : decode cX6_digest 107 = .ok (.getfield 21, 3) := by decide +kernel
theorem dX6_digest_110 : decode cX6_digest 110 = .ok (.getfield 191, 3) := by decide +kernel
theorem dX6_digest_113 : decode cX6_digest 113 = .ok (.if_icmp .ge 31, 3) := by decide +kernel
theorem dX6_digest_116 : decode cX6_digest 116 = .ok (.lload_n 1, 1) := by decide +kernel
theorem dX6_digest_117 : decode cX6_digest 117 = .ok (.aload_n 0, 1) := by decide +kernel
theorem dX6_digest_118 : decode cX6_digest 118 = .ok (.iload_n 3, 1) := by decide +kernel
theorem dX6_digest_119 : decode cX6_digest 119 = .ok (.iconst 0, 1) := by decide +kernel
theorem dX6_digest_120 : decode cX6_digest 120 = .ok (.invokevirtual 298, 3) := by decide +kernel
theorem dX6_digest_123 : decode cX6_digest 123 = .ok (.i2l, 1) := by decide +kernel
theorem dX6_digest_124 : decode cX6_digest 124 = .ok (.invokestatic 287, 3) := by decide +kernel
theorem dX6_digest_127 : decode cX6_digest 127 = .ok (.aload_n 0, 1) := by decide +kernel
theorem dX6_digest_128 : decode cX6_digest 128 = .ok (.iload_n 3, 1) := by decide +kernel
theorem dX6_digest_129 : decode cX6_digest 129 = .ok (.iconst 1, 1) := by decide +kernel
theorem dX6_digest_130 : decode cX6_digest 130 = .ok (.invokevirtual 298, 3) := by decide +kernel
theorem dX6_digest_133 : decode cX6_digest 133 = .ok (.i2l, 1) := by decide +kernel
theorem dX6_digest_134 : decode cX6_digest 134 = .ok (.invokestatic 287, 3) := by decide +kernel
theorem dX6_digest_137 : decode cX6_digest 137 = .ok (.lstore_n 1, 1) := by decide +kernel
theorem dX6_digest_138 : decode cX6_digest 138 = .ok (.iinc 3 1, 3) := by decide +kernel
theorem dX6_digest_141 : decode cX6_digest 141 = .ok (.goto (-36), 3) := by decide +kernel
theorem dX6_digest_144 : decode cX6_digest 144 = .ok (.iconst 0, 1) := by decide +kernel
theorem dX6_digest_145 : decode cX6_digest 145 = .ok (.istore_n 3, 1) := by decide +kernel
theorem dX6_digest_146 : decode cX6_digest 146 = .ok (.iload_n 3, 1) := by decide +kernel
theorem dX6_digest_147 : decode cX6_digest 147 = .ok (.aload_n 0, 1) := by decide +kernel
theorem dX6_digest_148 : decode cX6_digest 148 = .ok (.getfield 21, 3) := by decide +kernel
theorem dX6_digest_151 : decode cX6_digest 151 = .ok (.getfield 194, 3) := by decide +kernel
theorem dX6_digest_154 : decode cX6_digest 154 = .ok (.if_icmp .ge 31, 3) := by decide +kernel
theorem dX6_digest_157 : decode cX6_digest 157 = .ok (.lload_n 1, 1) := by decide +kernel
theorem dX6_digest_158 : decode cX6_digest 158 = .ok (.aload_n 0, 1) := by decide +kernel
theorem dX6_digest_159 : decode cX6_digest 159 = .ok (.iload_n 3, 1) := by decide +kernel
theorem dX6_digest_160 : decode cX6_digest 160 = .ok (.iconst 0, 1) := by decide +kernel
theorem dX6_digest_161 : decode cX6_digest 161 = .ok (.invokevirtual 301, 3) := by decide +kernel
theorem dX6_digest_164 : decode cX6_digest 164 = .ok (.i2l, 1) := by decide +kernel
theorem dX6_digest_165 : decode cX6_digest 165 = .ok (.invokestatic 287, 3) := by decide +kernel
theorem dX6_digest_168 : decode cX6_digest 168 = .ok (.aload_n 0, 1) := by decide +kernel
theorem dX6_digest_169 : decode cX6_digest 169 = .ok (.iload_n 3, 1) := by decide +kernel
theorem dX6_digest_170 : decode cX6_digest 170 = .ok (.iconst 1, 1) := by decide +kernel
theorem dX6_digest_171 : decode cX6_digest 171 = .ok (.invokevirtual 301, 3) := by decide +kernel
theorem dX6_digest_174 : decode cX6_digest 174 = .ok (.i2l, 1) := by decide +kernel
theorem dX6_digest_175 : decode cX6_digest 175 = .ok (.invokestatic 287, 3) := by decide +kernel
theorem dX6_digest_178 : decode cX6_digest 178 = .ok (.lstore_n 1, 1) := by decide +kernel
theorem dX6_digest_179 : decode cX6_digest 179 = .ok (.iinc 3 1, 3) := by decide +kernel
theorem dX6_digest_182 : decode cX6_digest 182 = .ok (.goto (-36), 3) := by decide +kernel
theorem dX6_digest_185 : decode cX6_digest 185 = .ok (.lload_n 1, 1) := by decide +kernel
theorem dX6_digest_186 : decode cX6_digest 186 = .ok (.aload_n 0, 1) := by decide +kernel
theorem dX6_digest_187 : decode cX6_digest 187 = .ok (.invokevirtual 304, 3) := by decide +kernel
theorem dX6_digest_190 : decode cX6_digest 190 = .ok (.invokestatic 287, 3) := by decide +kernel
theorem dX6_digest_193 : decode cX6_digest 193 = .ok (.lstore_n 1, 1) := by decide +kernel
theorem dX6_digest_194 : decode cX6_digest 194 = .ok (.lload_n 1, 1) := by decide +kernel
theorem dX6_digest_195 : decode cX6_digest 195 = .ok (.aload_n 0, 1) := by decide +kernel
theorem dX6_digest_196 : decode cX6_digest 196 = .ok (.invokevirtual 307, 3) := by decide +kernel
theorem dX6_digest_199 : decode cX6_digest 199 = .ok (.ifCond .eq 7, 3) := by decide +kernel
theorem dX6_digest_202 : decode cX6_digest 202 = .ok (.lconst 1, 1) := by decide +kernel
theorem dX6_digest_203 : decode cX6_digest 203 = .ok (.goto 4, 3) := by decide +kernel
theorem dX6_digest_206 : decode cX6_digest 206 = .ok (.lconst 0, 1) := by decide +kernel
theorem dX6_digest_207 : decode cX6_digest 207 = .ok (.invokestatic 287, 3) := by decide +kernel
theorem dX6_digest_210 : decode cX6_digest 210 = .ok (.lreturn, 1) := by decide +kernel
set_option maxRecDepth 20000 in
theorem ggX6_learnAll_X1_learn : GoodIn wsX6_learnAll wsX1_learn := goodIn_r _ [9, 10, 11, 12, 8, 13, 14, 15, 16, 17, 18, 19, 20, 21, 22, 23, 24, 25, 26, 27, 28, 29, 30, 31, 32, 33, 34, 35, 36, 37, 38, 39, 40, 41, 42, 43, 44, 45, 46, 47, 48, 49, 50, 51, 52, 53, 54, 55, 56, 57, 58, 59, 60, 61, 62, 63, 64, 65, 66, 67, 68, 69, 70, 71, 72, 73, 74, 75, 76, 77, 78, 79, 80, 81, 82, 83, 84, 85, 86, 87, 88, 89, 90, 91, 92, 93, 94, 95, 96, 97, 98, 99, 100, 101, 102, 103, 104, 105, 106, 107, 108, 180, 181, 182, 183, 184, 185, 186, 187, 188, 189, 190, 191, 192, 193, 194, 195, 196, 197, 198, 199, 200, 201, 202] (by decide +kernel) (by decide +kernel)
set_option maxRecDepth 20000 in
theorem gX6_learnAll_X1_learn : GoodIn wsX6_learnAll (wsV RX6 310 RX1 yX1_learn wsX1_learn) := goodIn_app (goodIn_of _ (by decide +kernel)) ggX6_learnAll_X1_learn
set_option maxRecDepth 20000 in
theorem ggX6_learnAll_X2_learn : GoodIn wsX6_learnAll wsX2_learn := goodIn_r _ [113, 114, 115, 116, 117, 20, 21, 22, 23, 24, 118, 43, 44, 45, 16, 17, 18, 46, 26, 27, 28, 29, 30, 119, 120, 121, 112, 122, 123, 124, 125, 126, 127, 203, 204, 205, 206, 207, 195, 196, 197, 198, 199, 200, 201, 202] (by decide +kernel) (by decide +kernel)
set_option maxRecDepth 20000 in
theorem gX6_learnAll_X2_learn : GoodIn wsX6_learnAll (wsV RX6 120 RX2 yX2_learn wsX2_learn) := goodIn_app (goodIn_of _ (by decide +kernel)) ggX6_learnAll_X2_learn
set_option maxRecDepth 20000 in
theorem ggX6_learnAll_X3_learn : GoodIn wsX6_learnAll wsX3_learn := goodIn_r _ [132, 133, 134, 135, 136, 137, 131, 138, 139, 140, 141, 79, 142, 143, 144, 145, 22, 146, 29, 61, 62, 30, 16, 17, 18, 147, 148, 149, 150, 208, 209, 210, 195, 196, 197, 198, 199, 200, 201, 202] (by decide +kernel) (by decide +kernel)
set_option maxRecDepth 20000 in
theorem gX6_learnAll_X3_learn : GoodIn wsX6_learnAll (wsV RX6 311 RX3 yX3_learn wsX3_learn) := goodIn_app (goodIn_of _ (by decide +kernel)) ggX6_learnAll_X3_learn
set_option maxRecDepth 20000 in
theorem ggX6_learnAll_X0_learn : GoodIn wsX6_learnAll wsX0_learn := goodIn_r _ [155, 156, 157, 158, 16, 17, 18, 159, 160, 161, 154, 162, 163, 164, 165, 166, 167, 168, 169, 170, 171, 172, 211, 212, 213, 214, 215, 195, 196, 197, 198, 199, 200, 201, 202] (by decide +kernel) (by decide +kernel)
set_option maxRecDepth 20000 in
theorem gX6_learnAll_X0_learn : GoodIn wsX6_learnAll (wsV RX6 129 RX0 yX0_learn wsX0_learn) := goodIn_app (goodIn_of _ (by decide +kernel)) ggX6_learnAll_X0_learn
theorem dX6_learnAll_0 : decode cX6_learnAll 0 = .ok (.aload_n 0, 1) := by decide +kernel
theorem dX6_learnAll_1 : decode cX6_learnAll 1 = .ok (.getfield 21, 3) := by decide +kernel
theorem dX6_learnAll_4 : decode cX6_learnAll 4 = .ok (.invokevirtual 310, 3) := by decide +kernel
theorem dX6_learnAll_7 : decode cX6_learnAll 7 = .ok (.aload_n 0, 1) := by decide +kernel
theorem dX6_learnAll_8 : decode cX6_learnAll 8 = .ok (.getfield 35, 3) := by decide +kernel
theorem dX6_learnAll_11 : decode cX6_learnAll 11 = .ok (.invokevirtual 120, 3) := by decide +kernel
theorem dX6_learnAll_14 : decode cX6_learnAll 14 = .ok (.aload_n 0, 1) := by decide +kernel
theorem dX6_learnAll_15 : decode cX6_learnAll 15 = .ok (.getfield 42, 3) := by decide +kernel
theorem dX6_learnAll_18 : decode cX6_learnAll 18 = .ok (.invokevirtual 311, 3) := by decide +kernel
theorem dX6_learnAll_21 : decode cX6_learnAll 21 = .ok (.aload_n 0, 1) := by decide +kernel
theorem dX6_learnAll_22 : decode cX6_learnAll 22 = .ok (.getfield 49, 3) := by decide +kernel
theorem dX6_learnAll_25 : decode cX6_learnAll 25 = .ok (.invokevirtual 129, 3) := by decide +kernel
theorem dX6_learnAll_28 : decode cX6_learnAll 28 = .ok (.return_, 1) := by decide +kernel
set_option maxRecDepth 20000 in
theorem ggX6_mixedPoint_X6_ofPoint : GoodIn wsX6_mixedPoint wsX6_ofPoint := goodIn_ca (goodIn_ca (goodIn_r _ [6, 7, 1, 8, 9, 10, 11, 12, 5, 13, 14, 15, 16, 17, 18, 19, 20, 21, 22, 23, 24, 25, 26, 27, 28, 29, 30, 31, 32, 33, 34, 35, 36, 37, 38, 39, 40, 41, 42, 43, 44, 45, 46, 47, 48, 49, 50, 51, 52, 171, 172, 173, 174, 175, 176, 177, 186, 187, 188, 189, 190, 191, 192, 193, 194, 195, 196, 197, 198, 199, 200, 201, 202, 203, 204, 205, 206, 207, 208, 178, 179, 180, 181, 182, 183, 184, 185] (by decide +kernel) (by decide +kernel)) (goodIn_sub (fun _ h => List.mem_cons_of_mem _ (List.mem_append_left _ (List.mem_append_right _ h))) (by decide +kernel))) (goodIn_sub (fun _ h => List.mem_cons_of_mem _ (List.mem_append_right _ h)) (by decide +kernel))
set_option maxRecDepth 20000 in
theorem gX6_mixedPoint_X6_ofPoint : GoodIn wsX6_mixedPoint (wsV RX6 312 RX6 yX6_ofPoint wsX6_ofPoint) := goodIn_app (goodIn_of _ (by decide +kernel)) ggX6_mixedPoint_X6_ofPoint
set_option maxRecDepth 20000 in
theorem ggX6_mixedPoint_X6_mixed : GoodIn wsX6_mixedPoint wsX6_mixed := goodIn_r _ [55, 56] (by decide +kernel) (by decide +kernel)
set_option maxRecDepth 20000 in
theorem gX6_mixedPoint_X6_mixed : GoodIn wsX6_mixedPoint (va_wsS RX6 287 yX6_mixed wsX6_mixed) := goodIn_app (goodIn_of _ (by decide +kernel)) ggX6_mixedPoint_X6_mixed
set_option maxRecDepth 20000 in
theorem ggX6_mixedPoint_X6_wouldTurn : GoodIn wsX6_mixedPoint wsX6_wouldTurn := goodIn_ca (goodIn_r _ [60, 9, 10, 11, 12, 5, 13, 14, 15, 1, 61, 62, 63, 64, 65, 66, 67, 68, 69, 70, 71, 72, 73, 22, 23, 24, 25, 26, 27, 74, 75, 76, 77, 78, 79, 80, 81, 82, 83, 84, 85, 86, 87, 36, 37, 88, 89, 90, 91, 92, 93, 94, 95, 171, 172, 173, 174, 175, 176, 177, 178, 179, 180, 181, 182, 183, 184, 185, 204, 205, 206, 207, 208] (by decide +kernel) (by decide +kernel)) (goodIn_sub (fun _ h => List.mem_cons_of_mem _ (List.mem_append_left _ (List.mem_append_right _ h))) (by decide +kernel))
set_option maxRecDepth 20000 in
theorem gX6_mixedPoint_X6_wouldTurn : GoodIn wsX6_mixedPoint (wsV RX6 315 RX6 yX6_wouldTurn wsX6_wouldTurn) := goodIn_app (goodIn_of _ (by decide +kernel)) ggX6_mixedPoint_X6_wouldTurn
set_option maxRecDepth 20000 in
theorem ggX6_mixedPoint_X6_between : GoodIn wsX6_mixedPoint wsX6_between := goodIn_ca (goodIn_ca (goodIn_r _ [99, 100, 1, 10, 11, 12, 5, 13, 14, 15, 101, 102, 103, 19, 20, 16, 17, 18, 104, 105, 106, 107, 108, 109, 110, 111, 112, 113, 114, 36, 37, 115, 116, 117, 118, 119, 120, 121, 122, 123, 124, 125, 126, 127, 128, 129, 130, 131, 132, 133, 134, 135, 24, 136, 137, 138, 139, 140, 141, 142, 48, 49, 50, 51, 26, 27, 52, 143, 144, 145, 146, 147, 148, 149, 150, 151, 152, 29, 30, 31, 32, 33, 34, 153, 154, 155, 156, 157, 158, 159, 160, 161, 162, 163, 164, 165, 166, 167, 168, 169, 22, 23, 25, 170, 171, 172, 173, 174, 175, 176, 177, 178, 179, 180, 181, 182, 183, 184, 185, 209, 210, 211, 212] (by decide +kernel) (by decide +kernel)) (goodIn_sub (fun _ h => List.mem_cons_of_mem _ (List.mem_append_left _ (List.mem_append_right _ h))) (by decide +kernel))) (goodIn_sub (fun _ h => List.mem_cons_of_mem _ (List.mem_append_right _ h)) (by decide +kernel))
set_option maxRecDepth 20000 in
theorem gX6_mixedPoint_X6_between : GoodIn wsX6_mixedPoint (wsV RX6 318 RX6 yX6_between wsX6_between) := goodIn_app (goodIn_of _ (by decide +kernel)) ggX6_mixedPoint_X6_between
theorem dX6_mixedPoint_0 : decode cX6_mixedPoint 0 = .ok (.lload_n 1, 1) := by decide +kernel
theorem dX6_mixedPoint_1 : decode cX6_mixedPoint 1 = .ok (.lstore 4, 2) := by decide +kernel
theorem dX6_mixedPoint_3 : decode cX6_mixedPoint 3 = .ok (.iconst 0, 1) := by decide +kernel
theorem dX6_mixedPoint_4 : decode cX6_mixedPoint 4 = .ok (.istore 6, 2) := by decide +kernel
theorem dX6_mixedPoint_6 : decode cX6_mixedPoint 6 = .ok (.iload 6, 2) := by decide +kernel
theorem dX6_mixedPoint_8 : decode cX6_mixedPoint 8 = .ok (.bipush 6, 2) := by decide +kernel
theorem dX6_mixedPoint_10 : decode cX6_mixedPoint 10 = .ok (.if_icmp .gt 24, 3) := by decide +kernel
theorem dX6_mixedPoint_13 : decode cX6_mixedPoint 13 = .ok (.lload 4, 2) := by decide +kernel
theorem dX6_mixedPoint_15 : decode cX6_mixedPoint 15 = .ok (.aload_n 0, 1) := by decide +kernel
theorem dX6_mixedPoint_16 : decode cX6_mixedPoint 16 = .ok (.iload_n 3, 1) := by decide +kernel
theorem dX6_mixedPoint_17 : decode cX6_mixedPoint 17 = .ok (.iload 6, 2) := by decide +kernel
theorem dX6_mixedPoint_19 : decode cX6_mixedPoint 19 = .ok (.invokevirtual 312, 3) := by decide +kernel
theorem dX6_mixedPoint_22 : decode cX6_mixedPoint 22 = .ok (.i2l, 1) := by decide +kernel
theorem dX6_mixedPoint_23 : decode cX6_mixedPoint 23 = .ok (.invokestatic 287, 3) := by decide +kernel
theorem dX6_mixedPoint_26 : decode cX6_mixedPoint 26 = .ok (.lstore 4, 2) := by decide +kernel
theorem dX6_mixedPoint_28 : decode cX6_mixedPoint 28 = .ok (.iinc 6 1, 3) := by decide +kernel
theorem dX6_mixedPoint_31 : decode cX6_mixedPoint 31 = .ok (.goto (-25), 3) := by decide +kernel
theorem dX6_mixedPoint_34 : decode cX6_mixedPoint 34 = .ok (.lload 4, 2) := by decide +kernel
theorem dX6_mixedPoint_36 : decode cX6_mixedPoint 36 = .ok (.aload_n 0, 1) := by decide +kernel
theorem dX6_mixedPoint_37 : decode cX6_mixedPoint 37 = .ok (.iload_n 3, 1) := by decide +kernel
theorem dX6_mixedPoint_38 : decode cX6_mixedPoint 38 = .ok (.invokevirtual 315, 3) := by decide +kernel
theorem dX6_mixedPoint_41 : decode cX6_mixedPoint 41 = .ok (.i2l, 1) := by decide +kernel
theorem dX6_mixedPoint_42 : decode cX6_mixedPoint 42 = .ok (.invokestatic 287, 3) := by decide +kernel
theorem dX6_mixedPoint_45 : decode cX6_mixedPoint 45 = .ok (.lstore 4, 2) := by decide +kernel
theorem dX6_mixedPoint_47 : decode cX6_mixedPoint 47 = .ok (.iload_n 3, 1) := by decide +kernel
theorem dX6_mixedPoint_48 : decode cX6_mixedPoint 48 = .ok (.iconst 1, 1) := by decide +kernel
theorem dX6_mixedPoint_49 : decode cX6_mixedPoint 49 = .ok (.iadd, 1) := by decide +kernel
theorem dX6_mixedPoint_50 : decode cX6_mixedPoint 50 = .ok (.istore 6, 2) := by decide +kernel
theorem dX6_mixedPoint_52 : decode cX6_mixedPoint 52 = .ok (.iload 6, 2) := by decide +kernel
theorem dX6_mixedPoint_54 : decode cX6_mixedPoint 54 = .ok (.aload_n 0, 1) := by decide +kernel
theorem dX6_mixedPoint_55 : decode cX6_mixedPoint 55 = .ok (.getfield 10, 3) := by decide +kernel
theorem dX6_mixedPoint_58 : decode cX6_mixedPoint 58 = .ok (.getfield 57, 3) := by decide +kernel
theorem dX6_mixedPoint_61 : decode cX6_mixedPoint 61 = .ok (.if_icmp .ge 41, 3) := by decide +kernel
theorem dX6_mixedPoint_64 : decode cX6_mixedPoint 64 = .ok (.iconst 0, 1) := by decide +kernel
theorem dX6_mixedPoint_65 : decode cX6_mixedPoint 65 = .ok (.istore 7, 2) := by decide +kernel
theorem dX6_mixedPoint_67 : decode cX6_mixedPoint 67 = .ok (.iload 7, 2) := by decide +kernel
theorem dX6_mixedPoint_69 : decode cX6_mixedPoint 69 = .ok (.iconst 5, 1) := by decide +kernel
theorem dX6_mixedPoint_70 : decode cX6_mixedPoint 70 = .ok (.if_icmp .gt 26, 3) := by decide +kernel
theorem dX6_mixedPoint_73 : decode cX6_mixedPoint 73 = .ok (.lload 4, 2) := by decide +kernel
theorem dX6_mixedPoint_75 : decode cX6_mixedPoint 75 = .ok (.aload_n 0, 1) := by decide +kernel
theorem dX6_mixedPoint_76 : decode cX6_mixedPoint 76 = .ok (.iload_n 3, 1) := by decide +kernel
theorem dX6_mixedPoint_77 : decode cX6_mixedPoint 77 = .ok (.iload 6, 2) := by decide +kernel
theorem dX6_mixedPoint_79 : decode cX6_mixedPoint 79 = .ok (.iload 7, 2) := by decide +kernel
theorem dX6_mixedPoint_81 : decode cX6_mixedPoint 81 = .ok (.invokevirtual 318, 3) := by decide +kernel
theorem dX6_mixedPoint_84 : decode cX6_mixedPoint 84 = .ok (.i2l, 1) := by decide +kernel
theorem dX6_mixedPoint_85 : decode cX6_mixedPoint 85 = .ok (.invokestatic 287, 3) := by decide +kernel
theorem dX6_mixedPoint_88 : decode cX6_mixedPoint 88 = .ok (.lstore 4, 2) := by decide +kernel
theorem dX6_mixedPoint_90 : decode cX6_mixedPoint 90 = .ok (.iinc 7 1, 3) := by decide +kernel
theorem dX6_mixedPoint_93 : decode cX6_mixedPoint 93 = .ok (.goto (-26), 3) := by decide +kernel
theorem dX6_mixedPoint_96 : decode cX6_mixedPoint 96 = .ok (.iinc 6 1, 3) := by decide +kernel
theorem dX6_mixedPoint_99 : decode cX6_mixedPoint 99 = .ok (.goto (-47), 3) := by decide +kernel
theorem dX6_mixedPoint_102 : decode cX6_mixedPoint 102 = .ok (.lload 4, 2) := by decide +kernel
theorem dX6_mixedPoint_104 : decode cX6_mixedPoint 104 = .ok (.lreturn, 1) := by decide +kernel
theorem dX6_mixed_0 : decode cX6_mixed 0 = .ok (.lload_n 0, 1) := by decide +kernel
theorem dX6_mixed_1 : decode cX6_mixed 1 = .ok (.ldc2_w 321, 3) := by decide +kernel
theorem dX6_mixed_4 : decode cX6_mixed 4 = .ok (.lmul, 1) := by decide +kernel
theorem dX6_mixed_5 : decode cX6_mixed 5 = .ok (.lload_n 2, 1) := by decide +kernel
theorem dX6_mixed_6 : decode cX6_mixed 6 = .ok (.ladd, 1) := by decide +kernel
theorem dX6_mixed_7 : decode cX6_mixed 7 = .ok (.lreturn, 1) := by decide +kernel
set_option maxRecDepth 20000 in
theorem ggX6_handles_J6_bitCount_0f7a4 : GoodIn wsX6_handles wsJ6_bitCount_0f7a4 := goodIn_r _ [7, 8, 9, 10] (by decide +kernel) (by decide +kernel)
set_option maxRecDepth 20000 in
theorem gX6_handles_J6_bitCount_0f7a4 : GoodIn wsX6_handles (va_wsS RX6 143 yJ6_bitCount_0f7a4 wsJ6_bitCount_0f7a4) := goodIn_app (goodIn_of _ (by decide +kernel)) ggX6_handles_J6_bitCount_0f7a4
set_option maxRecDepth 20000 in
theorem ggX6_handles_X0_allFaces : GoodIn wsX6_handles wsX0_allFaces := goodIn_r _ [15, 16, 17, 18, 19, 20, 21, 22, 23, 24, 55, 56, 57, 58, 59, 47, 48, 49, 50, 51, 52, 53, 54] (by decide +kernel) (by decide +kernel)
set_option maxRecDepth 20000 in
theorem gX6_handles_X0_allFaces : GoodIn wsX6_handles (wsV RX6 130 RX0 yX0_allFaces wsX0_allFaces) := goodIn_app (goodIn_of _ (by decide +kernel)) ggX6_handles_X0_allFaces
theorem dX6_handles_0 : decode cX6_handles 0 = .ok (.iconst 2, 1) := by decide +kernel
theorem dX6_handles_1 : decode cX6_handles 1 = .ok (.aload_n 0, 1) := by decide +kernel
theorem dX6_handles_2 : decode cX6_handles 2 = .ok (.getfield 21, 3) := by decide +kernel
theorem dX6_handles_5 : decode cX6_handles 5 = .ok (.getfield 113, 3) := by decide +kernel
theorem dX6_handles_8 : decode cX6_handles 8 = .ok (.imul, 1) := by decide +kernel
theorem dX6_handles_9 : decode cX6_handles 9 = .ok (.aload_n 0, 1) := by decide +kernel
theorem dX6_handles_10 : decode cX6_handles 10 = .ok (.getfield 10, 3) := by decide +kernel
theorem dX6_handles_13 : decode cX6_handles 13 = .ok (.getfield 57, 3) := by decide +kernel
theorem dX6_handles_16 : decode cX6_handles 16 = .ok (.isub, 1) := by decide +kernel
theorem dX6_handles_17 : decode cX6_handles 17 = .ok (.aload_n 0, 1) := by decide +kernel
theorem dX6_handles_18 : decode cX6_handles 18 = .ok (.getfield 10, 3) := by decide +kernel
theorem dX6_handles_21 : decode cX6_handles 21 = .ok (.getfield 173, 3) := by decide +kernel
theorem dX6_handles_24 : decode cX6_handles 24 = .ok (.invokestatic 143, 3) := by decide +kernel
theorem dX6_handles_27 : decode cX6_handles 27 = .ok (.iadd, 1) := by decide +kernel
theorem dX6_handles_28 : decode cX6_handles 28 = .ok (.aload_n 0, 1) := by decide +kernel
theorem dX6_handles_29 : decode cX6_handles 29 = .ok (.getfield 49, 3) := by decide +kernel
theorem dX6_handles_32 : decode cX6_handles 32 = .ok (.invokevirtual 130, 3) := by decide +kernel
theorem dX6_handles_35 : decode cX6_handles 35 = .ok (.isub, 1) := by decide +kernel
theorem dX6_handles_36 : decode cX6_handles 36 = .ok (.istore_n 1, 1) := by decide +kernel
theorem dX6_handles_37 : decode cX6_handles 37 = .ok (.iload_n 1, 1) := by decide +kernel
theorem dX6_handles_38 : decode cX6_handles 38 = .ok (.iconst 2, 1) := by decide +kernel
theorem dX6_handles_39 : decode cX6_handles 39 = .ok (.idiv, 1) := by decide +kernel
theorem dX6_handles_40 : decode cX6_handles 40 = .ok (.ireturn, 1) := by decide +kernel
set_option maxRecDepth 20000 in
theorem ggX6_areAllWaysSound_X6_areWaysSound : GoodIn wsX6_areAllWaysSound wsX6_areWaysSound := goodIn_r _ [6, 7, 1, 8, 9, 10, 11, 12, 13, 14, 15, 16, 17, 18, 19, 5, 20, 21, 22, 23, 24, 25, 26, 27, 28, 29, 30, 31, 32, 33, 34, 35, 36, 37, 38, 39, 40, 41, 42, 43, 44, 45, 46, 47, 48, 49, 50, 51, 52, 53, 54, 55, 56, 57, 58, 59, 60, 61, 62, 63, 64, 65, 66, 67, 68, 69, 70, 71, 72, 73, 74, 75, 76, 77, 78, 79, 80, 81, 82, 83, 84, 85, 86, 87, 88, 89, 90, 91, 92, 101, 102, 103, 104, 93, 94, 95, 96, 97, 98, 99, 100] (by decide +kernel) (by decide +kernel)
set_option maxRecDepth 20000 in
theorem gX6_areAllWaysSound_X6_areWaysSound : GoodIn wsX6_areAllWaysSound (wsV RX6 323 RX6 yX6_areWaysSound wsX6_areWaysSound) := goodIn_app (goodIn_of _ (by decide +kernel)) ggX6_areAllWaysSound_X6_areWaysSound
theorem dX6_areAllWaysSound_0 : decode cX6_areAllWaysSound 0 = .ok (.iconst 0, 1) := by decide +kernel
theorem dX6_areAllWaysSound_1 : decode cX6_areAllWaysSound 1 = .ok (.istore_n 1, 1) := by decide +kernel
theorem dX6_areAllWaysSound_2 : decode cX6_areAllWaysSound 2 = .ok (.iload_n 1, 1) := by decide +kernel
theorem dX6_areAllWaysSound_3 : decode cX6_areAllWaysSound 3 = .ok (.aload_n 0, 1) := by decide +kernel
theorem dX6_areAllWaysSound_4 : decode cX6_areAllWaysSound 4 = .ok (.getfield 10, 3) := by decide +kernel
theorem dX6_areAllWaysSound_7 : decode cX6_areAllWaysSound 7 = .ok (.getfield 57, 3) := by decide +kernel
theorem dX6_areAllWaysSound_10 : decode cX6_areAllWaysSound 10 = .ok (.if_icmp .ge 41, 3) := by decide +kernel
theorem dX6_areAllWaysSound_13 : decode cX6_areAllWaysSound 13 = .ok (.iload_n 1, 1) := by decide +kernel
theorem dX6_areAllWaysSound_14 : decode cX6_areAllWaysSound 14 = .ok (.iconst 1, 1) := by decide +kernel
theorem dX6_areAllWaysSound_15 : decode cX6_areAllWaysSound 15 = .ok (.iadd, 1) := by decide +kernel
theorem dX6_areAllWaysSound_16 : decode cX6_areAllWaysSound 16 = .ok (.istore_n 2, 1) := by decide +kernel
theorem dX6_areAllWaysSound_17 : decode cX6_areAllWaysSound 17 = .ok (.iload_n 2, 1) := by decide +kernel
theorem dX6_areAllWaysSound_18 : decode cX6_areAllWaysSound 18 = .ok (.aload_n 0, 1) := by decide +kernel
theorem dX6_areAllWaysSound_19 : decode cX6_areAllWaysSound 19 = .ok (.getfield 10, 3) := by decide +kernel
theorem dX6_areAllWaysSound_22 : decode cX6_areAllWaysSound 22 = .ok (.getfield 57, 3) := by decide +kernel
theorem dX6_areAllWaysSound_25 : decode cX6_areAllWaysSound 25 = .ok (.if_icmp .ge 20, 3) := by decide +kernel
theorem dX6_areAllWaysSound_28 : decode cX6_areAllWaysSound 28 = .ok (.aload_n 0, 1) := by decide +kernel
theorem dX6_areAllWaysSound_29 : decode cX6_areAllWaysSound 29 = .ok (.iload_n 1, 1) := by decide +kernel
theorem dX6_areAllWaysSound_30 : decode cX6_areAllWaysSound 30 = .ok (.iload_n 2, 1) := by decide +kernel
theorem dX6_areAllWaysSound_31 : decode cX6_areAllWaysSound 31 = .ok (.invokevirtual 323, 3) := by decide +kernel
theorem dX6_areAllWaysSound_34 : decode cX6_areAllWaysSound 34 = .ok (.ifCond .ne 5, 3) := by decide +kernel
theorem dX6_areAllWaysSound_37 : decode cX6_areAllWaysSound 37 = .ok (.iconst 0, 1) := by decide +kernel
theorem dX6_areAllWaysSound_38 : decode cX6_areAllWaysSound 38 = .ok (.ireturn, 1) := by decide +kernel
theorem dX6_areAllWaysSound_39 : decode cX6_areAllWaysSound 39 = .ok (.iinc 2 1, 3) := by decide +kernel
theorem dX6_areAllWaysSound_42 : decode cX6_areAllWaysSound 42 = .ok (.goto (-25), 3) := by decide +kernel
theorem dX6_areAllWaysSound_45 : decode cX6_areAllWaysSound 45 = .ok (.iinc 1 1, 3) := by decide +kernel
theorem dX6_areAllWaysSound_48 : decode cX6_areAllWaysSound 48 = .ok (.goto (-46), 3) := by decide +kernel
theorem dX6_areAllWaysSound_51 : decode cX6_areAllWaysSound 51 = .ok (.iconst 1, 1) := by decide +kernel
theorem dX6_areAllWaysSound_52 : decode cX6_areAllWaysSound 52 = .ok (.ireturn, 1) := by decide +kernel
set_option maxRecDepth 20000 in
theorem ggX6_areWaysSound_X4_countWays : GoodIn wsX6_areWaysSound wsX4_countWays := goodIn_r _ [7, 8, 9, 10, 11, 12, 6, 13, 14, 15, 16, 17, 18, 19, 20, 21, 22, 23, 24, 25, 26, 27, 28, 29, 30, 89, 90, 91, 92, 93, 94, 95, 96, 97, 98, 99, 100] (by decide +kernel) (by decide +kernel)
set_option maxRecDepth 20000 in
theorem gX6_areWaysSound_X4_countWays : GoodIn wsX6_areWaysSound (wsV RX6 219 RX4 yX4_countWays wsX4_countWays) := goodIn_app (goodIn_of _ (by decide +kernel)) ggX6_areWaysSound_X4_countWays
set_option maxRecDepth 20000 in
theorem ggX6_areWaysSound_X4_countLineWays : GoodIn wsX6_areWaysSound wsX4_countLineWays := goodIn_r _ [34, 8, 9, 10, 11, 12, 6, 13, 14, 15, 16, 17, 18, 19, 20, 21, 22, 23, 24, 25, 26, 27, 28, 29, 30, 89, 90, 91, 92, 93, 94, 95, 96, 97, 98, 99, 100] (by decide +kernel) (by decide +kernel)
set_option maxRecDepth 20000 in
theorem gX6_areWaysSound_X4_countLineWays : GoodIn wsX6_areWaysSound (wsV RX6 222 RX4 yX4_countLineWays wsX4_countLineWays) := goodIn_app (goodIn_of _ (by decide +kernel)) ggX6_areWaysSound_X4_countLineWays
set_option maxRecDepth 20000 in
theorem ggX6_areWaysSound_X4_gap : GoodIn wsX6_areWaysSound wsX4_gap := goodIn_r _ [38, 8, 39, 40, 41, 42, 43, 44, 45, 46, 47, 14, 15, 16, 48, 49, 50, 51, 52, 53, 54, 55, 56, 57, 58, 59, 60, 61, 62, 6, 63, 64, 65, 66, 67, 89, 90, 91, 92, 93, 94, 95, 96, 97, 98, 99, 100] (by decide +kernel) (by decide +kernel)
set_option maxRecDepth 20000 in
theorem gX6_areWaysSound_X4_gap : GoodIn wsX6_areWaysSound (wsV RX6 228 RX4 yX4_gap wsX4_gap) := goodIn_app (goodIn_of _ (by decide +kernel)) ggX6_areWaysSound_X4_gap
set_option maxRecDepth 20000 in
theorem ggX6_areWaysSound_J6_bitCount_0f7a4 : GoodIn wsX6_areWaysSound wsJ6_bitCount_0f7a4 := goodIn_r _ [56, 57, 58, 59] (by decide +kernel) (by decide +kernel)
set_option maxRecDepth 20000 in
theorem gX6_areWaysSound_J6_bitCount_0f7a4 : GoodIn wsX6_areWaysSound (va_wsS RX6 143 yJ6_bitCount_0f7a4 wsJ6_bitCount_0f7a4) := goodIn_app (goodIn_of _ (by decide +kernel)) ggX6_areWaysSound_J6_bitCount_0f7a4
set_option maxRecDepth 20000 in
theorem ggX6_areWaysSound_X4_side : GoodIn wsX6_areWaysSound wsX4_side := goodIn_r _ [72, 8, 73, 74, 75, 42, 76, 52, 14, 15, 16, 77, 78, 79, 80, 45, 46, 53, 54, 55, 56, 57, 58, 59, 48, 49, 50, 51, 89, 90, 91, 92, 93, 94, 95, 96, 97, 98, 99, 100] (by decide +kernel) (by decide +kernel)
set_option maxRecDepth 20000 in
theorem gX6_areWaysSound_X4_side : GoodIn wsX6_areWaysSound (wsV RX6 231 RX4 yX4_side wsX4_side) := goodIn_app (goodIn_of _ (by decide +kernel)) ggX6_areWaysSound_X4_side
set_option maxRecDepth 20000 in
theorem ggX6_areWaysSound_X5_linesOutOf : GoodIn wsX6_areWaysSound wsX5_linesOutOf := goodIn_r _ [76, 52, 14, 15, 16, 77, 78, 79, 42, 80, 45, 46, 93, 94, 95, 96, 97, 98, 99, 100] (by decide +kernel) (by decide +kernel)
set_option maxRecDepth 20000 in
theorem gX6_areWaysSound_X5_linesOutOf : GoodIn wsX6_areWaysSound (wsV RX6 234 RX5 yX5_linesOutOf wsX5_linesOutOf) := goodIn_app (goodIn_of _ (by decide +kernel)) ggX6_areWaysSound_X5_linesOutOf
theorem dX6_areWaysSound_0 : decode cX6_areWaysSound 0 = .ok (.aload_n 0, 1) := by decide +kernel
theorem dX6_areWaysSound_1 : decode cX6_areWaysSound 1 = .ok (.getfield 28, 3) := by decide +kernel
theorem dX6_areWaysSound_4 : decode cX6_areWaysSound 4 = .ok (.iload_n 1, 1) := by decide +kernel
theorem dX6_areWaysSound_5 : decode cX6_areWaysSound 5 = .ok (.iload_n 2, 1) := by decide +kernel
theorem dX6_areWaysSound_6 : decode cX6_areWaysSound 6 = .ok (.invokevirtual 219, 3) := by decide +kernel
theorem dX6_areWaysSound_9 : decode cX6_areWaysSound 9 = .ok (.istore_n 3, 1) := by decide +kernel
theorem dX6_areWaysSound_10 : decode cX6_areWaysSound 10 = .ok (.aload_n 0, 1) := by decide +kernel
theorem dX6_areWaysSound_11 : decode cX6_areWaysSound 11 = .ok (.getfield 28, 3) := by decide +kernel
theorem dX6_areWaysSound_14 : decode cX6_areWaysSound 14 = .ok (.iload_n 1, 1) := by decide +kernel
theorem dX6_areWaysSound_15 : decode cX6_areWaysSound 15 = .ok (.iload_n 2, 1) := by decide +kernel
theorem dX6_areWaysSound_16 : decode cX6_areWaysSound 16 = .ok (.invokevirtual 222, 3) := by decide +kernel
theorem dX6_areWaysSound_19 : decode cX6_areWaysSound 19 = .ok (.istore 4, 2) := by decide +kernel
theorem dX6_areWaysSound_21 : decode cX6_areWaysSound 21 = .ok (.aload_n 0, 1) := by decide +kernel
theorem dX6_areWaysSound_22 : decode cX6_areWaysSound 22 = .ok (.getfield 28, 3) := by decide +kernel
theorem dX6_areWaysSound_25 : decode cX6_areWaysSound 25 = .ok (.iload_n 1, 1) := by decide +kernel
theorem dX6_areWaysSound_26 : decode cX6_areWaysSound 26 = .ok (.iload_n 2, 1) := by decide +kernel
theorem dX6_areWaysSound_27 : decode cX6_areWaysSound 27 = .ok (.invokevirtual 228, 3) := by decide +kernel
theorem dX6_areWaysSound_30 : decode cX6_areWaysSound 30 = .ok (.istore 5, 2) := by decide +kernel
theorem dX6_areWaysSound_32 : decode cX6_areWaysSound 32 = .ok (.iload 5, 2) := by decide +kernel
theorem dX6_areWaysSound_34 : decode cX6_areWaysSound 34 = .ok (.iconst (-1), 1) := by decide +kernel
theorem dX6_areWaysSound_35 : decode cX6_areWaysSound 35 = .ok (.if_icmp .eq 14, 3) := by decide +kernel
theorem dX6_areWaysSound_38 : decode cX6_areWaysSound 38 = .ok (.iload 5, 2) := by decide +kernel
theorem dX6_areWaysSound_40 : decode cX6_areWaysSound 40 = .ok (.invokestatic 143, 3) := by decide +kernel
theorem dX6_areWaysSound_43 : decode cX6_areWaysSound 43 = .ok (.iload_n 3, 1) := by decide +kernel
theorem dX6_areWaysSound_44 : decode cX6_areWaysSound 44 = .ok (.if_icmp .eq 5, 3) := by decide +kernel
theorem dX6_areWaysSound_47 : decode cX6_areWaysSound 47 = .ok (.iconst 0, 1) := by decide +kernel
theorem dX6_areWaysSound_48 : decode cX6_areWaysSound 48 = .ok (.ireturn, 1) := by decide +kernel
theorem dX6_areWaysSound_49 : decode cX6_areWaysSound 49 = .ok (.aload_n 0, 1) := by decide +kernel
theorem dX6_areWaysSound_50 : decode cX6_areWaysSound 50 = .ok (.getfield 10, 3) := by decide +kernel
theorem dX6_areWaysSound_53 : decode cX6_areWaysSound 53 = .ok (.aload_n 0, 1) := by decide +kernel
theorem dX6_areWaysSound_54 : decode cX6_areWaysSound 54 = .ok (.getfield 28, 3) := by decide +kernel
theorem dX6_areWaysSound_57 : decode cX6_areWaysSound 57 = .ok (.iload_n 1, 1) := by decide +kernel
theorem dX6_areWaysSound_58 : decode cX6_areWaysSound 58 = .ok (.iload_n 2, 1) := by decide +kernel
theorem dX6_areWaysSound_59 : decode cX6_areWaysSound 59 = .ok (.invokevirtual 231, 3) := by decide +kernel
theorem dX6_areWaysSound_62 : decode cX6_areWaysSound 62 = .ok (.invokevirtual 234, 3) := by decide +kernel
theorem dX6_areWaysSound_65 : decode cX6_areWaysSound 65 = .ok (.istore 6, 2) := by decide +kernel
theorem dX6_areWaysSound_67 : decode cX6_areWaysSound 67 = .ok (.iload 4, 2) := by decide +kernel
theorem dX6_areWaysSound_69 : decode cX6_areWaysSound 69 = .ok (.iload 6, 2) := by decide +kernel
theorem dX6_areWaysSound_71 : decode cX6_areWaysSound 71 = .ok (.invokestatic 143, 3) := by decide +kernel
theorem dX6_areWaysSound_74 : decode cX6_areWaysSound 74 = .ok (.if_icmp .ne 13, 3) := by decide +kernel
theorem dX6_areWaysSound_77 : decode cX6_areWaysSound 77 = .ok (.iload 4, 2) := by decide +kernel
theorem dX6_areWaysSound_79 : decode cX6_areWaysSound 79 = .ok (.iload_n 3, 1) := by decide +kernel
theorem dX6_areWaysSound_80 : decode cX6_areWaysSound 80 = .ok (.if_icmp .lt 7, 3) := by decide +kernel
theorem dX6_areWaysSound_83 : decode cX6_areWaysSound 83 = .ok (.iconst 1, 1) := by decide +kernel
theorem dX6_areWaysSound_84 : decode cX6_areWaysSound 84 = .ok (.goto 4, 3) := by decide +kernel
theorem dX6_areWaysSound_87 : decode cX6_areWaysSound 87 = .ok (.iconst 0, 1) := by decide +kernel
theorem dX6_areWaysSound_88 : decode cX6_areWaysSound 88 = .ok (.ireturn, 1) := by decide +kernel
set_option maxRecDepth 20000 in
theorem ggX6_areTreesSound_X2_countTrees : GoodIn wsX6_areTreesSound wsX2_countTrees := goodIn_r _ [7, 8, 9, 10, 6, 11, 12, 13, 14, 15, 16, 17, 18, 19, 20, 21, 22, 23, 24, 47, 48, 49, 50, 51, 52, 53, 54, 55, 56, 57, 58, 59] (by decide +kernel) (by decide +kernel)
set_option maxRecDepth 20000 in
theorem gX6_areTreesSound_X2_countTrees : GoodIn wsX6_areTreesSound (wsV RX6 237 RX2 yX2_countTrees wsX2_countTrees) := goodIn_app (goodIn_of _ (by decide +kernel)) ggX6_areTreesSound_X2_countTrees
theorem dX6_areTreesSound_0 : decode cX6_areTreesSound 0 = .ok (.aload_n 0, 1) := by decide +kernel
theorem dX6_areTreesSound_1 : decode cX6_areTreesSound 1 = .ok (.getfield 35, 3) := by decide +kernel
theorem dX6_areTreesSound_4 : decode cX6_areTreesSound 4 = .ok (.invokevirtual 237, 3) := by decide +kernel
theorem dX6_areTreesSound_7 : decode cX6_areTreesSound 7 = .ok (.lstore_n 1, 1) := by decide +kernel
theorem dX6_areTreesSound_8 : decode cX6_areTreesSound 8 = .ok (.aload_n 0, 1) := by decide +kernel
theorem dX6_areTreesSound_9 : decode cX6_areTreesSound 9 = .ok (.getfield 21, 3) := by decide +kernel
theorem dX6_areTreesSound_12 : decode cX6_areTreesSound 12 = .ok (.getfield 113, 3) := by decide +kernel
theorem dX6_areTreesSound_15 : decode cX6_areTreesSound 15 = .ok (.iconst 1, 1) := by decide +kernel
theorem dX6_areTreesSound_16 : decode cX6_areTreesSound 16 = .ok (.if_icmp .ne 15, 3) := by decide +kernel
theorem dX6_areTreesSound_19 : decode cX6_areTreesSound 19 = .ok (.lload_n 1, 1) := by decide +kernel
theorem dX6_areTreesSound_20 : decode cX6_areTreesSound 20 = .ok (.lconst 0, 1) := by decide +kernel
theorem dX6_areTreesSound_21 : decode cX6_areTreesSound 21 = .ok (.lcmp, 1) := by decide +kernel
theorem dX6_areTreesSound_22 : decode cX6_areTreesSound 22 = .ok (.ifCond .le 7, 3) := by decide +kernel
theorem dX6_areTreesSound_25 : decode cX6_areTreesSound 25 = .ok (.iconst 1, 1) := by decide +kernel
theorem dX6_areTreesSound_26 : decode cX6_areTreesSound 26 = .ok (.goto 4, 3) := by decide +kernel
theorem dX6_areTreesSound_29 : decode cX6_areTreesSound 29 = .ok (.iconst 0, 1) := by decide +kernel
theorem dX6_areTreesSound_30 : decode cX6_areTreesSound 30 = .ok (.ireturn, 1) := by decide +kernel
theorem dX6_areTreesSound_31 : decode cX6_areTreesSound 31 = .ok (.aload_n 0, 1) := by decide +kernel
theorem dX6_areTreesSound_32 : decode cX6_areTreesSound 32 = .ok (.getfield 21, 3) := by decide +kernel
theorem dX6_areTreesSound_35 : decode cX6_areTreesSound 35 = .ok (.getfield 113, 3) := by decide +kernel
theorem dX6_areTreesSound_38 : decode cX6_areTreesSound 38 = .ok (.ifCond .eq 9, 3) := by decide +kernel
theorem dX6_areTreesSound_41 : decode cX6_areTreesSound 41 = .ok (.lload_n 1, 1) := by decide +kernel
theorem dX6_areTreesSound_42 : decode cX6_areTreesSound 42 = .ok (.lconst 0, 1) := by decide +kernel
theorem dX6_areTreesSound_43 : decode cX6_areTreesSound 43 = .ok (.lcmp, 1) := by decide +kernel
theorem dX6_areTreesSound_44 : decode cX6_areTreesSound 44 = .ok (.ifCond .ne 7, 3) := by decide +kernel
theorem dX6_areTreesSound_47 : decode cX6_areTreesSound 47 = .ok (.iconst 1, 1) := by decide +kernel
theorem dX6_areTreesSound_48 : decode cX6_areTreesSound 48 = .ok (.goto 4, 3) := by decide +kernel
theorem dX6_areTreesSound_51 : decode cX6_areTreesSound 51 = .ok (.iconst 0, 1) := by decide +kernel
theorem dX6_areTreesSound_52 : decode cX6_areTreesSound 52 = .ok (.ireturn, 1) := by decide +kernel
set_option maxRecDepth 20000 in
theorem ggX6_isColouringSound_X6_has : GoodIn wsX6_isColouringSound wsX6_has := goodIn_r _ [6] (by decide +kernel) (by decide +kernel)
set_option maxRecDepth 20000 in
theorem gX6_isColouringSound_X6_has : GoodIn wsX6_isColouringSound (va_wsS RX6 151 yX6_has wsX6_has) := goodIn_app (goodIn_of _ (by decide +kernel)) ggX6_isColouringSound_X6_has
theorem dX6_isColouringSound_0 : decode cX6_isColouringSound 0 = .ok (.iconst 0, 1) := by decide +kernel
theorem dX6_isColouringSound_1 : decode cX6_isColouringSound 1 = .ok (.istore_n 1, 1) := by decide +kernel
theorem dX6_isColouringSound_2 : decode cX6_isColouringSound 2 = .ok (.iload_n 1, 1) := by decide +kernel
theorem dX6_isColouringSound_3 : decode cX6_isColouringSound 3 = .ok (.aload_n 0, 1) := by decide +kernel
theorem dX6_isColouringSound_4 : decode cX6_isColouringSound 4 = .ok (.getfield 10, 3) := by decide +kernel
theorem dX6_isColouringSound_7 : decode cX6_isColouringSound 7 = .ok (.getfield 85, 3) := by decide +kernel
theorem dX6_isColouringSound_10 : decode cX6_isColouringSound 10 = .ok (.if_icmp .ge 72, 3) := by decide +kernel
theorem dX6_isColouringSound_13 : decode cX6_isColouringSound 13 = .ok (.aload_n 0, 1) := by decide +kernel
theorem dX6_isColouringSound_14 : decode cX6_isColouringSound 14 = .ok (.getfield 42, 3) := by decide +kernel
theorem dX6_isColouringSound_17 : decode cX6_isColouringSound 17 = .ok (.getfield 158, 3) := by decide +kernel
theorem dX6_isColouringSound_20 : decode cX6_isColouringSound 20 = .ok (.aload_n 0, 1) := by decide +kernel
theorem dX6_isColouringSound_21 : decode cX6_isColouringSound 21 = .ok (.getfield 10, 3) := by decide +kernel
theorem dX6_isColouringSound_24 : decode cX6_isColouringSound 24 = .ok (.getfield 167, 3) := by decide +kernel
theorem dX6_isColouringSound_27 : decode cX6_isColouringSound 27 = .ok (.iload_n 1, 1) := by decide +kernel
theorem dX6_isColouringSound_28 : decode cX6_isColouringSound 28 = .ok (.iaload, 1) := by decide +kernel
theorem dX6_isColouringSound_29 : decode cX6_isColouringSound 29 = .ok (.iaload, 1) := by decide +kernel
theorem dX6_isColouringSound_30 : decode cX6_isColouringSound 30 = .ok (.aload_n 0, 1) := by decide +kernel
theorem dX6_isColouringSound_31 : decode cX6_isColouringSound 31 = .ok (.getfield 42, 3) := by decide +kernel
theorem dX6_isColouringSound_34 : decode cX6_isColouringSound 34 = .ok (.getfield 158, 3) := by decide +kernel
theorem dX6_isColouringSound_37 : decode cX6_isColouringSound 37 = .ok (.aload_n 0, 1) := by decide +kernel
theorem dX6_isColouringSound_38 : decode cX6_isColouringSound 38 = .ok (.getfield 10, 3) := by decide +kernel
theorem dX6_isColouringSound_41 : decode cX6_isColouringSound 41 = .ok (.getfield 170, 3) := by decide +kernel
theorem dX6_isColouringSound_44 : decode cX6_isColouringSound 44 = .ok (.iload_n 1, 1) := by decide +kernel
theorem dX6_isColouringSound_45 : decode cX6_isColouringSound 45 = .ok (.iaload, 1) := by decide +kernel
theorem dX6_isColouringSound_46 : decode cX6_isColouringSound 46 = .ok (.iaload, 1) := by decide +kernel
theorem dX6_isColouringSound_47 : decode cX6_isColouringSound 47 = .ok (.if_icmp .ne 7, 3) := by decide +kernel
theorem dX6_isColouringSound_50 : decode cX6_isColouringSound 50 = .ok (.iconst 1, 1) := by decide +kernel
theorem dX6_isColouringSound_51 : decode cX6_isColouringSound 51 = .ok (.goto 4, 3) := by decide +kernel
theorem dX6_isColouringSound_54 : decode cX6_isColouringSound 54 = .ok (.iconst 0, 1) := by decide +kernel
theorem dX6_isColouringSound_55 : decode cX6_isColouringSound 55 = .ok (.istore_n 2, 1) := by decide +kernel
theorem dX6_isColouringSound_56 : decode cX6_isColouringSound 56 = .ok (.aload_n 0, 1) := by decide +kernel
theorem dX6_isColouringSound_57 : decode cX6_isColouringSound 57 = .ok (.getfield 10, 3) := by decide +kernel
theorem dX6_isColouringSound_60 : decode cX6_isColouringSound 60 = .ok (.getfield 173, 3) := by decide +kernel
theorem dX6_isColouringSound_63 : decode cX6_isColouringSound 63 = .ok (.iload_n 1, 1) := by decide +kernel
theorem dX6_isColouringSound_64 : decode cX6_isColouringSound 64 = .ok (.invokestatic 151, 3) := by decide +kernel
theorem dX6_isColouringSound_67 : decode cX6_isColouringSound 67 = .ok (.ifCond .eq 9, 3) := by decide +kernel
theorem dX6_isColouringSound_70 : decode cX6_isColouringSound 70 = .ok (.iload_n 2, 1) := by decide +kernel
theorem dX6_isColouringSound_71 : decode cX6_isColouringSound 71 = .ok (.ifCond .eq 5, 3) := by decide +kernel
theorem dX6_isColouringSound_74 : decode cX6_isColouringSound 74 = .ok (.iconst 0, 1) := by decide +kernel
theorem dX6_isColouringSound_75 : decode cX6_isColouringSound 75 = .ok (.ireturn, 1) := by decide +kernel
theorem dX6_isColouringSound_76 : decode cX6_isColouringSound 76 = .ok (.iinc 1 1, 3) := by decide +kernel
theorem dX6_isColouringSound_79 : decode cX6_isColouringSound 79 = .ok (.goto (-77), 3) := by decide +kernel
theorem dX6_isColouringSound_82 : decode cX6_isColouringSound 82 = .ok (.iconst 1, 1) := by decide +kernel
theorem dX6_isColouringSound_83 : decode cX6_isColouringSound 83 = .ok (.ireturn, 1) := by decide +kernel
set_option maxRecDepth 20000 in
theorem ggX6_areBlocksSound_X6_has : GoodIn wsX6_areBlocksSound wsX6_has := goodIn_r _ [6] (by decide +kernel) (by decide +kernel)
set_option maxRecDepth 20000 in
theorem gX6_areBlocksSound_X6_has : GoodIn wsX6_areBlocksSound (va_wsS RX6 151 yX6_has wsX6_has) := goodIn_app (goodIn_of _ (by decide +kernel)) ggX6_areBlocksSound_X6_has
set_option maxRecDepth 20000 in
theorem ggX6_areBlocksSound_X1_isAloneInBlock : GoodIn wsX6_areBlocksSound wsX1_isAloneInBlock := goodIn_r _ [11, 12, 13, 29, 30, 31, 32, 33, 34, 35, 36, 37, 38, 39, 40, 41, 42, 43, 21, 22, 23, 24, 25, 26, 27, 28] (by decide +kernel) (by decide +kernel)
set_option maxRecDepth 20000 in
theorem gX6_areBlocksSound_X1_isAloneInBlock : GoodIn wsX6_areBlocksSound (wsV RX6 326 RX1 yX1_isAloneInBlock wsX1_isAloneInBlock) := goodIn_app (goodIn_of _ (by decide +kernel)) ggX6_areBlocksSound_X1_isAloneInBlock
theorem dX6_areBlocksSound_0 : decode cX6_areBlocksSound 0 = .ok (.iconst 0, 1) := by decide +kernel
theorem dX6_areBlocksSound_1 : decode cX6_areBlocksSound 1 = .ok (.istore_n 1, 1) := by decide +kernel
theorem dX6_areBlocksSound_2 : decode cX6_areBlocksSound 2 = .ok (.iload_n 1, 1) := by decide +kernel
theorem dX6_areBlocksSound_3 : decode cX6_areBlocksSound 3 = .ok (.aload_n 0, 1) := by decide +kernel
theorem dX6_areBlocksSound_4 : decode cX6_areBlocksSound 4 = .ok (.getfield 10, 3) := by decide +kernel
theorem dX6_areBlocksSound_7 : decode cX6_areBlocksSound 7 = .ok (.getfield 85, 3) := by decide +kernel
theorem dX6_areBlocksSound_10 : decode cX6_areBlocksSound 10 = .ok (.if_icmp .ge 90, 3) := by decide +kernel
theorem dX6_areBlocksSound_13 : decode cX6_areBlocksSound 13 = .ok (.aload_n 0, 1) := by decide +kernel
theorem dX6_areBlocksSound_14 : decode cX6_areBlocksSound 14 = .ok (.getfield 21, 3) := by decide +kernel
theorem dX6_areBlocksSound_17 : decode cX6_areBlocksSound 17 = .ok (.getfield 179, 3) := by decide +kernel
theorem dX6_areBlocksSound_20 : decode cX6_areBlocksSound 20 = .ok (.iload_n 1, 1) := by decide +kernel
theorem dX6_areBlocksSound_21 : decode cX6_areBlocksSound 21 = .ok (.iaload, 1) := by decide +kernel
theorem dX6_areBlocksSound_22 : decode cX6_areBlocksSound 22 = .ok (.ifCond .lt 26, 3) := by decide +kernel
theorem dX6_areBlocksSound_25 : decode cX6_areBlocksSound 25 = .ok (.aload_n 0, 1) := by decide +kernel
theorem dX6_areBlocksSound_26 : decode cX6_areBlocksSound 26 = .ok (.getfield 21, 3) := by decide +kernel
theorem dX6_areBlocksSound_29 : decode cX6_areBlocksSound 29 = .ok (.getfield 179, 3) := by decide +kernel
theorem dX6_areBlocksSound_32 : decode cX6_areBlocksSound 32 = .ok (.iload_n 1, 1) := by decide +kernel
theorem dX6_areBlocksSound_33 : decode cX6_areBlocksSound 33 = .ok (.iaload, 1) := by decide +kernel
theorem dX6_areBlocksSound_34 : decode cX6_areBlocksSound 34 = .ok (.aload_n 0, 1) := by decide +kernel
theorem dX6_areBlocksSound_35 : decode cX6_areBlocksSound 35 = .ok (.getfield 21, 3) := by decide +kernel
theorem dX6_areBlocksSound_38 : decode cX6_areBlocksSound 38 = .ok (.getfield 188, 3) := by decide +kernel
theorem dX6_areBlocksSound_41 : decode cX6_areBlocksSound 41 = .ok (.if_icmp .ge 7, 3) := by decide +kernel
theorem dX6_areBlocksSound_44 : decode cX6_areBlocksSound 44 = .ok (.iconst 1, 1) := by decide +kernel
theorem dX6_areBlocksSound_45 : decode cX6_areBlocksSound 45 = .ok (.goto 4, 3) := by decide +kernel
theorem dX6_areBlocksSound_48 : decode cX6_areBlocksSound 48 = .ok (.iconst 0, 1) := by decide +kernel
theorem dX6_areBlocksSound_49 : decode cX6_areBlocksSound 49 = .ok (.istore_n 2, 1) := by decide +kernel
theorem dX6_areBlocksSound_50 : decode cX6_areBlocksSound 50 = .ok (.iload_n 2, 1) := by decide +kernel
theorem dX6_areBlocksSound_51 : decode cX6_areBlocksSound 51 = .ok (.aload_n 0, 1) := by decide +kernel
theorem dX6_areBlocksSound_52 : decode cX6_areBlocksSound 52 = .ok (.getfield 10, 3) := by decide +kernel
theorem dX6_areBlocksSound_55 : decode cX6_areBlocksSound 55 = .ok (.getfield 173, 3) := by decide +kernel
theorem dX6_areBlocksSound_58 : decode cX6_areBlocksSound 58 = .ok (.iload_n 1, 1) := by decide +kernel
theorem dX6_areBlocksSound_59 : decode cX6_areBlocksSound 59 = .ok (.invokestatic 151, 3) := by decide +kernel
theorem dX6_areBlocksSound_62 : decode cX6_areBlocksSound 62 = .ok (.if_icmp .eq 5, 3) := by decide +kernel
theorem dX6_areBlocksSound_65 : decode cX6_areBlocksSound 65 = .ok (.iconst 0, 1) := by decide +kernel
theorem dX6_areBlocksSound_66 : decode cX6_areBlocksSound 66 = .ok (.ireturn, 1) := by decide +kernel
theorem dX6_areBlocksSound_67 : decode cX6_areBlocksSound 67 = .ok (.aload_n 0, 1) := by decide +kernel
theorem dX6_areBlocksSound_68 : decode cX6_areBlocksSound 68 = .ok (.getfield 21, 3) := by decide +kernel
theorem dX6_areBlocksSound_71 : decode cX6_areBlocksSound 71 = .ok (.getfield 176, 3) := by decide +kernel
theorem dX6_areBlocksSound_74 : decode cX6_areBlocksSound 74 = .ok (.iload_n 1, 1) := by decide +kernel
theorem dX6_areBlocksSound_75 : decode cX6_areBlocksSound 75 = .ok (.invokestatic 151, 3) := by decide +kernel
theorem dX6_areBlocksSound_78 : decode cX6_areBlocksSound 78 = .ok (.ifCond .eq 16, 3) := by decide +kernel
theorem dX6_areBlocksSound_81 : decode cX6_areBlocksSound 81 = .ok (.aload_n 0, 1) := by decide +kernel
theorem dX6_areBlocksSound_82 : decode cX6_areBlocksSound 82 = .ok (.getfield 21, 3) := by decide +kernel
theorem dX6_areBlocksSound_85 : decode cX6_areBlocksSound 85 = .ok (.iload_n 1, 1) := by decide +kernel
theorem dX6_areBlocksSound_86 : decode cX6_areBlocksSound 86 = .ok (.invokevirtual 326, 3) := by decide +kernel
theorem dX6_areBlocksSound_89 : decode cX6_areBlocksSound 89 = .ok (.ifCond .ne 5, 3) := by decide +kernel
theorem dX6_areBlocksSound_92 : decode cX6_areBlocksSound 92 = .ok (.iconst 0, 1) := by decide +kernel
theorem dX6_areBlocksSound_93 : decode cX6_areBlocksSound 93 = .ok (.ireturn, 1) := by decide +kernel
theorem dX6_areBlocksSound_94 : decode cX6_areBlocksSound 94 = .ok (.iinc 1 1, 3) := by decide +kernel
theorem dX6_areBlocksSound_97 : decode cX6_areBlocksSound 97 = .ok (.goto (-95), 3) := by decide +kernel
theorem dX6_areBlocksSound_100 : decode cX6_areBlocksSound 100 = .ok (.iconst 1, 1) := by decide +kernel
theorem dX6_areBlocksSound_101 : decode cX6_areBlocksSound 101 = .ok (.ireturn, 1) := by decide +kernel
theorem dX6_demandPoint_0 : decode cX6_demandPoint 0 = .ok (.iload_n 1, 1) := by decide +kernel
theorem dX6_demandPoint_1 : decode cX6_demandPoint 1 = .ok (.ifCond .lt 14, 3) := by decide +kernel
theorem dX6_demandPoint_4 : decode cX6_demandPoint 4 = .ok (.iload_n 1, 1) := by decide +kernel
theorem dX6_demandPoint_5 : decode cX6_demandPoint 5 = .ok (.aload_n 0, 1) := by decide +kernel
theorem dX6_demandPoint_6 : decode cX6_demandPoint 6 = .ok (.getfield 10, 3) := by decide +kernel
theorem dX6_demandPoint_9 : decode cX6_demandPoint 9 = .ok (.getfield 57, 3) := by decide +kernel
theorem dX6_demandPoint_12 : decode cX6_demandPoint 12 = .ok (.if_icmp .lt 14, 3) := by decide +kernel
theorem dX6_demandPoint_15 : decode cX6_demandPoint 15 = .ok (.new 330, 3) := by decide +kernel
theorem dX6_demandPoint_18 : decode cX6_demandPoint 18 = .ok (.dup, 1) := by decide +kernel
theorem dX6_demandPoint_19 : decode cX6_demandPoint 19 = .ok (.ldc_w 332, 3) := by decide +kernel
theorem dX6_demandPoint_22 : decode cX6_demandPoint 22 = .ok (.invokespecial 334, 3) := by decide +kernel
theorem dX6_demandPoint_25 : decode cX6_demandPoint 25 = .ok (.athrow, 1) := by decide +kernel
theorem dX6_demandPoint_26 : decode cX6_demandPoint 26 = .ok (.return_, 1) := by decide +kernel
theorem dX6_demandLine_0 : decode cX6_demandLine 0 = .ok (.iload_n 1, 1) := by decide +kernel
theorem dX6_demandLine_1 : decode cX6_demandLine 1 = .ok (.ifCond .lt 14, 3) := by decide +kernel
theorem dX6_demandLine_4 : decode cX6_demandLine 4 = .ok (.iload_n 1, 1) := by decide +kernel
theorem dX6_demandLine_5 : decode cX6_demandLine 5 = .ok (.aload_n 0, 1) := by decide +kernel
theorem dX6_demandLine_6 : decode cX6_demandLine 6 = .ok (.getfield 10, 3) := by decide +kernel
theorem dX6_demandLine_9 : decode cX6_demandLine 9 = .ok (.getfield 85, 3) := by decide +kernel
theorem dX6_demandLine_12 : decode cX6_demandLine 12 = .ok (.if_icmp .lt 14, 3) := by decide +kernel
theorem dX6_demandLine_15 : decode cX6_demandLine 15 = .ok (.new 330, 3) := by decide +kernel
theorem dX6_demandLine_18 : decode cX6_demandLine 18 = .ok (.dup, 1) := by decide +kernel
theorem dX6_demandLine_19 : decode cX6_demandLine 19 = .ok (.ldc_w 335, 3) := by decide +kernel
theorem dX6_demandLine_22 : decode cX6_demandLine 22 = .ok (.invokespecial 334, 3) := by decide +kernel
theorem dX6_demandLine_25 : decode cX6_demandLine 25 = .ok (.athrow, 1) := by decide +kernel
theorem dX6_demandLine_26 : decode cX6_demandLine 26 = .ok (.return_, 1) := by decide +kernel
theorem dX6_demandPlace_0 : decode cX6_demandPlace 0 = .ok (.iload_n 2, 1) := by decide +kernel
theorem dX6_demandPlace_1 : decode cX6_demandPlace 1 = .ok (.ifCond .lt 16, 3) := by decide +kernel
theorem dX6_demandPlace_4 : decode cX6_demandPlace 4 = .ok (.iload_n 2, 1) := by decide +kernel
theorem dX6_demandPlace_5 : decode cX6_demandPlace 5 = .ok (.aload_n 0, 1) := by decide +kernel
theorem dX6_demandPlace_6 : decode cX6_demandPlace 6 = .ok (.getfield 49, 3) := by decide +kernel
theorem dX6_demandPlace_9 : decode cX6_demandPlace 9 = .ok (.getfield 164, 3) := by decide +kernel
theorem dX6_demandPlace_12 : decode cX6_demandPlace 12 = .ok (.iload_n 1, 1) := by decide +kernel
theorem dX6_demandPlace_13 : decode cX6_demandPlace 13 = .ok (.iaload, 1) := by decide +kernel
theorem dX6_demandPlace_14 : decode cX6_demandPlace 14 = .ok (.if_icmp .lt 14, 3) := by decide +kernel
theorem dX6_demandPlace_17 : decode cX6_demandPlace 17 = .ok (.new 330, 3) := by decide +kernel
theorem dX6_demandPlace_20 : decode cX6_demandPlace 20 = .ok (.dup, 1) := by decide +kernel
theorem dX6_demandPlace_21 : decode cX6_demandPlace 21 = .ok (.ldc_w 337, 3) := by decide +kernel
theorem dX6_demandPlace_24 : decode cX6_demandPlace 24 = .ok (.invokespecial 334, 3) := by decide +kernel
theorem dX6_demandPlace_27 : decode cX6_demandPlace 27 = .ok (.athrow, 1) := by decide +kernel
theorem dX6_demandPlace_28 : decode cX6_demandPlace 28 = .ok (.return_, 1) := by decide +kernel
theorem dX6_demandUnlike_0 : decode cX6_demandUnlike 0 = .ok (.iload_n 0, 1) := by decide +kernel
theorem dX6_demandUnlike_1 : decode cX6_demandUnlike 1 = .ok (.iload_n 1, 1) := by decide +kernel
theorem dX6_demandUnlike_2 : decode cX6_demandUnlike 2 = .ok (.if_icmp .ne 14, 3) := by decide +kernel
theorem dX6_demandUnlike_5 : decode cX6_demandUnlike 5 = .ok (.new 249, 3) := by decide +kernel
theorem dX6_demandUnlike_8 : decode cX6_demandUnlike 8 = .ok (.dup, 1) := by decide +kernel
theorem dX6_demandUnlike_9 : decode cX6_demandUnlike 9 = .ok (.ldc_w 339, 3) := by decide +kernel
theorem dX6_demandUnlike_12 : decode cX6_demandUnlike 12 = .ok (.invokespecial 253, 3) := by decide +kernel
theorem dX6_demandUnlike_15 : decode cX6_demandUnlike 15 = .ok (.athrow, 1) := by decide +kernel
theorem dX6_demandUnlike_16 : decode cX6_demandUnlike 16 = .ok (.return_, 1) := by decide +kernel
theorem dX6_demandCost_0 : decode cX6_demandCost 0 = .ok (.iload_n 0, 1) := by decide +kernel
theorem dX6_demandCost_1 : decode cX6_demandCost 1 = .ok (.iconst 1, 1) := by decide +kernel
theorem dX6_demandCost_2 : decode cX6_demandCost 2 = .ok (.if_icmp .lt 9, 3) := by decide +kernel
theorem dX6_demandCost_5 : decode cX6_demandCost 5 = .ok (.iload_n 0, 1) := by decide +kernel
theorem dX6_demandCost_6 : decode cX6_demandCost 6 = .ok (.bipush 20, 2) := by decide +kernel
theorem dX6_demandCost_8 : decode cX6_demandCost 8 = .ok (.if_icmp .le 14, 3) := by decide +kernel
theorem dX6_demandCost_11 : decode cX6_demandCost 11 = .ok (.new 249, 3) := by decide +kernel
theorem dX6_demandCost_14 : decode cX6_demandCost 14 = .ok (.dup, 1) := by decide +kernel
theorem dX6_demandCost_15 : decode cX6_demandCost 15 = .ok (.ldc_w 341, 3) := by decide +kernel
theorem dX6_demandCost_18 : decode cX6_demandCost 18 = .ok (.invokespecial 253, 3) := by decide +kernel
theorem dX6_demandCost_21 : decode cX6_demandCost 21 = .ok (.athrow, 1) := by decide +kernel
theorem dX6_demandCost_22 : decode cX6_demandCost 22 = .ok (.return_, 1) := by decide +kernel
theorem dX6_demandWhat_0 : decode cX6_demandWhat 0 = .ok (.iload_n 0, 1) := by decide +kernel
theorem dX6_demandWhat_1 : decode cX6_demandWhat 1 = .ok (.ifCond .lt 8, 3) := by decide +kernel
theorem dX6_demandWhat_4 : decode cX6_demandWhat 4 = .ok (.iload_n 0, 1) := by decide +kernel
theorem dX6_demandWhat_5 : decode cX6_demandWhat 5 = .ok (.iload_n 1, 1) := by decide +kernel
theorem dX6_demandWhat_6 : decode cX6_demandWhat 6 = .ok (.if_icmp .le 14, 3) := by decide +kernel
theorem dX6_demandWhat_9 : decode cX6_demandWhat 9 = .ok (.new 249, 3) := by decide +kernel
theorem dX6_demandWhat_12 : decode cX6_demandWhat 12 = .ok (.dup, 1) := by decide +kernel
theorem dX6_demandWhat_13 : decode cX6_demandWhat 13 = .ok (.ldc_w 343, 3) := by decide +kernel
theorem dX6_demandWhat_16 : decode cX6_demandWhat 16 = .ok (.invokespecial 253, 3) := by decide +kernel
theorem dX6_demandWhat_19 : decode cX6_demandWhat 19 = .ok (.athrow, 1) := by decide +kernel
theorem dX6_demandWhat_20 : decode cX6_demandWhat 20 = .ok (.return_, 1) := by decide +kernel
theorem dX6_demandNth_0 : decode cX6_demandNth 0 = .ok (.iload_n 0, 1) := by decide +kernel
theorem dX6_demandNth_1 : decode cX6_demandNth 1 = .ok (.ifCond .ge 14, 3) := by decide +kernel
theorem dX6_demandNth_4 : decode cX6_demandNth 4 = .ok (.new 249, 3) := by decide +kernel
theorem dX6_demandNth_7 : decode cX6_demandNth 7 = .ok (.dup, 1) := by decide +kernel
theorem dX6_demandNth_8 : decode cX6_demandNth 8 = .ok (.ldc_w 345, 3) := by decide +kernel
theorem dX6_demandNth_11 : decode cX6_demandNth 11 = .ok (.invokespecial 253, 3) := by decide +kernel
theorem dX6_demandNth_14 : decode cX6_demandNth 14 = .ok (.athrow, 1) := by decide +kernel
theorem dX6_demandNth_15 : decode cX6_demandNth 15 = .ok (.return_, 1) := by decide +kernel
theorem dX6_has_0 : decode cX6_has 0 = .ok (.iload_n 0, 1) := by decide +kernel
theorem dX6_has_1 : decode cX6_has 1 = .ok (.iload_n 1, 1) := by decide +kernel
theorem dX6_has_2 : decode cX6_has 2 = .ok (.ishr, 1) := by decide +kernel
theorem dX6_has_3 : decode cX6_has 3 = .ok (.iconst 1, 1) := by decide +kernel
theorem dX6_has_4 : decode cX6_has 4 = .ok (.iand, 1) := by decide +kernel
theorem dX6_has_5 : decode cX6_has 5 = .ok (.ifCond .eq 7, 3) := by decide +kernel
theorem dX6_has_8 : decode cX6_has 8 = .ok (.iconst 1, 1) := by decide +kernel
theorem dX6_has_9 : decode cX6_has 9 = .ok (.goto 4, 3) := by decide +kernel
theorem dX6_has_12 : decode cX6_has 12 = .ok (.iconst 0, 1) := by decide +kernel
theorem dX6_has_13 : decode cX6_has 13 = .ok (.ireturn, 1) := by decide +kernel
theorem dJ6_bitCount_0f7a4_0 : decode cJ6_bitCount_0f7a4 0 = .ok (.iload_n 0, 1) := by decide +kernel
theorem dJ6_bitCount_0f7a4_1 : decode cJ6_bitCount_0f7a4 1 = .ok (.iload_n 0, 1) := by decide +kernel
theorem dJ6_bitCount_0f7a4_2 : decode cJ6_bitCount_0f7a4 2 = .ok (.iconst 1, 1) := by decide +kernel
theorem dJ6_bitCount_0f7a4_3 : decode cJ6_bitCount_0f7a4 3 = .ok (.iushr, 1) := by decide +kernel
theorem dJ6_bitCount_0f7a4_4 : decode cJ6_bitCount_0f7a4 4 = .ok (.ldc_w 265, 3) := by decide +kernel
theorem dJ6_bitCount_0f7a4_7 : decode cJ6_bitCount_0f7a4 7 = .ok (.iand, 1) := by decide +kernel
theorem dJ6_bitCount_0f7a4_8 : decode cJ6_bitCount_0f7a4 8 = .ok (.isub, 1) := by decide +kernel
theorem dJ6_bitCount_0f7a4_9 : decode cJ6_bitCount_0f7a4 9 = .ok (.istore_n 0, 1) := by decide +kernel
theorem dJ6_bitCount_0f7a4_10 : decode cJ6_bitCount_0f7a4 10 = .ok (.iload_n 0, 1) := by decide +kernel
theorem dJ6_bitCount_0f7a4_11 : decode cJ6_bitCount_0f7a4 11 = .ok (.ldc_w 266, 3) := by decide +kernel
theorem dJ6_bitCount_0f7a4_14 : decode cJ6_bitCount_0f7a4 14 = .ok (.iand, 1) := by decide +kernel
theorem dJ6_bitCount_0f7a4_15 : decode cJ6_bitCount_0f7a4 15 = .ok (.iload_n 0, 1) := by decide +kernel
theorem dJ6_bitCount_0f7a4_16 : decode cJ6_bitCount_0f7a4 16 = .ok (.iconst 2, 1) := by decide +kernel
theorem dJ6_bitCount_0f7a4_17 : decode cJ6_bitCount_0f7a4 17 = .ok (.iushr, 1) := by decide +kernel
theorem dJ6_bitCount_0f7a4_18 : decode cJ6_bitCount_0f7a4 18 = .ok (.ldc_w 266, 3) := by decide +kernel
theorem dJ6_bitCount_0f7a4_21 : decode cJ6_bitCount_0f7a4 21 = .ok (.iand, 1) := by decide +kernel
theorem dJ6_bitCount_0f7a4_22 : decode cJ6_bitCount_0f7a4 22 = .ok (.iadd, 1) := by decide +kernel
theorem dJ6_bitCount_0f7a4_23 : decode cJ6_bitCount_0f7a4 23 = .ok (.istore_n 0, 1) := by decide +kernel
theorem dJ6_bitCount_0f7a4_24 : decode cJ6_bitCount_0f7a4 24 = .ok (.iload_n 0, 1) := by decide +kernel
theorem dJ6_bitCount_0f7a4_25 : decode cJ6_bitCount_0f7a4 25 = .ok (.iload_n 0, 1) := by decide +kernel
theorem dJ6_bitCount_0f7a4_26 : decode cJ6_bitCount_0f7a4 26 = .ok (.iconst 4, 1) := by decide +kernel
theorem dJ6_bitCount_0f7a4_27 : decode cJ6_bitCount_0f7a4 27 = .ok (.iushr, 1) := by decide +kernel
theorem dJ6_bitCount_0f7a4_28 : decode cJ6_bitCount_0f7a4 28 = .ok (.iadd, 1) := by decide +kernel
theorem dJ6_bitCount_0f7a4_29 : decode cJ6_bitCount_0f7a4 29 = .ok (.ldc_w 267, 3) := by decide +kernel
theorem dJ6_bitCount_0f7a4_32 : decode cJ6_bitCount_0f7a4 32 = .ok (.iand, 1) := by decide +kernel
theorem dJ6_bitCount_0f7a4_33 : decode cJ6_bitCount_0f7a4 33 = .ok (.istore_n 0, 1) := by decide +kernel
theorem dJ6_bitCount_0f7a4_34 : decode cJ6_bitCount_0f7a4 34 = .ok (.iload_n 0, 1) := by decide +kernel
theorem dJ6_bitCount_0f7a4_35 : decode cJ6_bitCount_0f7a4 35 = .ok (.iload_n 0, 1) := by decide +kernel
theorem dJ6_bitCount_0f7a4_36 : decode cJ6_bitCount_0f7a4 36 = .ok (.bipush 8, 2) := by decide +kernel
theorem dJ6_bitCount_0f7a4_38 : decode cJ6_bitCount_0f7a4 38 = .ok (.iushr, 1) := by decide +kernel
theorem dJ6_bitCount_0f7a4_39 : decode cJ6_bitCount_0f7a4 39 = .ok (.iadd, 1) := by decide +kernel
theorem dJ6_bitCount_0f7a4_40 : decode cJ6_bitCount_0f7a4 40 = .ok (.istore_n 0, 1) := by decide +kernel
theorem dJ6_bitCount_0f7a4_41 : decode cJ6_bitCount_0f7a4 41 = .ok (.iload_n 0, 1) := by decide +kernel
theorem dJ6_bitCount_0f7a4_42 : decode cJ6_bitCount_0f7a4 42 = .ok (.iload_n 0, 1) := by decide +kernel
theorem dJ6_bitCount_0f7a4_43 : decode cJ6_bitCount_0f7a4 43 = .ok (.bipush 16, 2) := by decide +kernel
theorem dJ6_bitCount_0f7a4_45 : decode cJ6_bitCount_0f7a4 45 = .ok (.iushr, 1) := by decide +kernel
theorem dJ6_bitCount_0f7a4_46 : decode cJ6_bitCount_0f7a4 46 = .ok (.iadd, 1) := by decide +kernel
theorem dJ6_bitCount_0f7a4_47 : decode cJ6_bitCount_0f7a4 47 = .ok (.istore_n 0, 1) := by decide +kernel
theorem dJ6_bitCount_0f7a4_48 : decode cJ6_bitCount_0f7a4 48 = .ok (.iload_n 0, 1) := by decide +kernel
theorem dJ6_bitCount_0f7a4_49 : decode cJ6_bitCount_0f7a4 49 = .ok (.bipush 63, 2) := by decide +kernel
theorem dJ6_bitCount_0f7a4_51 : decode cJ6_bitCount_0f7a4 51 = .ok (.iand, 1) := by decide +kernel
theorem dJ6_bitCount_0f7a4_52 : decode cJ6_bitCount_0f7a4 52 = .ok (.ireturn, 1) := by decide +kernel
theorem dJ9_max_7cf53_0 : decode cJ9_max_7cf53 0 = .ok (.iload_n 0, 1) := by decide +kernel
theorem dJ9_max_7cf53_1 : decode cJ9_max_7cf53 1 = .ok (.iload_n 1, 1) := by decide +kernel
theorem dJ9_max_7cf53_2 : decode cJ9_max_7cf53 2 = .ok (.if_icmp .lt 7, 3) := by decide +kernel
end
section
theorem dJ9_max_7cf53_5 : decode cJ9_max_7cf53 5 = .ok (.iload_n 0, 1) := by decide +kernel
theorem dJ9_max_7cf53_6 : decode cJ9_max_7cf53 6 = .ok (.goto 4, 3) := by decide +kernel
theorem dJ9_max_7cf53_9 : decode cJ9_max_7cf53 9 = .ok (.iload_n 1, 1) := by decide +kernel
theorem dJ9_max_7cf53_10 : decode cJ9_max_7cf53 10 = .ok (.ireturn, 1) := by decide +kernel
theorem dJ9_min_7cf53_0 : decode cJ9_min_7cf53 0 = .ok (.iload_n 0, 1) := by decide +kernel
theorem dJ9_min_7cf53_1 : decode cJ9_min_7cf53 1 = .ok (.iload_n 1, 1) := by decide +kernel
theorem dJ9_min_7cf53_2 : decode cJ9_min_7cf53 2 = .ok (.if_icmp .gt 7, 3) := by decide +kernel
theorem dJ9_min_7cf53_5 : decode cJ9_min_7cf53 5 = .ok (.iload_n 0, 1) := by decide +kernel
theorem dJ9_min_7cf53_6 : decode cJ9_min_7cf53 6 = .ok (.goto 4, 3) := by decide +kernel
theorem dJ9_min_7cf53_9 : decode cJ9_min_7cf53 9 = .ok (.iload_n 1, 1) := by decide +kernel
theorem dJ9_min_7cf53_10 : decode cJ9_min_7cf53 10 = .ok (.ireturn, 1) := by decide +kernel
abbrev vwCl : List vw_C := [(RX0, TX0, 5), (RX1, TX1, 15), (RX2, TX2, 5), (RX3, TX3, 3), (RX4, TX4, 4), (RX5, TX5, 8), (RX6, TX6, 7)]
end
section
/-! own rows: words of nest mates, bits of small numbers, one-row laws for reading methods -/
def jxNest : List Cond := [.fieldLinkNest "Twincuts" 57 "Twincuts$Web" "points" "I" "Twincuts", .fieldLinkNest "Twincuts$Palette" 23 "Twincuts$Web" "points" "I" "Twincuts", .fieldLinkNest "Twincuts$Ways" 30 "Twincuts$Web" "points" "I" "Twincuts", .fieldLinkNest "Twincuts$Forest" 60 "Twincuts$Web" "points" "I" "Twincuts", .fieldLinkNest "Twincuts$Falls" 98 "Twincuts$Web" "points" "I" "Twincuts", .fieldLinkNest "Twincuts$Drawing" 77 "Twincuts$Web" "points" "I" "Twincuts", .fieldLinkNest "Twincuts$Ways" 36 "Twincuts$Web" "lines" "I" "Twincuts", .fieldLinkNest "Twincuts$Falls" 80 "Twincuts$Web" "lines" "I" "Twincuts", .fieldLinkNest "Twincuts" 85 "Twincuts$Web" "lines" "I" "Twincuts", .fieldLinkNest "Twincuts$Forest" 42 "Twincuts$Web" "lines" "I" "Twincuts", .fieldLinkNest "Twincuts$Drawing" 61 "Twincuts$Web" "lines" "I" "Twincuts", .fieldLinkNest "Twincuts$Ways" 39 "Twincuts$Web" "standing" "I" "Twincuts", .fieldLinkNest "Twincuts$Forest" 47 "Twincuts$Web" "standing" "I" "Twincuts", .fieldLinkNest "Twincuts$Drawing" 38 "Twincuts$Web" "standing" "I" "Twincuts", .fieldLinkNest "Twincuts$Falls" 105 "Twincuts$Web" "standing" "I" "Twincuts", .fieldLinkNest "Twincuts" 173 "Twincuts$Web" "standing" "I" "Twincuts", .fieldLinkNest "Twincuts$Ways" 46 "Twincuts$Web" "smaller" "[I" "Twincuts", .fieldLinkNest "Twincuts$Forest" 54 "Twincuts$Web" "smaller" "[I" "Twincuts", .fieldLinkNest "Twincuts$Drawing" 71 "Twincuts$Web" "smaller" "[I" "Twincuts", .fieldLinkNest "Twincuts" 167 "Twincuts$Web" "smaller" "[I" "Twincuts", .fieldLinkNest "Twincuts$Ways" 49 "Twincuts$Web" "greater" "[I" "Twincuts", .fieldLinkNest "Twincuts$Forest" 57 "Twincuts$Web" "greater" "[I" "Twincuts", .fieldLinkNest "Twincuts$Drawing" 68 "Twincuts$Web" "greater" "[I" "Twincuts", .fieldLinkNest "Twincuts" 170 "Twincuts$Web" "greater" "[I" "Twincuts", .fieldLinkNest "Twincuts" 116 "Twincuts$Web" "cost" "[I" "Twincuts", .fieldLinkNest "Twincuts$Forest" 74 "Twincuts$Web" "cost" "[I" "Twincuts", .fieldLinkNest "Twincuts" 113 "Twincuts$Falls" "parts" "I" "Twincuts", .fieldLinkNest "Twincuts" 176 "Twincuts$Falls" "bridgeSet" "I" "Twincuts", .fieldLinkNest "Twincuts" 148 "Twincuts$Falls" "cutPointSet" "I" "Twincuts", .fieldLinkNest "Twincuts" 188 "Twincuts$Falls" "blocks" "I" "Twincuts", .fieldLinkNest "Twincuts" 191 "Twincuts$Falls" "pairs" "I" "Twincuts", .fieldLinkNest "Twincuts" 194 "Twincuts$Falls" "twins" "I" "Twincuts", .fieldLinkNest "Twincuts" 136 "Twincuts$Falls" "part" "[I" "Twincuts", .fieldLinkNest "Twincuts" 179 "Twincuts$Falls" "block" "[I" "Twincuts", .fieldLinkNest "Twincuts" 182 "Twincuts$Forest" "cheapestSet" "I" "Twincuts", .fieldLinkNest "Twincuts" 197 "Twincuts$Forest" "cheapestCost" "I" "Twincuts", .fieldLinkNest "Twincuts" 200 "Twincuts$Palette" "colours" "I" "Twincuts", .fieldLinkNest "Twincuts" 158 "Twincuts$Palette" "colour" "[I" "Twincuts", .fieldLinkNest "Twincuts" 164 "Twincuts$Drawing" "length" "[I" "Twincuts", .fieldLinkNest "Twincuts" 185 "Twincuts$Drawing" "face" "[I" "Twincuts", .methodLinkNest "Twincuts$Web" 37 ⟨"Twincuts", "has", "(II)Z"⟩ "Twincuts", .methodLinkNest "Twincuts$Ways" 42 ⟨"Twincuts", "has", "(II)Z"⟩ "Twincuts", .methodLinkNest "Twincuts$Forest" 50 ⟨"Twincuts", "has", "(II)Z"⟩ "Twincuts", .methodLinkNest "Twincuts$Falls" 89 ⟨"Twincuts", "has", "(II)Z"⟩ "Twincuts", .methodLinkNest "Twincuts$Drawing" 43 ⟨"Twincuts", "has", "(II)Z"⟩ "Twincuts", .methodLinkNest "Twincuts" 9 ⟨"Twincuts$Web", "<init>", "()V"⟩ "Twincuts", .methodLinkNest "Twincuts$Palette" 45 ⟨"Twincuts", "has", "(II)Z"⟩ "Twincuts"]
def jxIsNest : Cond → Bool
  | .fieldLinkNest _ _ _ _ _ _ => true
  | .methodLinkNest _ _ _ _ => true
  | _ => false
theorem jxNest_is : jxNest.all jxIsNest = true := by decide +kernel
/-- the nest's words hold -/
def jxNW (U : State) : Prop := ∀ w ∈ jxNest, va_Nw w U
theorem jxNW_nest {w : Cond} (h : w ∈ jxNest) : jxIsNest w = true := List.all_eq_true.mp jxNest_is w h
theorem jxIsNest_tabs : ∀ {w : Cond}, jxIsNest w = true → w.onTables = true := by
  intro w h
  cases w <;> first | rfl | (simp [jxIsNest] at h)
theorem jxNW.warm {s U : State} (h : jxNW s) (hW : s.WarmedH U.vm) : jxNW U := by
  intro w hw
  have h1 := jxNW_nest hw
  have h2 := h w hw
  cases w <;> first | exact va_Nw.warmF hW h2 | exact va_Nw.warmM hW h2 | (simp [jxIsNest] at h1)
theorem jxNW.same {u U : State} (h : jxNW u) (hv : u.vm = U.vm) : jxNW U := fun w hw => va_Nw.same (jxIsNest_tabs (jxNW_nest hw)) hv (h w hw)
theorem jxNW.use {U : State} {A : Array Value} (h : jxNW U) (i : Nat) {w : Cond} (hi : jxNest[i]? = some w) : w.before A U = true := va_Nw.use (jxIsNest_tabs (jxNW_nest (List.mem_of_getElem? hi))) (h w (List.mem_of_getElem? hi))
theorem jxNW.get {U : State} (h : jxNW U) (i : Nat) {w : Cond} (hi : jxNest[i]? = some w) : va_Nw w U := h w (List.mem_of_getElem? hi)
-- bits of small numbers (the first rows out of BITS.to-paste and NUMBERS.to-paste)
def bt (x : Int32) (i : Nat) : Bool := x.toBitVec.getLsbD i
theorem b_ext {x y : Int32} (h : ∀ i, i < 32 → bt x i = bt y i) : x = y := Int32.toBitVec_inj.mp (BitVec.eq_of_getLsbD_eq (fun i hi => h i hi))
theorem b_and (x y : Int32) (i : Nat) : bt (x &&& y) i = (bt x i && bt y i) := by unfold bt; rw [Int32.toBitVec_and, BitVec.getLsbD_and]
theorem b_xor (x y : Int32) (i : Nat) : bt (x ^^^ y) i = (bt x i ^^ bt y i) := by unfold bt; rw [Int32.toBitVec_xor, BitVec.getLsbD_xor]
theorem b_m1 : ∀ i, i < 32 → bt (-1) i = true := by decide +kernel
theorem s_l : ∀ n, n < 32 → ((nI n &&& 31).toBitVec.smod 32).toNat = n := by decide +kernel
theorem fa_and (a b : Nat) : nI a &&& nI b = nI (a &&& b) := by
  apply Int32.toBitVec_inj.1
  show BitVec.ofNat 32 a &&& BitVec.ofNat 32 b = BitVec.ofNat 32 (a &&& b)
  apply BitVec.eq_of_getLsbD_eq
  intro i hi
  simp [hi]
theorem fa_or (a b : Nat) : nI a ||| nI b = nI (a ||| b) := by
  apply Int32.toBitVec_inj.1
  show BitVec.ofNat 32 a ||| BitVec.ofNat 32 b = BitVec.ofNat 32 (a ||| b)
  apply BitVec.eq_of_getLsbD_eq
  intro i hi
  simp [hi]
theorem fa_xor (a b : Nat) : nI a ^^^ nI b = nI (a ^^^ b) := by
  apply Int32.toBitVec_inj.1
  show BitVec.ofNat 32 a ^^^ BitVec.ofNat 32 b = BitVec.ofNat 32 (a ^^^ b)
  apply BitVec.eq_of_getLsbD_eq
  intro i hi
  simp [hi]
/-- a without b -/
def jxAN (a b : Nat) : Nat := a ^^^ (a &&& b)
theorem jxAN_bit (a b i : Nat) : (jxAN a b).testBit i = (a.testBit i && !b.testBit i) := by
  unfold jxAN
  rw [Nat.testBit_xor, Nat.testBit_and]
  cases a.testBit i <;> cases b.testBit i <;> rfl
theorem jx_bt (a : Nat) {i : Nat} (hi : i < 32) : bt (nI a) i = a.testBit i := by
  show (BitVec.ofNat 32 a).getLsbD i = _
  rw [BitVec.getLsbD_ofNat]
  simp [hi]
theorem jx_not (a b : Nat) : nI a &&& (nI b ^^^ (-1)) = nI (jxAN a b) := by
  apply b_ext
  intro i hi
  rw [b_and, b_xor, jx_bt a hi, jx_bt b hi, b_m1 i hi, jx_bt _ hi, jxAN_bit]
  cases a.testBit i <;> cases b.testBit i <;> rfl
theorem jx_shl {n k : Nat} (hk : k < 32) (h : n * 2 ^ k < 2 ^ 32) : nI n <<< (nI k &&& 31) = nI (n * 2 ^ k) := pk_shlN _ k (s_l k hk) h
theorem jx_1shl {k : Nat} (hk : k < 31) : nI 1 <<< (nI k &&& 31) = nI (2 ^ k) := by
  have h2 : (2 : Nat) ^ k < 2 ^ 32 := Nat.pow_lt_pow_right (by decide) (by omega)
  rw [jx_shl (by omega) (by omega), Nat.one_mul]
theorem jx_shr {n k : Nat} (hk : k < 32) (hn : n < 2 ^ 31) : nI n >>> (nI k &&& 31) = nI (n / 2 ^ k) := pk_shrN hn _ k (s_l k hk)
/-- 1 for true, 0 for false -/
def jB (b : Bool) : Nat := if b then 1 else 0
theorem jx_b1 (n k : Nat) : nI (n / 2 ^ k) &&& nI 1 = nI (jB (n.testBit k)) := by
  rw [fa_and, Nat.and_one_is_mod, Nat.testBit_eq_decide_div_mod_eq]
  rcases Nat.mod_two_eq_zero_or_one (n / 2 ^ k) with h | h <;> rw [h] <;> rfl
theorem jB_0 {b : Bool} (h : nI (jB b) = 0) : b = false := by
  cases b
  · rfl
  · exact absurd h (by decide)
theorem jB_1 {b : Bool} (h : ¬ nI (jB b) = 0) : b = true := by
  cases b
  · exact absurd (by decide) h
  · rfl
theorem jB_lt (b : Bool) : jB b < 2 := by cases b <;> decide
theorem jx_z {n : Nat} (hn : n < 2 ^ 31) (h : nI n = 0) : n = 0 := (nI_eq hn (by decide)).mp (h.trans nI_0.symm)
theorem jx_nz {n : Nat} (h : ¬ nI n = 0) : n ≠ 0 := fun e => h (by rw [e]; exact nI_0)
theorem jx_e {a b : Nat} (ha : a < 2 ^ 31) (hb : b < 2 ^ 31) (h : nI a = nI b) : a = b := (nI_eq ha hb).mp h
theorem jx_ne {a b : Nat} (h : ¬ nI a = nI b) : a ≠ b := fun e => h (by rw [e])
theorem jx_le {a b : Nat} (ha : a < 2 ^ 31) (hb : b < 2 ^ 31) (h : nI a ≤ nI b) : a ≤ b := (nI_leI ha hb).mp h
theorem jx_nle {a b : Nat} (ha : a < 2 ^ 31) (hb : b < 2 ^ 31) (h : ¬ nI a ≤ nI b) : b < a := Nat.not_le.mp (fun q => h ((nI_leI ha hb).mpr q))
theorem jx_lt {a b : Nat} (ha : a < 2 ^ 31) (hb : b < 2 ^ 31) (h : nI a < nI b) : a < b := (nI_ltI ha hb).mp h
theorem jx_nlt {a b : Nat} (ha : a < 2 ^ 31) (hb : b < 2 ^ 31) (h : ¬ nI a < nI b) : b ≤ a := Nat.not_lt.mp (fun q => h ((nI_ltI ha hb).mpr q))
/-- a start that reads: the nest's words, the world, the tables -/
def jxR (D : va_G) (tys : List (ClassId × FieldType)) (ws : va_W) (U : State) : Prop := jxNW U ∧ va_P D vwCl ws U.heap ∧ va_K D vwCl tys U
theorem jxR_blind {D : va_G} {tys : List (ClassId × FieldType)} {ws : va_W} {av : List Value} : FrameBlind (va_Pc av (jxR D tys ws)) := by
  intro a U g mk h
  obtain ⟨q0, q1, q2, q3⟩ := h
  exact ⟨q0, q1.same rfl, q2, va_K.moved (u := U) (U := U.calling g mk a) (Vm.Alike.refl U.vm) q3⟩
/-- a method that reads the world ws and answers a number -/
abbrev jxRO (l : Launch) (y : MethodName) (wy : List Cond) (rm : Room) (D : va_G) (tys : List (ClassId × FieldType)) (ws : va_W) (av : List Value) (post : Int32 → Prop) : Prop :=
  Met l y wy rm (va_Pc av (jxR D tys ws)) (vp_Si post) 0 0 (fun _ => False)
section JXE
variable {l : Launch} {y : MethodName} {wy ws' : List Cond} {rm : Room} {D : va_G} {tys : List (ClassId × FieldType)} {ws : va_W} {av : List Value} {post : Int32 → Prop} {cc : ByteArray} {maxL : Nat}
theorem jx_enter (hy : plainName y.cls = true) (hw : wy = Cond.code y cc maxL (some .int) :: ws') (hn : (lg_sl av).length ≤ maxL)
    (body : ∀ (p : Program) (e : Env) (s : State) (m : MethodId) (args : Array Value) (below : List Frame) (meth : Method) (c : Code) (Q : State → Prop) (ls : Array Slot), p.tables.exec = Jvm.exec → c.code = cc → c.maxLocals = maxL → (∀ w ∈ wy, w.before args s = true) → s.vm.findClass y.cls = some m.cls → jxNW s → va_P D vwCl ws s.heap → va_K D vwCl tys s → lv_has ls maxL (lv_args 0 av) →
      (∀ (v : Int32) (pc : Nat) (ls : Array Slot), decode cc pc = .ok (.ireturn, 1) → post v → W p l e rm s m args below meth c s.heap [] 0 0 Q (F0 m pc ls [.int v])) → W p l e rm s m args below meth c s.heap [] 0 0 Q (F0 m 0 ls [])) : jxRO l y wy rm D tys ws av post := by
  refine Met.ofW (cc := cc) (maxL := maxL) (ret := some .int) hy hw ?_
  intro p e s m args below meth c s₁ B hml hv
  obtain ⟨rfl, hN, hP, hK⟩ := hv
  have hlocks := B.notSynchronized
  have hr := B.returns
  rw [lg_entry_eq]
  exact body p e s m _ below meth c _ _ B.exec B.bytes hml (atoms_spec (ws := wy) B.pre) (findClass_of_methodNamed B.named) hN hP hK (lv_entry av hn)
    (fun v pc ls hd hp => W.iret (v := v) B.exec B.bytes hr (fun t ht _ => ⟨v, rfl, hp, ht⟩) (fun _ h => by cases h) hd)
theorem jx_enterZ (hy : plainName y.cls = true) (hw : wy = Cond.code y cc maxL (some .boolean) :: ws') (hn : (lg_sl av).length ≤ maxL)
    (body : ∀ (p : Program) (e : Env) (s : State) (m : MethodId) (args : Array Value) (below : List Frame) (meth : Method) (c : Code) (Q : State → Prop) (ls : Array Slot), p.tables.exec = Jvm.exec → c.code = cc → c.maxLocals = maxL → (∀ w ∈ wy, w.before args s = true) → s.vm.findClass y.cls = some m.cls → jxNW s → va_P D vwCl ws s.heap → va_K D vwCl tys s → lv_has ls maxL (lv_args 0 av) →
      (∀ (v : Bool) (pc : Nat) (ls : Array Slot), decode cc pc = .ok (.ireturn, 1) → post (nI (jB v)) → W p l e rm s m args below meth c s.heap [] 0 0 Q (F0 m pc ls [.int (nI (jB v))])) → W p l e rm s m args below meth c s.heap [] 0 0 Q (F0 m 0 ls [])) : jxRO l y wy rm D tys ws av post := by
  refine Met.ofW (cc := cc) (maxL := maxL) (ret := some .boolean) hy hw ?_
  intro p e s m args below meth c s₁ B hml hv
  obtain ⟨rfl, hN, hP, hK⟩ := hv
  have hlocks := B.notSynchronized
  have hr := B.returns
  rw [lg_entry_eq]
  exact body p e s m _ below meth c _ _ B.exec B.bytes hml (atoms_spec (ws := wy) B.pre) (findClass_of_methodNamed B.named) hN hP hK (lv_entry av hn)
    (fun v pc ls hd hp => W.zret (v := nI (jB v)) B.exec B.bytes hr (by cases v <;> rfl) (fun t ht _ => ⟨_, rfl, hp, ht⟩) (fun _ h => by cases h) hd)
end JXE
section JXC
variable {p : Program} {l : Launch} {e : Env} {R : Room} {s : State} {m : MethodId} {args : Array Value} {below : List Frame} {meth : Method} {c : Code} {H : Heap} {locs : List Loc} {cells slots : Nat} {Q : State → Prop}
variable {cc bytes : ByteArray} {pc nL maxL index n : Nat} {ls : Array Slot} {rest st0 As : List Value} {Ts wy : List Cond} {own C host : String} {y : MethodName} {ret : Option FieldType} {rm : Room} {D : va_G} {tc : List (ClassId × FieldType)} {wc : va_W} {post : Int32 → Prop} {b : Nat}
theorem jx_val {x z : Int32} (h : x = z) (k : W p l e R s m args below meth c H locs cells slots Q (F0 m pc ls (.int z :: rest))) : W p l e R s m args below meth c H locs cells slots Q (F0 m pc ls (.int x :: rest)) := h ▸ k
/-- a call of a method of an object that reads -/
theorem jx_callV (S : CallFix p m c cc nL s args Ts own) (hM : jxRO l y wy rm D tc wc (.ref b :: As) post) (cw : CallW R s args own C index y bytes maxL ret wy rm 0 0 n) (hN : jxNW s) (hP : va_P D vwCl wc H) (hK : va_K D vwCl tc s)
    (q0 ci : Nat) {q : vw_C} {vs : List Value} (hcl : vwCl[ci]? = some q) (hC : q.1 = C) (he : wc[q0]? = some (b, .inr (ci, vs))) (hn : As.length = n) (hsize : ls.size = nL) (hstack : st0 = As.reverse ++ .ref b :: rest) (hW : (rest.map fun v => v.category).sum ≤ 8) (hdg : decode cc pc = .ok (.invokevirtual index, 3)) (hf : cells ≤ R.cells ∧ slots ≤ R.slots)
    (kk : ∀ r : Int32, post r → W p l e R s m args below meth c H locs cells slots Q (F0 m (pc + 3) ls (.int r :: rest))) : W p l e R s m args below meth c H locs cells slots Q (F0 m pc ls st0) := by
  subst hC
  exact vp_callSi (W.runV S hM cw ⟨jxR_blind, va_recv hK hP hcl he, fun U hU hW' => ⟨rfl, hN.warm hW', by rw [hU]; exact hP, va_K.moved hW'.alike hK⟩⟩ rfl hn hsize hstack (lv_room hW) hdg hf) kk
/-- a call of a static method that reads -/
theorem jx_callS (S : CallFix p m c cc nL s args Ts own) (hM : jxRO l y wy rm D tc wc As post) (cw : CallB R s args own index y bytes maxL ret wy rm 0 0 n ∧ (Cond.static y).before args s = true) (hN : jxNW s) (hP : va_P D vwCl wc H) (hK : va_K D vwCl tc s)
    (hn : As.length = n) (hsize : ls.size = nL) (hstack : st0 = As.reverse ++ rest) (hW : (rest.map fun v => v.category).sum ≤ 8) (hdg : decode cc pc = .ok (.invokestatic index, 3)) (hf : cells ≤ R.cells ∧ slots ≤ R.slots)
    (kk : ∀ r : Int32, post r → W p l e R s m args below meth c H locs cells slots Q (F0 m (pc + 3) ls (.int r :: rest))) : W p l e R s m args below meth c H locs cells slots Q (F0 m pc ls st0) :=
  vp_callSi (W.runS S hM cw ⟨jxR_blind, fun U hU hW' => ⟨rfl, hN.warm hW', by rw [hU]; exact hP, va_K.moved hW'.alike hK⟩⟩ rfl hn hsize hstack (lv_room hW) hdg hf) kk
/-- a call of a nest mate's static method that reads -/
theorem jx_callSN (S : CallFix p m c cc nL s args Ts own) (hM : jxRO l y wy rm D tc wc As post) (cw : va_CN R s args own index y host bytes maxL ret wy rm 0 0 n) (hst : (Cond.static y).before args s = true) (hN : jxNW s) (hP : va_P D vwCl wc H) (hK : va_K D vwCl tc s)
    (hn : As.length = n) (hsize : ls.size = nL) (hstack : st0 = As.reverse ++ rest) (hW : (rest.map fun v => v.category).sum ≤ 8) (hdg : decode cc pc = .ok (.invokestatic index, 3)) (hf : cells ≤ R.cells ∧ slots ≤ R.slots)
    (kk : ∀ r : Int32, post r → W p l e R s m args below meth c H locs cells slots Q (F0 m (pc + 3) ls (.int r :: rest))) : W p l e R s m args below meth c H locs cells slots Q (F0 m pc ls st0) :=
  vp_callSi (va_runSN S hM ⟨cw, hst, trivial⟩ ⟨jxR_blind, fun U hU hW' => ⟨rfl, hN.warm hW', by rw [hU]; exact hP, va_K.moved hW'.alike hK⟩⟩ rfl hn hsize hstack (lv_room hW) hdg hf).run kk
/-- a place of an array of numbers that are small -/
theorem jx_iald (hexec : p.tables.exec = Jvm.exec) (hb : c.code = cc) {tys : List (ClassId × FieldType)} {ws : va_W} (hK : va_K D vwCl tys s) (hP : va_P D vwCl ws H) (q0 t0 : Nat) {a : Nat} {cA : ClassId} {N : Nat} {f : Nat → Int32} (ha : ws[q0]? = some (a, .inl (cA, N, .inl f))) (ht : tys[t0]? = some (cA, .int)) {j : Nat} (hj : j < N) (hN : N < 2 ^ 31) (hdg : decode cc pc = .ok (.iaload, 1))
    (kk : W p l e R s m args below meth c H locs cells slots Q (F0 m (pc + 1) ls (.int (f j) :: rest))) : W p l e R s m args below meth c H locs cells slots Q (F0 m pc ls (.int (nI j) :: .ref a :: rest)) := by
  refine va_iald hexec hb hK hP q0 t0 ha ht (vp_in_nI hj hN) hdg ?_
  rw [nI_clamp (Nat.lt_trans hj hN)]
  exact kk
end JXC
end
section
/-! own rows: methods that write their world's cells, each in its place -/
def jxM (D : va_G) (tys : List (ClassId × FieldType)) (ws : va_W) (sz : Nat) (U : State) : Prop := jxNW U ∧ U.heap.size = sz ∧ va_P D vwCl ws U.heap ∧ va_K D vwCl tys U ∧ va_D (fun _ => True) ws
theorem jxM_blind {D : va_G} {tys : List (ClassId × FieldType)} {ws : va_W} {sz : Nat} {av : List Value} : FrameBlind (va_Pc av (jxM D tys ws sz)) := by
  intro a U g mk h
  obtain ⟨q0, q1, q2, q3, q4, q5⟩ := h
  exact ⟨q0, q1.same rfl, q2, q3, va_K.moved (u := U) (U := U.calling g mk a) (Vm.Alike.refl U.vm) q4, q5⟩
/-- a method that writes: the world ws becomes ws' -/
abbrev jxWi (l : Launch) (y : MethodName) (wy : List Cond) (rm : Room) (D : va_G) (tys : List (ClassId × FieldType)) (ws : va_W) (av : List Value) (sz : Nat) (post : Int32 → Prop) (ws' : va_W) : Prop :=
  Met l y wy rm (va_Pc av (jxM D tys ws sz)) (va_Qi (S := Unit) (fun r _ => post r) (fun _ t => va_P D vwCl ws' t.heap) (va_A ws sz)) 0 0 (va_A ws sz)
abbrev jxWl (l : Launch) (y : MethodName) (wy : List Cond) (rm : Room) (D : va_G) (tys : List (ClassId × FieldType)) (ws : va_W) (av : List Value) (sz : Nat) (post : Int64 → Prop) (ws' : va_W) : Prop :=
  Met l y wy rm (va_Pc av (jxM D tys ws sz)) (va_Ql (S := Unit) (fun r _ => post r) (fun _ t => va_P D vwCl ws' t.heap) (va_A ws sz)) 0 0 (va_A ws sz)
abbrev jxWv (l : Launch) (y : MethodName) (wy : List Cond) (rm : Room) (D : va_G) (tys : List (ClassId × FieldType)) (ws : va_W) (av : List Value) (sz : Nat) (ws' : va_W) : Prop :=
  Met l y wy rm (va_Pc av (jxM D tys ws sz)) (va_Qv (S := Unit) (fun _ => True) (fun _ t => va_P D vwCl ws' t.heap) (va_A ws sz)) 0 0 (va_A ws sz)
theorem jxD {A : Nat → Prop} {ws ws' : va_W} (h : va_D A ws) (e : ws'.map Prod.fst = ws.map Prod.fst) : va_D A ws' := by
  have key : ∀ (k : Nat) (q : Nat × va_E), ws'[k]? = some q → ∃ q0, ws[k]? = some q0 ∧ q0.1 = q.1 := by
    intro k q hk
    have h1 : (ws'.map Prod.fst)[k]? = some q.1 := by rw [List.getElem?_map, hk]; rfl
    rw [e, List.getElem?_map] at h1
    cases h2 : ws[k]? with
    | none => rw [h2] at h1; cases h1
    | some q0 => rw [h2] at h1; exact ⟨q0, rfl, Option.some.inj h1⟩
  refine ⟨fun i j p q hi hj hpq => ?_, fun k q hk => ?_⟩
  · obtain ⟨p0, hp0, ep⟩ := key i p hi
    obtain ⟨q0, hq0, eq⟩ := key j q hj
    exact h.1 i j p0 q0 hp0 hq0 (by rw [ep, eq, hpq])
  · obtain ⟨q0, hq0, eq⟩ := key k q hk
    rw [← eq]
    exact h.2 k q0 hq0
/-- behind a call that wrote its cells wc (now wc'): the whole world, each cell in its place -/
theorem jx_join {A0 : Nat → Prop} {D : va_G} {cl : List vw_C} {X X' wc wc' : va_W} {H H1 : Heap} {N : Nat} (hP : va_P D cl X H) (hD : va_D A0 X) (isC isR : List Nat) (hC : isC.map (fun i => X[i]?) = wc.map some) (hC' : isC.map (fun i => X'[i]?) = wc'.map some) (hR : isR.map (fun i => X'[i]?) = isR.map (fun i => X[i]?))
    (hl : X'.length = N) (hcov : ∀ k, k < N → k ∈ isC ∨ k ∈ isR) (hdis : ∀ i ∈ isR, i ∉ isC) (hk : ∀ q : Nat, q < H.size → ¬ va_A wc H.size q → H1[q]? = H[q]?) (hP1 : va_P D cl wc' H1) : va_P D cl X' H1 := by
  intro k q hq
  have hkl : k < N := by rw [← hl]; exact (List.getElem?_eq_some_iff.mp hq).1
  rcases hcov k hkl with h | h
  · obtain ⟨j, hj⟩ := List.getElem?_of_mem h
    have h1 : (isC.map (fun i => X'[i]?))[j]? = some (X'[k]?) := by rw [List.getElem?_map, hj]; rfl
    rw [hC', List.getElem?_map, hq] at h1
    cases h2 : wc'[j]? with
    | none => rw [h2] at h1; cases h1
    | some q2 =>
      rw [h2] at h1
      have h3 : q2 = q := Option.some.inj (Option.some.inj h1)
      subst h3
      exact hP1 j q2 h2
  · obtain ⟨j, hj⟩ := List.getElem?_of_mem h
    have h1 : (isR.map (fun i => X'[i]?))[j]? = some (X'[k]?) := by rw [List.getElem?_map, hj]; rfl
    rw [hR, List.getElem?_map, hj, hq] at h1
    have hX : X[k]? = some q := Option.some.inj h1
    refine (hP k q hX).kept (hk q.1 ((hP k q hX).lt) ?_)
    rintro (⟨k2, e, h2⟩ | h2)
    · have h3 : (isC.map (fun i => X[i]?))[k2]? = some (some (q.1, e)) := by rw [hC, List.getElem?_map, h2]; rfl
      rw [List.getElem?_map] at h3
      cases h4 : isC[k2]? with
      | none => rw [h4] at h3; cases h3
      | some i =>
        rw [h4] at h3
        have h5 : X[i]? = some (q.1, e) := Option.some.inj h3
        have hik := hD.1 k i q (q.1, e) hX h5 rfl
        subst hik
        exact hdis k (List.mem_of_getElem? hj) (List.mem_of_getElem? h4)
    · have := (hP k q hX).lt
      omega
section JXWE
variable {l : Launch} {y : MethodName} {wy wr : List Cond} {rm : Room} {D : va_G} {tys : List (ClassId × FieldType)} {ws ws' : va_W} {av : List Value} {sz : Nat} {post : Int32 → Prop} {postl : Int64 → Prop} {cc : ByteArray} {maxL : Nat}
theorem jxw_enter (hy : plainName y.cls = true) (hw : wy = Cond.code y cc maxL (some .int) :: wr) (hn : (lg_sl av).length ≤ maxL)
    (body : ∀ (p : Program) (e : Env) (s : State) (m : MethodId) (args : Array Value) (below : List Frame) (meth : Method) (c : Code) (Q : State → Prop) (A : Nat → Prop) (ls : Array Slot), p.tables.exec = Jvm.exec → c.code = cc → c.maxLocals = maxL → (∀ w ∈ wy, w.before args s = true) → s.vm.findClass y.cls = some m.cls → jxNW s → va_P D vwCl ws s.heap → va_K D vwCl tys s → va_D A ws → (∀ q, s.heap.size ≤ q → A q) → lv_has ls maxL (lv_args 0 av) →
      (∀ (v : Int32) (H : Heap) (locs : List Loc) (pc : Nat) (ls : Array Slot), decode cc pc = .ok (.ireturn, 1) → post v → va_P D vwCl ws' H → va_S A s.heap H locs → W p l e rm s m args below meth c H locs 0 0 Q (F0 m pc ls [.int v])) → W p l e rm s m args below meth c s.heap [] 0 0 Q (F0 m 0 ls [])) : jxWi l y wy rm D tys ws av sz post ws' := by
  refine Met.ofW (cc := cc) (maxL := maxL) (ret := some .int) hy hw ?_
  intro p e s m args below meth c s₁ B hml hv
  obtain ⟨rfl, hN, rfl, hP, hK, hD⟩ := hv
  have hlocks := B.notSynchronized
  have hr := B.returns
  rw [lg_entry_eq]
  exact body p e s m _ below meth c _ (va_A ws s.heap.size) _ B.exec B.bytes hml (atoms_spec (ws := wy) B.pre) (findClass_of_methodNamed B.named) hN hP hK hD.self (fun q h => Or.inr h) (lv_entry av hn)
    (fun v H locs pc ls hd hp hP' hS => W.iret (v := v) B.exec B.bytes hr (fun t ht _ => ⟨⟨v, (), rfl, hp, by show va_P D vwCl ws' t.heap; rw [ht]; exact hP'⟩, hS.F ht⟩) hS.2.2 hd)
theorem jxw_enterL (hy : plainName y.cls = true) (hw : wy = Cond.code y cc maxL (some .long) :: wr) (hn : (lg_sl av).length ≤ maxL)
    (body : ∀ (p : Program) (e : Env) (s : State) (m : MethodId) (args : Array Value) (below : List Frame) (meth : Method) (c : Code) (Q : State → Prop) (A : Nat → Prop) (ls : Array Slot), p.tables.exec = Jvm.exec → c.code = cc → c.maxLocals = maxL → (∀ w ∈ wy, w.before args s = true) → s.vm.findClass y.cls = some m.cls → jxNW s → va_P D vwCl ws s.heap → va_K D vwCl tys s → va_D A ws → (∀ q, s.heap.size ≤ q → A q) → lv_has ls maxL (lv_args 0 av) →
      (∀ (v : Int64) (H : Heap) (locs : List Loc) (pc : Nat) (ls : Array Slot), decode cc pc = .ok (.lreturn, 1) → postl v → va_P D vwCl ws' H → va_S A s.heap H locs → W p l e rm s m args below meth c H locs 0 0 Q (F0 m pc ls [.long v])) → W p l e rm s m args below meth c s.heap [] 0 0 Q (F0 m 0 ls [])) : jxWl l y wy rm D tys ws av sz postl ws' := by
  refine Met.ofW (cc := cc) (maxL := maxL) (ret := some .long) hy hw ?_
  intro p e s m args below meth c s₁ B hml hv
  obtain ⟨rfl, hN, rfl, hP, hK, hD⟩ := hv
  have hlocks := B.notSynchronized
  have hr := B.returns
  rw [lg_entry_eq]
  exact body p e s m _ below meth c _ (va_A ws s.heap.size) _ B.exec B.bytes hml (atoms_spec (ws := wy) B.pre) (findClass_of_methodNamed B.named) hN hP hK hD.self (fun q h => Or.inr h) (lv_entry av hn)
    (fun v H locs pc ls hd hp hP' hS => W.lret (v := v) B.exec B.bytes hr (fun t ht _ => ⟨⟨v, (), rfl, hp, by show va_P D vwCl ws' t.heap; rw [ht]; exact hP'⟩, hS.F ht⟩) hS.2.2 hd)
theorem jxw_enterZ (hy : plainName y.cls = true) (hw : wy = Cond.code y cc maxL (some .boolean) :: wr) (hn : (lg_sl av).length ≤ maxL)
    (body : ∀ (p : Program) (e : Env) (s : State) (m : MethodId) (args : Array Value) (below : List Frame) (meth : Method) (c : Code) (Q : State → Prop) (A : Nat → Prop) (ls : Array Slot), p.tables.exec = Jvm.exec → c.code = cc → c.maxLocals = maxL → (∀ w ∈ wy, w.before args s = true) → s.vm.findClass y.cls = some m.cls → jxNW s → va_P D vwCl ws s.heap → va_K D vwCl tys s → va_D A ws → (∀ q, s.heap.size ≤ q → A q) → lv_has ls maxL (lv_args 0 av) →
      (∀ (v : Bool) (H : Heap) (locs : List Loc) (pc : Nat) (ls : Array Slot), decode cc pc = .ok (.ireturn, 1) → post (nI (jB v)) → va_P D vwCl ws' H → va_S A s.heap H locs → W p l e rm s m args below meth c H locs 0 0 Q (F0 m pc ls [.int (nI (jB v))])) → W p l e rm s m args below meth c s.heap [] 0 0 Q (F0 m 0 ls [])) : jxWi l y wy rm D tys ws av sz post ws' := by
  refine Met.ofW (cc := cc) (maxL := maxL) (ret := some .boolean) hy hw ?_
  intro p e s m args below meth c s₁ B hml hv
  obtain ⟨rfl, hN, rfl, hP, hK, hD⟩ := hv
  have hlocks := B.notSynchronized
  have hr := B.returns
  rw [lg_entry_eq]
  exact body p e s m _ below meth c _ (va_A ws s.heap.size) _ B.exec B.bytes hml (atoms_spec (ws := wy) B.pre) (findClass_of_methodNamed B.named) hN hP hK hD.self (fun q h => Or.inr h) (lv_entry av hn)
    (fun v H locs pc ls hd hp hP' hS => W.zret (v := nI (jB v)) B.exec B.bytes hr (by cases v <;> rfl) (fun t ht _ => ⟨⟨_, (), rfl, hp, by show va_P D vwCl ws' t.heap; rw [ht]; exact hP'⟩, hS.F ht⟩) hS.2.2 hd)
theorem jxw_enterV (hy : plainName y.cls = true) (hw : wy = Cond.code y cc maxL none :: wr) (hn : (lg_sl av).length ≤ maxL)
    (body : ∀ (p : Program) (e : Env) (s : State) (m : MethodId) (args : Array Value) (below : List Frame) (meth : Method) (c : Code) (Q : State → Prop) (A : Nat → Prop) (ls : Array Slot), p.tables.exec = Jvm.exec → c.code = cc → c.maxLocals = maxL → (∀ w ∈ wy, w.before args s = true) → s.vm.findClass y.cls = some m.cls → jxNW s → va_P D vwCl ws s.heap → va_K D vwCl tys s → va_D A ws → (∀ q, s.heap.size ≤ q → A q) → lv_has ls maxL (lv_args 0 av) →
      (∀ (H : Heap) (locs : List Loc) (pc : Nat) (ls : Array Slot), decode cc pc = .ok (.return_, 1) → va_P D vwCl ws' H → va_S A s.heap H locs → W p l e rm s m args below meth c H locs 0 0 Q (F0 m pc ls [])) → W p l e rm s m args below meth c s.heap [] 0 0 Q (F0 m 0 ls [])) : jxWv l y wy rm D tys ws av sz ws' := by
  refine Met.ofW (cc := cc) (maxL := maxL) (ret := none) hy hw ?_
  intro p e s m args below meth c s₁ B hml hv
  obtain ⟨rfl, hN, rfl, hP, hK, hD⟩ := hv
  have hlocks := B.notSynchronized
  have hr := B.returns
  rw [lg_entry_eq]
  exact body p e s m _ below meth c _ (va_A ws s.heap.size) _ B.exec B.bytes hml (atoms_spec (ws := wy) B.pre) (findClass_of_methodNamed B.named) hN hP hK hD.self (fun q h => Or.inr h) (lv_entry av hn)
    (fun H locs pc ls hd hP' hS => W.vret B.exec B.bytes hr (fun t ht _ => ⟨⟨(), rfl, trivial, by show va_P D vwCl ws' t.heap; rw [ht]; exact hP'⟩, hS.F ht⟩) hS.2.2 hd)
end JXWE
section JXWC
variable {p : Program} {l : Launch} {e : Env} {R : Room} {s : State} {m : MethodId} {args : Array Value} {below : List Frame} {meth : Method} {c : Code} {H H0 : Heap} {locs : List Loc} {cells slots : Nat} {Q : State → Prop} {A0 : Nat → Prop}
variable {cc bytes : ByteArray} {pc nL maxL index n N : Nat} {ls : Array Slot} {rest st0 As : List Value} {Ts wy : List Cond} {own C : String} {y : MethodName} {ret : Option FieldType} {rm : Room} {D : va_G} {tc : List (ClassId × FieldType)} {X X' wc wc' : va_W} {post : Int32 → Prop} {postl : Int64 → Prop} {b : Nat}
theorem jxw_free (hD : va_D A0 X) (hS : va_S A0 H0 H locs) (hA : ∀ q, H0.size ≤ q → A0 q) (isC : List Nat) (hC : isC.map (fun i => X[i]?) = wc.map some) : ∀ q, va_A wc H.size q → A0 q := va_free hD hS hA isC hC
/-- a call of a method of an object that writes, and answers nothing -/
theorem jxw_callV (S : CallFix p m c cc nL s args Ts own) (hM : jxWv l y wy rm D tc wc (.ref b :: As) H.size wc') (cw : CallW R s args own C index y bytes maxL ret wy rm 0 0 n) (hN : jxNW s) (hP : va_P D vwCl X H) (hD : va_D A0 X) (hK : va_K D vwCl tc s) (hS : va_S A0 H0 H locs) (hA : ∀ q, H0.size ≤ q → A0 q)
    (isC isR : List Nat) (hC : isC.map (fun i => X[i]?) = wc.map some) (hnd : va_nd isC = true) (hC' : isC.map (fun i => X'[i]?) = wc'.map some) (hR : isR.map (fun i => X'[i]?) = isR.map (fun i => X[i]?)) (hl : X'.length = N) (hcov : ∀ k, k < N → k ∈ isC ∨ k ∈ isR) (hdis : ∀ i ∈ isR, i ∉ isC)
    (q0 ci : Nat) {q : vw_C} {vs : List Value} (hcl : vwCl[ci]? = some q) (hCn : q.1 = C) (he : X[q0]? = some (b, .inr (ci, vs))) (hKX : va_K D vwCl tc s) (hn : As.length = n) (hsize : ls.size = nL) (hstack : st0 = As.reverse ++ .ref b :: rest) (hW : (rest.map fun v => v.category).sum ≤ 8) (hdg : decode cc pc = .ok (.invokevirtual index, 3)) (hf : cells ≤ R.cells ∧ slots ≤ R.slots)
    (kk : ∀ (H1 : Heap) (locs1 : List Loc), va_P D vwCl X' H1 → va_S A0 H0 H1 locs1 → W p l e R s m args below meth c H1 locs1 cells slots Q (F0 m (pc + 3) ls rest)) : W p l e R s m args below meth c H locs cells slots Q (F0 m pc ls st0) := by
  subst hCn
  have hF := jxw_free hD hS hA isC hC
  have hPc : va_P D vwCl wc H := by
    intro k q hk
    have h1 : (isC.map (fun i => X[i]?))[k]? = some (some q) := by rw [hC, List.getElem?_map, hk]; rfl
    rw [List.getElem?_map] at h1
    cases h2 : isC[k]? with
    | none => rw [h2] at h1; cases h1
    | some i => rw [h2] at h1; exact hP i q (Option.some.inj h1)
  have hDc : va_D A0 wc := hD.sub isC hnd hC
  refine va_callv (va_runV S hM cw ⟨jxM_blind, va_recv hKX hP hcl he, fun U hU hW' => ⟨rfl, hN.warm hW', by rw [hU], by rw [hU]; exact hPc, va_K.moved hW'.alike hK, hDc.weaken (fun _ _ _ _ => trivial)⟩⟩ rfl hn hsize hstack (lv_room hW) hdg hf) hS (fun q _ h => hF q h) hF (fun u t H1 locs1 ht hvm hw hB hz1 hk1 hS1 => ?_)
  have hB : va_P D vwCl wc' t.heap := hB
  rw [ht] at hB
  exact kk H1 locs1 (jx_join hP hD isC isR hC hC' hR hl hcov hdis hk1 hB) hS1
/-- .. and answers a number -/
theorem jxw_callVi (S : CallFix p m c cc nL s args Ts own) (hM : jxWi l y wy rm D tc wc (.ref b :: As) H.size post wc') (cw : CallW R s args own C index y bytes maxL ret wy rm 0 0 n) (hN : jxNW s) (hP : va_P D vwCl X H) (hD : va_D A0 X) (hK : va_K D vwCl tc s) (hS : va_S A0 H0 H locs) (hA : ∀ q, H0.size ≤ q → A0 q)
    (isC isR : List Nat) (hC : isC.map (fun i => X[i]?) = wc.map some) (hnd : va_nd isC = true) (hC' : isC.map (fun i => X'[i]?) = wc'.map some) (hR : isR.map (fun i => X'[i]?) = isR.map (fun i => X[i]?)) (hl : X'.length = N) (hcov : ∀ k, k < N → k ∈ isC ∨ k ∈ isR) (hdis : ∀ i ∈ isR, i ∉ isC)
    (q0 ci : Nat) {q : vw_C} {vs : List Value} (hcl : vwCl[ci]? = some q) (hCn : q.1 = C) (he : X[q0]? = some (b, .inr (ci, vs))) (hKX : va_K D vwCl tc s) (hn : As.length = n) (hsize : ls.size = nL) (hstack : st0 = As.reverse ++ .ref b :: rest) (hW : (rest.map fun v => v.category).sum ≤ 8) (hdg : decode cc pc = .ok (.invokevirtual index, 3)) (hf : cells ≤ R.cells ∧ slots ≤ R.slots)
    (kk : ∀ (r : Int32) (H1 : Heap) (locs1 : List Loc), post r → va_P D vwCl X' H1 → va_S A0 H0 H1 locs1 → W p l e R s m args below meth c H1 locs1 cells slots Q (F0 m (pc + 3) ls (.int r :: rest))) : W p l e R s m args below meth c H locs cells slots Q (F0 m pc ls st0) := by
  subst hCn
  have hF := jxw_free hD hS hA isC hC
  have hPc : va_P D vwCl wc H := by
    intro k q hk
    have h1 : (isC.map (fun i => X[i]?))[k]? = some (some q) := by rw [hC, List.getElem?_map, hk]; rfl
    rw [List.getElem?_map] at h1
    cases h2 : isC[k]? with
    | none => rw [h2] at h1; cases h1
    | some i => rw [h2] at h1; exact hP i q (Option.some.inj h1)
  have hDc : va_D A0 wc := hD.sub isC hnd hC
  refine va_calli (va_runV S hM cw ⟨jxM_blind, va_recv hKX hP hcl he, fun U hU hW' => ⟨rfl, hN.warm hW', by rw [hU], by rw [hU]; exact hPc, va_K.moved hW'.alike hK, hDc.weaken (fun _ _ _ _ => trivial)⟩⟩ rfl hn hsize hstack (lv_room hW) hdg hf) hS (fun q _ h => hF q h) hF (fun r u t H1 locs1 ht hvm hw hB hz1 hk1 hS1 => ?_)
  have hB : va_P D vwCl wc' t.heap := hB
  rw [ht] at hB
  exact kk r H1 locs1 hw (jx_join hP hD isC isR hC hC' hR hl hcov hdis hk1 hB) hS1
/-- .. and answers a long number -/
theorem jxw_callVl (S : CallFix p m c cc nL s args Ts own) (hM : jxWl l y wy rm D tc wc (.ref b :: As) H.size postl wc') (cw : CallW R s args own C index y bytes maxL ret wy rm 0 0 n) (hN : jxNW s) (hP : va_P D vwCl X H) (hD : va_D A0 X) (hK : va_K D vwCl tc s) (hS : va_S A0 H0 H locs) (hA : ∀ q, H0.size ≤ q → A0 q)
    (isC isR : List Nat) (hC : isC.map (fun i => X[i]?) = wc.map some) (hnd : va_nd isC = true) (hC' : isC.map (fun i => X'[i]?) = wc'.map some) (hR : isR.map (fun i => X'[i]?) = isR.map (fun i => X[i]?)) (hl : X'.length = N) (hcov : ∀ k, k < N → k ∈ isC ∨ k ∈ isR) (hdis : ∀ i ∈ isR, i ∉ isC)
    (q0 ci : Nat) {q : vw_C} {vs : List Value} (hcl : vwCl[ci]? = some q) (hCn : q.1 = C) (he : X[q0]? = some (b, .inr (ci, vs))) (hKX : va_K D vwCl tc s) (hn : As.length = n) (hsize : ls.size = nL) (hstack : st0 = As.reverse ++ .ref b :: rest) (hW : (rest.map fun v => v.category).sum ≤ 8) (hdg : decode cc pc = .ok (.invokevirtual index, 3)) (hf : cells ≤ R.cells ∧ slots ≤ R.slots)
    (kk : ∀ (r : Int64) (H1 : Heap) (locs1 : List Loc), postl r → va_P D vwCl X' H1 → va_S A0 H0 H1 locs1 → W p l e R s m args below meth c H1 locs1 cells slots Q (F0 m (pc + 3) ls (.long r :: rest))) : W p l e R s m args below meth c H locs cells slots Q (F0 m pc ls st0) := by
  subst hCn
  have hF := jxw_free hD hS hA isC hC
  have hPc : va_P D vwCl wc H := by
    intro k q hk
    have h1 : (isC.map (fun i => X[i]?))[k]? = some (some q) := by rw [hC, List.getElem?_map, hk]; rfl
    rw [List.getElem?_map] at h1
    cases h2 : isC[k]? with
    | none => rw [h2] at h1; cases h1
    | some i => rw [h2] at h1; exact hP i q (Option.some.inj h1)
  have hDc : va_D A0 wc := hD.sub isC hnd hC
  refine va_calll (va_runV S hM cw ⟨jxM_blind, va_recv hKX hP hcl he, fun U hU hW' => ⟨rfl, hN.warm hW', by rw [hU], by rw [hU]; exact hPc, va_K.moved hW'.alike hK, hDc.weaken (fun _ _ _ _ => trivial)⟩⟩ rfl hn hsize hstack (lv_room hW) hdg hf) hS (fun q _ h => hF q h) hF (fun r u t H1 locs1 ht hvm hw hB hz1 hk1 hS1 => ?_)
  have hB : va_P D vwCl wc' t.heap := hB
  rw [ht] at hB
  exact kk r H1 locs1 hw (jx_join hP hD isC isR hC hC' hR hl hcov hdis hk1 hB) hS1
end JXWC
/-! own rows: places of arrays, and of arrays of arrays whose rows lie one behind the other at the world's end -/
def jxUp {α : Type} (f : Nat → α) (k : Nat) (v : α) : Nat → α := fun j => if j = k then v else f j
def jxUp2 {α : Type} (f : Nat → Nat → α) (i j : Nat) (v : α) : Nat → Nat → α := fun a b => if a = i ∧ b = j then v else f a b
theorem jxUp_s {α : Type} (f : Nat → α) (k : Nat) (v : α) : jxUp f k v k = v := if_pos rfl
theorem jxUp_n {α : Type} (f : Nat → α) {k j : Nat} (v : α) (h : j ≠ k) : jxUp f k v j = f j := if_neg h
abbrev jRN (cA : ClassId) (N K : Nat) (r : Nat → Nat) (F : Nat → Nat → Nat) : va_W := (List.range N).map (fun i => (r i, .inl (cA, K, .inl (fun j => nI (F i j)))))
abbrev jRI (cA : ClassId) (N K : Nat) (r : Nat → Nat) (F : Nat → Nat → Int32) : va_W := (List.range N).map (fun i => (r i, .inl (cA, K, .inl (F i))))
abbrev jRL (cA : ClassId) (N K : Nat) (r : Nat → Nat) (F : Nat → Nat → Int64) : va_W := (List.range N).map (fun i => (r i, .inl (cA, K, .inr (.inl (F i)))))
theorem jx_rows_get {X : va_W} {N : Nat} {f : Nat → Nat × va_E} {i : Nat} (hi : i < N) : (X ++ (List.range N).map f)[X.length + i]? = some (f i) := by
  rw [List.getElem?_append_right (Nat.le_add_right _ _), Nat.add_sub_cancel_left, List.getElem?_map, List.getElem?_range hi]
  rfl
theorem jx_rows_set {X : va_W} {N : Nat} {f f' : Nat → Nat × va_E} {i : Nat} (hi : i < N) (h : ∀ k, k ≠ i → f' k = f k) : (X ++ (List.range N).map f).set (X.length + i) (f' i) = X ++ (List.range N).map f' := by
  apply List.ext_getElem?
  intro k
  rw [List.getElem?_set]
  by_cases hk : X.length + i = k
  · subst hk
    rw [if_pos rfl, if_pos (by simp; omega), jx_rows_get hi]
  · rw [if_neg hk]
    by_cases h1 : k < X.length
    · rw [List.getElem?_append_left h1, List.getElem?_append_left h1]
    · obtain ⟨d, rfl⟩ := Nat.exists_eq_add_of_le (Nat.not_lt.mp h1)
      rw [List.getElem?_append_right (by omega), List.getElem?_append_right (by omega), Nat.add_sub_cancel_left, List.getElem?_map, List.getElem?_map]
      by_cases hd : d < N
      · rw [List.getElem?_range hd]
        simp [h d (by omega)]
      · rw [List.getElem?_eq_none (by simp; omega)]
        rfl
section JXA
variable {p : Program} {l : Launch} {e : Env} {R : Room} {s : State} {m : MethodId} {args : Array Value} {below : List Frame} {meth : Method} {c : Code} {H H0 : Heap} {locs : List Loc} {cells slots : Nat} {Q : State → Prop} {A : Nat → Prop}
variable {cc : ByteArray} {pc : Nat} {ls : Array Slot} {rest : List Value} {D : va_G} {tys : List (ClassId × FieldType)} {ws X : va_W} {cA : ClassId} {N K : Nat} {r : Nat → Nat}
theorem jx_iastI (hexec : p.tables.exec = Jvm.exec) (hb : c.code = cc) (hK : va_K D vwCl tys s) (hP : va_P D vwCl ws H) (hD : va_D A ws) (hS : va_S A H0 H locs) (q0 t0 : Nat) {a : Nat} {f : Nat → Int32} (ha : ws[q0]? = some (a, .inl (cA, N, .inl f))) (ht : tys[t0]? = some (cA, .int)) {j : Nat} {x : Int32} (hj : j < N) (hN : N < 2 ^ 31) (hdg : decode cc pc = .ok (.iastore, 1))
    (kk : ∀ (H1 : Heap) (locs1 : List Loc), va_P D vwCl (ws.set q0 (a, .inl (cA, N, .inl (jxUp f j x)))) H1 → va_D A (ws.set q0 (a, .inl (cA, N, .inl (jxUp f j x)))) → va_S A H0 H1 locs1 → W p l e R s m args below meth c H1 locs1 cells slots Q (F0 m (pc + 1) ls rest)) : W p l e R s m args below meth c H locs cells slots Q (F0 m pc ls (.int x :: .int (nI j) :: .ref a :: rest)) := by
  have e : upd f (nI j).toNatClampNeg x = jxUp f j x := by rw [nI_clamp (Nat.lt_trans hj hN)]; rfl
  refine va_iast hexec hb hK hP hD hS q0 t0 ha ht (vp_in_nI hj hN) hdg (fun H1 l1 h1 h2 h3 => ?_)
  rw [e] at h1 h2
  exact kk H1 l1 h1 h2 h3
theorem jx_iastN (hexec : p.tables.exec = Jvm.exec) (hb : c.code = cc) (hK : va_K D vwCl tys s) (hP : va_P D vwCl ws H) (hD : va_D A ws) (hS : va_S A H0 H locs) (q0 t0 : Nat) {a : Nat} {f : Nat → Nat} (ha : ws[q0]? = some (a, .inl (cA, N, .inl (fun j => nI (f j))))) (ht : tys[t0]? = some (cA, .int)) {j x : Nat} (hj : j < N) (hN : N < 2 ^ 31) (hdg : decode cc pc = .ok (.iastore, 1))
    (kk : ∀ (H1 : Heap) (locs1 : List Loc), va_P D vwCl (ws.set q0 (a, .inl (cA, N, .inl (fun i => nI (jxUp f j x i))))) H1 → va_D A (ws.set q0 (a, .inl (cA, N, .inl (fun i => nI (jxUp f j x i))))) → va_S A H0 H1 locs1 → W p l e R s m args below meth c H1 locs1 cells slots Q (F0 m (pc + 1) ls rest)) : W p l e R s m args below meth c H locs cells slots Q (F0 m pc ls (.int (nI x) :: .int (nI j) :: .ref a :: rest)) := by
  have e : jxUp (fun j => nI (f j)) j (nI x) = fun i => nI (jxUp f j x i) := by
    funext i
    unfold jxUp
    split <;> rfl
  refine jx_iastI hexec hb hK hP hD hS q0 t0 ha ht hj hN hdg (fun H1 l1 h1 h2 h3 => ?_)
  rw [e] at h1 h2
  exact kk H1 l1 h1 h2 h3
theorem jx_aald (hexec : p.tables.exec = Jvm.exec) (hb : c.code = cc) (hK : va_K D vwCl tys s) (hP : va_P D vwCl ws H) (q0 t0 : Nat) {a : Nat} {ty : FieldType} (ha : ws[q0]? = some (a, .inl (cA, N, .inr (.inr (.inr (.inr (fun i => if i < N then some (r i) else none))))))) (ht : tys[t0]? = some (cA, .array ty)) {j : Nat} (hj : j < N) (hN : N < 2 ^ 31) (hdg : decode cc pc = .ok (.aaload, 1))
    (kk : W p l e R s m args below meth c H locs cells slots Q (F0 m (pc + 1) ls (.ref (r j) :: rest))) : W p l e R s m args below meth c H locs cells slots Q (F0 m pc ls (.int (nI j) :: .ref a :: rest)) := by
  have hin := vp_in_nI hj hN
  have hlt : (nI j).toNatClampNeg < N := by rw [nI_clamp (Nat.lt_trans hj hN)]; exact hj
  have ev : va_rf (if (nI j).toNatClampNeg < N then some (r (nI j).toNatClampNeg) else none) = .ref (r j) := by
    rw [if_pos hlt, nI_clamp (Nat.lt_trans hj hN)]
    rfl
  refine W.aald (v := va_rf (if (nI j).toNatClampNeg < N then some (r (nI j).toNatClampNeg) else none)) (ty := .array ty) hexec hb (hP q0 _ ha) ((hK.2 t0 _ ht).1 N (fun i => va_rf (if i < N then some (r i) else none))) rfl (fun q => by cases q) (by show ¬ (nI j < 0 ∨ (arrV _ _ _).slots.size ≤ _); rw [arrV_size]; exact hin) (by show (arrV _ _ _).slots[_]? = _; rw [arrV_read _ _ hlt]) rfl rfl hdg ?_
  rw [ev]
  exact kk
theorem jx_iald2N (hexec : p.tables.exec = Jvm.exec) (hb : c.code = cc) (hK : va_K D vwCl tys s) {F : Nat → Nat → Nat} (hP : va_P D vwCl (X ++ jRN cA N K r F) H) (t0 : Nat) (ht : tys[t0]? = some (cA, .int)) {i j : Nat} (hi : i < N) (hj : j < K) (hKb : K < 2 ^ 31) (hdg : decode cc pc = .ok (.iaload, 1))
    (kk : W p l e R s m args below meth c H locs cells slots Q (F0 m (pc + 1) ls (.int (nI (F i j)) :: rest))) : W p l e R s m args below meth c H locs cells slots Q (F0 m pc ls (.int (nI j) :: .ref (r i) :: rest)) :=
  jx_iald hexec hb hK hP (X.length + i) t0 (jx_rows_get (f := fun i => (r i, .inl (cA, K, .inl (fun j => nI (F i j))))) hi) ht hj hKb hdg kk
theorem jx_iald2I (hexec : p.tables.exec = Jvm.exec) (hb : c.code = cc) (hK : va_K D vwCl tys s) {F : Nat → Nat → Int32} (hP : va_P D vwCl (X ++ jRI cA N K r F) H) (t0 : Nat) (ht : tys[t0]? = some (cA, .int)) {i j : Nat} (hi : i < N) (hj : j < K) (hKb : K < 2 ^ 31) (hdg : decode cc pc = .ok (.iaload, 1))
    (kk : W p l e R s m args below meth c H locs cells slots Q (F0 m (pc + 1) ls (.int (F i j) :: rest))) : W p l e R s m args below meth c H locs cells slots Q (F0 m pc ls (.int (nI j) :: .ref (r i) :: rest)) :=
  jx_iald hexec hb hK hP (X.length + i) t0 (jx_rows_get (f := fun i => (r i, .inl (cA, K, .inl (F i)))) hi) ht hj hKb hdg kk
theorem jx_iast2N (hexec : p.tables.exec = Jvm.exec) (hb : c.code = cc) (hK : va_K D vwCl tys s) {F : Nat → Nat → Nat} (hP : va_P D vwCl (X ++ jRN cA N K r F) H) (hD : va_D A (X ++ jRN cA N K r F)) (hS : va_S A H0 H locs) (t0 : Nat) (ht : tys[t0]? = some (cA, .int)) {i j x : Nat} (hi : i < N) (hj : j < K) (hKb : K < 2 ^ 31) (hdg : decode cc pc = .ok (.iastore, 1))
    (kk : ∀ (H1 : Heap) (locs1 : List Loc), va_P D vwCl (X ++ jRN cA N K r (jxUp2 F i j x)) H1 → va_D A (X ++ jRN cA N K r (jxUp2 F i j x)) → va_S A H0 H1 locs1 → W p l e R s m args below meth c H1 locs1 cells slots Q (F0 m (pc + 1) ls rest)) : W p l e R s m args below meth c H locs cells slots Q (F0 m pc ls (.int (nI x) :: .int (nI j) :: .ref (r i) :: rest)) := by
  refine jx_iastN hexec hb hK hP hD hS (X.length + i) t0 (jx_rows_get (f := fun i => (r i, .inl (cA, K, .inl (fun j => nI (F i j))))) hi) ht hj hKb hdg (fun H1 l1 h1 h2 h3 => ?_)
  have e : (X ++ jRN cA N K r F).set (X.length + i) (r i, .inl (cA, K, .inl (fun b => nI (jxUp (F i) j x b)))) = X ++ jRN cA N K r (jxUp2 F i j x) := by
    have h := jx_rows_set (X := X) (f := fun i => (r i, .inl (cA, K, .inl (fun j => nI (F i j))))) (f' := fun a => (r a, .inl (cA, K, .inl (fun b => nI (jxUp2 F i j x a b))))) hi (fun k hk => by simp [jxUp2, hk])
    have ef : (fun b => nI (jxUp (F i) j x b)) = fun b => nI (jxUp2 F i j x i b) := by
      funext b
      simp [jxUp, jxUp2]
    rw [← h, ef]
  rw [e] at h1 h2
  exact kk H1 l1 h1 h2 h3
theorem jx_iast2I (hexec : p.tables.exec = Jvm.exec) (hb : c.code = cc) (hK : va_K D vwCl tys s) {F : Nat → Nat → Int32} (hP : va_P D vwCl (X ++ jRI cA N K r F) H) (hD : va_D A (X ++ jRI cA N K r F)) (hS : va_S A H0 H locs) (t0 : Nat) (ht : tys[t0]? = some (cA, .int)) {i j : Nat} {x : Int32} (hi : i < N) (hj : j < K) (hKb : K < 2 ^ 31) (hdg : decode cc pc = .ok (.iastore, 1))
    (kk : ∀ (H1 : Heap) (locs1 : List Loc), va_P D vwCl (X ++ jRI cA N K r (jxUp2 F i j x)) H1 → va_D A (X ++ jRI cA N K r (jxUp2 F i j x)) → va_S A H0 H1 locs1 → W p l e R s m args below meth c H1 locs1 cells slots Q (F0 m (pc + 1) ls rest)) : W p l e R s m args below meth c H locs cells slots Q (F0 m pc ls (.int x :: .int (nI j) :: .ref (r i) :: rest)) := by
  refine jx_iastI hexec hb hK hP hD hS (X.length + i) t0 (jx_rows_get (f := fun i => (r i, .inl (cA, K, .inl (F i)))) hi) ht hj hKb hdg (fun H1 l1 h1 h2 h3 => ?_)
  have e : (X ++ jRI cA N K r F).set (X.length + i) (r i, .inl (cA, K, .inl (jxUp (F i) j x))) = X ++ jRI cA N K r (jxUp2 F i j x) := by
    have h := jx_rows_set (X := X) (f := fun i => (r i, .inl (cA, K, .inl (F i)))) (f' := fun a => (r a, .inl (cA, K, .inl (jxUp2 F i j x a)))) hi (fun k hk => by rw [show jxUp2 F i j x k = F k from funext fun b => by simp [jxUp2, hk]])
    have ef : jxUp (F i) j x = jxUp2 F i j x i := by
      funext b
      simp [jxUp, jxUp2]
    rw [← h, ef]
  rw [e] at h1 h2
  exact kk H1 l1 h1 h2 h3
end JXA
end
section
/-! own rows: what the class's methods answer, over small numbers; sets are bits of a number -/
theorem jxAN_and (a b : Nat) : jxAN a b = a &&& jxAN a b := by
  apply Nat.eq_of_testBit_eq
  intro i
  rw [Nat.testBit_and, jxAN_bit]
  cases a.testBit i <;> rfl
theorem jxAN_lt {a b N : Nat} (h : a < N) : jxAN a b < N := by
  rw [jxAN_and]
  exact Nat.lt_of_le_of_lt Nat.and_le_left h
theorem jx_pow31 {k : Nat} (h : k < 31) : 2 ^ k < 2 ^ 31 := Nat.pow_lt_pow_right (by decide) h
theorem jx_pow8 {k : Nat} (h : k < 8) : 2 ^ k < 256 := by
  have := Nat.pow_lt_pow_right (a := 2) (by decide) h
  omega
theorem jx_inc (n : Nat) : nI n + Int32.ofInt 1 = nI (n + 1) := (nI_succ n).symm
theorem jx_max {a b : Nat} (ha : a < 2 ^ 31) (hb : b < 2 ^ 31) : (if nI a < nI b then nI b else nI a) = nI (max a b) := by
  by_cases h : a < b
  · rw [if_pos ((nI_ltI ha hb).mpr h), Nat.max_eq_right (Nat.le_of_lt h)]
  · rw [if_neg (fun q => h ((nI_ltI ha hb).mp q)), Nat.max_eq_left (Nat.not_lt.mp h)]
theorem jx_min {a b : Nat} (ha : a < 2 ^ 31) (hb : b < 2 ^ 31) : (if nI b < nI a then nI b else nI a) = nI (min a b) := by
  by_cases h : b < a
  · rw [if_pos ((nI_ltI hb ha).mpr h), Nat.min_eq_right (Nat.le_of_lt h)]
  · rw [if_neg (fun q => h ((nI_ltI hb ha).mp q)), Nat.min_eq_left (Nat.not_lt.mp h)]
/-- n times f -/
def jmIt (f : Nat → Nat) : Nat → Nat → Nat
  | 0, x => x
  | k + 1, x => f (jmIt f k x)
theorem jmIt_stay {f : Nat → Nat} {r x : Nat} (h : f (jmIt f r x) = jmIt f r x) : ∀ d, jmIt f (r + d) x = jmIt f r x
  | 0 => rfl
  | d + 1 => by
    show f (jmIt f (r + d) x) = _
    rw [jmIt_stay h d, h]
theorem jmIt_stop {f : Nat → Nat} {r x k : Nat} (h : f (jmIt f r x) = jmIt f r x) (hr : r ≤ k) : f (jmIt f r x) = jmIt f k x := by
  obtain ⟨d, rfl⟩ := Nat.exists_eq_add_of_le hr
  rw [jmIt_stay h d, h]
theorem jmIt_lt {f : Nat → Nat} {N x : Nat} (hx : x < N) (hf : ∀ y, y < N → f y < N) : ∀ k, jmIt f k x < N
  | 0 => hx
  | k + 1 => hf _ (jmIt_lt hx hf k)
/-- the web is well: at most 8 points and 16 lines, those that stand are lines, ends and costs are in range, a point's lines are those that have it -/
def jmWF (P n st : Nat) (sm gr co en la : Nat → Nat) : Prop :=
  P ≤ 8 ∧ n ≤ 16 ∧ st < 2 ^ n ∧ (∀ j, j < n → sm j < gr j ∧ gr j < P ∧ en j = 2 ^ sm j ||| 2 ^ gr j ∧ 1 ≤ co j ∧ co j ≤ 20) ∧ (∀ q, q < P → ∀ i, (la q).testBit i = true ↔ i < n ∧ (sm i = q ∨ gr i = q))
section WF
variable {P n st : Nat} {sm gr co en la : Nat → Nat}
theorem jmWF_st (h : jmWF P n st sm gr co en la) : st < 65536 := Nat.lt_of_lt_of_le h.2.2.1 (Nat.pow_le_pow_right (by decide) h.2.1)
theorem jmWF_gr (h : jmWF P n st sm gr co en la) : ∀ j, j < n → sm j < 8 ∧ gr j < 8 := fun j hj => by
  obtain ⟨h1, -, -, h4, -⟩ := h
  have := h4 j hj
  omega
theorem jmWF_co (h : jmWF P n st sm gr co en la) : ∀ j, j < n → co j < 21 := fun j hj => by
  have := (h.2.2.2.1 j hj).2.2.2.2
  omega
theorem jmWF_en (h : jmWF P n st sm gr co en la) : ∀ j, j < n → en j < 256 := fun j hj => by
  have hb := jmWF_gr h j hj
  rw [(h.2.2.2.1 j hj).2.2.1]
  exact Nat.or_lt_two_pow (n := 8) (jx_pow8 hb.1) (jx_pow8 hb.2)
theorem jm_lt_of_bits {x k : Nat} (h : ∀ i, x.testBit i = true → i < k) : x < 2 ^ k := by
  apply Nat.lt_pow_two_of_testBit
  intro i hi
  cases hb : x.testBit i
  · rfl
  · exact absurd (h i hb) (Nat.not_lt.mpr hi)
theorem jmWF_la (h : jmWF P n st sm gr co en la) : ∀ q, q < P → la q < 65536 := fun q hq => by
  refine jm_lt_of_bits (k := 16) (fun i hi => ?_)
  have := ((h.2.2.2.2 q hq i).mp hi).1
  have := h.2.1
  omega
end WF
/-- lines' ends met so far: k lines looked at, from M -/
def jmStep (en : Nat → Nat) (wi b : Nat) : Nat → Nat → Nat
  | 0, M => M
  | k + 1, M => if b.testBit k = true ∧ en k &&& jmStep en wi b k M ≠ 0 ∧ jxAN (en k) wi = 0 then jmStep en wi b k M ||| en k else jmStep en wi b k M
theorem jmStep_lt {en : Nat → Nat} {wi b : Nat} : ∀ {k : Nat} {M : Nat}, M < 256 → (∀ j, j < k → en j < 256) → jmStep en wi b k M < 256
  | 0, _, h, _ => h
  | k + 1, M, h, he => by
    have ih := jmStep_lt (wi := wi) (b := b) h (fun j hj => he j (Nat.lt_succ_of_lt hj))
    unfold jmStep
    split
    · exact Nat.or_lt_two_pow (n := 8) ih (he k (Nat.lt_succ_self k))
    · exact ih
/-- where one comes to from a point a, within wi, by the lines b, of n lines -/
def jmReach (en : Nat → Nat) (wi b n a : Nat) : Nat := jmIt (jmStep en wi b n) 8 (2 ^ a)
theorem jmReach_it_lt {en : Nat → Nat} {wi b n a : Nat} (ha : a < 8) (he : ∀ j, j < n → en j < 256) (k : Nat) : jmIt (jmStep en wi b n) k (2 ^ a) < 256 := jmIt_lt (jx_pow8 ha) (fun _ hy => jmStep_lt hy he) k
theorem jmReach_lt {en : Nat → Nat} {wi b n a : Nat} (ha : a < 8) (he : ∀ j, j < n → en j < 256) : jmReach en wi b n a < 256 := jmReach_it_lt ha he 8
/-- points linked with a point whose lines that stand are t, of k lines -/
def jmLW (en : Nat → Nat) (t : Nat) : Nat → Nat
  | 0 => 0
  | k + 1 => if t.testBit k = true then jmLW en t k ||| en k else jmLW en t k
theorem jmLW_lt {en : Nat → Nat} {t : Nat} : ∀ {k : Nat}, (∀ j, j < k → en j < 256) → jmLW en t k < 256
  | 0, _ => Nat.le_of_ble_eq_true rfl
  | k + 1, he => by
    have ih := jmLW_lt (t := t) (k := k) (fun j hj => he j (Nat.lt_succ_of_lt hj))
    unfold jmLW
    split
    · exact Nat.or_lt_two_pow (n := 8) ih (he k (Nat.lt_succ_self k))
    · exact ih
def jmLinked (en la : Nat → Nat) (st n q : Nat) : Nat := jxAN (jmLW en (la q &&& st) n) (2 ^ q)
theorem jmLinked_lt {en la : Nat → Nat} {st n q : Nat} (he : ∀ j, j < n → en j < 256) : jmLinked en la st n q < 256 := jxAN_lt (jmLW_lt he)
/-- parts of the points wi by the lines b: what is met, and how many, of k points -/
def jmCPm (en : Nat → Nat) (wi b n : Nat) : Nat → Nat
  | 0 => 0
  | k + 1 => if (jxAN wi (jmCPm en wi b n k)).testBit k = true then jmCPm en wi b n k ||| jmReach en wi b n k else jmCPm en wi b n k
def jmCPc (en : Nat → Nat) (wi b n : Nat) : Nat → Nat
  | 0 => 0
  | k + 1 => if (jxAN wi (jmCPm en wi b n k)).testBit k = true then jmCPc en wi b n k + 1 else jmCPc en wi b n k
theorem jmCPm_lt {en : Nat → Nat} {wi b n : Nat} (he : ∀ j, j < n → en j < 256) : ∀ {k : Nat}, k ≤ 8 → jmCPm en wi b n k < 256
  | 0, _ => Nat.le_of_ble_eq_true rfl
  | k + 1, hk => by
    have ih := jmCPm_lt (wi := wi) (b := b) he (k := k) (by omega)
    unfold jmCPm
    split
    · exact Nat.or_lt_two_pow (n := 8) ih (jmReach_lt (by omega) he)
    · exact ih
theorem jmCPc_le {en : Nat → Nat} {wi b n : Nat} : ∀ k, jmCPc en wi b n k ≤ k
  | 0 => Nat.le_refl 0
  | k + 1 => by
    have ih := jmCPc_le (en := en) (wi := wi) (b := b) (n := n) k
    unfold jmCPc
    split <;> omega
/-- all that some of a set are linked with, of k points -/
def jmLA (en la : Nat → Nat) (st n S : Nat) : Nat → Nat
  | 0 => 0
  | k + 1 => if S.testBit k = true then jmLA en la st n S k ||| jmLinked en la st n k else jmLA en la st n S k
theorem jmLA_lt {en la : Nat → Nat} {st n S : Nat} (he : ∀ j, j < n → en j < 256) : ∀ {k : Nat}, jmLA en la st n S k < 256
  | 0 => Nat.le_of_ble_eq_true rfl
  | k + 1 => by
    have ih := jmLA_lt (la := la) (st := st) (S := S) he (k := k)
    unfold jmLA
    split
    · exact Nat.or_lt_two_pow (n := 8) ih (jmLinked_lt he)
    · exact ih
/-- those within s lines of a -/
def jmWithin (en la : Nat → Nat) (P st n a : Nat) (s : Nat) : Nat := jmIt (fun M => M ||| jmLA en la st n M P) s (2 ^ a)
theorem jmWithin_lt {en la : Nat → Nat} {P st n a : Nat} (ha : a < 8) (he : ∀ j, j < n → en j < 256) (s : Nat) : jmWithin en la P st n a s < 256 := jmIt_lt (jx_pow8 ha) (fun _ hy => Nat.or_lt_two_pow (n := 8) hy (jmLA_lt he)) s
/-- the first s from s0 on, of k, at which o is met; -1, if none -/
def jmFirst (f : Nat → Nat) (o : Nat) : Nat → Nat → Int32
  | 0, _ => -1
  | k + 1, s => if (f s).testBit o = true then nI s else jmFirst f o k (s + 1)
def jmDist (en la : Nat → Nat) (P st n a o : Nat) : Int32 := jmFirst (jmWithin en la P st n a) o 8 0
def jmMax32 (x y : Int32) : Int32 := if x < y then y else x
/-- the greatest distance of a to a later one, of k later ones, from x on -/
def jmGDi (en la : Nat → Nat) (P st n a : Nat) (x : Int32) : Nat → Int32
  | 0 => x
  | k + 1 => jmMax32 (jmGDi en la P st n a x k) (jmDist en la P st n a (a + 1 + k))
def jmGD (en la : Nat → Nat) (P st n : Nat) : Nat → Int32
  | 0 => 0
  | k + 1 => jmGDi en la P st n k (jmGD en la P st n k) (P - (k + 1))
/-- the lines that go out of a set, of k points -/
def jmOut (la : Nat → Nat) (st S : Nat) : Nat → Nat
  | 0 => 0
  | k + 1 => if S.testBit k = true then jmOut la st S k ^^^ (la k &&& st) else jmOut la st S k
theorem jmOut_lt {la : Nat → Nat} {st S : Nat} (hs : st < 65536) : ∀ {k : Nat}, jmOut la st S k < 65536
  | 0 => Nat.le_of_ble_eq_true rfl
  | k + 1 => by
    have ih := jmOut_lt (la := la) (S := S) hs (k := k)
    unfold jmOut
    split
    · exact Nat.xor_lt_two_pow (n := 16) ih (Nat.lt_of_le_of_lt Nat.and_le_right hs)
    · exact ih
/-- the web's cells -/
abbrev jW (cI : ClassId) (g : Nat → Nat) (P n st : Nat) (sm gr co en la : Nat → Nat) : va_W := [(g 0, .inr (5, [.int (nI P), .int (nI n), .int (nI st), .ref (g 1), .ref (g 2), .ref (g 3), .ref (g 4), .ref (g 5)])), (g 1, .inl (cI, 16, .inl (fun j => nI (sm j)))), (g 2, .inl (cI, 16, .inl (fun j => nI (gr j)))), (g 3, .inl (cI, 16, .inl (fun j => nI (co j)))), (g 4, .inl (cI, 16, .inl (fun j => nI (en j)))), (g 5, .inl (cI, 8, .inl (fun j => nI (la j))))]
end
section
set_option maxHeartbeats 4000000 in
set_option maxRecDepth 100000 in
/-- has(set, number): the bit -/
theorem c_X6_has (l : Launch) (D : va_G)  (a k : Nat) (ha : a < 2 ^ 31) (hk : k < 32) : jxRO l yX6_has wsX6_has ({ frames := 0, cells := 0, slots := 0, locals := 0 } : Room) D [] [] [.int (nI a), .int (nI k)] (fun r => r = nI (jB (a.testBit k))) := by
  refine jx_enterZ (by decide) rfl (Nat.le_of_ble_eq_true rfl) ?_
  intro p e s m args below meth c Q ls hx hb hml hts hown hN hP hK hl hQ
  have hown : s.vm.findClass RX6 = some m.cls := hown
  have hl : lv_has ls 2 [(0, .int (nI a)), (1, .int (nI k))] := hl
  refine lv_iload_n hx hb dX6_has_0 rfl (lv_at hl 0 rfl) ?_
  refine lv_iload_n hx hb dX6_has_1 rfl (lv_at hl 1 rfl) ?_
  refine lv_ishr hx hb dX6_has_2 ?_
  refine jx_val (jx_shr (by omega) (by omega)) ?_
  refine lv_iconst (v := nI 1) hx hb dX6_has_3 (by decide) ?_
  refine lv_iand hx hb dX6_has_4 ?_
  refine jx_val (jx_b1 _ _) ?_
  refine lv_if_eq (tgt := 12) hx hb dX6_has_5 (by decide) (fun c5 => ?_) (fun c5 => ?_)
  · have c5 := jB_0 c5
    refine lv_iconst (v := nI 0) hx hb dX6_has_12 (by decide) ?_
    exact hQ false _ _ dX6_has_13 (by rw [c5])
  · have c5 := jB_1 c5
    refine lv_iconst (v := nI 1) hx hb dX6_has_8 (by decide) ?_
    refine lv_goto (tgt := 13) hx hb dX6_has_9 (by decide) ?_
    exact hQ true _ _ dX6_has_13 (by rw [c5])
set_option maxRecDepth 20000 in
theorem in_X5_allPoints_5 : ∀ w ∈ wsX50, w ∈ wsX5_allPoints := by decide +kernel
set_option maxHeartbeats 4000000 in
set_option maxRecDepth 100000 in
/-- allPoints(): the set of all points -/
theorem c_X5_allPoints (l : Launch) (D : va_G) (cI : ClassId) (g : Nat → Nat) (P n st : Nat) (sm gr co en la : Nat → Nat) (hw : jmWF P n st sm gr co en la)  : jxRO l yX5_allPoints wsX5_allPoints ({ frames := 0, cells := 0, slots := 0, locals := 0 } : Room) D [(cI, .int)] (jW cI g P n st sm gr co en la) [.ref (g 0)] (fun r => r = nI (2 ^ P - 1)) := by
  refine jx_enter (by decide) rfl (Nat.le_of_ble_eq_true rfl) ?_
  intro p e s m args below meth c Q ls hx hb hml hts hown hN hP hK hl hQ
  have hown : s.vm.findClass RX5 = some m.cls := hown
  have hl : lv_has ls 1 [(0, .ref (g 0))] := hl
  have hP8 : P ≤ 8 := hw.1
  have hn16 : n ≤ 16 := hw.2.1
  have hst : st < 65536 := jmWF_st hw
  have hen : ∀ j, j < n → en j < 256 := jmWF_en hw
  have hla : ∀ q, q < P → la q < 65536 := jmWF_la hw
  have hgr : ∀ j, j < n → sm j < 8 ∧ gr j < 8 := jmWF_gr hw
  have hco : ∀ j, j < n → co j < 21 := jmWF_co hw
  refine lv_iconst (v := nI 1) hx hb dX5_allPoints_0 (by decide) ?_
  refine lv_aload_n hx hb dX5_allPoints_1 rfl (lv_at hl 0 rfl) ?_
  refine va_get (D := D) (ci := 5) (v := .int (nI P)) (C := RX5) (T := TX5) (N := 8) hx hb hts in_X5_allPoints_5 hown hK hP 0 rfl rfl 0 (by decide) (hts (.fieldLink RX5 9 "Twincuts$Web" "points" "I") (List.mem_of_getElem? (i := 1) (by decide +kernel))) (fun _ h9 => h9) rfl dX5_allPoints_2 ?_
  refine lv_ishl hx hb dX5_allPoints_5 ?_
  refine jx_val (jx_1shl (by omega)) ?_
  refine lv_iconst (v := nI 1) hx hb dX5_allPoints_6 (by decide) ?_
  refine lv_isub hx hb dX5_allPoints_7 ?_
  refine jx_val (pk_sub Nat.one_le_two_pow) ?_
  exact hQ (nI ((2 ^ P) - 1)) _ _ dX5_allPoints_8 rfl
set_option maxRecDepth 20000 in
theorem in_X5_standingAt_5 : ∀ w ∈ wsX50, w ∈ wsX5_standingAt := by decide +kernel
set_option maxHeartbeats 4000000 in
set_option maxRecDepth 100000 in
/-- standingAt(point): its lines that stand -/
theorem c_X5_standingAt (l : Launch) (D : va_G) (cI : ClassId) (g : Nat → Nat) (P n st : Nat) (sm gr co en la : Nat → Nat) (hw : jmWF P n st sm gr co en la) (q : Nat) (hq : q < P) : jxRO l yX5_standingAt wsX5_standingAt ({ frames := 0, cells := 0, slots := 0, locals := 0 } : Room) D [(cI, .int)] (jW cI g P n st sm gr co en la) [.ref (g 0), .int (nI q)] (fun r => r = nI (la q &&& st)) := by
  refine jx_enter (by decide) rfl (Nat.le_of_ble_eq_true rfl) ?_
  intro p e s m args below meth c Q ls hx hb hml hts hown hN hP hK hl hQ
  have hown : s.vm.findClass RX5 = some m.cls := hown
  have hl : lv_has ls 2 [(0, .ref (g 0)), (1, .int (nI q))] := hl
  have hP8 : P ≤ 8 := hw.1
  have hn16 : n ≤ 16 := hw.2.1
  have hst : st < 65536 := jmWF_st hw
  have hen : ∀ j, j < n → en j < 256 := jmWF_en hw
  have hla : ∀ q, q < P → la q < 65536 := jmWF_la hw
  have hgr : ∀ j, j < n → sm j < 8 ∧ gr j < 8 := jmWF_gr hw
  have hco : ∀ j, j < n → co j < 21 := jmWF_co hw
  refine lv_aload_n hx hb dX5_standingAt_0 rfl (lv_at hl 0 rfl) ?_
  refine va_get (D := D) (ci := 5) (v := .ref (g 5)) (C := RX5) (T := TX5) (N := 8) hx hb hts in_X5_standingAt_5 hown hK hP 0 rfl rfl 7 (by decide) (hts (.fieldLink RX5 34 "Twincuts$Web" "linesAt" "[I") (List.mem_of_getElem? (i := 1) (by decide +kernel))) (fun _ h9 => h9) rfl dX5_standingAt_1 ?_
  refine lv_iload_n hx hb dX5_standingAt_4 rfl (lv_at hl 1 rfl) ?_
  refine jx_iald hx hb hK hP 5 0 rfl rfl (by omega) (by decide) dX5_standingAt_5 ?_
  refine lv_aload_n hx hb dX5_standingAt_6 rfl (lv_at hl 0 rfl) ?_
  refine va_get (D := D) (ci := 5) (v := .int (nI st)) (C := RX5) (T := TX5) (N := 8) hx hb hts in_X5_standingAt_5 hown hK hP 0 rfl rfl 2 (by decide) (hts (.fieldLink RX5 18 "Twincuts$Web" "standing" "I") (List.mem_of_getElem? (i := 2) (by decide +kernel))) (fun _ h9 => h9) rfl dX5_standingAt_7 ?_
  refine lv_iand hx hb dX5_standingAt_10 ?_
  refine jx_val (fa_and _ _) ?_
  exact hQ (nI ((la q) &&& st)) _ _ dX5_standingAt_11 rfl
set_option maxRecDepth 20000 in
theorem in_X5_otherEnd_5 : ∀ w ∈ wsX50, w ∈ wsX5_otherEnd := by decide +kernel
set_option maxHeartbeats 4000000 in
set_option maxRecDepth 100000 in
/-- otherEnd(line, point) -/
theorem c_X5_otherEnd (l : Launch) (D : va_G) (cI : ClassId) (g : Nat → Nat) (P n st : Nat) (sm gr co en la : Nat → Nat) (hw : jmWF P n st sm gr co en la) (i q : Nat) (hi : i < n) (hq : q < 8) : jxRO l yX5_otherEnd wsX5_otherEnd ({ frames := 0, cells := 0, slots := 0, locals := 0 } : Room) D [(cI, .int)] (jW cI g P n st sm gr co en la) [.ref (g 0), .int (nI i), .int (nI q)] (fun r => r = nI (if sm i = q then gr i else sm i)) := by
  refine jx_enter (by decide) rfl (Nat.le_of_ble_eq_true rfl) ?_
  intro p e s m args below meth c Q ls hx hb hml hts hown hN hP hK hl hQ
  have hown : s.vm.findClass RX5 = some m.cls := hown
  have hl : lv_has ls 3 [(0, .ref (g 0)), (1, .int (nI i)), (2, .int (nI q))] := hl
  have hP8 : P ≤ 8 := hw.1
  have hn16 : n ≤ 16 := hw.2.1
  have hst : st < 65536 := jmWF_st hw
  have hen : ∀ j, j < n → en j < 256 := jmWF_en hw
  have hla : ∀ q, q < P → la q < 65536 := jmWF_la hw
  have hgr : ∀ j, j < n → sm j < 8 ∧ gr j < 8 := jmWF_gr hw
  have hco : ∀ j, j < n → co j < 21 := jmWF_co hw
  refine lv_aload_n hx hb dX5_otherEnd_0 rfl (lv_at hl 0 rfl) ?_
  refine va_get (D := D) (ci := 5) (v := .ref (g 1)) (C := RX5) (T := TX5) (N := 8) hx hb hts in_X5_otherEnd_5 hown hK hP 0 rfl rfl 3 (by decide) (hts (.fieldLink RX5 21 "Twincuts$Web" "smaller" "[I") (List.mem_of_getElem? (i := 1) (by decide +kernel))) (fun _ h9 => h9) rfl dX5_otherEnd_1 ?_
  refine lv_iload_n hx hb dX5_otherEnd_4 rfl (lv_at hl 1 rfl) ?_
  refine jx_iald hx hb hK hP 1 0 rfl rfl (by omega) (by decide) dX5_otherEnd_5 ?_
  refine lv_iload_n hx hb dX5_otherEnd_6 rfl (lv_at hl 2 rfl) ?_
  refine lv_icmp_ne (tgt := 19) hx hb dX5_otherEnd_7 (by decide) (fun c7 => ?_) (fun c7 => ?_)
  · have c7 : sm i ≠ q := jx_ne c7
    refine lv_aload_n hx hb dX5_otherEnd_19 rfl (lv_at hl 0 rfl) ?_
    refine va_get (D := D) (ci := 5) (v := .ref (g 1)) (C := RX5) (T := TX5) (N := 8) hx hb hts in_X5_otherEnd_5 hown hK hP 0 rfl rfl 3 (by decide) (hts (.fieldLink RX5 21 "Twincuts$Web" "smaller" "[I") (List.mem_of_getElem? (i := 1) (by decide +kernel))) (fun _ h9 => h9) rfl dX5_otherEnd_20 ?_
    refine lv_iload_n hx hb dX5_otherEnd_23 rfl (lv_at hl 1 rfl) ?_
    refine jx_iald hx hb hK hP 1 0 rfl rfl (by omega) (by decide) dX5_otherEnd_24 ?_
    exact hQ (nI (sm i)) _ _ dX5_otherEnd_25 (by rw [if_neg c7])
  · have c7 : sm i = q := jx_e (by have := hgr i (by omega); omega) (by omega) c7
    refine lv_aload_n hx hb dX5_otherEnd_10 rfl (lv_at hl 0 rfl) ?_
    refine va_get (D := D) (ci := 5) (v := .ref (g 2)) (C := RX5) (T := TX5) (N := 8) hx hb hts in_X5_otherEnd_5 hown hK hP 0 rfl rfl 4 (by decide) (hts (.fieldLink RX5 25 "Twincuts$Web" "greater" "[I") (List.mem_of_getElem? (i := 2) (by decide +kernel))) (fun _ h9 => h9) rfl dX5_otherEnd_11 ?_
    refine lv_iload_n hx hb dX5_otherEnd_14 rfl (lv_at hl 1 rfl) ?_
    refine jx_iald hx hb hK hP 2 0 rfl rfl (by omega) (by decide) dX5_otherEnd_15 ?_
    refine lv_goto (tgt := 25) hx hb dX5_otherEnd_16 (by decide) ?_
    exact hQ (nI (gr i)) _ _ dX5_otherEnd_25 (by rw [if_pos c7])
set_option maxRecDepth 20000 in
theorem in_X5_linkedWith_5 : ∀ w ∈ wsX50, w ∈ wsX5_linkedWith := by decide +kernel
set_option maxHeartbeats 4000000 in
set_option maxRecDepth 100000 in
/-- linkedWith(point): the points linked with it -/
theorem c_X5_linkedWith (l : Launch) (D : va_G) (cI : ClassId) (g : Nat → Nat) (P n st : Nat) (sm gr co en la : Nat → Nat) (hw : jmWF P n st sm gr co en la) (q : Nat) (hq : q < P) : jxRO l yX5_linkedWith wsX5_linkedWith ({ frames := 1, cells := 0, slots := 0, locals := 21 } : Room) D [(cI, .int)] (jW cI g P n st sm gr co en la) [.ref (g 0), .int (nI q)] (fun r => r = nI (jmLinked en la st n q)) := by
  refine jx_enter (by decide) rfl (Nat.le_of_ble_eq_true rfl) ?_
  intro p e s m args below meth c Q ls hx hb hml hts hown hN hP hK hl hQ
  have hown : s.vm.findClass RX5 = some m.cls := hown
  have hl : lv_has ls 4 [(0, .ref (g 0)), (1, .int (nI q))] := hl
  have hP8 : P ≤ 8 := hw.1
  have hn16 : n ≤ 16 := hw.2.1
  have hst : st < 65536 := jmWF_st hw
  have hen : ∀ j, j < n → en j < 256 := jmWF_en hw
  have hla : ∀ q, q < P → la q < 65536 := jmWF_la hw
  have hgr : ∀ j, j < n → sm j < 8 ∧ gr j < 8 := jmWF_gr hw
  have hco : ∀ j, j < n → co j < 21 := jmWF_co hw
  refine lv_iconst (v := nI 0) hx hb dX5_linkedWith_0 (by decide) ?_
  refine lv_istore_n (lv' := [(2, .int (nI 0)), (0, .ref (g 0)), (1, .int (nI q))]) hx hb dX5_linkedWith_1 rfl hl (by decide) rfl (fun ls hl => ?_)
  refine lv_iconst (v := nI 0) hx hb dX5_linkedWith_2 (by decide) ?_
  refine lv_istore_n (lv' := [(3, .int (nI 0)), (2, .int (nI 0)), (0, .ref (g 0)), (1, .int (nI q))]) hx hb dX5_linkedWith_3 rfl hl (by decide) rfl (fun ls hl => ?_)
  have L4 : ∀ (k : Nat) (ln : Nat) (hln : ln ≤ n), n - ln < k → ∀ ls : Array Slot, lv_has ls 4 [(0, .ref (g 0)), (1, .int (nI q)), (2, .int (nI (jmLW en (la q &&& st) ln))), (3, .int (nI ln))] → W p l e ({ frames := 1, cells := 0, slots := 0, locals := 21 } : Room) s m args below meth c s.heap [] 0 0 Q (F0 m 4 ls []) := by
    intro k
    induction k with
    | zero => intro ln hln hk; exact absurd hk (Nat.not_lt_zero _)
    | succ k ih4 =>
      intro ln hln hk ls hl
      refine lv_iload_n hx hb dX5_linkedWith_4 rfl (lv_at hl 3 rfl) ?_
      refine lv_aload_n hx hb dX5_linkedWith_5 rfl (lv_at hl 0 rfl) ?_
      refine va_get (D := D) (ci := 5) (v := .int (nI n)) (C := RX5) (T := TX5) (N := 8) hx hb hts in_X5_linkedWith_5 hown hK hP 0 rfl rfl 1 (by decide) (hts (.fieldLink RX5 15 "Twincuts$Web" "lines" "I") (List.mem_of_getElem? (i := 1) (by decide +kernel))) (fun _ h9 => h9) rfl dX5_linkedWith_6 ?_
      refine lv_icmp_ge (tgt := 45) hx hb dX5_linkedWith_9 (by decide) (fun c9 => ?_) (fun c9 => ?_)
      · have c9 : n ≤ ln := jx_le (by omega) (by omega) c9
        refine lv_iload_n hx hb dX5_linkedWith_45 rfl (lv_at hl 2 rfl) ?_
        have es_46 : n = ln := (by omega)
        subst es_46
        refine lv_iconst (v := nI 1) hx hb dX5_linkedWith_46 (by decide) ?_
        refine lv_iload_n hx hb dX5_linkedWith_47 rfl (lv_at hl 1 rfl) ?_
        refine lv_ishl hx hb dX5_linkedWith_48 ?_
        refine jx_val (jx_1shl (by omega)) ?_
        refine lv_iconst (v := (-1)) hx hb dX5_linkedWith_49 (by decide) ?_
        refine lv_ixor hx hb dX5_linkedWith_50 ?_
        refine lv_iand hx hb dX5_linkedWith_51 ?_
        refine jx_val (jx_not _ _) ?_
        exact hQ (nI (jxAN (jmLW en (la q &&& st) n) (2 ^ q))) _ _ dX5_linkedWith_52 rfl
      · have c9 : ln < n := jx_nle (by omega) (by omega) c9
        refine lv_aload_n hx hb dX5_linkedWith_12 rfl (lv_at hl 0 rfl) ?_
        refine va_get (D := D) (ci := 5) (v := .ref (g 5)) (C := RX5) (T := TX5) (N := 8) hx hb hts in_X5_linkedWith_5 hown hK hP 0 rfl rfl 7 (by decide) (hts (.fieldLink RX5 34 "Twincuts$Web" "linesAt" "[I") (List.mem_of_getElem? (i := 2) (by decide +kernel))) (fun _ h9 => h9) rfl dX5_linkedWith_13 ?_
        refine lv_iload_n hx hb dX5_linkedWith_16 rfl (lv_at hl 1 rfl) ?_
        refine jx_iald hx hb hK hP 5 0 rfl rfl (by omega) (by decide) dX5_linkedWith_17 ?_
        refine lv_aload_n hx hb dX5_linkedWith_18 rfl (lv_at hl 0 rfl) ?_
        refine va_get (D := D) (ci := 5) (v := .int (nI st)) (C := RX5) (T := TX5) (N := 8) hx hb hts in_X5_linkedWith_5 hown hK hP 0 rfl rfl 2 (by decide) (hts (.fieldLink RX5 18 "Twincuts$Web" "standing" "I") (List.mem_of_getElem? (i := 3) (by decide +kernel))) (fun _ h9 => h9) rfl dX5_linkedWith_19 ?_
        refine lv_iand hx hb dX5_linkedWith_22 ?_
        refine jx_val (fa_and _ _) ?_
        refine lv_iload_n hx hb dX5_linkedWith_23 rfl (lv_at hl 3 rfl) ?_
        refine jx_callSN (As := [.int (nI ((la q) &&& st)), .int (nI ln)]) (rest := []) ⟨hx, hb, hml, hown, hts⟩ (c_X6_has l D ((la q) &&& st) ln (Nat.lt_of_le_of_lt Nat.and_le_left (by have := hla q (by omega); omega)) (by omega)) (va_cnB 2 hts gX5_linkedWith_X6_has_n37 rfl rfl rfl (hN.get 40 rfl) (hts (.initialized RX6) (List.mem_of_getElem? (i := 6) (by decide +kernel))) (by decide +kernel) ⟨Nat.le_of_ble_eq_true rfl, Nat.le_of_ble_eq_true rfl⟩) (hts (.static yX6_has) (List.mem_of_getElem? (i := 5) (by decide +kernel))) hN (hP.sub (ws' := []) [] rfl) (hK.sub (tys' := []) [] rfl) rfl hl.1 rfl (Nat.le_of_ble_eq_true rfl) dX5_linkedWith_24 ⟨Nat.zero_le _, Nat.zero_le _⟩ (fun r hr => ?_)
        subst hr
        refine lv_if_eq (tgt := 39) hx hb dX5_linkedWith_27 (by decide) (fun c27 => ?_) (fun c27 => ?_)
        · have c27 := jB_0 c27
          refine lv_iinc (v := nI (ln + 1)) (lv' := [(3, .int (nI (ln + 1))), (0, .ref (g 0)), (1, .int (nI q)), (2, .int (nI (jmLW en (la q &&& st) ln)))]) hx hb dX5_linkedWith_39 hl (k := 3) rfl (jx_inc _) (by decide) rfl (fun ls hl => ?_)
          refine lv_goto (tgt := 4) hx hb dX5_linkedWith_42 (by decide) ?_
          have ev_1 : jmLW en (la q &&& st) ln = jmLW en (la q &&& st) (ln + 1) := by first | rfl | (simp [jmLW, c9, c27]; done)
          exact ih4 (ln + 1) (by omega) (by omega) ls (by rw [← ev_1]; exact lv_sub hl [1, 2, 3, 0] rfl)
        · have c27 := jB_1 c27
          refine lv_iload_n hx hb dX5_linkedWith_30 rfl (lv_at hl 2 rfl) ?_
          refine lv_aload_n hx hb dX5_linkedWith_31 rfl (lv_at hl 0 rfl) ?_
          refine va_get (D := D) (ci := 5) (v := .ref (g 4)) (C := RX5) (T := TX5) (N := 8) hx hb hts in_X5_linkedWith_5 hown hK hP 0 rfl rfl 6 (by decide) (hts (.fieldLink RX5 31 "Twincuts$Web" "ends" "[I") (List.mem_of_getElem? (i := 4) (by decide +kernel))) (fun _ h9 => h9) rfl dX5_linkedWith_32 ?_
          refine lv_iload_n hx hb dX5_linkedWith_35 rfl (lv_at hl 3 rfl) ?_
          refine jx_iald hx hb hK hP 4 0 rfl rfl (by omega) (by decide) dX5_linkedWith_36 ?_
          refine lv_ior hx hb dX5_linkedWith_37 ?_
          refine jx_val (fa_or _ _) ?_
          refine lv_istore_n (lv' := [(2, .int (nI ((jmLW en (la q &&& st) ln) ||| (en ln)))), (0, .ref (g 0)), (1, .int (nI q)), (3, .int (nI ln))]) hx hb dX5_linkedWith_38 rfl hl (by decide) rfl (fun ls hl => ?_)
          refine lv_iinc (v := nI (ln + 1)) (lv' := [(3, .int (nI (ln + 1))), (2, .int (nI ((jmLW en (la q &&& st) ln) ||| (en ln)))), (0, .ref (g 0)), (1, .int (nI q))]) hx hb dX5_linkedWith_39 hl (k := 3) rfl (jx_inc _) (by decide) rfl (fun ls hl => ?_)
          refine lv_goto (tgt := 4) hx hb dX5_linkedWith_42 (by decide) ?_
          have ev_2 : (jmLW en (la q &&& st) ln) ||| (en ln) = jmLW en (la q &&& st) (ln + 1) := by first | rfl | (simp [jmLW, c9, c27]; done)
          exact ih4 (ln + 1) (by omega) (by omega) ls (by rw [← ev_2]; exact lv_sub hl [2, 3, 1, 0] rfl)
  have ev_3 : 0 = jmLW en (la q &&& st) 0 := by first | rfl | (simp [jmLW, if_true]; done)
  exact L4 ((n - 0) + 1) 0 (by omega) (Nat.lt_succ_self _) ls (by rw [← ev_3]; exact lv_sub hl [2, 3, 1, 0] rfl)
set_option maxRecDepth 20000 in
theorem in_X5_reach_5 : ∀ w ∈ wsX50, w ∈ wsX5_reach := by decide +kernel
set_option maxHeartbeats 4000000 in
set_option maxRecDepth 100000 in
/-- reach(start, within, by) -/
theorem c_X5_reach (l : Launch) (D : va_G) (cI : ClassId) (g : Nat → Nat) (P n st : Nat) (sm gr co en la : Nat → Nat) (hw : jmWF P n st sm gr co en la) (a wi b : Nat) (ha : a < 8) (hwi : wi < 65536) (hb16 : b < 65536) : jxRO l yX5_reach wsX5_reach ({ frames := 0, cells := 0, slots := 0, locals := 0 } : Room) D [(cI, .int)] (jW cI g P n st sm gr co en la) [.ref (g 0), .int (nI a), .int (nI wi), .int (nI b)] (fun r => r = nI (jmReach en wi b n a)) := by
  refine jx_enter (by decide) rfl (Nat.le_of_ble_eq_true rfl) ?_
  intro p e s m args below meth c Q ls hx hb hml hts hown hN hP hK hl hQ
  have hown : s.vm.findClass RX5 = some m.cls := hown
  have hl : lv_has ls 9 [(0, .ref (g 0)), (1, .int (nI a)), (2, .int (nI wi)), (3, .int (nI b))] := hl
  have hP8 : P ≤ 8 := hw.1
  have hn16 : n ≤ 16 := hw.2.1
  have hst : st < 65536 := jmWF_st hw
  have hen : ∀ j, j < n → en j < 256 := jmWF_en hw
  have hla : ∀ q, q < P → la q < 65536 := jmWF_la hw
  have hgr : ∀ j, j < n → sm j < 8 ∧ gr j < 8 := jmWF_gr hw
  have hco : ∀ j, j < n → co j < 21 := jmWF_co hw
  refine lv_iconst (v := nI 1) hx hb dX5_reach_0 (by decide) ?_
  refine lv_iload_n hx hb dX5_reach_1 rfl (lv_at hl 1 rfl) ?_
  refine lv_ishl hx hb dX5_reach_2 ?_
  refine jx_val (jx_1shl (by omega)) ?_
  refine lv_istore (lv' := [(4, .int (nI (2 ^ a))), (0, .ref (g 0)), (1, .int (nI a)), (2, .int (nI wi)), (3, .int (nI b))]) hx hb dX5_reach_3 hl (by decide) rfl (fun ls hl => ?_)
  refine lv_iconst (v := nI 0) hx hb dX5_reach_5 (by decide) ?_
  refine lv_istore (lv' := [(5, .int (nI 0)), (4, .int (nI (2 ^ a))), (0, .ref (g 0)), (1, .int (nI a)), (2, .int (nI wi)), (3, .int (nI b))]) hx hb dX5_reach_6 hl (by decide) rfl (fun ls hl => ?_)
  have L8 : ∀ (k : Nat) (rd : Nat) (hrd : rd ≤ 8), 8 - rd < k → ∀ ls : Array Slot, lv_has ls 9 [(0, .ref (g 0)), (1, .int (nI a)), (2, .int (nI wi)), (3, .int (nI b)), (4, .int (nI (jmIt (jmStep en wi b n) rd (2 ^ a)))), (5, .int (nI rd))] → W p l e ({ frames := 0, cells := 0, slots := 0, locals := 0 } : Room) s m args below meth c s.heap [] 0 0 Q (F0 m 8 ls []) := by
    intro k
    induction k with
    | zero => intro rd hrd hk; exact absurd hk (Nat.not_lt_zero _)
    | succ k ih8 =>
      intro rd hrd hk ls hl
      have hM := jmReach_it_lt (wi := wi) (b := b) ha hen rd
      refine lv_iload hx hb dX5_reach_8 (lv_at hl 5 rfl) ?_
      refine lv_bipush (v := nI 8) hx hb dX5_reach_10 (by decide) ?_
      refine lv_icmp_ge (tgt := 113) hx hb dX5_reach_12 (by decide) (fun c12 => ?_) (fun c12 => ?_)
      · have c12 : 8 ≤ rd := jx_le (by decide) (by omega) c12
        refine lv_iload hx hb dX5_reach_113 (lv_at hl 4 rfl) ?_
        exact hQ (nI (jmIt (jmStep en wi b n) rd (2 ^ a))) _ _ dX5_reach_115 (by rw [show rd = 8 by omega]; rfl)
      · have c12 : rd < 8 := jx_nle (by decide) (by omega) c12
        refine lv_iload hx hb dX5_reach_15 (lv_at hl 4 rfl) ?_
        refine lv_istore (lv' := [(6, .int (nI (jmIt (jmStep en wi b n) rd (2 ^ a)))), (0, .ref (g 0)), (1, .int (nI a)), (2, .int (nI wi)), (3, .int (nI b)), (4, .int (nI (jmIt (jmStep en wi b n) rd (2 ^ a)))), (5, .int (nI rd))]) hx hb dX5_reach_17 hl (by decide) rfl (fun ls hl => ?_)
        refine lv_iconst (v := nI 0) hx hb dX5_reach_19 (by decide) ?_
        refine lv_istore (lv' := [(7, .int (nI 0)), (6, .int (nI (jmIt (jmStep en wi b n) rd (2 ^ a)))), (0, .ref (g 0)), (1, .int (nI a)), (2, .int (nI wi)), (3, .int (nI b)), (4, .int (nI (jmIt (jmStep en wi b n) rd (2 ^ a)))), (5, .int (nI rd))]) hx hb dX5_reach_20 hl (by decide) rfl (fun ls hl => ?_)
        have L22 : ∀ (k : Nat) (ln : Nat) (hln : ln ≤ n), n - ln < k → ∀ ls : Array Slot, lv_has ls 9 [(0, .ref (g 0)), (1, .int (nI a)), (2, .int (nI wi)), (3, .int (nI b)), (4, .int (nI (jmStep en wi b ln (jmIt (jmStep en wi b n) rd (2 ^ a))))), (5, .int (nI rd)), (6, .int (nI (jmIt (jmStep en wi b n) rd (2 ^ a)))), (7, .int (nI ln))] → W p l e ({ frames := 0, cells := 0, slots := 0, locals := 0 } : Room) s m args below meth c s.heap [] 0 0 Q (F0 m 22 ls []) := by
          intro k
          induction k with
          | zero => intro ln hln hk; exact absurd hk (Nat.not_lt_zero _)
          | succ k ih22 =>
            intro ln hln hk ls hl
            have hM2 := jmStep_lt (wi := wi) (b := b) (k := ln) hM (fun j hj => hen j (by omega))
            refine lv_iload hx hb dX5_reach_22 (lv_at hl 7 rfl) ?_
            refine lv_aload_n hx hb dX5_reach_24 rfl (lv_at hl 0 rfl) ?_
            refine va_get (D := D) (ci := 5) (v := .int (nI n)) (C := RX5) (T := TX5) (N := 8) hx hb hts in_X5_reach_5 hown hK hP 0 rfl rfl 1 (by decide) (hts (.fieldLink RX5 15 "Twincuts$Web" "lines" "I") (List.mem_of_getElem? (i := 1) (by decide +kernel))) (fun _ h9 => h9) rfl dX5_reach_25 ?_
            refine lv_icmp_ge (tgt := 97) hx hb dX5_reach_28 (by decide) (fun c28 => ?_) (fun c28 => ?_)
            · have c28 : n ≤ ln := jx_le (by omega) (by omega) c28
              have es_97 : n = ln := (by omega)
              subst es_97
              refine lv_iload hx hb dX5_reach_97 (lv_at hl 4 rfl) ?_
              refine lv_iload hx hb dX5_reach_99 (lv_at hl 6 rfl) ?_
              refine lv_icmp_ne (tgt := 107) hx hb dX5_reach_101 (by decide) (fun c101 => ?_) (fun c101 => ?_)
              · have c101 : jmStep en wi b n (jmIt (jmStep en wi b n) rd (2 ^ a)) ≠ jmIt (jmStep en wi b n) rd (2 ^ a) := jx_ne c101
                refine lv_iinc (v := nI (rd + 1)) (lv' := [(5, .int (nI (rd + 1))), (0, .ref (g 0)), (1, .int (nI a)), (2, .int (nI wi)), (3, .int (nI b)), (4, .int (nI (jmStep en wi b n (jmIt (jmStep en wi b n) rd (2 ^ a))))), (6, .int (nI (jmIt (jmStep en wi b n) rd (2 ^ a)))), (7, .int (nI n))]) hx hb dX5_reach_107 hl (k := 5) rfl (jx_inc _) (by decide) rfl (fun ls hl => ?_)
                refine lv_goto (tgt := 8) hx hb dX5_reach_110 (by decide) ?_
                have ev_1 : jmStep en wi b n (jmIt (jmStep en wi b n) rd (2 ^ a)) = jmIt (jmStep en wi b n) (rd + 1) (2 ^ a) := by first | rfl | (simp [*]; done)
                exact ih8 (rd + 1) (by omega) (by omega) ls (by rw [← ev_1]; exact lv_sub hl [1, 2, 3, 4, 5, 0] rfl)
              · have c101 : jmStep en wi b n (jmIt (jmStep en wi b n) rd (2 ^ a)) = jmIt (jmStep en wi b n) rd (2 ^ a) := jx_e (by omega) (by omega) c101
                refine lv_iload hx hb dX5_reach_104 (lv_at hl 4 rfl) ?_
                exact hQ (nI (jmStep en wi b n (jmIt (jmStep en wi b n) rd (2 ^ a)))) _ _ dX5_reach_106 (congrArg nI (jmIt_stop c101 (by omega)))
            · have c28 : ln < n := jx_nle (by omega) (by omega) c28
              refine lv_iload_n hx hb dX5_reach_31 rfl (lv_at hl 3 rfl) ?_
              refine lv_iload hx hb dX5_reach_32 (lv_at hl 7 rfl) ?_
              refine lv_ishr hx hb dX5_reach_34 ?_
              refine jx_val (jx_shr (by omega) (by omega)) ?_
              refine lv_iconst (v := nI 1) hx hb dX5_reach_35 (by decide) ?_
              refine lv_iand hx hb dX5_reach_36 ?_
              refine jx_val (jx_b1 _ _) ?_
              refine lv_if_eq (tgt := 57) hx hb dX5_reach_37 (by decide) (fun c37 => ?_) (fun c37 => ?_)
              · have c37 := jB_0 c37
                refine lv_iconst (v := nI 0) hx hb dX5_reach_57 (by decide) ?_
                refine lv_istore (lv' := [(8, .int (nI 0)), (0, .ref (g 0)), (1, .int (nI a)), (2, .int (nI wi)), (3, .int (nI b)), (4, .int (nI (jmStep en wi b ln (jmIt (jmStep en wi b n) rd (2 ^ a))))), (5, .int (nI rd)), (6, .int (nI (jmIt (jmStep en wi b n) rd (2 ^ a)))), (7, .int (nI ln))]) hx hb dX5_reach_58 hl (by decide) rfl (fun ls hl => ?_)
                refine lv_iload hx hb dX5_reach_60 (lv_at hl 0 rfl) ?_
                refine lv_if_eq (tgt := 91) hx hb dX5_reach_62 (by decide) (fun _ => ?_) (fun c => absurd c (by decide))
                refine lv_iinc (v := nI (ln + 1)) (lv' := [(7, .int (nI (ln + 1))), (8, .int (nI 0)), (0, .ref (g 0)), (1, .int (nI a)), (2, .int (nI wi)), (3, .int (nI b)), (4, .int (nI (jmStep en wi b ln (jmIt (jmStep en wi b n) rd (2 ^ a))))), (5, .int (nI rd)), (6, .int (nI (jmIt (jmStep en wi b n) rd (2 ^ a))))]) hx hb dX5_reach_91 hl (k := 8) rfl (jx_inc _) (by decide) rfl (fun ls hl => ?_)
                refine lv_goto (tgt := 22) hx hb dX5_reach_94 (by decide) ?_
                have ev_2 : jmStep en wi b ln (jmIt (jmStep en wi b n) rd (2 ^ a)) = jmStep en wi b (ln + 1) (jmIt (jmStep en wi b n) rd (2 ^ a)) := by first | rfl | (simp [jmStep, c28, c37]; done)
                exact ih22 (ln + 1) (by omega) (by omega) ls (by rw [← ev_2]; exact lv_sub hl [2, 3, 4, 5, 6, 7, 8, 0] rfl)
              · have c37 := jB_1 c37
                refine lv_aload_n hx hb dX5_reach_40 rfl (lv_at hl 0 rfl) ?_
                refine va_get (D := D) (ci := 5) (v := .ref (g 4)) (C := RX5) (T := TX5) (N := 8) hx hb hts in_X5_reach_5 hown hK hP 0 rfl rfl 6 (by decide) (hts (.fieldLink RX5 31 "Twincuts$Web" "ends" "[I") (List.mem_of_getElem? (i := 2) (by decide +kernel))) (fun _ h9 => h9) rfl dX5_reach_41 ?_
                refine lv_iload hx hb dX5_reach_44 (lv_at hl 7 rfl) ?_
                refine jx_iald hx hb hK hP 4 0 rfl rfl (by omega) (by decide) dX5_reach_46 ?_
                refine lv_iload hx hb dX5_reach_47 (lv_at hl 4 rfl) ?_
                refine lv_iand hx hb dX5_reach_49 ?_
                refine jx_val (fa_and _ _) ?_
                refine lv_if_eq (tgt := 57) hx hb dX5_reach_50 (by decide) (fun c50 => ?_) (fun c50 => ?_)
                · have c50 : (en ln) &&& (jmStep en wi b ln (jmIt (jmStep en wi b n) rd (2 ^ a))) = 0 := jx_z (Nat.lt_of_le_of_lt Nat.and_le_left (by have := hen ln (by omega); omega)) c50
                  refine lv_iconst (v := nI 0) hx hb dX5_reach_57 (by decide) ?_
                  refine lv_istore (lv' := [(8, .int (nI 0)), (0, .ref (g 0)), (1, .int (nI a)), (2, .int (nI wi)), (3, .int (nI b)), (4, .int (nI (jmStep en wi b ln (jmIt (jmStep en wi b n) rd (2 ^ a))))), (5, .int (nI rd)), (6, .int (nI (jmIt (jmStep en wi b n) rd (2 ^ a)))), (7, .int (nI ln))]) hx hb dX5_reach_58 hl (by decide) rfl (fun ls hl => ?_)
                  refine lv_iload hx hb dX5_reach_60 (lv_at hl 0 rfl) ?_
                  refine lv_if_eq (tgt := 91) hx hb dX5_reach_62 (by decide) (fun _ => ?_) (fun c => absurd c (by decide))
                  refine lv_iinc (v := nI (ln + 1)) (lv' := [(7, .int (nI (ln + 1))), (8, .int (nI 0)), (0, .ref (g 0)), (1, .int (nI a)), (2, .int (nI wi)), (3, .int (nI b)), (4, .int (nI (jmStep en wi b ln (jmIt (jmStep en wi b n) rd (2 ^ a))))), (5, .int (nI rd)), (6, .int (nI (jmIt (jmStep en wi b n) rd (2 ^ a))))]) hx hb dX5_reach_91 hl (k := 8) rfl (jx_inc _) (by decide) rfl (fun ls hl => ?_)
                  refine lv_goto (tgt := 22) hx hb dX5_reach_94 (by decide) ?_
                  have ev_3 : jmStep en wi b ln (jmIt (jmStep en wi b n) rd (2 ^ a)) = jmStep en wi b (ln + 1) (jmIt (jmStep en wi b n) rd (2 ^ a)) := by first | rfl | (simp [jmStep, c28, c37, c50]; done)
                  exact ih22 (ln + 1) (by omega) (by omega) ls (by rw [← ev_3]; exact lv_sub hl [2, 3, 4, 5, 6, 7, 8, 0] rfl)
                · have c50 : (en ln) &&& (jmStep en wi b ln (jmIt (jmStep en wi b n) rd (2 ^ a))) ≠ 0 := jx_nz c50
                  refine lv_iconst (v := nI 1) hx hb dX5_reach_53 (by decide) ?_
                  refine lv_goto (tgt := 58) hx hb dX5_reach_54 (by decide) ?_
                  refine lv_istore (lv' := [(8, .int (nI 1)), (0, .ref (g 0)), (1, .int (nI a)), (2, .int (nI wi)), (3, .int (nI b)), (4, .int (nI (jmStep en wi b ln (jmIt (jmStep en wi b n) rd (2 ^ a))))), (5, .int (nI rd)), (6, .int (nI (jmIt (jmStep en wi b n) rd (2 ^ a)))), (7, .int (nI ln))]) hx hb dX5_reach_58 hl (by decide) rfl (fun ls hl => ?_)
                  refine lv_iload hx hb dX5_reach_60 (lv_at hl 0 rfl) ?_
                  refine lv_if_eq (tgt := 91) hx hb dX5_reach_62 (by decide) (fun c => absurd c (by decide)) (fun _ => ?_)
                  refine lv_aload_n hx hb dX5_reach_65 rfl (lv_at hl 1 rfl) ?_
                  refine va_get (D := D) (ci := 5) (v := .ref (g 4)) (C := RX5) (T := TX5) (N := 8) hx hb hts in_X5_reach_5 hown hK hP 0 rfl rfl 6 (by decide) (hts (.fieldLink RX5 31 "Twincuts$Web" "ends" "[I") (List.mem_of_getElem? (i := 2) (by decide +kernel))) (fun _ h9 => h9) rfl dX5_reach_66 ?_
                  refine lv_iload hx hb dX5_reach_69 (lv_at hl 8 rfl) ?_
                  refine jx_iald hx hb hK hP 4 0 rfl rfl (by omega) (by decide) dX5_reach_71 ?_
                  refine lv_iload_n hx hb dX5_reach_72 rfl (lv_at hl 3 rfl) ?_
                  refine lv_iconst (v := (-1)) hx hb dX5_reach_73 (by decide) ?_
                  refine lv_ixor hx hb dX5_reach_74 ?_
                  refine lv_iand hx hb dX5_reach_75 ?_
                  refine jx_val (jx_not _ _) ?_
                  refine lv_if_ne (tgt := 91) hx hb dX5_reach_76 (by decide) (fun c76 => ?_) (fun c76 => ?_)
                  · have c76 : jxAN (en ln) wi ≠ 0 := jx_nz c76
                    refine lv_iinc (v := nI (ln + 1)) (lv' := [(7, .int (nI (ln + 1))), (8, .int (nI 1)), (0, .ref (g 0)), (1, .int (nI a)), (2, .int (nI wi)), (3, .int (nI b)), (4, .int (nI (jmStep en wi b ln (jmIt (jmStep en wi b n) rd (2 ^ a))))), (5, .int (nI rd)), (6, .int (nI (jmIt (jmStep en wi b n) rd (2 ^ a))))]) hx hb dX5_reach_91 hl (k := 8) rfl (jx_inc _) (by decide) rfl (fun ls hl => ?_)
                    refine lv_goto (tgt := 22) hx hb dX5_reach_94 (by decide) ?_
                    have ev_4 : jmStep en wi b ln (jmIt (jmStep en wi b n) rd (2 ^ a)) = jmStep en wi b (ln + 1) (jmIt (jmStep en wi b n) rd (2 ^ a)) := by first | rfl | (simp [jmStep, c28, c37, c50, c76]; done)
                    exact ih22 (ln + 1) (by omega) (by omega) ls (by rw [← ev_4]; exact lv_sub hl [2, 3, 4, 5, 6, 7, 8, 0] rfl)
                  · have c76 : jxAN (en ln) wi = 0 := jx_z (jxAN_lt (by have := hen ln (by omega); omega)) c76
                    refine lv_iload hx hb dX5_reach_79 (lv_at hl 5 rfl) ?_
                    refine lv_aload_n hx hb dX5_reach_81 rfl (lv_at hl 1 rfl) ?_
                    refine va_get (D := D) (ci := 5) (v := .ref (g 4)) (C := RX5) (T := TX5) (N := 8) hx hb hts in_X5_reach_5 hown hK hP 0 rfl rfl 6 (by decide) (hts (.fieldLink RX5 31 "Twincuts$Web" "ends" "[I") (List.mem_of_getElem? (i := 2) (by decide +kernel))) (fun _ h9 => h9) rfl dX5_reach_82 ?_
                    refine lv_iload hx hb dX5_reach_85 (lv_at hl 8 rfl) ?_
                    refine jx_iald hx hb hK hP 4 0 rfl rfl (by omega) (by decide) dX5_reach_87 ?_
                    refine lv_ior hx hb dX5_reach_88 ?_
                    refine jx_val (fa_or _ _) ?_
                    refine lv_istore (lv' := [(4, .int (nI ((jmStep en wi b ln (jmIt (jmStep en wi b n) rd (2 ^ a))) ||| (en ln)))), (8, .int (nI 1)), (0, .ref (g 0)), (1, .int (nI a)), (2, .int (nI wi)), (3, .int (nI b)), (5, .int (nI rd)), (6, .int (nI (jmIt (jmStep en wi b n) rd (2 ^ a)))), (7, .int (nI ln))]) hx hb dX5_reach_89 hl (by decide) rfl (fun ls hl => ?_)
                    refine lv_iinc (v := nI (ln + 1)) (lv' := [(7, .int (nI (ln + 1))), (4, .int (nI ((jmStep en wi b ln (jmIt (jmStep en wi b n) rd (2 ^ a))) ||| (en ln)))), (8, .int (nI 1)), (0, .ref (g 0)), (1, .int (nI a)), (2, .int (nI wi)), (3, .int (nI b)), (5, .int (nI rd)), (6, .int (nI (jmIt (jmStep en wi b n) rd (2 ^ a))))]) hx hb dX5_reach_91 hl (k := 8) rfl (jx_inc _) (by decide) rfl (fun ls hl => ?_)
                    refine lv_goto (tgt := 22) hx hb dX5_reach_94 (by decide) ?_
                    have ev_5 : (jmStep en wi b ln (jmIt (jmStep en wi b n) rd (2 ^ a))) ||| (en ln) = jmStep en wi b (ln + 1) (jmIt (jmStep en wi b n) rd (2 ^ a)) := by first | rfl | (simp [jmStep, c28, c37, c50, c76]; done)
                    exact ih22 (ln + 1) (by omega) (by omega) ls (by rw [← ev_5]; exact lv_sub hl [3, 4, 5, 6, 1, 7, 8, 0] rfl)
        have ev_6 : jmIt (jmStep en wi b n) rd (2 ^ a) = jmStep en wi b 0 (jmIt (jmStep en wi b n) rd (2 ^ a)) := by first | rfl | (simp [jmStep, c12]; done)
        exact L22 ((n - 0) + 1) 0 (by omega) (Nat.lt_succ_self _) ls (by rw [← ev_6]; exact lv_sub hl [2, 3, 4, 5, 6, 7, 1, 0] rfl)
  have ev_7 : 2 ^ a = jmIt (jmStep en wi b n) 0 (2 ^ a) := by first | rfl | (simp [*]; done)
  exact L8 ((8 - 0) + 1) 0 (by omega) (Nat.lt_succ_self _) ls (by rw [← ev_7]; exact lv_sub hl [2, 3, 4, 5, 1, 0] rfl)
set_option maxRecDepth 20000 in
theorem in_X5_countParts_5 : ∀ w ∈ wsX50, w ∈ wsX5_countParts := by decide +kernel
set_option maxHeartbeats 4000000 in
set_option maxRecDepth 100000 in
/-- countParts(within, by) -/
theorem c_X5_countParts (l : Launch) (D : va_G) (cI : ClassId) (g : Nat → Nat) (P n st : Nat) (sm gr co en la : Nat → Nat) (hw : jmWF P n st sm gr co en la) (wi b : Nat) (hwi : wi < 65536) (hb16 : b < 65536) : jxRO l yX5_countParts wsX5_countParts ({ frames := 1, cells := 0, slots := 0, locals := 28 } : Room) D [(cI, .int)] (jW cI g P n st sm gr co en la) [.ref (g 0), .int (nI wi), .int (nI b)] (fun r => r = nI (jmCPc en wi b n P)) := by
  refine jx_enter (by decide) rfl (Nat.le_of_ble_eq_true rfl) ?_
  intro p e s m args below meth c Q ls hx hb hml hts hown hN hP hK hl hQ
  have hown : s.vm.findClass RX5 = some m.cls := hown
  have hl : lv_has ls 6 [(0, .ref (g 0)), (1, .int (nI wi)), (2, .int (nI b))] := hl
  have hP8 : P ≤ 8 := hw.1
  have hn16 : n ≤ 16 := hw.2.1
  have hst : st < 65536 := jmWF_st hw
  have hen : ∀ j, j < n → en j < 256 := jmWF_en hw
  have hla : ∀ q, q < P → la q < 65536 := jmWF_la hw
  have hgr : ∀ j, j < n → sm j < 8 ∧ gr j < 8 := jmWF_gr hw
  have hco : ∀ j, j < n → co j < 21 := jmWF_co hw
  refine lv_iconst (v := nI 0) hx hb dX5_countParts_0 (by decide) ?_
  refine lv_istore_n (lv' := [(3, .int (nI 0)), (0, .ref (g 0)), (1, .int (nI wi)), (2, .int (nI b))]) hx hb dX5_countParts_1 rfl hl (by decide) rfl (fun ls hl => ?_)
  refine lv_iconst (v := nI 0) hx hb dX5_countParts_2 (by decide) ?_
  refine lv_istore (lv' := [(4, .int (nI 0)), (3, .int (nI 0)), (0, .ref (g 0)), (1, .int (nI wi)), (2, .int (nI b))]) hx hb dX5_countParts_3 hl (by decide) rfl (fun ls hl => ?_)
  refine lv_iconst (v := nI 0) hx hb dX5_countParts_5 (by decide) ?_
  refine lv_istore (lv' := [(5, .int (nI 0)), (4, .int (nI 0)), (3, .int (nI 0)), (0, .ref (g 0)), (1, .int (nI wi)), (2, .int (nI b))]) hx hb dX5_countParts_6 hl (by decide) rfl (fun ls hl => ?_)
  have L8 : ∀ (k : Nat) (q : Nat) (hq : q ≤ P), P - q < k → ∀ ls : Array Slot, lv_has ls 6 [(0, .ref (g 0)), (1, .int (nI wi)), (2, .int (nI b)), (3, .int (nI (jmCPc en wi b n q))), (4, .int (nI (jmCPm en wi b n q))), (5, .int (nI q))] → W p l e ({ frames := 1, cells := 0, slots := 0, locals := 28 } : Room) s m args below meth c s.heap [] 0 0 Q (F0 m 8 ls []) := by
    intro k
    induction k with
    | zero => intro q hq hk; exact absurd hk (Nat.not_lt_zero _)
    | succ k ih8 =>
      intro q hq hk ls hl
      have hM := jmCPm_lt (wi := wi) (b := b) hen (k := q) (by omega)
      refine lv_iload hx hb dX5_countParts_8 (lv_at hl 5 rfl) ?_
      refine lv_aload_n hx hb dX5_countParts_10 rfl (lv_at hl 0 rfl) ?_
      refine va_get (D := D) (ci := 5) (v := .int (nI P)) (C := RX5) (T := TX5) (N := 8) hx hb hts in_X5_countParts_5 hown hK hP 0 rfl rfl 0 (by decide) (hts (.fieldLink RX5 9 "Twincuts$Web" "points" "I") (List.mem_of_getElem? (i := 1) (by decide +kernel))) (fun _ h9 => h9) rfl dX5_countParts_11 ?_
      refine lv_icmp_ge (tgt := 53) hx hb dX5_countParts_14 (by decide) (fun c14 => ?_) (fun c14 => ?_)
      · have c14 : P ≤ q := jx_le (by omega) (by omega) c14
        have es_53 : P = q := (by omega)
        subst es_53
        refine lv_iload_n hx hb dX5_countParts_53 rfl (lv_at hl 3 rfl) ?_
        exact hQ (nI (jmCPc en wi b n P)) _ _ dX5_countParts_54 rfl
      · have c14 : q < P := jx_nle (by omega) (by omega) c14
        refine lv_iload_n hx hb dX5_countParts_17 rfl (lv_at hl 1 rfl) ?_
        refine lv_iload hx hb dX5_countParts_18 (lv_at hl 4 rfl) ?_
        refine lv_iconst (v := (-1)) hx hb dX5_countParts_20 (by decide) ?_
        refine lv_ixor hx hb dX5_countParts_21 ?_
        refine lv_iand hx hb dX5_countParts_22 ?_
        refine jx_val (jx_not _ _) ?_
        refine lv_iload hx hb dX5_countParts_23 (lv_at hl 5 rfl) ?_
        refine jx_callSN (As := [.int (nI (jxAN wi (jmCPm en wi b n q))), .int (nI q)]) (rest := []) ⟨hx, hb, hml, hown, hts⟩ (c_X6_has l D (jxAN wi (jmCPm en wi b n q)) q (jxAN_lt (by omega)) (by omega)) (va_cnB 2 hts gX5_countParts_X6_has_n37 rfl rfl rfl (hN.get 40 rfl) (hts (.initialized RX6) (List.mem_of_getElem? (i := 3) (by decide +kernel))) (by decide +kernel) ⟨Nat.le_of_ble_eq_true rfl, Nat.le_of_ble_eq_true rfl⟩) (hts (.static yX6_has) (List.mem_of_getElem? (i := 2) (by decide +kernel))) hN (hP.sub (ws' := []) [] rfl) (hK.sub (tys' := []) [] rfl) rfl hl.1 rfl (Nat.le_of_ble_eq_true rfl) dX5_countParts_25 ⟨Nat.zero_le _, Nat.zero_le _⟩ (fun r hr => ?_)
        subst hr
        refine lv_if_eq (tgt := 47) hx hb dX5_countParts_28 (by decide) (fun c28 => ?_) (fun c28 => ?_)
        · have c28 := jB_0 c28
          refine lv_iinc (v := nI (q + 1)) (lv' := [(5, .int (nI (q + 1))), (0, .ref (g 0)), (1, .int (nI wi)), (2, .int (nI b)), (3, .int (nI (jmCPc en wi b n q))), (4, .int (nI (jmCPm en wi b n q)))]) hx hb dX5_countParts_47 hl (k := 5) rfl (jx_inc _) (by decide) rfl (fun ls hl => ?_)
          refine lv_goto (tgt := 8) hx hb dX5_countParts_50 (by decide) ?_
          have ev_1 : jmCPc en wi b n q = jmCPc en wi b n (q + 1) := by first | rfl | (simp [jmCPm, jmCPc, c14, c28]; done)
          have ev_2 : jmCPm en wi b n q = jmCPm en wi b n (q + 1) := by first | rfl | (simp [jmCPm, jmCPc, c14, c28]; done)
          exact ih8 (q + 1) (by omega) (by omega) ls (by rw [← ev_1, ← ev_2]; exact lv_sub hl [1, 2, 3, 4, 5, 0] rfl)
        · have c28 := jB_1 c28
          refine lv_iload hx hb dX5_countParts_31 (lv_at hl 4 rfl) ?_
          refine lv_aload_n hx hb dX5_countParts_33 rfl (lv_at hl 0 rfl) ?_
          refine lv_iload hx hb dX5_countParts_34 (lv_at hl 5 rfl) ?_
          refine lv_iload_n hx hb dX5_countParts_36 rfl (lv_at hl 1 rfl) ?_
          refine lv_iload_n hx hb dX5_countParts_37 rfl (lv_at hl 2 rfl) ?_
          refine jx_callV (As := [.int (nI q), .int (nI wi), .int (nI b)]) (rest := [.int (nI (jmCPm en wi b n q))]) ⟨hx, hb, hml, hown, hts⟩ (c_X5_reach l D cI g P n st sm gr co en la hw q wi b (by omega) (by omega) (by omega)) (cwV 3 hts gX5_countParts_X5_reach rfl rfl rfl (by decide +kernel) ⟨Nat.le_of_ble_eq_true rfl, Nat.le_of_ble_eq_true rfl⟩) hN hP hK 0 5 rfl rfl rfl rfl hl.1 rfl (Nat.le_of_ble_eq_true rfl) dX5_countParts_38 ⟨Nat.zero_le _, Nat.zero_le _⟩ (fun r hr => ?_)
          subst hr
          refine lv_ior hx hb dX5_countParts_41 ?_
          refine jx_val (fa_or _ _) ?_
          refine lv_istore (lv' := [(4, .int (nI ((jmCPm en wi b n q) ||| (jmReach en wi b n q)))), (0, .ref (g 0)), (1, .int (nI wi)), (2, .int (nI b)), (3, .int (nI (jmCPc en wi b n q))), (5, .int (nI q))]) hx hb dX5_countParts_42 hl (by decide) rfl (fun ls hl => ?_)
          refine lv_iinc (v := nI (jmCPc en wi b n q + 1)) (lv' := [(3, .int (nI (jmCPc en wi b n q + 1))), (4, .int (nI ((jmCPm en wi b n q) ||| (jmReach en wi b n q)))), (0, .ref (g 0)), (1, .int (nI wi)), (2, .int (nI b)), (5, .int (nI q))]) hx hb dX5_countParts_44 hl (k := 4) rfl (jx_inc _) (by decide) rfl (fun ls hl => ?_)
          refine lv_iinc (v := nI (q + 1)) (lv' := [(5, .int (nI (q + 1))), (3, .int (nI (jmCPc en wi b n q + 1))), (4, .int (nI ((jmCPm en wi b n q) ||| (jmReach en wi b n q)))), (0, .ref (g 0)), (1, .int (nI wi)), (2, .int (nI b))]) hx hb dX5_countParts_47 hl (k := 5) rfl (jx_inc _) (by decide) rfl (fun ls hl => ?_)
          refine lv_goto (tgt := 8) hx hb dX5_countParts_50 (by decide) ?_
          have ev_3 : jmCPc en wi b n q + 1 = jmCPc en wi b n (q + 1) := by first | rfl | (simp [jmCPm, jmCPc, c14, c28]; done)
          have ev_4 : (jmCPm en wi b n q) ||| (jmReach en wi b n q) = jmCPm en wi b n (q + 1) := by first | rfl | (simp [jmCPm, jmCPc, c14, c28]; done)
          exact ih8 (q + 1) (by omega) (by omega) ls (by rw [← ev_3, ← ev_4]; exact lv_sub hl [3, 4, 5, 1, 2, 0] rfl)
  have ev_5 : 0 = jmCPc en wi b n 0 := by first | rfl | (simp [jmCPm, jmCPc, if_true]; done)
  have ev_6 : 0 = jmCPm en wi b n 0 := by first | rfl | (simp [jmCPm, jmCPc, if_true]; done)
  exact L8 ((P - 0) + 1) 0 (by omega) (Nat.lt_succ_self _) ls (by rw [← ev_5, ← ev_6]; exact lv_sub hl [3, 4, 5, 2, 1, 0] rfl)
set_option maxRecDepth 20000 in
theorem in_X5_linkedWithAny_5 : ∀ w ∈ wsX50, w ∈ wsX5_linkedWithAny := by decide +kernel
set_option maxHeartbeats 4000000 in
set_option maxRecDepth 100000 in
/-- linkedWithAny(set) -/
theorem c_X5_linkedWithAny (l : Launch) (D : va_G) (cI : ClassId) (g : Nat → Nat) (P n st : Nat) (sm gr co en la : Nat → Nat) (hw : jmWF P n st sm gr co en la) (S : Nat) (hS : S < 65536) : jxRO l yX5_linkedWithAny wsX5_linkedWithAny ({ frames := 2, cells := 0, slots := 0, locals := 44 } : Room) D [(cI, .int)] (jW cI g P n st sm gr co en la) [.ref (g 0), .int (nI S)] (fun r => r = nI (jmLA en la st n S P)) := by
  refine jx_enter (by decide) rfl (Nat.le_of_ble_eq_true rfl) ?_
  intro p e s m args below meth c Q ls hx hb hml hts hown hN hP hK hl hQ
  have hown : s.vm.findClass RX5 = some m.cls := hown
  have hl : lv_has ls 4 [(0, .ref (g 0)), (1, .int (nI S))] := hl
  have hP8 : P ≤ 8 := hw.1
  have hn16 : n ≤ 16 := hw.2.1
  have hst : st < 65536 := jmWF_st hw
  have hen : ∀ j, j < n → en j < 256 := jmWF_en hw
  have hla : ∀ q, q < P → la q < 65536 := jmWF_la hw
  have hgr : ∀ j, j < n → sm j < 8 ∧ gr j < 8 := jmWF_gr hw
  have hco : ∀ j, j < n → co j < 21 := jmWF_co hw
  refine lv_iconst (v := nI 0) hx hb dX5_linkedWithAny_0 (by decide) ?_
  refine lv_istore_n (lv' := [(2, .int (nI 0)), (0, .ref (g 0)), (1, .int (nI S))]) hx hb dX5_linkedWithAny_1 rfl hl (by decide) rfl (fun ls hl => ?_)
  refine lv_iconst (v := nI 0) hx hb dX5_linkedWithAny_2 (by decide) ?_
  refine lv_istore_n (lv' := [(3, .int (nI 0)), (2, .int (nI 0)), (0, .ref (g 0)), (1, .int (nI S))]) hx hb dX5_linkedWithAny_3 rfl hl (by decide) rfl (fun ls hl => ?_)
  have L4 : ∀ (k : Nat) (q : Nat) (hq : q ≤ P), P - q < k → ∀ ls : Array Slot, lv_has ls 4 [(0, .ref (g 0)), (1, .int (nI S)), (2, .int (nI (jmLA en la st n S q))), (3, .int (nI q))] → W p l e ({ frames := 2, cells := 0, slots := 0, locals := 44 } : Room) s m args below meth c s.heap [] 0 0 Q (F0 m 4 ls []) := by
    intro k
    induction k with
    | zero => intro q hq hk; exact absurd hk (Nat.not_lt_zero _)
    | succ k ih4 =>
      intro q hq hk ls hl
      refine lv_iload_n hx hb dX5_linkedWithAny_4 rfl (lv_at hl 3 rfl) ?_
      refine lv_aload_n hx hb dX5_linkedWithAny_5 rfl (lv_at hl 0 rfl) ?_
      refine va_get (D := D) (ci := 5) (v := .int (nI P)) (C := RX5) (T := TX5) (N := 8) hx hb hts in_X5_linkedWithAny_5 hown hK hP 0 rfl rfl 0 (by decide) (hts (.fieldLink RX5 9 "Twincuts$Web" "points" "I") (List.mem_of_getElem? (i := 1) (by decide +kernel))) (fun _ h9 => h9) rfl dX5_linkedWithAny_6 ?_
      refine lv_icmp_ge (tgt := 34) hx hb dX5_linkedWithAny_9 (by decide) (fun c9 => ?_) (fun c9 => ?_)
      · have c9 : P ≤ q := jx_le (by omega) (by omega) c9
        have es_34 : P = q := (by omega)
        subst es_34
        refine lv_iload_n hx hb dX5_linkedWithAny_34 rfl (lv_at hl 2 rfl) ?_
        exact hQ (nI (jmLA en la st n S P)) _ _ dX5_linkedWithAny_35 rfl
      · have c9 : q < P := jx_nle (by omega) (by omega) c9
        refine lv_iload_n hx hb dX5_linkedWithAny_12 rfl (lv_at hl 1 rfl) ?_
        refine lv_iload_n hx hb dX5_linkedWithAny_13 rfl (lv_at hl 3 rfl) ?_
        refine jx_callSN (As := [.int (nI S), .int (nI q)]) (rest := []) ⟨hx, hb, hml, hown, hts⟩ (c_X6_has l D S q (by omega) (by omega)) (va_cnB 2 hts gX5_linkedWithAny_X6_has_n37 rfl rfl rfl (hN.get 40 rfl) (hts (.initialized RX6) (List.mem_of_getElem? (i := 3) (by decide +kernel))) (by decide +kernel) ⟨Nat.le_of_ble_eq_true rfl, Nat.le_of_ble_eq_true rfl⟩) (hts (.static yX6_has) (List.mem_of_getElem? (i := 2) (by decide +kernel))) hN (hP.sub (ws' := []) [] rfl) (hK.sub (tys' := []) [] rfl) rfl hl.1 rfl (Nat.le_of_ble_eq_true rfl) dX5_linkedWithAny_14 ⟨Nat.zero_le _, Nat.zero_le _⟩ (fun r hr => ?_)
        subst hr
        refine lv_if_eq (tgt := 28) hx hb dX5_linkedWithAny_17 (by decide) (fun c17 => ?_) (fun c17 => ?_)
        · have c17 := jB_0 c17
          refine lv_iinc (v := nI (q + 1)) (lv' := [(3, .int (nI (q + 1))), (0, .ref (g 0)), (1, .int (nI S)), (2, .int (nI (jmLA en la st n S q)))]) hx hb dX5_linkedWithAny_28 hl (k := 3) rfl (jx_inc _) (by decide) rfl (fun ls hl => ?_)
          refine lv_goto (tgt := 4) hx hb dX5_linkedWithAny_31 (by decide) ?_
          have ev_1 : jmLA en la st n S q = jmLA en la st n S (q + 1) := by first | rfl | (simp [jmLA, c9, c17]; done)
          exact ih4 (q + 1) (by omega) (by omega) ls (by rw [← ev_1]; exact lv_sub hl [1, 2, 3, 0] rfl)
        · have c17 := jB_1 c17
          refine lv_iload_n hx hb dX5_linkedWithAny_20 rfl (lv_at hl 2 rfl) ?_
          refine lv_aload_n hx hb dX5_linkedWithAny_21 rfl (lv_at hl 0 rfl) ?_
          refine lv_iload_n hx hb dX5_linkedWithAny_22 rfl (lv_at hl 3 rfl) ?_
          refine jx_callV (As := [.int (nI q)]) (rest := [.int (nI (jmLA en la st n S q))]) ⟨hx, hb, hml, hown, hts⟩ (c_X5_linkedWith l D cI g P n st sm gr co en la hw q (by omega)) (cwV 1 hts gX5_linkedWithAny_X5_linkedWith rfl rfl rfl (by decide +kernel) ⟨Nat.le_of_ble_eq_true rfl, Nat.le_of_ble_eq_true rfl⟩) hN hP hK 0 5 rfl rfl rfl rfl hl.1 rfl (Nat.le_of_ble_eq_true rfl) dX5_linkedWithAny_23 ⟨Nat.zero_le _, Nat.zero_le _⟩ (fun r hr => ?_)
          subst hr
          refine lv_ior hx hb dX5_linkedWithAny_26 ?_
          refine jx_val (fa_or _ _) ?_
          refine lv_istore_n (lv' := [(2, .int (nI ((jmLA en la st n S q) ||| (jmLinked en la st n q)))), (0, .ref (g 0)), (1, .int (nI S)), (3, .int (nI q))]) hx hb dX5_linkedWithAny_27 rfl hl (by decide) rfl (fun ls hl => ?_)
          refine lv_iinc (v := nI (q + 1)) (lv' := [(3, .int (nI (q + 1))), (2, .int (nI ((jmLA en la st n S q) ||| (jmLinked en la st n q)))), (0, .ref (g 0)), (1, .int (nI S))]) hx hb dX5_linkedWithAny_28 hl (k := 3) rfl (jx_inc _) (by decide) rfl (fun ls hl => ?_)
          refine lv_goto (tgt := 4) hx hb dX5_linkedWithAny_31 (by decide) ?_
          have ev_2 : (jmLA en la st n S q) ||| (jmLinked en la st n q) = jmLA en la st n S (q + 1) := by first | rfl | (simp [jmLA, c9, c17]; done)
          exact ih4 (q + 1) (by omega) (by omega) ls (by rw [← ev_2]; exact lv_sub hl [2, 3, 1, 0] rfl)
  have ev_3 : 0 = jmLA en la st n S 0 := by first | rfl | (simp [jmLA, if_true]; done)
  exact L4 ((P - 0) + 1) 0 (by omega) (Nat.lt_succ_self _) ls (by rw [← ev_3]; exact lv_sub hl [2, 3, 1, 0] rfl)
set_option maxRecDepth 20000 in
theorem in_X5_distance_5 : ∀ w ∈ wsX50, w ∈ wsX5_distance := by decide +kernel
set_option maxHeartbeats 4000000 in
set_option maxRecDepth 100000 in
/-- distance(one, other) -/
theorem c_X5_distance (l : Launch) (D : va_G) (cI : ClassId) (g : Nat → Nat) (P n st : Nat) (sm gr co en la : Nat → Nat) (hw : jmWF P n st sm gr co en la) (a o : Nat) (ha : a < 8) (ho : o < 8) : jxRO l yX5_distance wsX5_distance ({ frames := 3, cells := 0, slots := 0, locals := 67 } : Room) D [(cI, .int)] (jW cI g P n st sm gr co en la) [.ref (g 0), .int (nI a), .int (nI o)] (fun r => r = jmDist en la P st n a o) := by
  refine jx_enter (by decide) rfl (Nat.le_of_ble_eq_true rfl) ?_
  intro p e s m args below meth c Q ls hx hb hml hts hown hN hP hK hl hQ
  have hown : s.vm.findClass RX5 = some m.cls := hown
  have hl : lv_has ls 5 [(0, .ref (g 0)), (1, .int (nI a)), (2, .int (nI o))] := hl
  have hP8 : P ≤ 8 := hw.1
  have hn16 : n ≤ 16 := hw.2.1
  have hst : st < 65536 := jmWF_st hw
  have hen : ∀ j, j < n → en j < 256 := jmWF_en hw
  have hla : ∀ q, q < P → la q < 65536 := jmWF_la hw
  have hgr : ∀ j, j < n → sm j < 8 ∧ gr j < 8 := jmWF_gr hw
  have hco : ∀ j, j < n → co j < 21 := jmWF_co hw
  refine lv_iconst (v := nI 1) hx hb dX5_distance_0 (by decide) ?_
  refine lv_iload_n hx hb dX5_distance_1 rfl (lv_at hl 1 rfl) ?_
  refine lv_ishl hx hb dX5_distance_2 ?_
  refine jx_val (jx_1shl (by omega)) ?_
  refine lv_istore_n (lv' := [(3, .int (nI (2 ^ a))), (0, .ref (g 0)), (1, .int (nI a)), (2, .int (nI o))]) hx hb dX5_distance_3 rfl hl (by decide) rfl (fun ls hl => ?_)
  refine lv_iconst (v := nI 0) hx hb dX5_distance_4 (by decide) ?_
  refine lv_istore (lv' := [(4, .int (nI 0)), (3, .int (nI (2 ^ a))), (0, .ref (g 0)), (1, .int (nI a)), (2, .int (nI o))]) hx hb dX5_distance_5 hl (by decide) rfl (fun ls hl => ?_)
  have L7 : ∀ (k : Nat) (k1 : Nat) (hk1 : k1 ≤ 8) (hd : jmDist en la P st n a o = jmFirst (jmWithin en la P st n a) o (8 - k1) k1), 8 - k1 < k → ∀ ls : Array Slot, lv_has ls 5 [(0, .ref (g 0)), (1, .int (nI a)), (2, .int (nI o)), (3, .int (nI (jmWithin en la P st n a k1))), (4, .int (nI k1))] → W p l e ({ frames := 3, cells := 0, slots := 0, locals := 67 } : Room) s m args below meth c s.heap [] 0 0 Q (F0 m 7 ls []) := by
    intro k
    induction k with
    | zero => intro k1 hk1 hd hk; exact absurd hk (Nat.not_lt_zero _)
    | succ k ih7 =>
      intro k1 hk1 hd hk ls hl
      have hM := jmWithin_lt (la := la) (P := P) (st := st) ha hen k1
      refine lv_iload hx hb dX5_distance_7 (lv_at hl 4 rfl) ?_
      refine lv_bipush (v := nI 8) hx hb dX5_distance_9 (by decide) ?_
      refine lv_icmp_ge (tgt := 39) hx hb dX5_distance_11 (by decide) (fun c11 => ?_) (fun c11 => ?_)
      · have c11 : 8 ≤ k1 := jx_le (by decide) (by omega) c11
        refine lv_iconst (v := (-1)) hx hb dX5_distance_39 (by decide) ?_
        exact hQ (-1 : Int32) _ _ dX5_distance_40 (by rw [hd, show k1 = 8 by omega]; rfl)
      · have c11 : k1 < 8 := jx_nle (by decide) (by omega) c11
        refine lv_iload_n hx hb dX5_distance_14 rfl (lv_at hl 3 rfl) ?_
        refine lv_iload_n hx hb dX5_distance_15 rfl (lv_at hl 2 rfl) ?_
        refine jx_callSN (As := [.int (nI (jmWithin en la P st n a k1)), .int (nI o)]) (rest := []) ⟨hx, hb, hml, hown, hts⟩ (c_X6_has l D (jmWithin en la P st n a k1) o (by omega) (by omega)) (va_cnB 2 hts gX5_distance_X6_has_n37 rfl rfl rfl (hN.get 40 rfl) (hts (.initialized RX6) (List.mem_of_getElem? (i := 2) (by decide +kernel))) (by decide +kernel) ⟨Nat.le_of_ble_eq_true rfl, Nat.le_of_ble_eq_true rfl⟩) (hts (.static yX6_has) (List.mem_of_getElem? (i := 1) (by decide +kernel))) hN (hP.sub (ws' := []) [] rfl) (hK.sub (tys' := []) [] rfl) rfl hl.1 rfl (Nat.le_of_ble_eq_true rfl) dX5_distance_16 ⟨Nat.zero_le _, Nat.zero_le _⟩ (fun r hr => ?_)
        subst hr
        refine lv_if_eq (tgt := 25) hx hb dX5_distance_19 (by decide) (fun c19 => ?_) (fun c19 => ?_)
        · have c19 := jB_0 c19
          refine lv_iload_n hx hb dX5_distance_25 rfl (lv_at hl 3 rfl) ?_
          refine lv_aload_n hx hb dX5_distance_26 rfl (lv_at hl 0 rfl) ?_
          refine lv_iload_n hx hb dX5_distance_27 rfl (lv_at hl 3 rfl) ?_
          refine jx_callV (As := [.int (nI (jmWithin en la P st n a k1))]) (rest := [.int (nI (jmWithin en la P st n a k1))]) ⟨hx, hb, hml, hown, hts⟩ (c_X5_linkedWithAny l D cI g P n st sm gr co en la hw (jmWithin en la P st n a k1) (by omega)) (cwV 1 hts gX5_distance_X5_linkedWithAny rfl rfl rfl (by decide +kernel) ⟨Nat.le_of_ble_eq_true rfl, Nat.le_of_ble_eq_true rfl⟩) hN hP hK 0 5 rfl rfl rfl rfl hl.1 rfl (Nat.le_of_ble_eq_true rfl) dX5_distance_28 ⟨Nat.zero_le _, Nat.zero_le _⟩ (fun r hr => ?_)
          subst hr
          refine lv_ior hx hb dX5_distance_31 ?_
          refine jx_val (fa_or _ _) ?_
          refine lv_istore_n (lv' := [(3, .int (nI ((jmWithin en la P st n a k1) ||| (jmLA en la st n (jmWithin en la P st n a k1) P)))), (0, .ref (g 0)), (1, .int (nI a)), (2, .int (nI o)), (4, .int (nI k1))]) hx hb dX5_distance_32 rfl hl (by decide) rfl (fun ls hl => ?_)
          refine lv_iinc (v := nI (k1 + 1)) (lv' := [(4, .int (nI (k1 + 1))), (3, .int (nI ((jmWithin en la P st n a k1) ||| (jmLA en la st n (jmWithin en la P st n a k1) P)))), (0, .ref (g 0)), (1, .int (nI a)), (2, .int (nI o))]) hx hb dX5_distance_33 hl (k := 4) rfl (jx_inc _) (by decide) rfl (fun ls hl => ?_)
          refine lv_goto (tgt := 7) hx hb dX5_distance_36 (by decide) ?_
          have ev_1 : (jmWithin en la P st n a k1) ||| (jmLA en la st n (jmWithin en la P st n a k1) P) = jmWithin en la P st n a (k1 + 1) := by first | rfl | (simp [jmWithin, jmIt, c11, c19]; done)
          exact ih7 (k1 + 1) (by omega) (by rw [hd, show 8 - k1 = (8 - (k1 + 1)) + 1 by omega]; simp [jmFirst, c11, c19]) (by omega) ls (by rw [← ev_1]; exact lv_sub hl [2, 3, 4, 1, 0] rfl)
        · have c19 := jB_1 c19
          refine lv_iload hx hb dX5_distance_22 (lv_at hl 4 rfl) ?_
          exact hQ (nI k1) _ _ dX5_distance_24 (by rw [hd, show 8 - k1 = (8 - (k1 + 1)) + 1 by omega]; simp [jmFirst, c19])
  have ev_2 : 2 ^ a = jmWithin en la P st n a 0 := by first | rfl | (simp [jmWithin, jmIt, if_true]; done)
  exact L7 ((8 - 0) + 1) 0 (by omega) rfl (Nat.lt_succ_self _) ls (by rw [← ev_2]; exact lv_sub hl [2, 3, 4, 1, 0] rfl)
set_option maxRecDepth 20000 in
theorem in_X5_linesOutOf_5 : ∀ w ∈ wsX50, w ∈ wsX5_linesOutOf := by decide +kernel
set_option maxHeartbeats 4000000 in
set_option maxRecDepth 100000 in
/-- linesOutOf(set) -/
theorem c_X5_linesOutOf (l : Launch) (D : va_G) (cI : ClassId) (g : Nat → Nat) (P n st : Nat) (sm gr co en la : Nat → Nat) (hw : jmWF P n st sm gr co en la) (S : Nat) (hS : S < 65536) : jxRO l yX5_linesOutOf wsX5_linesOutOf ({ frames := 1, cells := 0, slots := 0, locals := 21 } : Room) D [(cI, .int)] (jW cI g P n st sm gr co en la) [.ref (g 0), .int (nI S)] (fun r => r = nI (jmOut la st S P)) := by
  refine jx_enter (by decide) rfl (Nat.le_of_ble_eq_true rfl) ?_
  intro p e s m args below meth c Q ls hx hb hml hts hown hN hP hK hl hQ
  have hown : s.vm.findClass RX5 = some m.cls := hown
  have hl : lv_has ls 4 [(0, .ref (g 0)), (1, .int (nI S))] := hl
  have hP8 : P ≤ 8 := hw.1
  have hn16 : n ≤ 16 := hw.2.1
  have hst : st < 65536 := jmWF_st hw
  have hen : ∀ j, j < n → en j < 256 := jmWF_en hw
  have hla : ∀ q, q < P → la q < 65536 := jmWF_la hw
  have hgr : ∀ j, j < n → sm j < 8 ∧ gr j < 8 := jmWF_gr hw
  have hco : ∀ j, j < n → co j < 21 := jmWF_co hw
  refine lv_iconst (v := nI 0) hx hb dX5_linesOutOf_0 (by decide) ?_
  refine lv_istore_n (lv' := [(2, .int (nI 0)), (0, .ref (g 0)), (1, .int (nI S))]) hx hb dX5_linesOutOf_1 rfl hl (by decide) rfl (fun ls hl => ?_)
  refine lv_iconst (v := nI 0) hx hb dX5_linesOutOf_2 (by decide) ?_
  refine lv_istore_n (lv' := [(3, .int (nI 0)), (2, .int (nI 0)), (0, .ref (g 0)), (1, .int (nI S))]) hx hb dX5_linesOutOf_3 rfl hl (by decide) rfl (fun ls hl => ?_)
  have L4 : ∀ (k : Nat) (q : Nat) (hq : q ≤ P), P - q < k → ∀ ls : Array Slot, lv_has ls 4 [(0, .ref (g 0)), (1, .int (nI S)), (2, .int (nI (jmOut la st S q))), (3, .int (nI q))] → W p l e ({ frames := 1, cells := 0, slots := 0, locals := 21 } : Room) s m args below meth c s.heap [] 0 0 Q (F0 m 4 ls []) := by
    intro k
    induction k with
    | zero => intro q hq hk; exact absurd hk (Nat.not_lt_zero _)
    | succ k ih4 =>
      intro q hq hk ls hl
      refine lv_iload_n hx hb dX5_linesOutOf_4 rfl (lv_at hl 3 rfl) ?_
      refine lv_aload_n hx hb dX5_linesOutOf_5 rfl (lv_at hl 0 rfl) ?_
      refine va_get (D := D) (ci := 5) (v := .int (nI P)) (C := RX5) (T := TX5) (N := 8) hx hb hts in_X5_linesOutOf_5 hown hK hP 0 rfl rfl 0 (by decide) (hts (.fieldLink RX5 9 "Twincuts$Web" "points" "I") (List.mem_of_getElem? (i := 1) (by decide +kernel))) (fun _ h9 => h9) rfl dX5_linesOutOf_6 ?_
      refine lv_icmp_ge (tgt := 34) hx hb dX5_linesOutOf_9 (by decide) (fun c9 => ?_) (fun c9 => ?_)
      · have c9 : P ≤ q := jx_le (by omega) (by omega) c9
        have es_34 : P = q := (by omega)
        subst es_34
        refine lv_iload_n hx hb dX5_linesOutOf_34 rfl (lv_at hl 2 rfl) ?_
        exact hQ (nI (jmOut la st S P)) _ _ dX5_linesOutOf_35 rfl
      · have c9 : q < P := jx_nle (by omega) (by omega) c9
        refine lv_iload_n hx hb dX5_linesOutOf_12 rfl (lv_at hl 1 rfl) ?_
        refine lv_iload_n hx hb dX5_linesOutOf_13 rfl (lv_at hl 3 rfl) ?_
        refine jx_callSN (As := [.int (nI S), .int (nI q)]) (rest := []) ⟨hx, hb, hml, hown, hts⟩ (c_X6_has l D S q (by omega) (by omega)) (va_cnB 2 hts gX5_linesOutOf_X6_has_n37 rfl rfl rfl (hN.get 40 rfl) (hts (.initialized RX6) (List.mem_of_getElem? (i := 3) (by decide +kernel))) (by decide +kernel) ⟨Nat.le_of_ble_eq_true rfl, Nat.le_of_ble_eq_true rfl⟩) (hts (.static yX6_has) (List.mem_of_getElem? (i := 2) (by decide +kernel))) hN (hP.sub (ws' := []) [] rfl) (hK.sub (tys' := []) [] rfl) rfl hl.1 rfl (Nat.le_of_ble_eq_true rfl) dX5_linesOutOf_14 ⟨Nat.zero_le _, Nat.zero_le _⟩ (fun r hr => ?_)
        subst hr
        refine lv_if_eq (tgt := 28) hx hb dX5_linesOutOf_17 (by decide) (fun c17 => ?_) (fun c17 => ?_)
        · have c17 := jB_0 c17
          refine lv_iinc (v := nI (q + 1)) (lv' := [(3, .int (nI (q + 1))), (0, .ref (g 0)), (1, .int (nI S)), (2, .int (nI (jmOut la st S q)))]) hx hb dX5_linesOutOf_28 hl (k := 3) rfl (jx_inc _) (by decide) rfl (fun ls hl => ?_)
          refine lv_goto (tgt := 4) hx hb dX5_linesOutOf_31 (by decide) ?_
          have ev_1 : jmOut la st S q = jmOut la st S (q + 1) := by first | rfl | (simp [jmOut, c9, c17]; done)
          exact ih4 (q + 1) (by omega) (by omega) ls (by rw [← ev_1]; exact lv_sub hl [1, 2, 3, 0] rfl)
        · have c17 := jB_1 c17
          refine lv_iload_n hx hb dX5_linesOutOf_20 rfl (lv_at hl 2 rfl) ?_
          refine lv_aload_n hx hb dX5_linesOutOf_21 rfl (lv_at hl 0 rfl) ?_
          refine lv_iload_n hx hb dX5_linesOutOf_22 rfl (lv_at hl 3 rfl) ?_
          refine jx_callV (As := [.int (nI q)]) (rest := [.int (nI (jmOut la st S q))]) ⟨hx, hb, hml, hown, hts⟩ (c_X5_standingAt l D cI g P n st sm gr co en la hw q (by omega)) (cwV 1 hts gX5_linesOutOf_X5_standingAt rfl rfl rfl (by decide +kernel) ⟨Nat.le_of_ble_eq_true rfl, Nat.le_of_ble_eq_true rfl⟩) hN hP hK 0 5 rfl rfl rfl rfl hl.1 rfl (Nat.le_of_ble_eq_true rfl) dX5_linesOutOf_23 ⟨Nat.zero_le _, Nat.zero_le _⟩ (fun r hr => ?_)
          subst hr
          refine lv_ixor hx hb dX5_linesOutOf_26 ?_
          refine jx_val (fa_xor _ _) ?_
          refine lv_istore_n (lv' := [(2, .int (nI ((jmOut la st S q) ^^^ (la q &&& st)))), (0, .ref (g 0)), (1, .int (nI S)), (3, .int (nI q))]) hx hb dX5_linesOutOf_27 rfl hl (by decide) rfl (fun ls hl => ?_)
          refine lv_iinc (v := nI (q + 1)) (lv' := [(3, .int (nI (q + 1))), (2, .int (nI ((jmOut la st S q) ^^^ (la q &&& st)))), (0, .ref (g 0)), (1, .int (nI S))]) hx hb dX5_linesOutOf_28 hl (k := 3) rfl (jx_inc _) (by decide) rfl (fun ls hl => ?_)
          refine lv_goto (tgt := 4) hx hb dX5_linesOutOf_31 (by decide) ?_
          have ev_2 : (jmOut la st S q) ^^^ (la q &&& st) = jmOut la st S (q + 1) := by first | rfl | (simp [jmOut, c9, c17]; done)
          exact ih4 (q + 1) (by omega) (by omega) ls (by rw [← ev_2]; exact lv_sub hl [2, 3, 1, 0] rfl)
  have ev_3 : 0 = jmOut la st S 0 := by first | rfl | (simp [jmOut, if_true]; done)
  exact L4 ((P - 0) + 1) 0 (by omega) (Nat.lt_succ_self _) ls (by rw [← ev_3]; exact lv_sub hl [2, 3, 1, 0] rfl)
set_option maxRecDepth 20000 in
theorem in_X5_greatestDistance_5 : ∀ w ∈ wsX50, w ∈ wsX5_greatestDistance := by decide +kernel
set_option maxHeartbeats 4000000 in
set_option maxRecDepth 100000 in
/-- greatestDistance() -/
theorem c_X5_greatestDistance (l : Launch) (D : va_G) (cI : ClassId) (g : Nat → Nat) (P n st : Nat) (sm gr co en la : Nat → Nat) (hw : jmWF P n st sm gr co en la)  : jxRO l yX5_greatestDistance wsX5_greatestDistance ({ frames := 4, cells := 0, slots := 0, locals := 91 } : Room) D [(cI, .int)] (jW cI g P n st sm gr co en la) [.ref (g 0)] (fun r => r = jmGD en la P st n P) := by
  refine jx_enter (by decide) rfl (Nat.le_of_ble_eq_true rfl) ?_
  intro p e s m args below meth c Q ls hx hb hml hts hown hN hP hK hl hQ
  have hown : s.vm.findClass RX5 = some m.cls := hown
  have hl : lv_has ls 4 [(0, .ref (g 0))] := hl
  have hP8 : P ≤ 8 := hw.1
  have hn16 : n ≤ 16 := hw.2.1
  have hst : st < 65536 := jmWF_st hw
  have hen : ∀ j, j < n → en j < 256 := jmWF_en hw
  have hla : ∀ q, q < P → la q < 65536 := jmWF_la hw
  have hgr : ∀ j, j < n → sm j < 8 ∧ gr j < 8 := jmWF_gr hw
  have hco : ∀ j, j < n → co j < 21 := jmWF_co hw
  refine lv_iconst (v := nI 0) hx hb dX5_greatestDistance_0 (by decide) ?_
  refine lv_istore_n (lv' := [(1, .int (nI 0)), (0, .ref (g 0))]) hx hb dX5_greatestDistance_1 rfl hl (by decide) rfl (fun ls hl => ?_)
  refine lv_iconst (v := nI 0) hx hb dX5_greatestDistance_2 (by decide) ?_
  refine lv_istore_n (lv' := [(2, .int (nI 0)), (1, .int (nI 0)), (0, .ref (g 0))]) hx hb dX5_greatestDistance_3 rfl hl (by decide) rfl (fun ls hl => ?_)
  have L4 : ∀ (k : Nat) (a : Nat) (hq : a ≤ P), P - a < k → ∀ ls : Array Slot, lv_has ls 4 [(0, .ref (g 0)), (1, .int (jmGD en la P st n a)), (2, .int (nI a))] → W p l e ({ frames := 4, cells := 0, slots := 0, locals := 91 } : Room) s m args below meth c s.heap [] 0 0 Q (F0 m 4 ls []) := by
    intro k
    induction k with
    | zero => intro a hq hk; exact absurd hk (Nat.not_lt_zero _)
    | succ k ih4 =>
      intro a hq hk ls hl
      refine lv_iload_n hx hb dX5_greatestDistance_4 rfl (lv_at hl 2 rfl) ?_
      refine lv_aload_n hx hb dX5_greatestDistance_5 rfl (lv_at hl 0 rfl) ?_
      refine va_get (D := D) (ci := 5) (v := .int (nI P)) (C := RX5) (T := TX5) (N := 8) hx hb hts in_X5_greatestDistance_5 hown hK hP 0 rfl rfl 0 (by decide) (hts (.fieldLink RX5 9 "Twincuts$Web" "points" "I") (List.mem_of_getElem? (i := 1) (by decide +kernel))) (fun _ h9 => h9) rfl dX5_greatestDistance_6 ?_
      refine lv_icmp_ge (tgt := 47) hx hb dX5_greatestDistance_9 (by decide) (fun c9 => ?_) (fun c9 => ?_)
      · have c9 : P ≤ a := jx_le (by omega) (by omega) c9
        have es_47 : P = a := (by omega)
        subst es_47
        refine lv_iload_n hx hb dX5_greatestDistance_47 rfl (lv_at hl 1 rfl) ?_
        exact hQ (jmGD en la P st n P) _ _ dX5_greatestDistance_48 rfl
      · have c9 : a < P := jx_nle (by omega) (by omega) c9
        refine lv_iload_n hx hb dX5_greatestDistance_12 rfl (lv_at hl 2 rfl) ?_
        refine lv_iconst (v := nI 1) hx hb dX5_greatestDistance_13 (by decide) ?_
        refine lv_iadd hx hb dX5_greatestDistance_14 ?_
        refine jx_val (nI_add _ _) ?_
        refine lv_istore_n (lv' := [(3, .int (nI (a + 1))), (0, .ref (g 0)), (1, .int (jmGD en la P st n a)), (2, .int (nI a))]) hx hb dX5_greatestDistance_15 rfl hl (by decide) rfl (fun ls hl => ?_)
        have L16 : ∀ (k : Nat) (kk : Nat) (hkk : a + 1 + kk ≤ P), P - (a + 1 + kk) < k → ∀ ls : Array Slot, lv_has ls 4 [(0, .ref (g 0)), (1, .int (jmGDi en la P st n a (jmGD en la P st n a) kk)), (2, .int (nI a)), (3, .int (nI (a + 1 + kk)))] → W p l e ({ frames := 4, cells := 0, slots := 0, locals := 91 } : Room) s m args below meth c s.heap [] 0 0 Q (F0 m 16 ls []) := by
          intro k
          induction k with
          | zero => intro kk hkk hk; exact absurd hk (Nat.not_lt_zero _)
          | succ k ih16 =>
            intro kk hkk hk ls hl
            refine lv_iload_n hx hb dX5_greatestDistance_16 rfl (lv_at hl 3 rfl) ?_
            refine lv_aload_n hx hb dX5_greatestDistance_17 rfl (lv_at hl 0 rfl) ?_
            refine va_get (D := D) (ci := 5) (v := .int (nI P)) (C := RX5) (T := TX5) (N := 8) hx hb hts in_X5_greatestDistance_5 hown hK hP 0 rfl rfl 0 (by decide) (hts (.fieldLink RX5 9 "Twincuts$Web" "points" "I") (List.mem_of_getElem? (i := 1) (by decide +kernel))) (fun _ h9 => h9) rfl dX5_greatestDistance_18 ?_
            refine lv_icmp_ge (tgt := 41) hx hb dX5_greatestDistance_21 (by decide) (fun c21 => ?_) (fun c21 => ?_)
            · have c21 : P ≤ a + 1 + kk := jx_le (by omega) (by omega) c21
              have es_41 : kk = (P - (a + 1)) := (by omega)
              subst es_41
              refine lv_iinc (v := nI (a + 1)) (lv' := [(2, .int (nI (a + 1))), (0, .ref (g 0)), (1, .int (jmGDi en la P st n a (jmGD en la P st n a) (P - (a + 1)))), (3, .int (nI (a + 1 + (P - (a + 1)))))]) hx hb dX5_greatestDistance_41 hl (k := 2) rfl (jx_inc _) (by decide) rfl (fun ls hl => ?_)
              refine lv_goto (tgt := 4) hx hb dX5_greatestDistance_44 (by decide) ?_
              have ev_1 : jmGDi en la P st n a (jmGD en la P st n a) (P - (a + 1)) = jmGD en la P st n (a + 1) := by first | rfl | (simp [jmGD, c21]; done)
              exact ih4 (a + 1) (by omega) (by omega) ls (by rw [← ev_1]; exact lv_sub hl [1, 2, 0] rfl)
            · have c21 : a + 1 + kk < P := jx_nle (by omega) (by omega) c21
              refine lv_iload_n hx hb dX5_greatestDistance_24 rfl (lv_at hl 1 rfl) ?_
              refine lv_aload_n hx hb dX5_greatestDistance_25 rfl (lv_at hl 0 rfl) ?_
              refine lv_iload_n hx hb dX5_greatestDistance_26 rfl (lv_at hl 2 rfl) ?_
              refine lv_iload_n hx hb dX5_greatestDistance_27 rfl (lv_at hl 3 rfl) ?_
              refine jx_callV (As := [.int (nI a), .int (nI (a + 1 + kk))]) (rest := [.int (jmGDi en la P st n a (jmGD en la P st n a) kk)]) ⟨hx, hb, hml, hown, hts⟩ (c_X5_distance l D cI g P n st sm gr co en la hw a (a + 1 + kk) (by omega) (by omega)) (cwV 2 hts gX5_greatestDistance_X5_distance rfl rfl rfl (by decide +kernel) ⟨Nat.le_of_ble_eq_true rfl, Nat.le_of_ble_eq_true rfl⟩) hN hP hK 0 5 rfl rfl rfl rfl hl.1 rfl (Nat.le_of_ble_eq_true rfl) dX5_greatestDistance_28 ⟨Nat.zero_le _, Nat.zero_le _⟩ (fun r hr => ?_)
              subst hr
              refine va_mmax (rest := []) hx hb (hml.trans hl.1.symm) hown (hts (.methodLink RX5 56 Lib.Math.max.name) (List.mem_of_getElem? (i := 2) (by decide +kernel))) (hts (.static Lib.Math.max.name) (List.mem_of_getElem? (i := 3) (by decide +kernel))) (hts (.initialized "java/lang/Math") (List.mem_of_getElem? (i := 4) (by decide +kernel))) (hts (.code Lib.Math.max.name Lib.Math.max.code 2 (some .int)) (List.mem_of_getElem? (i := 5) (by decide +kernel))) (Nat.le_of_ble_eq_true rfl) (Nat.le_of_ble_eq_true rfl) (Nat.zero_le _) (Nat.zero_le _) dX5_greatestDistance_31 ?_
              refine lv_istore_n (lv' := [(1, .int (jmMax32 (jmGDi en la P st n a (jmGD en la P st n a) kk) (jmDist en la P st n a (a + 1 + kk)))), (0, .ref (g 0)), (2, .int (nI a)), (3, .int (nI (a + 1 + kk)))]) hx hb dX5_greatestDistance_34 rfl hl (by decide) rfl (fun ls hl => ?_)
              refine lv_iinc (v := nI (a + 1 + kk + 1)) (lv' := [(3, .int (nI (a + 1 + kk + 1))), (1, .int (jmMax32 (jmGDi en la P st n a (jmGD en la P st n a) kk) (jmDist en la P st n a (a + 1 + kk)))), (0, .ref (g 0)), (2, .int (nI a))]) hx hb dX5_greatestDistance_35 hl (k := 3) rfl (jx_inc _) (by decide) rfl (fun ls hl => ?_)
              refine lv_goto (tgt := 16) hx hb dX5_greatestDistance_38 (by decide) ?_
              have ev_2 : jmMax32 (jmGDi en la P st n a (jmGD en la P st n a) kk) (jmDist en la P st n a (a + 1 + kk)) = jmGDi en la P st n a (jmGD en la P st n a) (kk + 1) := by first | rfl | (simp [jmGD, jmGDi, c21]; done)
              have ev_3 : a + 1 + kk + 1 = a + 1 + (kk + 1) := by first | rfl | (simp [jmGD, jmGDi, c21]; done)
              exact ih16 (kk + 1) (by omega) (by omega) ls (by rw [← ev_2, ← ev_3]; exact lv_sub hl [2, 1, 3, 0] rfl)
        have ev_4 : jmGD en la P st n a = jmGDi en la P st n a (jmGD en la P st n a) 0 := by first | rfl | (simp [jmGD, jmGDi, c9]; done)
        have ev_5 : a + 1 = a + 1 + 0 := by first | rfl | (simp [jmGD, jmGDi, c9]; done)
        exact L16 ((P - (a + 1 + 0)) + 1) 0 (by omega) (Nat.lt_succ_self _) ls (by rw [← ev_4, ← ev_5]; exact lv_sub hl [1, 2, 3, 0] rfl)
  have ev_6 : (nI 0) = (jmGD en la P st n 0) := by first | rfl | (simp [jmGD, if_true]; done)
  exact L4 ((P - 0) + 1) 0 (by omega) (Nat.lt_succ_self _) ls (by rw [← ev_6]; exact lv_sub hl [2, 1, 0] rfl)
end
section
theorem jx_probe : (1 : Nat) + 1 = 2 := rfl
end
