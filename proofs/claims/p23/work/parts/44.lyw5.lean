/-! own rows: the words of the law among the tables: all -/
theorem wsL_law_in0 : ∀ w ∈ wsL_law0, w ∈ lw_tbl := fm_app (fm_app (fm_app (fm_app (fm_app (fm_app (fm_app (fm_app (fm_app il_r1 (fm_app il_r2 (fm_app il_r3 (fm_app il_r4 (fm_app il_r5 (fm_app il_r6 (fm_app il_r7 (fm_app il_r8 (fm_app il_r9 (fm_app il_r10 (fm_app il_r11 (fm_app il_r12 (fm_app il_r13 (fm_app il_r14 (fm_app il_r15 (fm_app il_r16 (fm_app il_r17 (fm_app il_r18 (fm_app il_r19 (fm_app il_r20 (fm_app il_r21 (fm_app il_r22 il_r23)))))))))))))))))))))) inl_wsX60) inl_wsX50) inl_wsX10) inl_wsX40) inl_wsX20) inl_wsX30) inl_wsX00) (fun w h => by cases h)
set_option maxRecDepth 20000 in
theorem wsL_law_x0 : ∀ w ∈ (vx_atS RX6 64 "java/lang/IllegalStateException" ["java/lang/RuntimeException", "java/lang/Exception"]).filter goodWord, w ∈ lw_tbl := by decide +kernel
set_option maxRecDepth 20000 in
theorem wsL_law_x1 : ∀ w ∈ (vx_atS RX6 253 "java/lang/IllegalArgumentException" ["java/lang/RuntimeException", "java/lang/Exception"]).filter goodWord, w ∈ lw_tbl := by decide +kernel
set_option maxRecDepth 20000 in
theorem wsL_law_x2 : ∀ w ∈ (vx_atS RX6 334 "java/lang/IndexOutOfBoundsException" ["java/lang/RuntimeException", "java/lang/Exception"]).filter goodWord, w ∈ lw_tbl := by decide +kernel
theorem wsL_law_in : ∀ w ∈ wsL_law, w ∈ lw_tbl := fm_app (fm_app (fm_app wsL_law_in0 wsL_law_x0) wsL_law_x1) wsL_law_x2
