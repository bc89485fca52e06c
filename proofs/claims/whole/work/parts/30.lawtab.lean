set_option maxRecDepth 20000 in
theorem wl_1 : ∀ w ∈ wsL_law_r1, w ∈ lw_tbl := by decide +kernel
set_option maxRecDepth 20000 in
theorem wl_2 : ∀ w ∈ wsL_law_r2, w ∈ lw_tbl := by decide +kernel
set_option maxRecDepth 20000 in
theorem wl_3 : ∀ w ∈ wsL_law_r3, w ∈ lw_tbl := by decide +kernel
set_option maxRecDepth 20000 in
theorem wl_4 : ∀ w ∈ wsL_law_r4, w ∈ lw_tbl := by decide +kernel
set_option maxRecDepth 20000 in
theorem wl_5 : ∀ w ∈ wsL_law_r5, w ∈ lw_tbl := by decide +kernel
set_option maxRecDepth 20000 in
theorem wl_6 : ∀ w ∈ wsL_law_r6, w ∈ lw_tbl := by decide +kernel
set_option maxRecDepth 20000 in
theorem wl_7 : ∀ w ∈ wsL_law_r7, w ∈ lw_tbl := by decide +kernel
set_option maxRecDepth 20000 in
theorem wl_8 : ∀ w ∈ wsL_law_r8, w ∈ lw_tbl := by decide +kernel
set_option maxRecDepth 20000 in
theorem wl_9 : ∀ w ∈ wsL_law_r9, w ∈ lw_tbl := by decide +kernel
set_option maxRecDepth 20000 in
theorem wl_10 : ∀ w ∈ wsL_law_r10, w ∈ lw_tbl := by decide +kernel
set_option maxRecDepth 20000 in
theorem wl_11 : ∀ w ∈ wsL_law_r11, w ∈ lw_tbl := by decide +kernel
set_option maxRecDepth 20000 in
theorem wl_12 : ∀ w ∈ wsL_law_r12, w ∈ lw_tbl := by decide +kernel
set_option maxRecDepth 20000 in
theorem wl_13 : ∀ w ∈ wsL_law_r13, w ∈ lw_tbl := by decide +kernel
set_option maxRecDepth 20000 in
theorem wl_14 : ∀ w ∈ wsL_law_r14, w ∈ lw_tbl := by decide +kernel
set_option maxRecDepth 20000 in
theorem wl_15 : ∀ w ∈ wsL_law_r15, w ∈ lw_tbl := by decide +kernel
set_option maxRecDepth 20000 in
theorem wl_16 : ∀ w ∈ wsL_law_r16, w ∈ lw_tbl := by decide +kernel
set_option maxRecDepth 20000 in
theorem wl_17 : ∀ w ∈ wsL_law_r17, w ∈ lw_tbl := by decide +kernel
set_option maxRecDepth 20000 in
theorem wl_18 : ∀ w ∈ wsL_law_r18, w ∈ lw_tbl := by decide +kernel
set_option maxRecDepth 20000 in
theorem wl_19 : ∀ w ∈ wsL_law_r19, w ∈ lw_tbl := by decide +kernel
set_option maxRecDepth 20000 in
theorem wl_20 : ∀ w ∈ wsL_law_r20, w ∈ lw_tbl := by decide +kernel
set_option maxRecDepth 20000 in
theorem wl_21 : ∀ w ∈ wsL_law_r21, w ∈ lw_tbl := by decide +kernel
set_option maxRecDepth 20000 in
theorem wl_22 : ∀ w ∈ wsL_law_r22, w ∈ lw_tbl := by decide +kernel
set_option maxRecDepth 20000 in
theorem wl_23 : ∀ w ∈ wsL_law_r23, w ∈ lw_tbl := by decide +kernel
set_option maxRecDepth 20000 in
theorem wl_24 : ∀ w ∈ wsL_law_r24, w ∈ lw_tbl := by decide +kernel
set_option maxRecDepth 20000 in
theorem wl_25 : ∀ w ∈ wsL_law_r25, w ∈ lw_tbl := by decide +kernel
set_option maxRecDepth 20000 in
theorem wl_26 : ∀ w ∈ wsL_law_r26, w ∈ lw_tbl := by decide +kernel
set_option maxRecDepth 20000 in
theorem wl_27 : ∀ w ∈ wsL_law_r27, w ∈ lw_tbl := by decide +kernel
set_option maxRecDepth 20000 in
theorem wl_28 : ∀ w ∈ wsL_law_r28, w ∈ lw_tbl := by decide +kernel
set_option maxRecDepth 20000 in
theorem wl_29 : ∀ w ∈ wsL_law_r29, w ∈ lw_tbl := by decide +kernel
set_option maxRecDepth 20000 in
theorem wl_30 : ∀ w ∈ wsL_law_r30, w ∈ lw_tbl := by decide +kernel
set_option maxRecDepth 20000 in
theorem wl_31 : ∀ w ∈ wsL_law_r31, w ∈ lw_tbl := by decide +kernel
set_option maxRecDepth 20000 in
theorem wl_32 : ∀ w ∈ wsL_law_r32, w ∈ lw_tbl := by decide +kernel
set_option maxRecDepth 20000 in
theorem wl_33 : ∀ w ∈ wsL_law_r33, w ∈ lw_tbl := by decide +kernel
set_option maxRecDepth 20000 in
theorem wl_34 : ∀ w ∈ wsL_law_r34, w ∈ lw_tbl := by decide +kernel
set_option maxRecDepth 20000 in
theorem wl_35 : ∀ w ∈ wsL_law_r35, w ∈ lw_tbl := by decide +kernel
set_option maxRecDepth 20000 in
theorem wl_36 : ∀ w ∈ wsL_law_r36, w ∈ lw_tbl := by decide +kernel
set_option maxRecDepth 20000 in
theorem wl_37 : ∀ w ∈ wsL_law_r37, w ∈ lw_tbl := by decide +kernel
set_option maxRecDepth 20000 in
theorem wl_38 : ∀ w ∈ wsL_law_r38, w ∈ lw_tbl := by decide +kernel
set_option maxRecDepth 20000 in
theorem wl_39 : ∀ w ∈ wsL_law_r39, w ∈ lw_tbl := by decide +kernel
set_option maxRecDepth 20000 in
theorem wl_40 : ∀ w ∈ wsL_law_r40, w ∈ lw_tbl := by decide +kernel
set_option maxRecDepth 20000 in
theorem wl_41 : ∀ w ∈ wsL_law_r41, w ∈ lw_tbl := by decide +kernel
set_option maxRecDepth 20000 in
theorem wl_42 : ∀ w ∈ wsL_law_r42, w ∈ lw_tbl := by decide +kernel
set_option maxRecDepth 20000 in
theorem wl_43 : ∀ w ∈ wsL_law_r43, w ∈ lw_tbl := by decide +kernel
set_option maxRecDepth 20000 in
theorem wl_44 : ∀ w ∈ wsL_law_r44, w ∈ lw_tbl := by decide +kernel
set_option maxRecDepth 20000 in
theorem wl_45 : ∀ w ∈ wsL_law_r45, w ∈ lw_tbl := by decide +kernel
set_option maxRecDepth 20000 in
theorem wl_46 : ∀ w ∈ wsL_law_r46, w ∈ lw_tbl := by decide +kernel
set_option maxRecDepth 20000 in
theorem wl_47 : ∀ w ∈ wsL_law_r47, w ∈ lw_tbl := by decide +kernel
set_option maxRecDepth 20000 in
theorem wl_48 : ∀ w ∈ wsL_law_r48, w ∈ lw_tbl := by decide +kernel
set_option maxRecDepth 20000 in
theorem wl_49 : ∀ w ∈ wsL_law_r49, w ∈ lw_tbl := by decide +kernel
set_option maxRecDepth 20000 in
theorem wl_50 : ∀ w ∈ wsL_law_r50, w ∈ lw_tbl := by decide +kernel
set_option maxRecDepth 20000 in
theorem wl_51 : ∀ w ∈ wsL_law_r51, w ∈ lw_tbl := by decide +kernel
set_option maxRecDepth 20000 in
theorem wl_52 : ∀ w ∈ wsL_law_r52, w ∈ lw_tbl := by decide +kernel
set_option maxRecDepth 20000 in
theorem wl_53 : ∀ w ∈ wsL_law_r53, w ∈ lw_tbl := by decide +kernel
set_option maxRecDepth 20000 in
theorem wl_54 : ∀ w ∈ wsL_law_r54, w ∈ lw_tbl := by decide +kernel
set_option maxRecDepth 20000 in
theorem wl_55 : ∀ w ∈ wsL_law_r55, w ∈ lw_tbl := by decide +kernel
set_option maxRecDepth 20000 in
theorem wl_56 : ∀ w ∈ wsL_law_r56, w ∈ lw_tbl := by decide +kernel
set_option maxRecDepth 20000 in
theorem wl_57 : ∀ w ∈ wsL_law_r57, w ∈ lw_tbl := by decide +kernel
set_option maxRecDepth 20000 in
theorem wl_58 : ∀ w ∈ wsL_law_r58, w ∈ lw_tbl := by decide +kernel
set_option maxRecDepth 20000 in
theorem wl_59 : ∀ w ∈ wsL_law_r59, w ∈ lw_tbl := by decide +kernel
set_option maxRecDepth 20000 in
theorem wt_wsX90 : ∀ w ∈ wsX90, w ∈ lw_tbl := by decide +kernel
set_option maxRecDepth 20000 in
theorem wt_wsX100 : ∀ w ∈ wsX100, w ∈ lw_tbl := by decide +kernel
set_option maxRecDepth 20000 in
theorem wt_wsX50 : ∀ w ∈ wsX50, w ∈ lw_tbl := by decide +kernel
set_option maxRecDepth 20000 in
theorem wt_wsX30 : ∀ w ∈ wsX30, w ∈ lw_tbl := by decide +kernel
set_option maxRecDepth 20000 in
theorem wt_wsX60 : ∀ w ∈ wsX60, w ∈ lw_tbl := by decide +kernel
set_option maxRecDepth 20000 in
theorem wt_wsX20 : ∀ w ∈ wsX20, w ∈ lw_tbl := by decide +kernel
set_option maxRecDepth 20000 in
theorem wt_wsX10 : ∀ w ∈ wsX10, w ∈ lw_tbl := by decide +kernel
set_option maxRecDepth 20000 in
theorem wt_wsX80 : ∀ w ∈ wsX80, w ∈ lw_tbl := by decide +kernel
set_option maxRecDepth 20000 in
theorem wt_wsX00 : ∀ w ∈ wsX00, w ∈ lw_tbl := by decide +kernel
set_option maxRecDepth 20000 in
theorem wt_wsX70 : ∀ w ∈ wsX70, w ∈ lw_tbl := by decide +kernel
set_option maxRecDepth 20000 in
theorem wt_wsX40 : ∀ w ∈ wsX40, w ∈ lw_tbl := by decide +kernel
theorem wsL_law_in : ∀ w ∈ wsL_law, w ∈ lw_tbl := List.forall_mem_append.mpr ⟨List.forall_mem_append.mpr ⟨List.forall_mem_append.mpr ⟨List.forall_mem_append.mpr ⟨List.forall_mem_append.mpr ⟨List.forall_mem_append.mpr ⟨List.forall_mem_append.mpr ⟨List.forall_mem_append.mpr ⟨List.forall_mem_append.mpr ⟨List.forall_mem_append.mpr ⟨List.forall_mem_append.mpr ⟨List.forall_mem_append.mpr ⟨wl_1, List.forall_mem_append.mpr ⟨wl_2, List.forall_mem_append.mpr ⟨wl_3, List.forall_mem_append.mpr ⟨wl_4, List.forall_mem_append.mpr ⟨wl_5, List.forall_mem_append.mpr ⟨wl_6, List.forall_mem_append.mpr ⟨wl_7, List.forall_mem_append.mpr ⟨wl_8, List.forall_mem_append.mpr ⟨wl_9, List.forall_mem_append.mpr ⟨wl_10, List.forall_mem_append.mpr ⟨wl_11, List.forall_mem_append.mpr ⟨wl_12, List.forall_mem_append.mpr ⟨wl_13, List.forall_mem_append.mpr ⟨wl_14, List.forall_mem_append.mpr ⟨wl_15, List.forall_mem_append.mpr ⟨wl_16, List.forall_mem_append.mpr ⟨wl_17, List.forall_mem_append.mpr ⟨wl_18, List.forall_mem_append.mpr ⟨wl_19, List.forall_mem_append.mpr ⟨wl_20, List.forall_mem_append.mpr ⟨wl_21, List.forall_mem_append.mpr ⟨wl_22, List.forall_mem_append.mpr ⟨wl_23, List.forall_mem_append.mpr ⟨wl_24, List.forall_mem_append.mpr ⟨wl_25, List.forall_mem_append.mpr ⟨wl_26, List.forall_mem_append.mpr ⟨wl_27, List.forall_mem_append.mpr ⟨wl_28, List.forall_mem_append.mpr ⟨wl_29, List.forall_mem_append.mpr ⟨wl_30, List.forall_mem_append.mpr ⟨wl_31, List.forall_mem_append.mpr ⟨wl_32, List.forall_mem_append.mpr ⟨wl_33, List.forall_mem_append.mpr ⟨wl_34, List.forall_mem_append.mpr ⟨wl_35, List.forall_mem_append.mpr ⟨wl_36, List.forall_mem_append.mpr ⟨wl_37, List.forall_mem_append.mpr ⟨wl_38, List.forall_mem_append.mpr ⟨wl_39, List.forall_mem_append.mpr ⟨wl_40, List.forall_mem_append.mpr ⟨wl_41, List.forall_mem_append.mpr ⟨wl_42, List.forall_mem_append.mpr ⟨wl_43, List.forall_mem_append.mpr ⟨wl_44, List.forall_mem_append.mpr ⟨wl_45, List.forall_mem_append.mpr ⟨wl_46, List.forall_mem_append.mpr ⟨wl_47, List.forall_mem_append.mpr ⟨wl_48, List.forall_mem_append.mpr ⟨wl_49, List.forall_mem_append.mpr ⟨wl_50, List.forall_mem_append.mpr ⟨wl_51, List.forall_mem_append.mpr ⟨wl_52, List.forall_mem_append.mpr ⟨wl_53, List.forall_mem_append.mpr ⟨wl_54, List.forall_mem_append.mpr ⟨wl_55, List.forall_mem_append.mpr ⟨wl_56, List.forall_mem_append.mpr ⟨wl_57, List.forall_mem_append.mpr ⟨wl_58, wl_59⟩⟩⟩⟩⟩⟩⟩⟩⟩⟩⟩⟩⟩⟩⟩⟩⟩⟩⟩⟩⟩⟩⟩⟩⟩⟩⟩⟩⟩⟩⟩⟩⟩⟩⟩⟩⟩⟩⟩⟩⟩⟩⟩⟩⟩⟩⟩⟩⟩⟩⟩⟩⟩⟩⟩⟩⟩⟩, wt_wsX90⟩, wt_wsX100⟩, wt_wsX50⟩, wt_wsX30⟩, wt_wsX60⟩, wt_wsX20⟩, wt_wsX10⟩, wt_wsX80⟩, wt_wsX00⟩, wt_wsX70⟩, wt_wsX40⟩
