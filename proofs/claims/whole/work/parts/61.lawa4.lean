set_option maxRecDepth 100000 in
theorem wk_wsX110 : ∀ w ∈ wsX110, w ∈ lw_tbl := by decide +kernel
set_option maxRecDepth 100000 in
theorem wk_wsX120 : ∀ w ∈ wsX120, w ∈ lw_tbl := by decide +kernel
set_option maxRecDepth 100000 in
theorem wk_wsX100 : ∀ w ∈ wsX100, w ∈ lw_tbl := by decide +kernel
set_option maxRecDepth 100000 in
theorem wk_wsX60 : ∀ w ∈ wsX60, w ∈ lw_tbl := by decide +kernel
set_option maxRecDepth 100000 in
theorem wk_wsX70 : ∀ w ∈ wsX70, w ∈ lw_tbl := by decide +kernel
set_option maxRecDepth 100000 in
theorem wk_wsX30 : ∀ w ∈ wsX30, w ∈ lw_tbl := by decide +kernel
set_option maxRecDepth 100000 in
theorem wk_wsX90 : ∀ w ∈ wsX90, w ∈ lw_tbl := by decide +kernel
set_option maxRecDepth 100000 in
theorem wk_wsX80 : ∀ w ∈ wsX80, w ∈ lw_tbl := by decide +kernel
set_option maxRecDepth 100000 in
theorem wk_wsX40 : ∀ w ∈ wsX40, w ∈ lw_tbl := by decide +kernel
set_option maxRecDepth 100000 in
theorem wk_wsX20 : ∀ w ∈ wsX20, w ∈ lw_tbl := by decide +kernel
set_option maxRecDepth 100000 in
theorem wk_wsX10 : ∀ w ∈ wsX10, w ∈ lw_tbl := by decide +kernel
set_option maxRecDepth 100000 in
theorem wk_wsX50 : ∀ w ∈ wsX50, w ∈ lw_tbl := by decide +kernel
set_option maxRecDepth 100000 in
theorem wk_wsX00 : ∀ w ∈ wsX00, w ∈ lw_tbl := by decide +kernel
def wsL_law : List Cond := (wsL_law_r1 ++ (wsL_law_r2 ++ (wsL_law_r3 ++ (wsL_law_r4 ++ (wsL_law_r5 ++ (wsL_law_r6 ++ (wsL_law_r7 ++ (wsL_law_r8 ++ (wsL_law_r9 ++ (wsL_law_r10 ++ (wsL_law_r11 ++ (wsL_law_r12 ++ (wsL_law_r13 ++ (wsL_law_r14 ++ (wsL_law_r15 ++ (wsL_law_r16 ++ (wsL_law_r17 ++ (wsL_law_r18 ++ (wsL_law_r19 ++ (wsL_law_r20 ++ (wsL_law_r21 ++ (wsL_law_r22 ++ (wsL_law_r23 ++ (wsL_law_r24 ++ (wsL_law_r25 ++ (wsL_law_r26 ++ (wsL_law_r27 ++ (wsL_law_r28 ++ (wsL_law_r29 ++ (wsL_law_r30 ++ (wsL_law_r31 ++ (wsL_law_r32 ++ (wsL_law_r33 ++ (wsL_law_r34 ++ (wsL_law_r35 ++ (wsL_law_r36 ++ (wsL_law_r37 ++ (wsL_law_r38 ++ (wsL_law_r39 ++ (wsL_law_r40 ++ (wsL_law_r41 ++ (wsL_law_r42 ++ (wsL_law_r43 ++ wsL_law_r44))))))))))))))))))))))))))))))))))))))))))) ++ wsX110 ++ wsX120 ++ wsX100 ++ wsX60 ++ wsX70 ++ wsX30 ++ wsX90 ++ wsX80 ++ wsX40 ++ wsX20 ++ wsX10 ++ wsX50 ++ wsX00 ++ ([] : List Cond)
set_option maxRecDepth 100000 in
theorem wsL_law_in : ∀ w ∈ wsL_law, w ∈ lw_tbl := by
  unfold wsL_law
  exact List.forall_mem_append.mpr ⟨List.forall_mem_append.mpr ⟨List.forall_mem_append.mpr ⟨List.forall_mem_append.mpr ⟨List.forall_mem_append.mpr ⟨List.forall_mem_append.mpr ⟨List.forall_mem_append.mpr ⟨List.forall_mem_append.mpr ⟨List.forall_mem_append.mpr ⟨List.forall_mem_append.mpr ⟨List.forall_mem_append.mpr ⟨List.forall_mem_append.mpr ⟨List.forall_mem_append.mpr ⟨List.forall_mem_append.mpr ⟨List.forall_mem_append.mpr ⟨wk_1, List.forall_mem_append.mpr ⟨wk_2, List.forall_mem_append.mpr ⟨wk_3, List.forall_mem_append.mpr ⟨wk_4, List.forall_mem_append.mpr ⟨wk_5, List.forall_mem_append.mpr ⟨wk_6, List.forall_mem_append.mpr ⟨wk_7, List.forall_mem_append.mpr ⟨wk_8, List.forall_mem_append.mpr ⟨wk_9, List.forall_mem_append.mpr ⟨wk_10, List.forall_mem_append.mpr ⟨wk_11, List.forall_mem_append.mpr ⟨wk_12, List.forall_mem_append.mpr ⟨wk_13, List.forall_mem_append.mpr ⟨wk_14, List.forall_mem_append.mpr ⟨wk_15, List.forall_mem_append.mpr ⟨wk_16, List.forall_mem_append.mpr ⟨wk_17, List.forall_mem_append.mpr ⟨wk_18, List.forall_mem_append.mpr ⟨wk_19, List.forall_mem_append.mpr ⟨wk_20, List.forall_mem_append.mpr ⟨wk_21, List.forall_mem_append.mpr ⟨wk_22, List.forall_mem_append.mpr ⟨wk_23, List.forall_mem_append.mpr ⟨wk_24, List.forall_mem_append.mpr ⟨wk_25, List.forall_mem_append.mpr ⟨wk_26, List.forall_mem_append.mpr ⟨wk_27, List.forall_mem_append.mpr ⟨wk_28, List.forall_mem_append.mpr ⟨wk_29, List.forall_mem_append.mpr ⟨wk_30, List.forall_mem_append.mpr ⟨wk_31, List.forall_mem_append.mpr ⟨wk_32, List.forall_mem_append.mpr ⟨wk_33, List.forall_mem_append.mpr ⟨wk_34, List.forall_mem_append.mpr ⟨wk_35, List.forall_mem_append.mpr ⟨wk_36, List.forall_mem_append.mpr ⟨wk_37, List.forall_mem_append.mpr ⟨wk_38, List.forall_mem_append.mpr ⟨wk_39, List.forall_mem_append.mpr ⟨wk_40, List.forall_mem_append.mpr ⟨wk_41, List.forall_mem_append.mpr ⟨wk_42, List.forall_mem_append.mpr ⟨wk_43, wk_44⟩⟩⟩⟩⟩⟩⟩⟩⟩⟩⟩⟩⟩⟩⟩⟩⟩⟩⟩⟩⟩⟩⟩⟩⟩⟩⟩⟩⟩⟩⟩⟩⟩⟩⟩⟩⟩⟩⟩⟩⟩⟩⟩, wk_wsX110⟩, wk_wsX120⟩, wk_wsX100⟩, wk_wsX60⟩, wk_wsX70⟩, wk_wsX30⟩, wk_wsX90⟩, wk_wsX80⟩, wk_wsX40⟩, wk_wsX20⟩, wk_wsX10⟩, wk_wsX50⟩, wk_wsX00⟩, fun _ h => absurd h List.not_mem_nil⟩
