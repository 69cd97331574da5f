set_option maxRecDepth 20000 in
theorem wi_21 : ∀ w ∈ wsL_law_r21, w ∈ lw_tbl := by decide +kernel
set_option maxRecDepth 20000 in
theorem wi_22 : ∀ w ∈ wsL_law_r22, w ∈ lw_tbl := by decide +kernel
set_option maxRecDepth 20000 in
theorem wi_23 : ∀ w ∈ wsL_law_r23, w ∈ lw_tbl := by decide +kernel
set_option maxRecDepth 20000 in
theorem wi_24 : ∀ w ∈ wsL_law_r24, w ∈ lw_tbl := by decide +kernel
set_option maxRecDepth 20000 in
theorem wi_25 : ∀ w ∈ wsL_law_r25, w ∈ lw_tbl := by decide +kernel
set_option maxRecDepth 20000 in
theorem wi_26 : ∀ w ∈ wsL_law_r26, w ∈ lw_tbl := by decide +kernel
set_option maxRecDepth 20000 in
theorem wi_27 : ∀ w ∈ wsL_law_r27, w ∈ lw_tbl := by decide +kernel
set_option maxRecDepth 20000 in
theorem wi_28 : ∀ w ∈ wsL_law_r28, w ∈ lw_tbl := by decide +kernel
set_option maxRecDepth 20000 in
theorem wi_29 : ∀ w ∈ wsL_law_r29, w ∈ lw_tbl := by decide +kernel
set_option maxRecDepth 20000 in
theorem wi_30 : ∀ w ∈ wsL_law_r30, w ∈ lw_tbl := by decide +kernel
set_option maxRecDepth 20000 in
theorem wi_31 : ∀ w ∈ wsL_law_r31, w ∈ lw_tbl := by decide +kernel
set_option maxRecDepth 20000 in
theorem wi_32 : ∀ w ∈ wsL_law_r32, w ∈ lw_tbl := by decide +kernel
set_option maxRecDepth 20000 in
theorem wi_33 : ∀ w ∈ wsL_law_r33, w ∈ lw_tbl := by decide +kernel
set_option maxRecDepth 20000 in
theorem wi_34 : ∀ w ∈ wsL_law_r34, w ∈ lw_tbl := by decide +kernel
set_option maxRecDepth 20000 in
theorem wi_35 : ∀ w ∈ wsL_law_r35, w ∈ lw_tbl := by decide +kernel
set_option maxRecDepth 20000 in
theorem wi_36 : ∀ w ∈ wsL_law_r36, w ∈ lw_tbl := by decide +kernel
set_option maxRecDepth 20000 in
theorem wi_37 : ∀ w ∈ wsL_law_r37, w ∈ lw_tbl := by decide +kernel
set_option maxRecDepth 20000 in
theorem wi_38 : ∀ w ∈ wsL_law_r38, w ∈ lw_tbl := by decide +kernel
set_option maxRecDepth 20000 in
theorem wi_39 : ∀ w ∈ wsL_law_r39, w ∈ lw_tbl := by decide +kernel
set_option maxRecDepth 20000 in
theorem wi_40 : ∀ w ∈ wsL_law_r40, w ∈ lw_tbl := by decide +kernel
set_option maxRecDepth 20000 in
theorem wi_41 : ∀ w ∈ wsL_law_r41, w ∈ lw_tbl := by decide +kernel
set_option maxRecDepth 20000 in
theorem wf_50 : ∀ w ∈ wsX50, w ∈ lw_tbl := by decide +kernel
set_option maxRecDepth 20000 in
theorem wf_60 : ∀ w ∈ wsX60, w ∈ lw_tbl := by decide +kernel
set_option maxRecDepth 20000 in
theorem wf_00 : ∀ w ∈ wsX00, w ∈ lw_tbl := by decide +kernel
set_option maxRecDepth 20000 in
theorem wf_40 : ∀ w ∈ wsX40, w ∈ lw_tbl := by decide +kernel
set_option maxRecDepth 20000 in
theorem wf_20 : ∀ w ∈ wsX20, w ∈ lw_tbl := by decide +kernel
set_option maxRecDepth 20000 in
theorem wf_10 : ∀ w ∈ wsX10, w ∈ lw_tbl := by decide +kernel
set_option maxRecDepth 20000 in
theorem wf_30 : ∀ w ∈ wsX30, w ∈ lw_tbl := by decide +kernel
theorem fa2 {a b : List Cond} (h1 : ∀ w ∈ a, w ∈ lw_tbl) (h2 : ∀ w ∈ b, w ∈ lw_tbl) : ∀ w ∈ a ++ b, w ∈ lw_tbl := fun w h => (List.mem_append.mp h).elim (h1 w) (h2 w)
theorem wsL_law_in : ∀ w ∈ wsL_law, w ∈ lw_tbl := fa2 (fa2 (fa2 (fa2 (fa2 (fa2 (fa2 (fa2 (fa2 wi_1 (fa2 wi_2 (fa2 wi_3 (fa2 wi_4 (fa2 wi_5 (fa2 wi_6 (fa2 wi_7 (fa2 wi_8 (fa2 wi_9 (fa2 wi_10 (fa2 wi_11 (fa2 wi_12 (fa2 wi_13 (fa2 wi_14 (fa2 wi_15 (fa2 wi_16 (fa2 wi_17 (fa2 wi_18 (fa2 wi_19 (fa2 wi_20 (fa2 wi_21 (fa2 wi_22 (fa2 wi_23 (fa2 wi_24 (fa2 wi_25 (fa2 wi_26 (fa2 wi_27 (fa2 wi_28 (fa2 wi_29 (fa2 wi_30 (fa2 wi_31 (fa2 wi_32 (fa2 wi_33 (fa2 wi_34 (fa2 wi_35 (fa2 wi_36 (fa2 wi_37 (fa2 wi_38 (fa2 wi_39 (fa2 wi_40 wi_41)))))))))))))))))))))))))))))))))))))))) wf_50) wf_60) wf_00) wf_40) wf_20) wf_10) wf_30) (fun w h => absurd h (List.not_mem_nil))
