set_option maxRecDepth 20000 in
theorem wsL_in_r22 : ∀ w ∈ wsL_law0_r22, w ∈ lw_tbl := fun w h => (goodIn_p wsL_law0_r22 [608, 613, 620, 639] (by decide +kernel) (by decide +kernel) w h).1
set_option maxRecDepth 20000 in
theorem wsL_in_r23 : ∀ w ∈ wsL_law0_r23, w ∈ lw_tbl := fun w h => (goodIn_p wsL_law0_r23 [878, 882, 886, 646, 890] (by decide +kernel) (by decide +kernel) w h).1
set_option maxRecDepth 20000 in
theorem wsL_in_r24 : ∀ w ∈ wsL_law0_r24, w ∈ lw_tbl := fun w h => (goodIn_p wsL_law0_r24 [653, 658, 662, 894, 669] (by decide +kernel) (by decide +kernel) w h).1
set_option maxRecDepth 20000 in
theorem wsL_in_r25 : ∀ w ∈ wsL_law0_r25, w ∈ lw_tbl := fun w h => (goodIn_p wsL_law0_r25 [673, 898, 902, 682] (by decide +kernel) (by decide +kernel) w h).1
set_option maxRecDepth 20000 in
theorem wsL_in_r26 : ∀ w ∈ wsL_law0_r26, w ∈ lw_tbl := fun w h => (goodIn_p wsL_law0_r26 [687, 906, 240, 910, 274] (by decide +kernel) (by decide +kernel) w h).1
set_option maxRecDepth 20000 in
theorem wsL_in_r27 : ∀ w ∈ wsL_law0_r27, w ∈ lw_tbl := fun w h => (goodIn_p wsL_law0_r27 [278, 914, 918, 282, 922, 286] (by decide +kernel) (by decide +kernel) w h).1
set_option maxRecDepth 20000 in
theorem wsL_in_r28 : ∀ w ∈ wsL_law0_r28, w ∈ lw_tbl := fun w h => (goodIn_p wsL_law0_r28 [290, 299, 303, 309, 926, 930] (by decide +kernel) (by decide +kernel) w h).1
set_option maxRecDepth 20000 in
theorem wsL_in_r29 : ∀ w ∈ wsL_law0_r29, w ∈ lw_tbl := fun w h => (goodIn_p wsL_law0_r29 [313, 934] (by decide +kernel) (by decide +kernel) w h).1
set_option maxRecDepth 20000 in
theorem wsL_in_wsX80 : ∀ w ∈ wsX80, w ∈ lw_tbl := by decide +kernel
set_option maxRecDepth 20000 in
theorem wsL_in_wsX90 : ∀ w ∈ wsX90, w ∈ lw_tbl := by decide +kernel
set_option maxRecDepth 20000 in
theorem wsL_in_wsX50 : ∀ w ∈ wsX50, w ∈ lw_tbl := by decide +kernel
set_option maxRecDepth 20000 in
theorem wsL_in_wsX60 : ∀ w ∈ wsX60, w ∈ lw_tbl := by decide +kernel
set_option maxRecDepth 20000 in
theorem wsL_in_wsX20 : ∀ w ∈ wsX20, w ∈ lw_tbl := by decide +kernel
set_option maxRecDepth 20000 in
theorem wsL_in_wsX70 : ∀ w ∈ wsX70, w ∈ lw_tbl := by decide +kernel
set_option maxRecDepth 20000 in
theorem wsL_in_wsX00 : ∀ w ∈ wsX00, w ∈ lw_tbl := by decide +kernel
set_option maxRecDepth 20000 in
theorem wsL_in_wsX10 : ∀ w ∈ wsX10, w ∈ lw_tbl := by decide +kernel
set_option maxRecDepth 20000 in
theorem wsL_in_wsX40 : ∀ w ∈ wsX40, w ∈ lw_tbl := by decide +kernel
theorem wsL_law_in0 : ∀ w ∈ wsL_law0, w ∈ lw_tbl := (fun w h => (List.mem_append.mp h).elim ((fun w h => (List.mem_append.mp h).elim ((fun w h => (List.mem_append.mp h).elim ((fun w h => (List.mem_append.mp h).elim ((fun w h => (List.mem_append.mp h).elim ((fun w h => (List.mem_append.mp h).elim ((fun w h => (List.mem_append.mp h).elim ((fun w h => (List.mem_append.mp h).elim ((fun w h => (List.mem_append.mp h).elim ((fun w h => (List.mem_append.mp h).elim ((fun w h => (List.mem_append.mp h).elim (wsL_in_r1 w) ((fun w h => (List.mem_append.mp h).elim (wsL_in_r2 w) ((fun w h => (List.mem_append.mp h).elim (wsL_in_r3 w) ((fun w h => (List.mem_append.mp h).elim (wsL_in_r4 w) ((fun w h => (List.mem_append.mp h).elim (wsL_in_r5 w) ((fun w h => (List.mem_append.mp h).elim (wsL_in_r6 w) ((fun w h => (List.mem_append.mp h).elim (wsL_in_r7 w) ((fun w h => (List.mem_append.mp h).elim (wsL_in_r8 w) ((fun w h => (List.mem_append.mp h).elim (wsL_in_r9 w) ((fun w h => (List.mem_append.mp h).elim (wsL_in_r10 w) ((fun w h => (List.mem_append.mp h).elim (wsL_in_r11 w) ((fun w h => (List.mem_append.mp h).elim (wsL_in_r12 w) ((fun w h => (List.mem_append.mp h).elim (wsL_in_r13 w) ((fun w h => (List.mem_append.mp h).elim (wsL_in_r14 w) ((fun w h => (List.mem_append.mp h).elim (wsL_in_r15 w) ((fun w h => (List.mem_append.mp h).elim (wsL_in_r16 w) ((fun w h => (List.mem_append.mp h).elim (wsL_in_r17 w) ((fun w h => (List.mem_append.mp h).elim (wsL_in_r18 w) ((fun w h => (List.mem_append.mp h).elim (wsL_in_r19 w) ((fun w h => (List.mem_append.mp h).elim (wsL_in_r20 w) ((fun w h => (List.mem_append.mp h).elim (wsL_in_r21 w) ((fun w h => (List.mem_append.mp h).elim (wsL_in_r22 w) ((fun w h => (List.mem_append.mp h).elim (wsL_in_r23 w) ((fun w h => (List.mem_append.mp h).elim (wsL_in_r24 w) ((fun w h => (List.mem_append.mp h).elim (wsL_in_r25 w) ((fun w h => (List.mem_append.mp h).elim (wsL_in_r26 w) ((fun w h => (List.mem_append.mp h).elim (wsL_in_r27 w) ((fun w h => (List.mem_append.mp h).elim (wsL_in_r28 w) (wsL_in_r29 w)) w)) w)) w)) w)) w)) w)) w)) w)) w)) w)) w)) w)) w)) w)) w)) w)) w)) w)) w)) w)) w)) w)) w)) w)) w)) w)) w)) w) (wsL_in_wsX80 w)) w) (wsL_in_wsX90 w)) w) (wsL_in_wsX50 w)) w) (wsL_in_wsX60 w)) w) (wsL_in_wsX20 w)) w) (wsL_in_wsX70 w)) w) (wsL_in_wsX00 w)) w) (wsL_in_wsX10 w)) w) (wsL_in_wsX40 w)) w) (fun h : w ∈ ([] : List Cond) => nomatch h))
theorem wsL_law_x0 : ∀ w ∈ (vx_atS RX8 69 "java/lang/IllegalStateException" ["java/lang/RuntimeException", "java/lang/Exception"]).filter goodWord, w ∈ lw_tbl := by decide +kernel
theorem wsL_law_x1 : ∀ w ∈ (vx_atS RX8 96 "java/lang/IllegalArgumentException" ["java/lang/RuntimeException", "java/lang/Exception"]).filter goodWord, w ∈ lw_tbl := by decide +kernel
theorem wsL_law_in : ∀ w ∈ wsL_law, w ∈ lw_tbl := fun w h => (List.mem_append.mp h).elim (fun h => (List.mem_append.mp h).elim (fun h => wsL_law_in0 w h) (fun h => wsL_law_x0 w h)) (fun h => wsL_law_x1 w h)
