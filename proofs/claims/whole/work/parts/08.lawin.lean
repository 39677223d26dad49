theorem mem_ap {P : Cond → Prop} {a b : List Cond} (ha : ∀ w ∈ a, P w) (hb : ∀ w ∈ b, P w) : ∀ w ∈ a ++ b, P w := fun w h => (List.mem_append.mp h).elim (ha w) (hb w)
set_option maxRecDepth 20000 in
theorem in_wsL_law_r1 : ∀ w ∈ wsL_law_r1, w ∈ lw_tbl := by sorry
set_option maxRecDepth 20000 in
theorem in_wsL_law_r2 : ∀ w ∈ wsL_law_r2, w ∈ lw_tbl := by sorry
set_option maxRecDepth 20000 in
theorem in_wsL_law_r3 : ∀ w ∈ wsL_law_r3, w ∈ lw_tbl := by sorry
set_option maxRecDepth 20000 in
theorem in_wsL_law_r4 : ∀ w ∈ wsL_law_r4, w ∈ lw_tbl := by sorry
set_option maxRecDepth 20000 in
theorem in_wsL_law_r5 : ∀ w ∈ wsL_law_r5, w ∈ lw_tbl := by sorry
set_option maxRecDepth 20000 in
theorem in_wsL_law_r6 : ∀ w ∈ wsL_law_r6, w ∈ lw_tbl := by sorry
set_option maxRecDepth 20000 in
theorem in_wsL_law_r7 : ∀ w ∈ wsL_law_r7, w ∈ lw_tbl := by sorry
set_option maxRecDepth 20000 in
theorem in_wsL_law_r8 : ∀ w ∈ wsL_law_r8, w ∈ lw_tbl := by sorry
set_option maxRecDepth 20000 in
theorem in_wsL_law_r9 : ∀ w ∈ wsL_law_r9, w ∈ lw_tbl := by sorry
set_option maxRecDepth 20000 in
theorem in_wsL_law_r10 : ∀ w ∈ wsL_law_r10, w ∈ lw_tbl := by sorry
set_option maxRecDepth 20000 in
theorem in_wsL_law_r11 : ∀ w ∈ wsL_law_r11, w ∈ lw_tbl := by sorry
set_option maxRecDepth 20000 in
theorem in_wsL_law_r12 : ∀ w ∈ wsL_law_r12, w ∈ lw_tbl := by sorry
set_option maxRecDepth 20000 in
theorem in_wsL_law_r13 : ∀ w ∈ wsL_law_r13, w ∈ lw_tbl := by sorry
set_option maxRecDepth 20000 in
theorem in_wsL_law_r14 : ∀ w ∈ wsL_law_r14, w ∈ lw_tbl := by sorry
set_option maxRecDepth 20000 in
theorem in_wsL_law_r15 : ∀ w ∈ wsL_law_r15, w ∈ lw_tbl := by sorry
set_option maxRecDepth 20000 in
theorem in_wsL_law_r16 : ∀ w ∈ wsL_law_r16, w ∈ lw_tbl := by sorry
set_option maxRecDepth 20000 in
theorem in_wsL_law_r17 : ∀ w ∈ wsL_law_r17, w ∈ lw_tbl := by sorry
set_option maxRecDepth 20000 in
theorem in_wsL_law_r18 : ∀ w ∈ wsL_law_r18, w ∈ lw_tbl := by sorry
set_option maxRecDepth 20000 in
theorem in_wsL_law_r19 : ∀ w ∈ wsL_law_r19, w ∈ lw_tbl := by sorry
set_option maxRecDepth 20000 in
theorem in_wsL_law_r20 : ∀ w ∈ wsL_law_r20, w ∈ lw_tbl := by sorry
set_option maxRecDepth 20000 in
theorem in_wsL_law_r21 : ∀ w ∈ wsL_law_r21, w ∈ lw_tbl := by sorry
set_option maxRecDepth 20000 in
theorem in_wsL_law_r22 : ∀ w ∈ wsL_law_r22, w ∈ lw_tbl := by sorry
set_option maxRecDepth 20000 in
theorem in_wsL_law_r23 : ∀ w ∈ wsL_law_r23, w ∈ lw_tbl := by sorry
set_option maxRecDepth 20000 in
theorem in_wsL_law_r24 : ∀ w ∈ wsL_law_r24, w ∈ lw_tbl := by sorry
set_option maxRecDepth 20000 in
theorem in_wsL_law_r25 : ∀ w ∈ wsL_law_r25, w ∈ lw_tbl := by sorry
set_option maxRecDepth 20000 in
theorem in_wsL_law_r26 : ∀ w ∈ wsL_law_r26, w ∈ lw_tbl := by sorry
set_option maxRecDepth 20000 in
theorem in_wsL_law_r27 : ∀ w ∈ wsL_law_r27, w ∈ lw_tbl := by sorry
set_option maxRecDepth 20000 in
theorem in_wsL_law_r28 : ∀ w ∈ wsL_law_r28, w ∈ lw_tbl := by sorry
set_option maxRecDepth 20000 in
theorem in_wsL_law_r29 : ∀ w ∈ wsL_law_r29, w ∈ lw_tbl := by sorry
set_option maxRecDepth 20000 in
theorem in_wsL_law_r30 : ∀ w ∈ wsL_law_r30, w ∈ lw_tbl := by sorry
set_option maxRecDepth 20000 in
theorem in_wsL_law_r31 : ∀ w ∈ wsL_law_r31, w ∈ lw_tbl := by sorry
set_option maxRecDepth 20000 in
theorem in_wsL_law_r32 : ∀ w ∈ wsL_law_r32, w ∈ lw_tbl := by sorry
set_option maxRecDepth 20000 in
theorem in_wsL_law_r33 : ∀ w ∈ wsL_law_r33, w ∈ lw_tbl := by sorry
set_option maxRecDepth 20000 in
theorem in_wsL_law_r34 : ∀ w ∈ wsL_law_r34, w ∈ lw_tbl := by sorry
set_option maxRecDepth 20000 in
theorem in_wsL_law_r35 : ∀ w ∈ wsL_law_r35, w ∈ lw_tbl := by sorry
set_option maxRecDepth 20000 in
theorem in_wsL_law_r36 : ∀ w ∈ wsL_law_r36, w ∈ lw_tbl := by sorry
set_option maxRecDepth 20000 in
theorem in_wsL_law_r37 : ∀ w ∈ wsL_law_r37, w ∈ lw_tbl := by sorry
set_option maxRecDepth 20000 in
theorem in_wsL_law_r38 : ∀ w ∈ wsL_law_r38, w ∈ lw_tbl := by sorry
set_option maxRecDepth 20000 in
theorem in_wsL_law_r39 : ∀ w ∈ wsL_law_r39, w ∈ lw_tbl := by sorry
set_option maxRecDepth 20000 in
theorem in_wsL_law_r40 : ∀ w ∈ wsL_law_r40, w ∈ lw_tbl := by sorry
set_option maxRecDepth 20000 in
theorem in_wsL_law_r41 : ∀ w ∈ wsL_law_r41, w ∈ lw_tbl := by sorry
set_option maxRecDepth 20000 in
theorem in_wsL_law_r42 : ∀ w ∈ wsL_law_r42, w ∈ lw_tbl := by sorry
set_option maxRecDepth 20000 in
theorem in_wsL_law_r43 : ∀ w ∈ wsL_law_r43, w ∈ lw_tbl := by sorry
set_option maxRecDepth 20000 in
theorem inX11 : ∀ w ∈ wsX110, w ∈ lw_tbl := by sorry
set_option maxRecDepth 20000 in
theorem inX12 : ∀ w ∈ wsX120, w ∈ lw_tbl := by sorry
set_option maxRecDepth 20000 in
theorem inX4 : ∀ w ∈ wsX40, w ∈ lw_tbl := by sorry
set_option maxRecDepth 20000 in
theorem inX3 : ∀ w ∈ wsX30, w ∈ lw_tbl := by sorry
set_option maxRecDepth 20000 in
theorem inX0 : ∀ w ∈ wsX00, w ∈ lw_tbl := by sorry
set_option maxRecDepth 20000 in
theorem inX7 : ∀ w ∈ wsX70, w ∈ lw_tbl := by sorry
set_option maxRecDepth 20000 in
theorem inX10 : ∀ w ∈ wsX100, w ∈ lw_tbl := by sorry
set_option maxRecDepth 20000 in
theorem inX1 : ∀ w ∈ wsX10, w ∈ lw_tbl := by sorry
set_option maxRecDepth 20000 in
theorem inX5 : ∀ w ∈ wsX50, w ∈ lw_tbl := by sorry
set_option maxRecDepth 20000 in
theorem inX8 : ∀ w ∈ wsX80, w ∈ lw_tbl := by sorry
set_option maxRecDepth 20000 in
theorem inX9 : ∀ w ∈ wsX90, w ∈ lw_tbl := by sorry
theorem wsL_law_in : ∀ w ∈ wsL_law, w ∈ lw_tbl := mem_ap (mem_ap (mem_ap (mem_ap (mem_ap (mem_ap (mem_ap (mem_ap (mem_ap (mem_ap (mem_ap (mem_ap (mem_ap in_wsL_law_r1 (mem_ap in_wsL_law_r2 (mem_ap in_wsL_law_r3 (mem_ap in_wsL_law_r4 (mem_ap in_wsL_law_r5 (mem_ap in_wsL_law_r6 (mem_ap in_wsL_law_r7 (mem_ap in_wsL_law_r8 (mem_ap in_wsL_law_r9 (mem_ap in_wsL_law_r10 (mem_ap in_wsL_law_r11 (mem_ap in_wsL_law_r12 (mem_ap in_wsL_law_r13 (mem_ap in_wsL_law_r14 (mem_ap in_wsL_law_r15 (mem_ap in_wsL_law_r16 (mem_ap in_wsL_law_r17 (mem_ap in_wsL_law_r18 (mem_ap in_wsL_law_r19 (mem_ap in_wsL_law_r20 (mem_ap in_wsL_law_r21 (mem_ap in_wsL_law_r22 (mem_ap in_wsL_law_r23 (mem_ap in_wsL_law_r24 (mem_ap in_wsL_law_r25 (mem_ap in_wsL_law_r26 (mem_ap in_wsL_law_r27 (mem_ap in_wsL_law_r28 (mem_ap in_wsL_law_r29 (mem_ap in_wsL_law_r30 (mem_ap in_wsL_law_r31 (mem_ap in_wsL_law_r32 (mem_ap in_wsL_law_r33 (mem_ap in_wsL_law_r34 (mem_ap in_wsL_law_r35 (mem_ap in_wsL_law_r36 (mem_ap in_wsL_law_r37 (mem_ap in_wsL_law_r38 (mem_ap in_wsL_law_r39 (mem_ap in_wsL_law_r40 (mem_ap in_wsL_law_r41 (mem_ap in_wsL_law_r42 (in_wsL_law_r43))))))))))))))))))))))))))))))))))))))))))) inX11) inX12) inX4) inX3) inX0) inX7) inX10) inX1) inX5) inX8) inX9) (fun _ h => absurd h List.not_mem_nil)
