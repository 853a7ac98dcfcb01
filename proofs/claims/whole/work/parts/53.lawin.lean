/-! the law's words, together -/
theorem linc_X10 : ∀ w ∈ wsX100, w ∈ lw_tbl := by decide +kernel
theorem linc_X11 : ∀ w ∈ wsX110, w ∈ lw_tbl := by decide +kernel
theorem linc_X8 : ∀ w ∈ wsX80, w ∈ lw_tbl := by decide +kernel
theorem linc_X5 : ∀ w ∈ wsX50, w ∈ lw_tbl := by decide +kernel
theorem linc_X4 : ∀ w ∈ wsX40, w ∈ lw_tbl := by decide +kernel
theorem linc_X1 : ∀ w ∈ wsX10, w ∈ lw_tbl := by decide +kernel
theorem linc_X0 : ∀ w ∈ wsX00, w ∈ lw_tbl := by decide +kernel
theorem linc_X9 : ∀ w ∈ wsX90, w ∈ lw_tbl := by decide +kernel
theorem linc_X6 : ∀ w ∈ wsX60, w ∈ lw_tbl := by decide +kernel
theorem linc_X7 : ∀ w ∈ wsX70, w ∈ lw_tbl := by decide +kernel
theorem linc_X3 : ∀ w ∈ wsX30, w ∈ lw_tbl := by decide +kernel
theorem linc_X2 : ∀ w ∈ wsX20, w ∈ lw_tbl := by decide +kernel
theorem wsL_law_in : ∀ w ∈ wsL_law, w ∈ lw_tbl := (List.forall_mem_append.mpr ⟨(List.forall_mem_append.mpr ⟨(List.forall_mem_append.mpr ⟨(List.forall_mem_append.mpr ⟨(List.forall_mem_append.mpr ⟨(List.forall_mem_append.mpr ⟨(List.forall_mem_append.mpr ⟨(List.forall_mem_append.mpr ⟨(List.forall_mem_append.mpr ⟨(List.forall_mem_append.mpr ⟨(List.forall_mem_append.mpr ⟨(List.forall_mem_append.mpr ⟨(List.forall_mem_append.mpr ⟨(List.forall_mem_append.mpr ⟨lin_r1, (List.forall_mem_append.mpr ⟨lin_r2, (List.forall_mem_append.mpr ⟨lin_r3, (List.forall_mem_append.mpr ⟨lin_r4, (List.forall_mem_append.mpr ⟨lin_r5, (List.forall_mem_append.mpr ⟨lin_r6, (List.forall_mem_append.mpr ⟨lin_r7, (List.forall_mem_append.mpr ⟨lin_r8, (List.forall_mem_append.mpr ⟨lin_r9, (List.forall_mem_append.mpr ⟨lin_r10, (List.forall_mem_append.mpr ⟨lin_r11, (List.forall_mem_append.mpr ⟨lin_r12, (List.forall_mem_append.mpr ⟨lin_r13, (List.forall_mem_append.mpr ⟨lin_r14, (List.forall_mem_append.mpr ⟨lin_r15, (List.forall_mem_append.mpr ⟨lin_r16, (List.forall_mem_append.mpr ⟨lin_r17, (List.forall_mem_append.mpr ⟨lin_r18, (List.forall_mem_append.mpr ⟨lin_r19, (List.forall_mem_append.mpr ⟨lin_r20, (List.forall_mem_append.mpr ⟨lin_r21, (List.forall_mem_append.mpr ⟨lin_r22, (List.forall_mem_append.mpr ⟨lin_r23, (List.forall_mem_append.mpr ⟨lin_r24, (List.forall_mem_append.mpr ⟨lin_r25, (List.forall_mem_append.mpr ⟨lin_r26, (List.forall_mem_append.mpr ⟨lin_r27, (List.forall_mem_append.mpr ⟨lin_r28, (List.forall_mem_append.mpr ⟨lin_r29, (List.forall_mem_append.mpr ⟨lin_r30, (List.forall_mem_append.mpr ⟨lin_r31, (List.forall_mem_append.mpr ⟨lin_r32, (List.forall_mem_append.mpr ⟨lin_r33, (List.forall_mem_append.mpr ⟨lin_r34, (List.forall_mem_append.mpr ⟨lin_r35, lin_r36⟩)⟩)⟩)⟩)⟩)⟩)⟩)⟩)⟩)⟩)⟩)⟩)⟩)⟩)⟩)⟩)⟩)⟩)⟩)⟩)⟩)⟩)⟩)⟩)⟩)⟩)⟩)⟩)⟩)⟩)⟩)⟩)⟩)⟩)⟩), linc_X10⟩), linc_X11⟩), linc_X8⟩), linc_X5⟩), linc_X4⟩), linc_X1⟩), linc_X0⟩), linc_X9⟩), linc_X6⟩), linc_X7⟩), linc_X3⟩), linc_X2⟩), fun _ h => absurd h List.not_mem_nil⟩)
theorem inlX0 : ∀ w ∈ wsX00, w ∈ wsL_law := fun _ h => List.mem_append_left _ (List.mem_append_left _ (List.mem_append_left _ (List.mem_append_left _ (List.mem_append_left _ (List.mem_append_left _ (List.mem_append_right _ h))))))
theorem inX0 : ∀ w ∈ wsX00, w ∈ lw_tbl := fun w h => wsL_law_in w (inlX0 w h)
theorem inlX1 : ∀ w ∈ wsX10, w ∈ wsL_law := fun _ h => List.mem_append_left _ (List.mem_append_left _ (List.mem_append_left _ (List.mem_append_left _ (List.mem_append_left _ (List.mem_append_left _ (List.mem_append_left _ (List.mem_append_right _ h)))))))
theorem inX1 : ∀ w ∈ wsX10, w ∈ lw_tbl := fun w h => wsL_law_in w (inlX1 w h)
theorem inlX2 : ∀ w ∈ wsX20, w ∈ wsL_law := fun _ h => List.mem_append_left _ (List.mem_append_right _ h)
theorem inX2 : ∀ w ∈ wsX20, w ∈ lw_tbl := fun w h => wsL_law_in w (inlX2 w h)
theorem inlX3 : ∀ w ∈ wsX30, w ∈ wsL_law := fun _ h => List.mem_append_left _ (List.mem_append_left _ (List.mem_append_right _ h))
theorem inX3 : ∀ w ∈ wsX30, w ∈ lw_tbl := fun w h => wsL_law_in w (inlX3 w h)
theorem inlX4 : ∀ w ∈ wsX40, w ∈ wsL_law := fun _ h => List.mem_append_left _ (List.mem_append_left _ (List.mem_append_left _ (List.mem_append_left _ (List.mem_append_left _ (List.mem_append_left _ (List.mem_append_left _ (List.mem_append_left _ (List.mem_append_right _ h))))))))
theorem inX4 : ∀ w ∈ wsX40, w ∈ lw_tbl := fun w h => wsL_law_in w (inlX4 w h)
theorem inlX5 : ∀ w ∈ wsX50, w ∈ wsL_law := fun _ h => List.mem_append_left _ (List.mem_append_left _ (List.mem_append_left _ (List.mem_append_left _ (List.mem_append_left _ (List.mem_append_left _ (List.mem_append_left _ (List.mem_append_left _ (List.mem_append_left _ (List.mem_append_right _ h)))))))))
theorem inX5 : ∀ w ∈ wsX50, w ∈ lw_tbl := fun w h => wsL_law_in w (inlX5 w h)
theorem inlX6 : ∀ w ∈ wsX60, w ∈ wsL_law := fun _ h => List.mem_append_left _ (List.mem_append_left _ (List.mem_append_left _ (List.mem_append_left _ (List.mem_append_right _ h))))
theorem inX6 : ∀ w ∈ wsX60, w ∈ lw_tbl := fun w h => wsL_law_in w (inlX6 w h)
theorem inlX7 : ∀ w ∈ wsX70, w ∈ wsL_law := fun _ h => List.mem_append_left _ (List.mem_append_left _ (List.mem_append_left _ (List.mem_append_right _ h)))
theorem inX7 : ∀ w ∈ wsX70, w ∈ lw_tbl := fun w h => wsL_law_in w (inlX7 w h)
theorem inlX8 : ∀ w ∈ wsX80, w ∈ wsL_law := fun _ h => List.mem_append_left _ (List.mem_append_left _ (List.mem_append_left _ (List.mem_append_left _ (List.mem_append_left _ (List.mem_append_left _ (List.mem_append_left _ (List.mem_append_left _ (List.mem_append_left _ (List.mem_append_left _ (List.mem_append_right _ h))))))))))
theorem inX8 : ∀ w ∈ wsX80, w ∈ lw_tbl := fun w h => wsL_law_in w (inlX8 w h)
theorem inlX9 : ∀ w ∈ wsX90, w ∈ wsL_law := fun _ h => List.mem_append_left _ (List.mem_append_left _ (List.mem_append_left _ (List.mem_append_left _ (List.mem_append_left _ (List.mem_append_right _ h)))))
theorem inX9 : ∀ w ∈ wsX90, w ∈ lw_tbl := fun w h => wsL_law_in w (inlX9 w h)
theorem inlX10 : ∀ w ∈ wsX100, w ∈ wsL_law := fun _ h => List.mem_append_left _ (List.mem_append_left _ (List.mem_append_left _ (List.mem_append_left _ (List.mem_append_left _ (List.mem_append_left _ (List.mem_append_left _ (List.mem_append_left _ (List.mem_append_left _ (List.mem_append_left _ (List.mem_append_left _ (List.mem_append_left _ (List.mem_append_right _ h))))))))))))
theorem inX10 : ∀ w ∈ wsX100, w ∈ lw_tbl := fun w h => wsL_law_in w (inlX10 w h)
theorem inlX11 : ∀ w ∈ wsX110, w ∈ wsL_law := fun _ h => List.mem_append_left _ (List.mem_append_left _ (List.mem_append_left _ (List.mem_append_left _ (List.mem_append_left _ (List.mem_append_left _ (List.mem_append_left _ (List.mem_append_left _ (List.mem_append_left _ (List.mem_append_left _ (List.mem_append_left _ (List.mem_append_right _ h)))))))))))
theorem inX11 : ∀ w ∈ wsX110, w ∈ lw_tbl := fun w h => wsL_law_in w (inlX11 w h)
