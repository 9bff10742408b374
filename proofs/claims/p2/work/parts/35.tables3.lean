set_option maxRecDepth 20000 in
theorem i_wsL_law_r17 : ∀ w ∈ wsL_law_r17, w ∈ lw_tbl := fun w h => (goodIn_p wsL_law_r17 [762, 766, 770, 774, 778, 403] (by decide +kernel) (by decide +kernel) w h).1
set_option maxRecDepth 20000 in
theorem i_wsL_law_r18 : ∀ w ∈ wsL_law_r18, w ∈ lw_tbl := fun w h => (goodIn_p wsL_law_r18 [782, 407, 786, 411, 790, 415] (by decide +kernel) (by decide +kernel) w h).1
set_option maxRecDepth 20000 in
theorem i_wsL_law_r19 : ∀ w ∈ wsL_law_r19, w ∈ lw_tbl := fun w h => (goodIn_p wsL_law_r19 [794, 419, 798, 423, 429] (by decide +kernel) (by decide +kernel) w h).1
set_option maxRecDepth 20000 in
theorem i_wsL_law_r20 : ∀ w ∈ wsL_law_r20, w ∈ lw_tbl := fun w h => (goodIn_p wsL_law_r20 [435, 439, 802, 444, 447, 451] (by decide +kernel) (by decide +kernel) w h).1
set_option maxRecDepth 20000 in
theorem i_wsL_law_r21 : ∀ w ∈ wsL_law_r21, w ∈ lw_tbl := fun w h => (goodIn_p wsL_law_r21 [455, 461, 466, 806, 809] (by decide +kernel) (by decide +kernel) w h).1
set_option maxRecDepth 20000 in
theorem i_wsL_law_r22 : ∀ w ∈ wsL_law_r22, w ∈ lw_tbl := fun w h => (goodIn_p wsL_law_r22 [813, 817, 471, 474] (by decide +kernel) (by decide +kernel) w h).1
set_option maxRecDepth 20000 in
theorem i_wsL_law_r23 : ∀ w ∈ wsL_law_r23, w ∈ lw_tbl := fun w h => (goodIn_p wsL_law_r23 [821, 479, 483, 825, 487] (by decide +kernel) (by decide +kernel) w h).1
set_option maxRecDepth 20000 in
theorem i_wsL_law_r24 : ∀ w ∈ wsL_law_r24, w ∈ lw_tbl := fun w h => (goodIn_p wsL_law_r24 [492, 497, 829, 833, 837] (by decide +kernel) (by decide +kernel) w h).1
set_option maxRecDepth 20000 in
theorem i_wsL_law_r25 : ∀ w ∈ wsL_law_r25, w ∈ lw_tbl := fun w h => (goodIn_p wsL_law_r25 [502, 841, 507, 845, 849, 512] (by decide +kernel) (by decide +kernel) w h).1
set_option maxRecDepth 20000 in
theorem i_wsL_law_r26 : ∀ w ∈ wsL_law_r26, w ∈ lw_tbl := fun w h => (goodIn_p wsL_law_r26 [516, 520, 853, 525, 529] (by decide +kernel) (by decide +kernel) w h).1
set_option maxRecDepth 20000 in
theorem i_wsL_law_r27 : ∀ w ∈ wsL_law_r27, w ∈ lw_tbl := fun w h => (goodIn_p wsL_law_r27 [857, 534, 538, 861, 543, 547] (by decide +kernel) (by decide +kernel) w h).1
set_option maxRecDepth 20000 in
theorem i_wsL_law_r28 : ∀ w ∈ wsL_law_r28, w ∈ lw_tbl := fun w h => (goodIn_p wsL_law_r28 [550, 865, 557, 561, 870] (by decide +kernel) (by decide +kernel) w h).1
set_option maxRecDepth 20000 in
theorem i_wsL_law_r29 : ∀ w ∈ wsL_law_r29, w ∈ lw_tbl := fun w h => (goodIn_p wsL_law_r29 [565, 569, 572, 575, 578, 874, 878] (by decide +kernel) (by decide +kernel) w h).1
set_option maxRecDepth 20000 in
theorem i_wsL_law_r30 : ∀ w ∈ wsL_law_r30, w ∈ lw_tbl := fun w h => (goodIn_p wsL_law_r30 [882, 886, 890, 582, 586, 590] (by decide +kernel) (by decide +kernel) w h).1
set_option maxRecDepth 20000 in
theorem i_wsL_law_r31 : ∀ w ∈ wsL_law_r31, w ∈ lw_tbl := fun w h => (goodIn_p wsL_law_r31 [894, 595, 599, 898, 603, 606] (by decide +kernel) (by decide +kernel) w h).1
set_option maxRecDepth 20000 in
theorem i_wsL_law_r32 : ∀ w ∈ wsL_law_r32, w ∈ lw_tbl := fun w h => (goodIn_p wsL_law_r32 [610, 614, 902, 619] (by decide +kernel) (by decide +kernel) w h).1
set_option maxRecDepth 20000 in
theorem i_wsL_law_r33 : ∀ w ∈ wsL_law_r33, w ∈ lw_tbl := fun w h => (goodIn_p wsL_law_r33 [906] (by decide +kernel) (by decide +kernel) w h).1
set_option maxRecDepth 20000 in
theorem i_wsX60 : ∀ w ∈ wsX60, w ∈ lw_tbl := fun w h => (goodIn_p wsX60 [] (by decide +kernel) (by decide +kernel) w h).1
set_option maxRecDepth 20000 in
theorem i_wsX70 : ∀ w ∈ wsX70, w ∈ lw_tbl := fun w h => (goodIn_p wsX70 [] (by decide +kernel) (by decide +kernel) w h).1
set_option maxRecDepth 20000 in
theorem i_wsX10 : ∀ w ∈ wsX10, w ∈ lw_tbl := fun w h => (goodIn_p wsX10 [] (by decide +kernel) (by decide +kernel) w h).1
set_option maxRecDepth 20000 in
theorem i_wsX20 : ∀ w ∈ wsX20, w ∈ lw_tbl := fun w h => (goodIn_p wsX20 [] (by decide +kernel) (by decide +kernel) w h).1
set_option maxRecDepth 20000 in
theorem i_wsX40 : ∀ w ∈ wsX40, w ∈ lw_tbl := fun w h => (goodIn_p wsX40 [] (by decide +kernel) (by decide +kernel) w h).1
set_option maxRecDepth 20000 in
theorem i_wsX30 : ∀ w ∈ wsX30, w ∈ lw_tbl := fun w h => (goodIn_p wsX30 [] (by decide +kernel) (by decide +kernel) w h).1
set_option maxRecDepth 20000 in
theorem i_wsX00 : ∀ w ∈ wsX00, w ∈ lw_tbl := fun w h => (goodIn_p wsX00 [] (by decide +kernel) (by decide +kernel) w h).1
set_option maxRecDepth 20000 in
theorem i_wsX50 : ∀ w ∈ wsX50, w ∈ lw_tbl := fun w h => (goodIn_p wsX50 [] (by decide +kernel) (by decide +kernel) w h).1
theorem wsL_law_in : ∀ w ∈ wsL_law, w ∈ lw_tbl := ((List.forall_mem_append (p := fun w => w ∈ lw_tbl)).mpr ⟨((List.forall_mem_append (p := fun w => w ∈ lw_tbl)).mpr ⟨((List.forall_mem_append (p := fun w => w ∈ lw_tbl)).mpr ⟨((List.forall_mem_append (p := fun w => w ∈ lw_tbl)).mpr ⟨((List.forall_mem_append (p := fun w => w ∈ lw_tbl)).mpr ⟨((List.forall_mem_append (p := fun w => w ∈ lw_tbl)).mpr ⟨((List.forall_mem_append (p := fun w => w ∈ lw_tbl)).mpr ⟨((List.forall_mem_append (p := fun w => w ∈ lw_tbl)).mpr ⟨((List.forall_mem_append (p := fun w => w ∈ lw_tbl)).mpr ⟨((List.forall_mem_append (p := fun w => w ∈ lw_tbl)).mpr ⟨i_wsL_law_r1, ((List.forall_mem_append (p := fun w => w ∈ lw_tbl)).mpr ⟨i_wsL_law_r2, ((List.forall_mem_append (p := fun w => w ∈ lw_tbl)).mpr ⟨i_wsL_law_r3, ((List.forall_mem_append (p := fun w => w ∈ lw_tbl)).mpr ⟨i_wsL_law_r4, ((List.forall_mem_append (p := fun w => w ∈ lw_tbl)).mpr ⟨i_wsL_law_r5, ((List.forall_mem_append (p := fun w => w ∈ lw_tbl)).mpr ⟨i_wsL_law_r6, ((List.forall_mem_append (p := fun w => w ∈ lw_tbl)).mpr ⟨i_wsL_law_r7, ((List.forall_mem_append (p := fun w => w ∈ lw_tbl)).mpr ⟨i_wsL_law_r8, ((List.forall_mem_append (p := fun w => w ∈ lw_tbl)).mpr ⟨i_wsL_law_r9, ((List.forall_mem_append (p := fun w => w ∈ lw_tbl)).mpr ⟨i_wsL_law_r10, ((List.forall_mem_append (p := fun w => w ∈ lw_tbl)).mpr ⟨i_wsL_law_r11, ((List.forall_mem_append (p := fun w => w ∈ lw_tbl)).mpr ⟨i_wsL_law_r12, ((List.forall_mem_append (p := fun w => w ∈ lw_tbl)).mpr ⟨i_wsL_law_r13, ((List.forall_mem_append (p := fun w => w ∈ lw_tbl)).mpr ⟨i_wsL_law_r14, ((List.forall_mem_append (p := fun w => w ∈ lw_tbl)).mpr ⟨i_wsL_law_r15, ((List.forall_mem_append (p := fun w => w ∈ lw_tbl)).mpr ⟨i_wsL_law_r16, ((List.forall_mem_append (p := fun w => w ∈ lw_tbl)).mpr ⟨i_wsL_law_r17, ((List.forall_mem_append (p := fun w => w ∈ lw_tbl)).mpr ⟨i_wsL_law_r18, ((List.forall_mem_append (p := fun w => w ∈ lw_tbl)).mpr ⟨i_wsL_law_r19, ((List.forall_mem_append (p := fun w => w ∈ lw_tbl)).mpr ⟨i_wsL_law_r20, ((List.forall_mem_append (p := fun w => w ∈ lw_tbl)).mpr ⟨i_wsL_law_r21, ((List.forall_mem_append (p := fun w => w ∈ lw_tbl)).mpr ⟨i_wsL_law_r22, ((List.forall_mem_append (p := fun w => w ∈ lw_tbl)).mpr ⟨i_wsL_law_r23, ((List.forall_mem_append (p := fun w => w ∈ lw_tbl)).mpr ⟨i_wsL_law_r24, ((List.forall_mem_append (p := fun w => w ∈ lw_tbl)).mpr ⟨i_wsL_law_r25, ((List.forall_mem_append (p := fun w => w ∈ lw_tbl)).mpr ⟨i_wsL_law_r26, ((List.forall_mem_append (p := fun w => w ∈ lw_tbl)).mpr ⟨i_wsL_law_r27, ((List.forall_mem_append (p := fun w => w ∈ lw_tbl)).mpr ⟨i_wsL_law_r28, ((List.forall_mem_append (p := fun w => w ∈ lw_tbl)).mpr ⟨i_wsL_law_r29, ((List.forall_mem_append (p := fun w => w ∈ lw_tbl)).mpr ⟨i_wsL_law_r30, ((List.forall_mem_append (p := fun w => w ∈ lw_tbl)).mpr ⟨i_wsL_law_r31, ((List.forall_mem_append (p := fun w => w ∈ lw_tbl)).mpr ⟨i_wsL_law_r32, i_wsL_law_r33⟩)⟩)⟩)⟩)⟩)⟩)⟩)⟩)⟩)⟩)⟩)⟩)⟩)⟩)⟩)⟩)⟩)⟩)⟩)⟩)⟩)⟩)⟩)⟩)⟩)⟩)⟩)⟩)⟩)⟩)⟩)⟩), i_wsX60⟩), i_wsX70⟩), i_wsX10⟩), i_wsX20⟩), i_wsX40⟩), i_wsX30⟩), i_wsX00⟩), i_wsX50⟩), (fun w h => absurd h List.not_mem_nil)⟩)
theorem inlX0 : ∀ w ∈ wsX00, w ∈ wsL_law := fun _ h => List.mem_append_left _ (List.mem_append_left _ (List.mem_append_right _ h))
theorem inX0 : ∀ w ∈ wsX00, w ∈ lw_tbl := fun w h => wsL_law_in w (inlX0 w h)
theorem inlX1 : ∀ w ∈ wsX10, w ∈ wsL_law := fun _ h => List.mem_append_left _ (List.mem_append_left _ (List.mem_append_left _ (List.mem_append_left _ (List.mem_append_left _ (List.mem_append_left _ (List.mem_append_right _ h))))))
theorem inX1 : ∀ w ∈ wsX10, w ∈ lw_tbl := fun w h => wsL_law_in w (inlX1 w h)
theorem inlX2 : ∀ w ∈ wsX20, w ∈ wsL_law := fun _ h => List.mem_append_left _ (List.mem_append_left _ (List.mem_append_left _ (List.mem_append_left _ (List.mem_append_left _ (List.mem_append_right _ h)))))
theorem inX2 : ∀ w ∈ wsX20, w ∈ lw_tbl := fun w h => wsL_law_in w (inlX2 w h)
theorem inlX3 : ∀ w ∈ wsX30, w ∈ wsL_law := fun _ h => List.mem_append_left _ (List.mem_append_left _ (List.mem_append_left _ (List.mem_append_right _ h)))
theorem inX3 : ∀ w ∈ wsX30, w ∈ lw_tbl := fun w h => wsL_law_in w (inlX3 w h)
theorem inlX4 : ∀ w ∈ wsX40, w ∈ wsL_law := fun _ h => List.mem_append_left _ (List.mem_append_left _ (List.mem_append_left _ (List.mem_append_left _ (List.mem_append_right _ h))))
theorem inX4 : ∀ w ∈ wsX40, w ∈ lw_tbl := fun w h => wsL_law_in w (inlX4 w h)
theorem inlX5 : ∀ w ∈ wsX50, w ∈ wsL_law := fun _ h => List.mem_append_left _ (List.mem_append_right _ h)
theorem inX5 : ∀ w ∈ wsX50, w ∈ lw_tbl := fun w h => wsL_law_in w (inlX5 w h)
theorem inlX6 : ∀ w ∈ wsX60, w ∈ wsL_law := fun _ h => List.mem_append_left _ (List.mem_append_left _ (List.mem_append_left _ (List.mem_append_left _ (List.mem_append_left _ (List.mem_append_left _ (List.mem_append_left _ (List.mem_append_left _ (List.mem_append_right _ h))))))))
theorem inX6 : ∀ w ∈ wsX60, w ∈ lw_tbl := fun w h => wsL_law_in w (inlX6 w h)
theorem inlX7 : ∀ w ∈ wsX70, w ∈ wsL_law := fun _ h => List.mem_append_left _ (List.mem_append_left _ (List.mem_append_left _ (List.mem_append_left _ (List.mem_append_left _ (List.mem_append_left _ (List.mem_append_left _ (List.mem_append_right _ h)))))))
theorem inX7 : ∀ w ∈ wsX70, w ∈ lw_tbl := fun w h => wsL_law_in w (inlX7 w h)
theorem inJ13 : ∀ w ∈ wsJ130, w ∈ lw_tbl := by decide +kernel
