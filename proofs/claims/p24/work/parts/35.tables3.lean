set_option maxRecDepth 20000 in
theorem i_wsL_law_r17 : ∀ w ∈ wsL_law_r17, w ∈ lw_tbl := mem_c lw_ch lw_hf wsL_law_r17 [(3, 233), (3, 234), (3, 236), (0, 36), (3, 237), (3, 238), (4, 0), (0, 37), (4, 1), (4, 2), (4, 4), (0, 38), (4, 5), (4, 6), (4, 8), (0, 39), (4, 9), (3, 104), (2, 111), (2, 112), (2, 113), (2, 114), (4, 10), (4, 11)] rfl
set_option maxRecDepth 20000 in
theorem i_wsL_law_r18 : ∀ w ∈ wsL_law_r18, w ∈ lw_tbl := mem_c lw_ch lw_hf wsL_law_r18 [(4, 12), (4, 13), (2, 115), (2, 116), (2, 117), (2, 118), (4, 14), (4, 15), (4, 16), (4, 17), (2, 119), (2, 120), (2, 121), (2, 122), (4, 18), (4, 19), (4, 20), (4, 21), (2, 123), (2, 124), (2, 125), (2, 126), (4, 22), (4, 23)] rfl
set_option maxRecDepth 20000 in
theorem i_wsL_law_r19 : ∀ w ∈ wsL_law_r19, w ∈ lw_tbl := mem_c lw_ch lw_hf wsL_law_r19 [(4, 24), (4, 25), (2, 127), (2, 128), (2, 129), (2, 130), (4, 26), (4, 27), (4, 28), (4, 29), (2, 131), (2, 132), (2, 133), (2, 134), (1, 110), (2, 135), (2, 136), (2, 137), (2, 138), (2, 139), (2, 140), (2, 141), (2, 142), (2, 143)] rfl
set_option maxRecDepth 20000 in
theorem i_wsL_law_r20 : ∀ w ∈ wsL_law_r20, w ∈ lw_tbl := mem_c lw_ch lw_hf wsL_law_r20 [(2, 144), (2, 145), (2, 146), (2, 147), (2, 148), (2, 149), (2, 150), (2, 151), (4, 30), (4, 31), (4, 32), (4, 33), (2, 152), (2, 153), (2, 154), (2, 155), (2, 156), (2, 157), (2, 158), (2, 159), (2, 160), (2, 161), (2, 162), (2, 163)] rfl
set_option maxRecDepth 20000 in
theorem i_wsL_law_r21 : ∀ w ∈ wsL_law_r21, w ∈ lw_tbl := mem_c lw_ch lw_hf wsL_law_r21 [(2, 164), (2, 165), (2, 166), (2, 167), (2, 168), (2, 169), (2, 170), (2, 171), (2, 172), (2, 173), (2, 174), (2, 175), (2, 176), (2, 177), (2, 178), (4, 34), (4, 35), (4, 36), (4, 37), (4, 38), (4, 39), (4, 40), (4, 41), (4, 43)] rfl
set_option maxRecDepth 20000 in
theorem i_wsL_law_r22 : ∀ w ∈ wsL_law_r22, w ∈ lw_tbl := mem_c lw_ch lw_hf wsL_law_r22 [(0, 40), (4, 44), (4, 45), (4, 47), (0, 41), (4, 48), (2, 179), (2, 180), (2, 181), (2, 182), (1, 73), (1, 75), (1, 69), (1, 78), (1, 80), (1, 82), (1, 85), (1, 88), (2, 183), (2, 184), (2, 185), (2, 186), (4, 49), (4, 50)] rfl
set_option maxRecDepth 20000 in
theorem i_wsL_law_r23 : ∀ w ∈ wsL_law_r23, w ∈ lw_tbl := mem_c lw_ch lw_hf wsL_law_r23 [(4, 51), (4, 52), (2, 187), (2, 188), (2, 189), (2, 190), (2, 191), (2, 192), (2, 193), (2, 194), (4, 53), (4, 54), (4, 55), (4, 56), (2, 195), (2, 196), (2, 197), (2, 198), (1, 116), (1, 114), (1, 173), (1, 139), (2, 199), (2, 200)] rfl
set_option maxRecDepth 20000 in
theorem i_wsL_law_r24 : ∀ w ∈ wsL_law_r24, w ∈ lw_tbl := mem_c lw_ch lw_hf wsL_law_r24 [(2, 201), (2, 202), (2, 203), (2, 204), (2, 205), (2, 206), (2, 207), (2, 208), (2, 209), (4, 57), (4, 58), (4, 59), (4, 60), (3, 108), (4, 61), (4, 63), (0, 42), (4, 64), (4, 65), (4, 67), (0, 43), (4, 68), (2, 210), (2, 211)] rfl
set_option maxRecDepth 20000 in
theorem i_wsL_law_r25 : ∀ w ∈ wsL_law_r25, w ∈ lw_tbl := mem_c lw_ch lw_hf wsL_law_r25 [(2, 212), (2, 213), (2, 214), (4, 69), (4, 70), (4, 71), (4, 72), (2, 215), (2, 216), (2, 217), (2, 218), (2, 219), (4, 73), (4, 74), (4, 75), (4, 76), (4, 77), (4, 79), (0, 44), (4, 80), (2, 220), (2, 221), (2, 222), (2, 223)] rfl
set_option maxRecDepth 20000 in
theorem i_wsL_law_r26 : ∀ w ∈ wsL_law_r26, w ∈ lw_tbl := mem_c lw_ch lw_hf wsL_law_r26 [(2, 224), (2, 225), (2, 226), (2, 227), (2, 228), (2, 229), (2, 230), (2, 231), (2, 232), (4, 81), (4, 82), (4, 83), (4, 84), (2, 233), (2, 234), (2, 235), (2, 236), (2, 237), (2, 238), (2, 239), (3, 0), (3, 1), (4, 85), (4, 86)] rfl
set_option maxRecDepth 20000 in
theorem i_wsL_law_r27 : ∀ w ∈ wsL_law_r27, w ∈ lw_tbl := mem_c lw_ch lw_hf wsL_law_r27 [(4, 87), (4, 88), (3, 2), (3, 3), (3, 4), (3, 5), (3, 6), (3, 7), (3, 8), (3, 9), (3, 10), (4, 89), (4, 90), (4, 91), (4, 92), (3, 11), (3, 12), (3, 13), (3, 14), (3, 15), (3, 16), (3, 17), (3, 18), (1, 172)] rfl
set_option maxRecDepth 20000 in
theorem i_wsL_law_r28 : ∀ w ∈ wsL_law_r28, w ∈ lw_tbl := mem_c lw_ch lw_hf wsL_law_r28 [(3, 22), (3, 19), (3, 20), (3, 21), (3, 23), (3, 24), (4, 93), (4, 94), (4, 95), (4, 96), (4, 97), (3, 25), (3, 26), (3, 27), (3, 28), (3, 29), (3, 30), (3, 31), (3, 32), (4, 98), (4, 99), (4, 100), (4, 101), (3, 33)] rfl
set_option maxRecDepth 20000 in
theorem i_wsL_law_r29 : ∀ w ∈ wsL_law_r29, w ∈ lw_tbl := mem_c lw_ch lw_hf wsL_law_r29 [(3, 34), (3, 35), (3, 36), (3, 37), (3, 38), (3, 39), (3, 40), (3, 41), (3, 42), (3, 43), (3, 44), (3, 45), (3, 46), (3, 47), (3, 48), (3, 49), (4, 102), (4, 103), (4, 104), (4, 105), (4, 106), (4, 108), (0, 45), (4, 109)] rfl
set_option maxRecDepth 20000 in
theorem i_wsL_law_r30 : ∀ w ∈ wsL_law_r30, w ∈ lw_tbl := mem_c lw_ch lw_hf wsL_law_r30 [(4, 110), (4, 112), (0, 46), (4, 113), (4, 114), (4, 116), (0, 47), (4, 117), (4, 118), (4, 120), (0, 48), (4, 121), (3, 50), (3, 51), (3, 52), (3, 53), (3, 54), (3, 56), (0, 12), (3, 57), (3, 58), (3, 59), (3, 60), (3, 61)] rfl
set_option maxRecDepth 20000 in
theorem i_wsL_law_r31 : ∀ w ∈ wsL_law_r31, w ∈ lw_tbl := mem_c lw_ch lw_hf wsL_law_r31 [(3, 62), (4, 122), (4, 123), (4, 124), (4, 125), (3, 63), (3, 64), (3, 65), (3, 66), (3, 67), (3, 68), (3, 69), (3, 70), (4, 126), (4, 127), (4, 128), (4, 129), (3, 71), (3, 72), (3, 73), (3, 74), (3, 75), (3, 76), (3, 77)] rfl
set_option maxRecDepth 20000 in
theorem i_wsL_law_r32 : ∀ w ∈ wsL_law_r32, w ∈ lw_tbl := mem_c lw_ch lw_hf wsL_law_r32 [(3, 78), (3, 80), (0, 13), (3, 81), (3, 82), (3, 83), (3, 84), (3, 85), (1, 158), (3, 86), (4, 130), (4, 131), (4, 132), (4, 133), (3, 87), (3, 88), (3, 89), (3, 90), (1, 159), (1, 157), (3, 91), (4, 134), (4, 135), (4, 136)] rfl
set_option maxRecDepth 20000 in
theorem i_wsL_law_r33 : ∀ w ∈ wsL_law_r33, w ∈ lw_tbl := mem_c lw_ch lw_hf wsL_law_r33 [(4, 137)] rfl
set_option maxRecDepth 20000 in
theorem i_wsX60 : ∀ w ∈ wsX60, w ∈ lw_tbl := mem_c lw_ch lw_hf wsX60 [(1, 185), (1, 187), (1, 189), (1, 191), (1, 193)] rfl
set_option maxRecDepth 20000 in
theorem i_wsX70 : ∀ w ∈ wsX70, w ∈ lw_tbl := mem_c lw_ch lw_hf wsX70 [(3, 110), (3, 112), (3, 114), (3, 116), (3, 118), (3, 120), (3, 122), (3, 124), (3, 126)] rfl
set_option maxRecDepth 20000 in
theorem i_wsX10 : ∀ w ∈ wsX10, w ∈ lw_tbl := mem_c lw_ch lw_hf wsX10 [(1, 117), (1, 119), (1, 121), (1, 123), (1, 125)] rfl
set_option maxRecDepth 20000 in
theorem i_wsX20 : ∀ w ∈ wsX20, w ∈ lw_tbl := mem_c lw_ch lw_hf wsX20 [(1, 141), (1, 143), (1, 145)] rfl
set_option maxRecDepth 20000 in
theorem i_wsX40 : ∀ w ∈ wsX40, w ∈ lw_tbl := mem_c lw_ch lw_hf wsX40 [(1, 160), (1, 162)] rfl
set_option maxRecDepth 20000 in
theorem i_wsX30 : ∀ w ∈ wsX30, w ∈ lw_tbl := mem_c lw_ch lw_hf wsX30 [(1, 174), (1, 176)] rfl
set_option maxRecDepth 20000 in
theorem i_wsX00 : ∀ w ∈ wsX00, w ∈ lw_tbl := mem_c lw_ch lw_hf wsX00 [(1, 49), (1, 51), (1, 53), (1, 55), (1, 57)] rfl
set_option maxRecDepth 20000 in
theorem i_wsX50 : ∀ w ∈ wsX50, w ∈ lw_tbl := mem_c lw_ch lw_hf wsX50 [(1, 90), (1, 92), (1, 94), (1, 96), (1, 98), (1, 100), (1, 102), (1, 104), (1, 106)] rfl
theorem wsL_law_in : ∀ w ∈ wsL_law, w ∈ lw_tbl := ((List.forall_mem_append (p := fun w => w ∈ lw_tbl)).mpr ⟨((List.forall_mem_append (p := fun w => w ∈ lw_tbl)).mpr ⟨((List.forall_mem_append (p := fun w => w ∈ lw_tbl)).mpr ⟨((List.forall_mem_append (p := fun w => w ∈ lw_tbl)).mpr ⟨((List.forall_mem_append (p := fun w => w ∈ lw_tbl)).mpr ⟨((List.forall_mem_append (p := fun w => w ∈ lw_tbl)).mpr ⟨((List.forall_mem_append (p := fun w => w ∈ lw_tbl)).mpr ⟨((List.forall_mem_append (p := fun w => w ∈ lw_tbl)).mpr ⟨((List.forall_mem_append (p := fun w => w ∈ lw_tbl)).mpr ⟨((List.forall_mem_append (p := fun w => w ∈ lw_tbl)).mpr ⟨i_wsL_law_r1, ((List.forall_mem_append (p := fun w => w ∈ lw_tbl)).mpr ⟨i_wsL_law_r2, ((List.forall_mem_append (p := fun w => w ∈ lw_tbl)).mpr ⟨i_wsL_law_r3, ((List.forall_mem_append (p := fun w => w ∈ lw_tbl)).mpr ⟨i_wsL_law_r4, ((List.forall_mem_append (p := fun w => w ∈ lw_tbl)).mpr ⟨i_wsL_law_r5, ((List.forall_mem_append (p := fun w => w ∈ lw_tbl)).mpr ⟨i_wsL_law_r6, ((List.forall_mem_append (p := fun w => w ∈ lw_tbl)).mpr ⟨i_wsL_law_r7, ((List.forall_mem_append (p := fun w => w ∈ lw_tbl)).mpr ⟨i_wsL_law_r8, ((List.forall_mem_append (p := fun w => w ∈ lw_tbl)).mpr ⟨i_wsL_law_r9, ((List.forall_mem_append (p := fun w => w ∈ lw_tbl)).mpr ⟨i_wsL_law_r10, ((List.forall_mem_append (p := fun w => w ∈ lw_tbl)).mpr ⟨i_wsL_law_r11, ((List.forall_mem_append (p := fun w => w ∈ lw_tbl)).mpr ⟨i_wsL_law_r12, ((List.forall_mem_append (p := fun w => w ∈ lw_tbl)).mpr ⟨i_wsL_law_r13, ((List.forall_mem_append (p := fun w => w ∈ lw_tbl)).mpr ⟨i_wsL_law_r14, ((List.forall_mem_append (p := fun w => w ∈ lw_tbl)).mpr ⟨i_wsL_law_r15, ((List.forall_mem_append (p := fun w => w ∈ lw_tbl)).mpr ⟨i_wsL_law_r16, ((List.forall_mem_append (p := fun w => w ∈ lw_tbl)).mpr ⟨i_wsL_law_r17, ((List.forall_mem_append (p := fun w => w ∈ lw_tbl)).mpr ⟨i_wsL_law_r18, ((List.forall_mem_append (p := fun w => w ∈ lw_tbl)).mpr ⟨i_wsL_law_r19, ((List.forall_mem_append (p := fun w => w ∈ lw_tbl)).mpr ⟨i_wsL_law_r20, ((List.forall_mem_append (p := fun w => w ∈ lw_tbl)).mpr ⟨i_wsL_law_r21, ((List.forall_mem_append (p := fun w => w ∈ lw_tbl)).mpr ⟨i_wsL_law_r22, ((List.forall_mem_append (p := fun w => w ∈ lw_tbl)).mpr ⟨i_wsL_law_r23, ((List.forall_mem_append (p := fun w => w ∈ lw_tbl)).mpr ⟨i_wsL_law_r24, ((List.forall_mem_append (p := fun w => w ∈ lw_tbl)).mpr ⟨i_wsL_law_r25, ((List.forall_mem_append (p := fun w => w ∈ lw_tbl)).mpr ⟨i_wsL_law_r26, ((List.forall_mem_append (p := fun w => w ∈ lw_tbl)).mpr ⟨i_wsL_law_r27, ((List.forall_mem_append (p := fun w => w ∈ lw_tbl)).mpr ⟨i_wsL_law_r28, ((List.forall_mem_append (p := fun w => w ∈ lw_tbl)).mpr ⟨i_wsL_law_r29, ((List.forall_mem_append (p := fun w => w ∈ lw_tbl)).mpr ⟨i_wsL_law_r30, ((List.forall_mem_append (p := fun w => w ∈ lw_tbl)).mpr ⟨i_wsL_law_r31, ((List.forall_mem_append (p := fun w => w ∈ lw_tbl)).mpr ⟨i_wsL_law_r32, i_wsL_law_r33⟩)⟩)⟩)⟩)⟩)⟩)⟩)⟩)⟩)⟩)⟩)⟩)⟩)⟩)⟩)⟩)⟩)⟩)⟩)⟩)⟩)⟩)⟩)⟩)⟩)⟩)⟩)⟩)⟩)⟩)⟩)⟩), i_wsX60⟩), i_wsX70⟩), i_wsX10⟩), i_wsX20⟩), i_wsX40⟩), i_wsX30⟩), i_wsX00⟩), i_wsX50⟩), (fun w h => absurd h List.not_mem_nil)⟩)
theorem inlX0 : ∀ w ∈ wsX00, w ∈ wsL_law := fun _ h => List.mem_append_left _ (List.mem_append_left _ (List.mem_append_right _ h))
theorem inX0 : ∀ w ∈ wsX00, w ∈ lw_tbl := fun w h => wsL_law_in w (inlX0 w h)
theorem inlX1 : ∀ w ∈ wsX10, w ∈ wsL_law := fun _ h => List.mem_append_left _ (List.mem_append_left _ (List.mem_append_left _ (List.mem_append_left _ (List.mem_append_left _ (List.mem_append_left _ (List.mem_append_right _ h))))))
theorem inX1 : ∀ w ∈ wsX10, w ∈ lw_tbl := fun w h => wsL_law_in w (inlX1 w h)
theorem inlX2 : ∀ w ∈ wsX20, w ∈ wsL_law := fun _ h => List.mem_append_left _ (List.mem_append_left _ (List.mem_append_left _ (List.mem_append_left _ (List.mem_append_left _ (List.mem_append_right _ h)))))
theorem inX2 : ∀ w ∈ wsX20, w ∈ lw_tbl := fun w h => wsL_law_in w (inlX2 w h)
theorem inlX3 : ∀ w ∈ wsX30, w ∈ wsL_law := fun _ h => List.mem_append_left _ (List.mem_append_left _ (List.mem_append_left _ (List.mem_append_right _ h)))
theorem inX3 : ∀ w ∈ wsX30, w ∈ lw_tbl := fun w h => wsL_law_in w (inlX3 w h)
theorem inlX4 : ∀ w ∈ wsX40, w ∈ wsL_law := fun _ h => List.mem_append_left _ (List.mem_append_left _ (List.mem_append_left _ (List.mem_append_left _ (List.mem_append_right _ h))))
theorem inX4 : ∀ w ∈ wsX40, w ∈ lw_tbl := fun w h => wsL_law_in w (inlX4 w h)
theorem inlX5 : ∀ w ∈ wsX50, w ∈ wsL_law := fun _ h => List.mem_append_left _ (List.mem_append_right _ h)
theorem inX5 : ∀ w ∈ wsX50, w ∈ lw_tbl := fun w h => wsL_law_in w (inlX5 w h)
theorem inlX6 : ∀ w ∈ wsX60, w ∈ wsL_law := fun _ h => List.mem_append_left _ (List.mem_append_left _ (List.mem_append_left _ (List.mem_append_left _ (List.mem_append_left _ (List.mem_append_left _ (List.mem_append_left _ (List.mem_append_left _ (List.mem_append_right _ h))))))))
theorem inX6 : ∀ w ∈ wsX60, w ∈ lw_tbl := fun w h => wsL_law_in w (inlX6 w h)
theorem inlX7 : ∀ w ∈ wsX70, w ∈ wsL_law := fun _ h => List.mem_append_left _ (List.mem_append_left _ (List.mem_append_left _ (List.mem_append_left _ (List.mem_append_left _ (List.mem_append_left _ (List.mem_append_left _ (List.mem_append_right _ h)))))))
theorem inX7 : ∀ w ∈ wsX70, w ∈ lw_tbl := fun w h => wsL_law_in w (inlX7 w h)
theorem inJ13 : ∀ w ∈ wsJ130, w ∈ lw_tbl := by decide +kernel
