theorem mem_c {big : List Cond} (ch : List (List Cond)) (hf : big = ch.flatten) (ws : List Cond) (ps : List (Nat × Nat)) (hp : ws = ps.filterMap (fun p => (ch[p.1]?).bind (fun c => c[p.2]?))) : ∀ w ∈ ws, w ∈ big := by
  intro w hw
  rw [hp] at hw
  obtain ⟨p, -, h⟩ := List.mem_filterMap.mp hw
  obtain ⟨c, hc, hw2⟩ := Option.bind_eq_some_iff.mp h
  rw [hf]
  exact List.mem_flatten.mpr ⟨c, List.mem_of_getElem? hc, List.mem_of_getElem? hw2⟩
def lw_ch : List (List Cond) := [k2_sels lw_privs, tables_1_1, tables_1_2, tables_1_3]
theorem lw_hf : lw_tbl = lw_ch.flatten := by simp only [lw_tbl, tables_1, lw_ch, List.flatten_cons, List.flatten_nil, List.append_nil]
set_option maxRecDepth 20000 in
theorem i_wsL_law_r1 : ∀ w ∈ wsL_law_r1, w ∈ lw_tbl := mem_c lw_ch lw_hf wsL_law_r1 [(1, 9), (1, 10), (1, 1), (1, 11), (1, 12), (1, 13), (1, 14), (1, 15), (1, 16), (1, 17), (1, 18), (1, 2), (1, 175), (1, 127), (1, 128), (1, 5), (1, 176), (1, 147), (1, 148), (1, 6), (1, 177), (1, 178), (1, 161), (1, 162)] rfl
set_option maxRecDepth 20000 in
theorem i_wsL_law_r2 : ∀ w ∈ wsL_law_r2, w ∈ lw_tbl := mem_c lw_ch lw_hf wsL_law_r2 [(1, 7), (1, 179), (1, 19), (1, 20), (1, 21), (1, 22), (1, 23), (1, 24), (1, 3), (1, 108), (1, 60), (1, 61), (1, 4), (1, 110), (1, 111), (1, 25), (1, 26), (1, 27), (1, 28), (1, 59), (1, 43), (1, 44), (1, 29), (1, 30)] rfl
set_option maxRecDepth 20000 in
theorem i_wsL_law_r3 : ∀ w ∈ wsL_law_r3, w ∈ lw_tbl := mem_c lw_ch lw_hf wsL_law_r3 [(1, 31), (1, 32), (1, 47), (1, 42), (1, 46), (1, 33), (1, 34), (1, 35), (1, 36), (1, 37), (1, 38), (1, 39), (1, 40), (1, 41), (1, 62), (1, 63), (1, 64), (1, 65), (1, 66), (1, 73), (1, 129), (1, 130), (1, 131), (1, 132)] rfl
set_option maxRecDepth 20000 in
theorem i_wsL_law_r4 : ∀ w ∈ wsL_law_r4, w ∈ lw_tbl := mem_c lw_ch lw_hf wsL_law_r4 [(1, 133), (1, 136), (1, 139), (1, 135), (1, 149), (1, 150), (1, 151), (1, 152), (1, 153), (1, 155), (1, 154), (1, 163), (1, 164), (1, 165), (1, 166), (1, 174), (1, 167), (2, 207), (2, 208), (1, 0), (2, 209), (2, 49), (2, 50), (2, 51)] rfl
set_option maxRecDepth 20000 in
theorem i_wsL_law_r5 : ∀ w ∈ wsL_law_r5, w ∈ lw_tbl := mem_c lw_ch lw_hf wsL_law_r5 [(2, 52), (1, 109), (2, 53), (2, 54), (2, 55), (2, 56), (2, 57), (2, 58), (2, 1), (2, 2), (2, 3), (1, 45), (1, 222), (1, 223), (1, 224), (1, 209), (1, 210), (1, 211), (2, 59), (2, 60), (2, 61), (2, 62), (2, 63), (2, 64)] rfl
set_option maxRecDepth 20000 in
theorem i_wsL_law_r6 : ∀ w ∈ wsL_law_r6, w ∈ lw_tbl := mem_c lw_ch lw_hf wsL_law_r6 [(2, 65), (2, 66), (2, 67), (2, 68), (2, 69), (2, 70), (1, 67), (2, 71), (2, 72), (2, 73), (2, 74), (1, 216), (1, 196), (1, 197), (1, 198), (1, 114), (1, 199), (1, 200), (1, 201), (1, 202), (1, 203), (1, 204), (1, 8), (1, 205)] rfl
set_option maxRecDepth 20000 in
theorem i_wsL_law_r7 : ∀ w ∈ wsL_law_r7, w ∈ lw_tbl := mem_c lw_ch lw_hf wsL_law_r7 [(1, 206), (1, 207), (1, 208), (2, 75), (2, 76), (2, 77), (2, 78), (2, 79), (2, 80), (2, 81), (2, 82), (2, 83), (2, 210), (2, 211), (2, 212), (2, 213), (2, 214), (2, 215), (2, 216), (2, 217), (1, 230), (1, 231), (1, 232), (2, 218)] rfl
set_option maxRecDepth 20000 in
theorem i_wsL_law_r8 : ∀ w ∈ wsL_law_r8, w ∈ lw_tbl := mem_c lw_ch lw_hf wsL_law_r8 [(1, 226), (1, 227), (1, 228), (1, 229), (1, 233), (1, 234), (1, 235), (2, 186), (2, 219), (2, 220), (2, 221), (2, 222), (1, 225), (2, 223), (2, 224), (2, 225), (2, 226), (2, 227), (2, 144), (2, 228), (2, 229), (2, 230), (1, 191), (1, 192)] rfl
set_option maxRecDepth 20000 in
theorem i_wsL_law_r9 : ∀ w ∈ wsL_law_r9, w ∈ lw_tbl := mem_c lw_ch lw_hf wsL_law_r9 [(1, 193), (1, 194), (1, 115), (1, 113), (1, 168), (1, 138), (1, 195), (1, 212), (1, 213), (1, 214), (1, 215), (1, 71), (1, 217), (1, 218), (1, 219), (1, 220), (1, 221), (1, 236), (1, 237), (1, 238), (1, 239), (2, 0), (2, 231), (2, 232)] rfl
set_option maxRecDepth 20000 in
theorem i_wsL_law_r10 : ∀ w ∈ wsL_law_r10, w ∈ lw_tbl := mem_c lw_ch lw_hf wsL_law_r10 [(2, 233), (2, 234), (2, 184), (2, 124), (2, 125), (2, 126), (2, 127), (2, 180), (2, 181), (2, 182), (2, 183), (2, 185), (2, 141), (2, 142), (2, 143), (2, 34), (2, 35), (2, 36), (2, 37), (2, 235), (2, 236), (2, 237), (2, 238), (2, 239)] rfl
set_option maxRecDepth 20000 in
theorem i_wsL_law_r11 : ∀ w ∈ wsL_law_r11, w ∈ lw_tbl := mem_c lw_ch lw_hf wsL_law_r11 [(3, 0), (3, 1), (3, 2), (3, 3), (3, 4), (3, 5), (3, 6), (2, 38), (2, 39), (2, 40), (2, 41), (1, 72), (1, 74), (1, 68), (1, 77), (1, 79), (1, 81), (1, 84), (1, 87), (2, 42), (2, 43), (2, 44), (2, 45), (2, 46)] rfl
set_option maxRecDepth 20000 in
theorem i_wsL_law_r12 : ∀ w ∈ wsL_law_r12, w ∈ lw_tbl := mem_c lw_ch lw_hf wsL_law_r12 [(2, 47), (2, 48), (3, 7), (3, 8), (3, 9), (3, 10), (3, 11), (3, 12), (3, 13), (3, 14), (3, 15), (3, 16), (3, 17), (3, 18), (3, 19), (3, 20), (3, 21), (3, 22), (3, 23), (3, 24), (3, 25), (3, 26), (3, 27), (3, 28)] rfl
set_option maxRecDepth 20000 in
theorem i_wsL_law_r13 : ∀ w ∈ wsL_law_r13, w ∈ lw_tbl := mem_c lw_ch lw_hf wsL_law_r13 [(2, 123), (3, 29), (3, 30), (3, 31), (3, 32), (1, 112), (2, 113), (2, 140), (2, 154), (3, 33), (3, 34), (3, 35), (3, 36), (3, 37), (3, 38), (3, 39), (3, 40), (3, 41), (3, 42), (2, 4), (2, 5), (2, 6), (2, 7), (2, 8)] rfl
set_option maxRecDepth 20000 in
theorem i_wsL_law_r14 : ∀ w ∈ wsL_law_r14, w ∈ lw_tbl := mem_c lw_ch lw_hf wsL_law_r14 [(2, 9), (2, 10), (2, 11), (1, 137), (2, 12), (2, 13), (2, 14), (2, 15), (2, 16), (2, 17), (2, 18), (2, 19), (2, 20), (2, 21), (2, 22), (2, 23), (1, 70), (1, 76), (1, 78), (1, 80), (1, 83), (1, 86), (2, 24), (2, 25)] rfl
set_option maxRecDepth 20000 in
theorem i_wsL_law_r15 : ∀ w ∈ wsL_law_r15, w ∈ lw_tbl := mem_c lw_ch lw_hf wsL_law_r15 [(2, 26), (2, 27), (2, 28), (2, 29), (2, 30), (2, 31), (2, 32), (2, 33), (2, 84), (2, 85), (2, 86), (2, 87), (2, 88), (2, 90), (0, 0), (2, 91), (2, 92), (2, 93), (2, 94), (2, 95), (2, 96), (2, 97), (2, 98), (2, 99)] rfl
set_option maxRecDepth 20000 in
theorem i_wsL_law_r16 : ∀ w ∈ wsL_law_r16, w ∈ lw_tbl := mem_c lw_ch lw_hf wsL_law_r16 [(2, 100), (2, 102), (0, 1), (2, 103), (2, 104), (2, 106), (0, 2), (2, 107), (2, 108), (2, 109), (2, 111), (0, 3), (2, 112), (1, 69), (2, 114), (2, 115), (2, 116), (2, 117), (2, 118), (2, 119), (2, 121), (0, 4), (2, 122), (2, 128)] rfl
set_option maxRecDepth 20000 in
theorem i_wsL_law_r17 : ∀ w ∈ wsL_law_r17, w ∈ lw_tbl := mem_c lw_ch lw_hf wsL_law_r17 [(2, 130), (0, 5), (2, 131), (1, 82), (2, 132), (2, 134), (0, 6), (2, 135), (2, 136), (2, 137), (2, 138), (2, 139), (2, 145), (2, 146), (2, 148), (0, 7), (2, 149), (2, 150), (2, 151), (2, 152), (2, 153), (2, 155), (2, 156), (2, 157)] rfl
set_option maxRecDepth 20000 in
theorem i_wsL_law_r18 : ∀ w ∈ wsL_law_r18, w ∈ lw_tbl := mem_c lw_ch lw_hf wsL_law_r18 [(2, 158), (2, 159), (2, 161), (0, 8), (2, 162), (1, 75), (2, 163), (2, 165), (0, 9), (2, 166), (2, 167), (2, 168), (2, 170), (0, 10), (2, 171), (1, 85), (1, 88), (2, 172), (2, 173), (2, 174), (2, 175), (2, 176), (2, 178), (0, 11)] rfl
set_option maxRecDepth 20000 in
theorem i_wsL_law_r19 : ∀ w ∈ wsL_law_r19, w ∈ lw_tbl := mem_c lw_ch lw_hf wsL_law_r19 [(2, 179), (2, 187), (2, 188), (2, 189), (2, 190), (2, 191), (2, 192), (2, 193), (2, 194), (2, 195), (2, 196), (2, 197), (2, 198), (2, 199), (2, 200), (2, 201), (2, 202), (2, 203), (2, 204), (2, 205), (2, 206)] rfl
set_option maxRecDepth 20000 in
theorem i_wsX60 : ∀ w ∈ wsX60, w ∈ lw_tbl := mem_c lw_ch lw_hf wsX60 [(1, 180), (1, 182), (1, 184), (1, 186), (1, 188)] rfl
set_option maxRecDepth 20000 in
theorem i_wsX10 : ∀ w ∈ wsX10, w ∈ lw_tbl := mem_c lw_ch lw_hf wsX10 [(1, 116), (1, 118), (1, 120), (1, 122), (1, 124)] rfl
set_option maxRecDepth 20000 in
theorem i_wsX20 : ∀ w ∈ wsX20, w ∈ lw_tbl := mem_c lw_ch lw_hf wsX20 [(1, 140), (1, 142), (1, 144)] rfl
set_option maxRecDepth 20000 in
theorem i_wsX40 : ∀ w ∈ wsX40, w ∈ lw_tbl := mem_c lw_ch lw_hf wsX40 [(1, 156), (1, 158)] rfl
set_option maxRecDepth 20000 in
theorem i_wsX30 : ∀ w ∈ wsX30, w ∈ lw_tbl := mem_c lw_ch lw_hf wsX30 [(1, 169), (1, 171)] rfl
set_option maxRecDepth 20000 in
theorem i_wsX00 : ∀ w ∈ wsX00, w ∈ lw_tbl := mem_c lw_ch lw_hf wsX00 [(1, 48), (1, 50), (1, 52), (1, 54), (1, 56)] rfl
set_option maxRecDepth 20000 in
theorem i_wsX50 : ∀ w ∈ wsX50, w ∈ lw_tbl := mem_c lw_ch lw_hf wsX50 [(1, 89), (1, 91), (1, 93), (1, 95), (1, 97), (1, 99), (1, 101), (1, 103), (1, 105)] rfl
theorem lw_chk : ∀ c ∈ ch_wsL_law, ∀ w ∈ c, w ∈ lw_tbl := List.forall_mem_cons.mpr ⟨i_wsL_law_r1, List.forall_mem_cons.mpr ⟨i_wsL_law_r2, List.forall_mem_cons.mpr ⟨i_wsL_law_r3, List.forall_mem_cons.mpr ⟨i_wsL_law_r4, List.forall_mem_cons.mpr ⟨i_wsL_law_r5, List.forall_mem_cons.mpr ⟨i_wsL_law_r6, List.forall_mem_cons.mpr ⟨i_wsL_law_r7, List.forall_mem_cons.mpr ⟨i_wsL_law_r8, List.forall_mem_cons.mpr ⟨i_wsL_law_r9, List.forall_mem_cons.mpr ⟨i_wsL_law_r10, List.forall_mem_cons.mpr ⟨i_wsL_law_r11, List.forall_mem_cons.mpr ⟨i_wsL_law_r12, List.forall_mem_cons.mpr ⟨i_wsL_law_r13, List.forall_mem_cons.mpr ⟨i_wsL_law_r14, List.forall_mem_cons.mpr ⟨i_wsL_law_r15, List.forall_mem_cons.mpr ⟨i_wsL_law_r16, List.forall_mem_cons.mpr ⟨i_wsL_law_r17, List.forall_mem_cons.mpr ⟨i_wsL_law_r18, List.forall_mem_cons.mpr ⟨i_wsL_law_r19, List.forall_mem_cons.mpr ⟨i_wsX60, List.forall_mem_cons.mpr ⟨i_wsX10, List.forall_mem_cons.mpr ⟨i_wsX20, List.forall_mem_cons.mpr ⟨i_wsX40, List.forall_mem_cons.mpr ⟨i_wsX30, List.forall_mem_cons.mpr ⟨i_wsX00, List.forall_mem_cons.mpr ⟨i_wsX50, fun _ h => absurd h List.not_mem_nil⟩⟩⟩⟩⟩⟩⟩⟩⟩⟩⟩⟩⟩⟩⟩⟩⟩⟩⟩⟩⟩⟩⟩⟩⟩⟩
theorem wsL_law_in : ∀ w ∈ wsL_law, w ∈ lw_tbl := fun w h => by
  rw [hf_wsL_law] at h
  obtain ⟨c, hc, hw⟩ := List.mem_flatten.mp h
  exact lw_chk c hc w hw
theorem inlX0 : ∀ w ∈ wsX00, w ∈ wsL_law := fun _ h => List.mem_append_left _ (List.mem_append_left _ (List.mem_append_right _ h))
theorem inX0 : ∀ w ∈ wsX00, w ∈ lw_tbl := fun w h => wsL_law_in w (inlX0 w h)
theorem inlX1 : ∀ w ∈ wsX10, w ∈ wsL_law := fun _ h => List.mem_append_left _ (List.mem_append_left _ (List.mem_append_left _ (List.mem_append_left _ (List.mem_append_left _ (List.mem_append_left _ (List.mem_append_right _ h))))))
theorem inX1 : ∀ w ∈ wsX10, w ∈ lw_tbl := fun w h => wsL_law_in w (inlX1 w h)
theorem inlX2 : ∀ w ∈ wsX20, w ∈ wsL_law := fun _ h => List.mem_append_left _ (List.mem_append_left _ (List.mem_append_left _ (List.mem_append_left _ (List.mem_append_left _ (List.mem_append_right _ h)))))
theorem inX2 : ∀ w ∈ wsX20, w ∈ lw_tbl := fun w h => wsL_law_in w (inlX2 w h)
theorem inlX3 : ∀ w ∈ wsX30, w ∈ wsL_law := fun _ h => List.mem_append_left _ (List.mem_append_left _ (List.mem_append_left _ (List.mem_append_right _ h)))
theorem inX3 : ∀ w ∈ wsX30, w ∈ lw_tbl := fun w h => wsL_law_in w (inlX3 w h)
theorem inlX4 : ∀ w ∈ wsX40, w ∈ wsL_law := fun _ h => List.mem_append_left _ (List.mem_append_left _ (List.mem_append_left _ (List.mem_append_left _ (List.mem_append_right _ h))))
theorem inX4 : ∀ w ∈ wsX40, w ∈ lw_tbl := fun w h => wsL_law_in w (inlX4 w h)
theorem inlX5 : ∀ w ∈ wsX50, w ∈ wsL_law := fun _ h => List.mem_append_left _ (List.mem_append_right _ h)
theorem inX5 : ∀ w ∈ wsX50, w ∈ lw_tbl := fun w h => wsL_law_in w (inlX5 w h)
theorem inlX6 : ∀ w ∈ wsX60, w ∈ wsL_law := fun _ h => List.mem_append_left _ (List.mem_append_left _ (List.mem_append_left _ (List.mem_append_left _ (List.mem_append_left _ (List.mem_append_left _ (List.mem_append_left _ (List.mem_append_right _ h)))))))
theorem inX6 : ∀ w ∈ wsX60, w ∈ lw_tbl := fun w h => wsL_law_in w (inlX6 w h)
theorem inX7 : ∀ w ∈ wsX70, w ∈ lw_tbl := by decide +kernel
theorem inJ13 : ∀ w ∈ wsJ130, w ∈ lw_tbl := by decide +kernel
