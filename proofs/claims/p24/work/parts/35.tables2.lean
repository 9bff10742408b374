theorem mem_c {big : List Cond} (ch : List (List Cond)) (hf : big = ch.flatten) (ws : List Cond) (ps : List (Nat × Nat)) (hp : ws = ps.filterMap (fun p => (ch[p.1]?).bind (fun c => c[p.2]?))) : ∀ w ∈ ws, w ∈ big := by
  intro w hw
  rw [hp] at hw
  obtain ⟨p, -, h⟩ := List.mem_filterMap.mp hw
  obtain ⟨c, hc, hw2⟩ := Option.bind_eq_some_iff.mp h
  rw [hf]
  exact List.mem_flatten.mpr ⟨c, List.mem_of_getElem? hc, List.mem_of_getElem? hw2⟩
def lw_ch : List (List Cond) := [k2_sels lw_privs, tables_1_1, tables_1_2, tables_1_3, tables_1_4]
theorem lw_hf : lw_tbl = lw_ch.flatten := by simp only [lw_tbl, tables_1, lw_ch, List.flatten_cons, List.flatten_nil, List.append_nil]
set_option maxRecDepth 20000 in
theorem i_wsL_law_r1 : ∀ w ∈ wsL_law_r1, w ∈ lw_tbl := mem_c lw_ch lw_hf wsL_law_r1 [(1, 10), (1, 11), (1, 1), (3, 92), (3, 93), (1, 8), (4, 138), (1, 12), (1, 13), (1, 14), (1, 15), (1, 16), (1, 17), (1, 18), (1, 19), (1, 2), (1, 180), (1, 128), (1, 129), (1, 5), (1, 181), (1, 148), (1, 149), (1, 6)] rfl
set_option maxRecDepth 20000 in
theorem i_wsL_law_r2 : ∀ w ∈ wsL_law_r2, w ∈ lw_tbl := mem_c lw_ch lw_hf wsL_law_r2 [(1, 182), (1, 183), (1, 165), (1, 166), (1, 7), (1, 184), (1, 20), (1, 21), (1, 22), (1, 23), (1, 24), (1, 25), (1, 3), (1, 109), (1, 61), (1, 62), (1, 4), (1, 111), (1, 112), (1, 26), (1, 27), (1, 28), (1, 29), (1, 60)] rfl
set_option maxRecDepth 20000 in
theorem i_wsL_law_r3 : ∀ w ∈ wsL_law_r3, w ∈ lw_tbl := mem_c lw_ch lw_hf wsL_law_r3 [(1, 44), (1, 45), (1, 30), (1, 31), (1, 32), (1, 33), (1, 48), (1, 43), (1, 47), (1, 34), (1, 35), (1, 36), (1, 37), (1, 38), (1, 39), (1, 40), (1, 41), (1, 42), (1, 63), (1, 64), (1, 65), (1, 66), (1, 67), (1, 74)] rfl
set_option maxRecDepth 20000 in
theorem i_wsL_law_r4 : ∀ w ∈ wsL_law_r4, w ∈ lw_tbl := mem_c lw_ch lw_hf wsL_law_r4 [(1, 130), (1, 131), (1, 132), (1, 133), (1, 134), (1, 137), (1, 140), (1, 136), (1, 150), (1, 151), (1, 152), (1, 153), (1, 154), (1, 156), (1, 155), (1, 167), (1, 168), (1, 169), (1, 170), (1, 179), (1, 171), (3, 94), (3, 95), (3, 96)] rfl
set_option maxRecDepth 20000 in
theorem i_wsL_law_r5 : ∀ w ∈ wsL_law_r5, w ∈ lw_tbl := mem_c lw_ch lw_hf wsL_law_r5 [(3, 97), (3, 101), (3, 102), (3, 103), (3, 105), (3, 129), (3, 106), (3, 107), (3, 109), (3, 98), (3, 99), (3, 100), (1, 196), (1, 197), (1, 198), (1, 199), (1, 200), (1, 202), (0, 0), (1, 203), (1, 204), (1, 205), (1, 206), (1, 207)] rfl
set_option maxRecDepth 20000 in
theorem i_wsL_law_r6 : ∀ w ∈ wsL_law_r6, w ∈ lw_tbl := mem_c lw_ch lw_hf wsL_law_r6 [(1, 208), (1, 209), (1, 210), (1, 211), (1, 113), (1, 115), (1, 212), (1, 213), (1, 214), (1, 215), (1, 46), (1, 216), (1, 217), (1, 218), (1, 219), (1, 68), (1, 71), (1, 77), (1, 79), (1, 81), (1, 84), (1, 87), (1, 220), (1, 221)] rfl
set_option maxRecDepth 20000 in
theorem i_wsL_law_r7 : ∀ w ∈ wsL_law_r7, w ∈ lw_tbl := mem_c lw_ch lw_hf wsL_law_r7 [(1, 222), (1, 223), (1, 224), (1, 226), (0, 1), (1, 227), (1, 228), (1, 229), (1, 230), (1, 231), (1, 232), (1, 233), (1, 234), (1, 235), (1, 236), (1, 237), (1, 9), (1, 238), (1, 239), (2, 0), (2, 1), (2, 2), (2, 4), (0, 2)] rfl
set_option maxRecDepth 20000 in
theorem i_wsL_law_r8 : ∀ w ∈ wsL_law_r8, w ∈ lw_tbl := mem_c lw_ch lw_hf wsL_law_r8 [(2, 5), (2, 6), (2, 7), (2, 8), (2, 9), (2, 10), (2, 11), (2, 12), (2, 13), (2, 14), (2, 16), (0, 3), (2, 17), (1, 70), (2, 18), (2, 19), (2, 20), (2, 21), (2, 22), (2, 23), (2, 24), (2, 25), (2, 26), (2, 27)] rfl
set_option maxRecDepth 20000 in
theorem i_wsL_law_r9 : ∀ w ∈ wsL_law_r9, w ∈ lw_tbl := mem_c lw_ch lw_hf wsL_law_r9 [(2, 28), (2, 29), (2, 30), (2, 31), (2, 32), (2, 33), (2, 34), (2, 36), (0, 4), (2, 37), (2, 38), (2, 39), (2, 40), (2, 41), (2, 42), (2, 43), (2, 44), (2, 45), (2, 46), (2, 48), (0, 5), (2, 49), (1, 72), (1, 83)] rfl
set_option maxRecDepth 20000 in
theorem i_wsL_law_r10 : ∀ w ∈ wsL_law_r10, w ∈ lw_tbl := mem_c lw_ch lw_hf wsL_law_r10 [(2, 50), (2, 52), (0, 6), (2, 53), (2, 54), (2, 55), (2, 56), (2, 57), (2, 58), (2, 59), (2, 60), (2, 61), (2, 62), (2, 63), (2, 64), (2, 65), (2, 66), (2, 67), (2, 68), (2, 69), (2, 71), (0, 7), (2, 72), (2, 73)] rfl
set_option maxRecDepth 20000 in
theorem i_wsL_law_r11 : ∀ w ∈ wsL_law_r11, w ∈ lw_tbl := mem_c lw_ch lw_hf wsL_law_r11 [(2, 74), (2, 75), (2, 76), (2, 77), (2, 78), (2, 79), (2, 80), (2, 81), (2, 82), (2, 84), (0, 8), (2, 85), (1, 76), (2, 86), (2, 88), (0, 9), (2, 89), (2, 90), (2, 91), (2, 92), (2, 93), (2, 94), (2, 95), (2, 97)] rfl
set_option maxRecDepth 20000 in
theorem i_wsL_law_r12 : ∀ w ∈ wsL_law_r12, w ∈ lw_tbl := mem_c lw_ch lw_hf wsL_law_r12 [(0, 10), (2, 98), (1, 86), (1, 89), (2, 99), (2, 100), (2, 101), (2, 102), (2, 103), (2, 104), (2, 105), (2, 106), (1, 138), (2, 107), (2, 109), (0, 11), (2, 110), (3, 130), (3, 131), (3, 132), (3, 133), (3, 134), (3, 136), (0, 14)] rfl
set_option maxRecDepth 20000 in
theorem i_wsL_law_r13 : ∀ w ∈ wsL_law_r13, w ∈ lw_tbl := mem_c lw_ch lw_hf wsL_law_r13 [(3, 137), (3, 138), (3, 140), (0, 15), (3, 141), (3, 142), (3, 144), (0, 16), (3, 145), (3, 146), (3, 148), (0, 17), (3, 149), (3, 150), (3, 151), (3, 152), (3, 153), (3, 154), (3, 155), (3, 156), (3, 158), (0, 18), (3, 159), (3, 160)] rfl
set_option maxRecDepth 20000 in
theorem i_wsL_law_r14 : ∀ w ∈ wsL_law_r14, w ∈ lw_tbl := mem_c lw_ch lw_hf wsL_law_r14 [(3, 162), (0, 19), (3, 163), (3, 164), (3, 166), (0, 20), (3, 167), (3, 168), (3, 170), (0, 21), (3, 171), (3, 172), (3, 174), (0, 22), (3, 175), (3, 176), (3, 177), (3, 178), (3, 179), (3, 180), (3, 181), (3, 182), (3, 184), (0, 23)] rfl
set_option maxRecDepth 20000 in
theorem i_wsL_law_r15 : ∀ w ∈ wsL_law_r15, w ∈ lw_tbl := mem_c lw_ch lw_hf wsL_law_r15 [(3, 185), (3, 186), (3, 188), (0, 24), (3, 189), (3, 190), (3, 192), (0, 25), (3, 193), (3, 194), (3, 196), (0, 26), (3, 197), (3, 198), (3, 200), (0, 27), (3, 201), (3, 202), (3, 204), (0, 28), (3, 205), (3, 206), (3, 208), (0, 29)] rfl
set_option maxRecDepth 20000 in
theorem i_wsL_law_r16 : ∀ w ∈ wsL_law_r16, w ∈ lw_tbl := mem_c lw_ch lw_hf wsL_law_r16 [(3, 209), (3, 210), (3, 212), (0, 30), (3, 213), (3, 214), (3, 216), (0, 31), (3, 217), (3, 218), (3, 220), (0, 32), (3, 221), (3, 222), (3, 224), (0, 33), (3, 225), (3, 226), (3, 228), (0, 34), (3, 229), (3, 230), (3, 232), (0, 35)] rfl
