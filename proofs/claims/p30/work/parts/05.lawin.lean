/-! The law's words lie in the tables. -/
def ch_tb : List (List Cond) := [k2_sels lw_privs_1, k2_sels lw_privs_2, k2_sels lw_privs_3, k2_sels lw_privs_4, tables_1_1, tables_1_2, tables_1_3, tables_1_4, tables_1_5]
theorem mem_c {big : List Cond} (ch : List (List Cond)) (hc : ∀ l ∈ ch, ∀ w ∈ l, w ∈ big) (ws : List Cond) (ps : List (Nat × Nat)) (hp : ws = ps.filterMap (fun q => (ch[q.1]?).bind (fun l => l[q.2]?))) : ∀ w ∈ ws, w ∈ big := by
  intro w hw
  rw [hp] at hw
  obtain ⟨q, -, hq⟩ := List.mem_filterMap.mp hw
  obtain ⟨l, hl, hq2⟩ := Option.bind_eq_some_iff.mp hq
  exact hc l (List.mem_of_getElem? hl) w (List.mem_of_getElem? hq2)
theorem sels_l {a b : List (MethodName × Nat)} {w : Cond} (h : w ∈ k2_sels a) : w ∈ k2_sels (a ++ b) := by
  unfold k2_sels at *
  rw [List.map_append]
  exact List.mem_append_left _ h
theorem sels_r {a b : List (MethodName × Nat)} {w : Cond} (h : w ∈ k2_sels b) : w ∈ k2_sels (a ++ b) := by
  unfold k2_sels at *
  rw [List.map_append]
  exact List.mem_append_right _ h
theorem hc_tb : ∀ l ∈ ch_tb, ∀ w ∈ l, w ∈ lw_tbl := List.forall_mem_cons.mpr ⟨fun _ h => List.mem_append_left _ (sels_l h), List.forall_mem_cons.mpr ⟨fun _ h => List.mem_append_left _ (sels_r (sels_l h)), List.forall_mem_cons.mpr ⟨fun _ h => List.mem_append_left _ (sels_r (sels_r (sels_l h))), List.forall_mem_cons.mpr ⟨fun _ h => List.mem_append_left _ (sels_r (sels_r (sels_r h))), List.forall_mem_cons.mpr ⟨fun _ h => List.mem_append_right _ (List.mem_append_left _ h), List.forall_mem_cons.mpr ⟨fun _ h => List.mem_append_right _ (List.mem_append_right _ (List.mem_append_left _ h)), List.forall_mem_cons.mpr ⟨fun _ h => List.mem_append_right _ (List.mem_append_right _ (List.mem_append_right _ (List.mem_append_left _ h))), List.forall_mem_cons.mpr ⟨fun _ h => List.mem_append_right _ (List.mem_append_right _ (List.mem_append_right _ (List.mem_append_right _ (List.mem_append_left _ h)))), List.forall_mem_cons.mpr ⟨fun _ h => List.mem_append_right _ (List.mem_append_right _ (List.mem_append_right _ (List.mem_append_right _ (List.mem_append_right _ h)))), fun _ h => absurd h List.not_mem_nil⟩⟩⟩⟩⟩⟩⟩⟩⟩
set_option maxRecDepth 100000 in
theorem wl_r1 : ∀ w ∈ wsL_law_r1, w ∈ lw_tbl := mem_c ch_tb hc_tb wsL_law_r1 [(4, 13), (4, 14), (4, 1), (6, 227), (6, 228), (4, 9), (4, 15), (4, 16), (4, 17), (4, 18), (4, 19), (4, 20), (4, 46), (5, 8), (5, 9), (4, 21), (4, 22), (4, 2), (5, 10), (4, 47), (4, 48), (4, 3), (5, 11), (5, 12)] rfl
set_option maxRecDepth 100000 in
theorem wl_r2 : ∀ w ∈ wsL_law_r2, w ∈ lw_tbl := mem_c ch_tb hc_tb wsL_law_r2 [(4, 109), (4, 110), (4, 4), (5, 13), (4, 144), (4, 145), (4, 5), (5, 14), (4, 161), (5, 15), (4, 163), (4, 164), (4, 6), (5, 16), (4, 190), (4, 191), (4, 7), (5, 17), (5, 18), (5, 19), (5, 20), (4, 217), (4, 8), (4, 23)] rfl
set_option maxRecDepth 100000 in
theorem wl_r3 : ∀ w ∈ wsL_law_r3, w ∈ lw_tbl := mem_c ch_tb hc_tb wsL_law_r3 [(4, 24), (4, 25), (4, 26), (4, 27), (4, 49), (4, 50), (4, 51), (4, 52), (4, 57), (4, 60), (4, 63), (4, 66), (4, 69), (4, 73), (4, 76), (4, 53), (4, 54), (4, 55), (4, 56), (4, 79), (4, 82), (4, 86), (4, 112), (4, 113)] rfl
set_option maxRecDepth 100000 in
theorem wl_r4 : ∀ w ∈ wsL_law_r4, w ∈ lw_tbl := mem_c ch_tb hc_tb wsL_law_r4 [(4, 114), (4, 121), (4, 123), (4, 125), (4, 127), (4, 146), (4, 147), (4, 148), (4, 149), (4, 150), (4, 153), (4, 154), (4, 166), (4, 167), (4, 168), (4, 169), (4, 171), (4, 173), (4, 175), (4, 177), (4, 193), (4, 194), (4, 195), (4, 196)] rfl
set_option maxRecDepth 100000 in
theorem wl_r5 : ∀ w ∈ wsL_law_r5, w ∈ lw_tbl := mem_c ch_tb hc_tb wsL_law_r5 [(4, 197), (4, 198), (4, 199), (4, 219), (4, 220), (4, 221), (4, 222), (4, 226), (4, 224), (4, 227), (4, 228), (4, 225), (4, 237), (4, 238), (4, 239), (5, 0), (4, 115), (4, 117), (4, 119), (4, 77), (4, 83), (4, 70), (5, 1), (5, 2)] rfl
set_option maxRecDepth 100000 in
theorem wl_r6 : ∀ w ∈ wsL_law_r6, w ∈ lw_tbl := mem_c ch_tb hc_tb wsL_law_r6 [(5, 3), (5, 4), (5, 6), (5, 7), (6, 229), (6, 230), (6, 231), (6, 232), (7, 84), (6, 233), (6, 235), (6, 236), (6, 237), (6, 238), (6, 239), (7, 0), (7, 1), (7, 2), (7, 3), (7, 4), (7, 12), (7, 13), (7, 14), (7, 15)] rfl
set_option maxRecDepth 100000 in
theorem wl_r7 : ∀ w ∈ wsL_law_r7, w ∈ lw_tbl := mem_c ch_tb hc_tb wsL_law_r7 [(7, 85), (7, 16), (7, 17), (7, 18), (7, 19), (7, 20), (5, 48), (5, 49), (5, 50), (5, 51), (7, 86), (7, 87), (7, 88), (7, 89), (6, 234), (7, 90), (7, 91), (7, 92), (5, 52), (5, 53), (5, 54), (5, 55), (7, 93), (7, 94)] rfl
set_option maxRecDepth 100000 in
theorem wl_r8 : ∀ w ∈ wsL_law_r8, w ∈ lw_tbl := mem_c ch_tb hc_tb wsL_law_r8 [(7, 95), (7, 96), (5, 56), (5, 57), (5, 58), (5, 59), (5, 60), (5, 61), (5, 62), (5, 63), (5, 64), (5, 65), (4, 10), (5, 66), (4, 28), (4, 29), (4, 30), (4, 31), (5, 67), (5, 68), (5, 70), (0, 0), (5, 71), (5, 72)] rfl
set_option maxRecDepth 100000 in
theorem wl_r9 : ∀ w ∈ wsL_law_r9, w ∈ lw_tbl := mem_c ch_tb hc_tb wsL_law_r9 [(5, 74), (0, 1), (5, 75), (5, 76), (5, 78), (0, 2), (5, 79), (4, 32), (5, 80), (5, 82), (0, 3), (5, 83), (5, 84), (5, 86), (0, 4), (5, 87), (5, 88), (5, 90), (0, 5), (5, 91), (4, 80), (4, 58), (4, 61), (5, 92)] rfl
set_option maxRecDepth 100000 in
theorem wl_r10 : ∀ w ∈ wsL_law_r10, w ∈ lw_tbl := mem_c ch_tb hc_tb wsL_law_r10 [(5, 94), (0, 6), (5, 95), (5, 96), (5, 98), (0, 7), (5, 99), (5, 100), (5, 102), (0, 8), (5, 103), (4, 84), (4, 64), (4, 67), (4, 71), (5, 104), (5, 106), (0, 9), (5, 107), (4, 87), (4, 74), (5, 108), (5, 110), (0, 10)] rfl
set_option maxRecDepth 100000 in
theorem wl_r11 : ∀ w ∈ wsL_law_r11, w ∈ lw_tbl := mem_c ch_tb hc_tb wsL_law_r11 [(5, 111), (4, 78), (5, 112), (5, 114), (0, 11), (5, 115), (4, 155), (4, 178), (4, 229), (7, 97), (7, 98), (7, 99), (7, 100), (7, 9), (7, 6), (7, 21), (7, 10), (7, 101), (7, 103), (2, 3), (7, 104), (7, 5), (7, 11), (7, 7)] rfl
set_option maxRecDepth 100000 in
theorem wl_r12 : ∀ w ∈ wsL_law_r12, w ∈ lw_tbl := mem_c ch_tb hc_tb wsL_law_r12 [(7, 8), (7, 105), (7, 107), (2, 4), (7, 108), (7, 109), (7, 111), (2, 5), (7, 112), (7, 113), (7, 115), (2, 6), (7, 116), (7, 117), (7, 119), (2, 7), (7, 120), (7, 121), (7, 123), (2, 8), (7, 124), (7, 125), (7, 127), (2, 9)] rfl
set_option maxRecDepth 100000 in
theorem wl_r13 : ∀ w ∈ wsL_law_r13, w ∈ lw_tbl := mem_c ch_tb hc_tb wsL_law_r13 [(7, 128), (7, 129), (7, 131), (2, 10), (7, 132), (5, 116), (5, 117), (5, 118), (5, 119), (4, 59), (4, 62), (4, 124), (5, 120), (5, 121), (5, 122), (5, 123), (7, 133), (7, 134), (7, 135), (7, 136), (7, 137), (7, 139), (2, 11), (7, 140)] rfl
set_option maxRecDepth 100000 in
theorem wl_r14 : ∀ w ∈ wsL_law_r14, w ∈ lw_tbl := mem_c ch_tb hc_tb wsL_law_r14 [(7, 141), (7, 142), (7, 143), (5, 124), (5, 125), (5, 126), (5, 127), (4, 65), (4, 68), (4, 72), (5, 128), (5, 129), (5, 130), (5, 131), (5, 132), (5, 133), (5, 134), (5, 135), (5, 136), (5, 137), (5, 138), (5, 139), (7, 144), (7, 145)] rfl
set_option maxRecDepth 100000 in
theorem wl_r15 : ∀ w ∈ wsL_law_r15, w ∈ lw_tbl := mem_c ch_tb hc_tb wsL_law_r15 [(7, 146), (7, 147), (7, 148), (7, 150), (2, 12), (7, 151), (5, 140), (5, 141), (5, 142), (5, 143), (5, 144), (5, 145), (5, 147), (0, 12), (5, 148), (4, 116), (5, 149), (5, 150), (5, 151), (5, 152), (5, 153), (5, 154), (5, 155), (5, 156)] rfl
set_option maxRecDepth 100000 in
theorem wl_r16 : ∀ w ∈ wsL_law_r16, w ∈ lw_tbl := mem_c ch_tb hc_tb wsL_law_r16 [(5, 157), (5, 158), (5, 159), (7, 152), (7, 153), (7, 154), (7, 155), (7, 160), (7, 156), (7, 158), (2, 13), (7, 159), (5, 160), (5, 161), (5, 162), (5, 163), (4, 120), (4, 126), (4, 128), (7, 161), (7, 162), (7, 163), (7, 164), (5, 164)] rfl
set_option maxRecDepth 100000 in
theorem wl_r17 : ∀ w ∈ wsL_law_r17, w ∈ lw_tbl := mem_c ch_tb hc_tb wsL_law_r17 [(5, 165), (5, 166), (5, 167), (4, 122), (5, 168), (5, 170), (0, 13), (5, 171), (5, 172), (5, 173), (5, 174), (5, 175), (5, 176), (5, 178), (0, 14), (5, 179), (4, 118), (5, 180), (5, 181), (5, 182), (5, 183), (5, 184), (5, 185), (5, 186)] rfl
set_option maxRecDepth 100000 in
theorem wl_r18 : ∀ w ∈ wsL_law_r18, w ∈ lw_tbl := mem_c ch_tb hc_tb wsL_law_r18 [(5, 187), (5, 190), (5, 191), (5, 192), (5, 193), (5, 194), (5, 195), (5, 196), (5, 197), (5, 198), (5, 199), (5, 200), (5, 201), (5, 202), (5, 203), (5, 204), (5, 205), (5, 207), (0, 15), (5, 208), (5, 209), (5, 210), (5, 211), (5, 212)] rfl
set_option maxRecDepth 100000 in
theorem wl_r19 : ∀ w ∈ wsL_law_r19, w ∈ lw_tbl := mem_c ch_tb hc_tb wsL_law_r19 [(5, 213), (5, 215), (5, 214), (4, 11), (5, 216), (5, 217), (5, 218), (5, 219), (5, 220), (5, 221), (5, 222), (5, 223), (5, 224), (7, 165), (7, 166), (7, 167), (7, 168), (7, 169), (7, 170), (7, 171), (7, 172), (7, 174), (2, 14), (7, 175)] rfl
set_option maxRecDepth 100000 in
theorem wl_r20 : ∀ w ∈ wsL_law_r20, w ∈ lw_tbl := mem_c ch_tb hc_tb wsL_law_r20 [(7, 176), (7, 178), (2, 15), (7, 179), (7, 180), (7, 181), (7, 182), (7, 183), (7, 185), (3, 0), (7, 186), (7, 187), (7, 189), (3, 1), (7, 190), (7, 191), (7, 193), (3, 2), (7, 194), (5, 225), (5, 226), (5, 227), (5, 228), (5, 229)] rfl
set_option maxRecDepth 100000 in
theorem wl_r21 : ∀ w ∈ wsL_law_r21, w ∈ lw_tbl := mem_c ch_tb hc_tb wsL_law_r21 [(5, 230), (5, 231), (5, 232), (5, 233), (7, 195), (7, 196), (7, 197), (7, 198), (5, 234), (5, 235), (5, 236), (5, 237), (7, 199), (7, 200), (7, 201), (7, 202), (5, 238), (5, 239), (6, 0), (6, 1), (7, 203), (7, 204), (7, 205), (7, 206)] rfl
set_option maxRecDepth 100000 in
theorem wl_r22 : ∀ w ∈ wsL_law_r22, w ∈ lw_tbl := mem_c ch_tb hc_tb wsL_law_r22 [(6, 2), (6, 3), (6, 4), (6, 5), (6, 6), (7, 207), (7, 208), (7, 209), (7, 210), (6, 7), (6, 8), (6, 9), (6, 10), (6, 11), (6, 12), (6, 13), (6, 14), (7, 211), (7, 212), (7, 213), (7, 214), (6, 15), (6, 16), (6, 17)] rfl
set_option maxRecDepth 100000 in
theorem wl_r23 : ∀ w ∈ wsL_law_r23, w ∈ lw_tbl := mem_c ch_tb hc_tb wsL_law_r23 [(6, 18), (7, 215), (7, 216), (7, 217), (7, 218), (6, 19), (6, 20), (6, 21), (6, 22), (7, 219), (7, 220), (7, 221), (7, 222), (6, 23), (6, 24), (6, 25), (6, 26), (6, 31), (6, 27), (6, 29), (1, 0), (6, 30), (6, 33), (7, 223)] rfl
set_option maxRecDepth 100000 in
theorem wl_r24 : ∀ w ∈ wsL_law_r24, w ∈ lw_tbl := mem_c ch_tb hc_tb wsL_law_r24 [(7, 224), (7, 225), (7, 226), (7, 227), (7, 229), (3, 3), (7, 230), (7, 231), (7, 233), (3, 4), (7, 234), (6, 34), (6, 35), (6, 36), (6, 37), (6, 38), (6, 39), (6, 40), (7, 235), (7, 236), (7, 237), (7, 238), (7, 239), (8, 0)] rfl
set_option maxRecDepth 100000 in
theorem wl_r25 : ∀ w ∈ wsL_law_r25, w ∈ lw_tbl := mem_c ch_tb hc_tb wsL_law_r25 [(8, 1), (6, 41), (6, 42), (6, 43), (6, 44), (6, 45), (6, 47), (1, 1), (6, 48), (4, 81), (6, 49), (6, 51), (1, 2), (6, 52), (6, 53), (6, 55), (6, 57), (1, 3), (6, 58), (6, 59), (6, 60), (6, 62), (1, 4), (6, 63)] rfl
set_option maxRecDepth 100000 in
theorem wl_r26 : ∀ w ∈ wsL_law_r26, w ∈ lw_tbl := mem_c ch_tb hc_tb wsL_law_r26 [(8, 2), (8, 3), (8, 4), (8, 5), (8, 10), (8, 6), (8, 8), (3, 5), (8, 9), (8, 11), (8, 13), (3, 6), (8, 14), (6, 64), (6, 65), (6, 66), (6, 67), (4, 85), (4, 203), (6, 68), (6, 69), (6, 70), (6, 71), (6, 72)] rfl
set_option maxRecDepth 100000 in
theorem wl_r27 : ∀ w ∈ wsL_law_r27, w ∈ lw_tbl := mem_c ch_tb hc_tb wsL_law_r27 [(6, 74), (1, 5), (6, 75), (4, 200), (6, 76), (6, 77), (6, 78), (6, 79), (6, 80), (6, 82), (1, 6), (6, 83), (6, 84), (6, 85), (6, 86), (6, 87), (6, 88), (6, 89), (6, 90), (6, 91), (4, 202), (4, 201), (6, 92), (6, 94)] rfl
set_option maxRecDepth 100000 in
theorem wl_r28 : ∀ w ∈ wsL_law_r28, w ∈ lw_tbl := mem_c ch_tb hc_tb wsL_law_r28 [(1, 7), (6, 95), (6, 96), (6, 98), (1, 8), (6, 99), (6, 100), (6, 101), (6, 102), (6, 103), (8, 15), (8, 16), (8, 17), (8, 18), (8, 19), (8, 21), (3, 7), (8, 22), (8, 23), (8, 24), (8, 25), (8, 26), (8, 28), (3, 8)] rfl
set_option maxRecDepth 100000 in
theorem wl_r29 : ∀ w ∈ wsL_law_r29, w ∈ lw_tbl := mem_c ch_tb hc_tb wsL_law_r29 [(8, 29), (6, 104), (6, 105), (6, 106), (6, 107), (4, 75), (6, 112), (6, 108), (6, 109), (6, 110), (6, 111), (8, 30), (8, 31), (8, 32), (8, 33), (6, 113), (6, 114), (6, 115), (6, 116), (6, 117), (6, 118), (6, 119), (6, 120), (8, 34)] rfl
set_option maxRecDepth 100000 in
theorem wl_r30 : ∀ w ∈ wsL_law_r30, w ∈ lw_tbl := mem_c ch_tb hc_tb wsL_law_r30 [(8, 35), (8, 36), (8, 37), (6, 121), (6, 122), (6, 123), (6, 124), (8, 38), (8, 39), (8, 40), (8, 41), (6, 125), (6, 126), (6, 127), (6, 128), (6, 129), (6, 131), (1, 9), (6, 132), (6, 133), (6, 135), (1, 10), (6, 136), (4, 170)] rfl
set_option maxRecDepth 100000 in
theorem wl_r31 : ∀ w ∈ wsL_law_r31, w ∈ lw_tbl := mem_c ch_tb hc_tb wsL_law_r31 [(4, 174), (4, 176), (4, 172), (6, 137), (6, 138), (6, 139), (6, 140), (6, 142), (8, 42), (8, 43), (8, 44), (8, 45), (8, 46), (8, 48), (3, 9), (8, 49), (6, 143), (6, 144), (6, 145), (6, 146), (6, 147), (6, 148), (4, 12), (6, 149)] rfl
set_option maxRecDepth 100000 in
theorem wl_r32 : ∀ w ∈ wsL_law_r32, w ∈ lw_tbl := mem_c ch_tb hc_tb wsL_law_r32 [(6, 150), (6, 151), (6, 152), (6, 153), (6, 155), (1, 11), (6, 156), (6, 157), (6, 159), (1, 12), (6, 160), (8, 50), (8, 51), (8, 52), (8, 53), (8, 54), (6, 161), (6, 162), (6, 163), (6, 164), (6, 165), (6, 167), (1, 13), (6, 168)] rfl
set_option maxRecDepth 100000 in
theorem wl_r33 : ∀ w ∈ wsL_law_r33, w ∈ lw_tbl := mem_c ch_tb hc_tb wsL_law_r33 [(6, 169), (6, 171), (1, 14), (6, 172), (6, 173), (6, 174), (6, 176), (1, 15), (6, 177), (6, 178), (6, 179), (6, 181), (2, 0), (6, 182), (6, 183), (6, 184), (6, 186), (2, 1), (6, 187), (6, 188), (6, 189), (6, 191), (2, 2), (6, 192)] rfl
set_option maxRecDepth 100000 in
theorem wl_r34 : ∀ w ∈ wsL_law_r34, w ∈ lw_tbl := mem_c ch_tb hc_tb wsL_law_r34 [(6, 193), (6, 194), (6, 195), (6, 196), (6, 197), (8, 55), (8, 56), (8, 57), (8, 58), (7, 22), (8, 62), (8, 59), (8, 60), (8, 61), (8, 63), (6, 198), (6, 199), (6, 200), (6, 201), (6, 202), (6, 203), (6, 204), (6, 205), (6, 206)] rfl
set_option maxRecDepth 100000 in
theorem wl_r35 : ∀ w ∈ wsL_law_r35, w ∈ lw_tbl := mem_c ch_tb hc_tb wsL_law_r35 [(6, 207), (6, 208), (6, 209), (6, 210), (8, 68), (8, 69), (8, 70), (8, 71), (6, 211), (6, 212), (6, 213), (6, 214), (6, 215), (6, 216), (6, 217), (6, 218), (8, 72), (8, 73), (8, 74), (8, 75), (6, 219), (6, 220), (6, 221), (6, 222)] rfl
set_option maxRecDepth 100000 in
theorem wl_r36 : ∀ w ∈ wsL_law_r36, w ∈ lw_tbl := mem_c ch_tb hc_tb wsL_law_r36 [(8, 76), (8, 77), (8, 78), (8, 79), (6, 223), (6, 224), (6, 225), (6, 226), (8, 64), (8, 65), (8, 66), (8, 67)] rfl
set_option maxRecDepth 100000 in
theorem wl_X0 : ∀ w ∈ wsX00, w ∈ lw_tbl := mem_c ch_tb hc_tb wsX00 [(4, 204), (4, 206), (4, 208), (4, 210), (4, 212), (4, 214)] rfl
set_option maxRecDepth 100000 in
theorem wl_X1 : ∀ w ∈ wsX10, w ∈ lw_tbl := mem_c ch_tb hc_tb wsX10 [(4, 230), (4, 232), (4, 234)] rfl
set_option maxRecDepth 100000 in
theorem wl_X2 : ∀ w ∈ wsX20, w ∈ lw_tbl := mem_c ch_tb hc_tb wsX20 [(4, 129), (4, 131), (4, 133), (4, 135), (4, 137), (4, 139), (4, 141)] rfl
set_option maxRecDepth 100000 in
theorem wl_X3 : ∀ w ∈ wsX30, w ∈ lw_tbl := mem_c ch_tb hc_tb wsX30 [(4, 156), (4, 158)] rfl
set_option maxRecDepth 100000 in
theorem wl_X4 : ∀ w ∈ wsX40, w ∈ lw_tbl := mem_c ch_tb hc_tb wsX40 [(4, 179), (4, 181), (4, 183), (4, 185), (4, 187)] rfl
set_option maxRecDepth 100000 in
theorem wl_X5 : ∀ w ∈ wsX50, w ∈ lw_tbl := mem_c ch_tb hc_tb wsX50 [(4, 33), (4, 35), (4, 37), (4, 39), (4, 41), (4, 43)] rfl
set_option maxRecDepth 100000 in
theorem wl_X6 : ∀ w ∈ wsX60, w ∈ lw_tbl := mem_c ch_tb hc_tb wsX60 [(4, 88), (4, 90), (4, 92), (4, 94), (4, 96), (4, 98), (4, 100), (4, 102), (4, 104), (4, 106)] rfl
set_option maxRecDepth 100000 in
theorem wl_X7 : ∀ w ∈ wsX70, w ∈ lw_tbl := mem_c ch_tb hc_tb wsX70 [(5, 21), (5, 23), (5, 25), (5, 27), (5, 29), (5, 31), (5, 33), (5, 35), (5, 37), (5, 39), (5, 41), (5, 43), (5, 45)] rfl
set_option maxRecDepth 100000 in
theorem wl_X8 : ∀ w ∈ wsX80, w ∈ lw_tbl := mem_c ch_tb hc_tb wsX80 [(7, 23), (7, 25), (7, 27), (7, 29), (7, 31), (7, 33), (7, 35), (7, 37), (7, 39), (7, 41), (7, 43), (7, 45), (7, 47), (7, 49), (7, 51), (7, 53), (7, 55), (7, 57), (7, 59), (7, 61), (7, 63), (7, 65), (7, 67), (7, 69), (7, 71), (7, 73), (7, 75), (7, 77), (7, 79), (7, 81)] rfl
