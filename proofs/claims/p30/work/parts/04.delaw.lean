theorem bdJ6_bitCount_0f7a4_0 : decode cJ6_bitCount_0f7a4 0 = .ok (.iload_n 0, 1) ∧ decode cJ6_bitCount_0f7a4 1 = .ok (.iload_n 0, 1) ∧ decode cJ6_bitCount_0f7a4 2 = .ok (.iconst 1, 1) ∧ decode cJ6_bitCount_0f7a4 3 = .ok (.iushr, 1) ∧ decode cJ6_bitCount_0f7a4 4 = .ok (.ldc_w 265, 3) ∧ decode cJ6_bitCount_0f7a4 7 = .ok (.iand, 1) ∧ decode cJ6_bitCount_0f7a4 8 = .ok (.isub, 1) ∧ decode cJ6_bitCount_0f7a4 9 = .ok (.istore_n 0, 1) := by decide +kernel
theorem dJ6_bitCount_0f7a4_0 : decode cJ6_bitCount_0f7a4 0 = .ok (.iload_n 0, 1) := bdJ6_bitCount_0f7a4_0.1
theorem dJ6_bitCount_0f7a4_1 : decode cJ6_bitCount_0f7a4 1 = .ok (.iload_n 0, 1) := bdJ6_bitCount_0f7a4_0.2.1
theorem dJ6_bitCount_0f7a4_2 : decode cJ6_bitCount_0f7a4 2 = .ok (.iconst 1, 1) := bdJ6_bitCount_0f7a4_0.2.2.1
theorem dJ6_bitCount_0f7a4_3 : decode cJ6_bitCount_0f7a4 3 = .ok (.iushr, 1) := bdJ6_bitCount_0f7a4_0.2.2.2.1
theorem dJ6_bitCount_0f7a4_4 : decode cJ6_bitCount_0f7a4 4 = .ok (.ldc_w 265, 3) := bdJ6_bitCount_0f7a4_0.2.2.2.2.1
theorem dJ6_bitCount_0f7a4_7 : decode cJ6_bitCount_0f7a4 7 = .ok (.iand, 1) := bdJ6_bitCount_0f7a4_0.2.2.2.2.2.1
theorem dJ6_bitCount_0f7a4_8 : decode cJ6_bitCount_0f7a4 8 = .ok (.isub, 1) := bdJ6_bitCount_0f7a4_0.2.2.2.2.2.2.1
theorem dJ6_bitCount_0f7a4_9 : decode cJ6_bitCount_0f7a4 9 = .ok (.istore_n 0, 1) := bdJ6_bitCount_0f7a4_0.2.2.2.2.2.2.2
theorem bdJ6_bitCount_0f7a4_10 : decode cJ6_bitCount_0f7a4 10 = .ok (.iload_n 0, 1) ∧ decode cJ6_bitCount_0f7a4 11 = .ok (.ldc_w 266, 3) ∧ decode cJ6_bitCount_0f7a4 14 = .ok (.iand, 1) ∧ decode cJ6_bitCount_0f7a4 15 = .ok (.iload_n 0, 1) ∧ decode cJ6_bitCount_0f7a4 16 = .ok (.iconst 2, 1) ∧ decode cJ6_bitCount_0f7a4 17 = .ok (.iushr, 1) ∧ decode cJ6_bitCount_0f7a4 18 = .ok (.ldc_w 266, 3) ∧ decode cJ6_bitCount_0f7a4 21 = .ok (.iand, 1) := by decide +kernel
theorem dJ6_bitCount_0f7a4_10 : decode cJ6_bitCount_0f7a4 10 = .ok (.iload_n 0, 1) := bdJ6_bitCount_0f7a4_10.1
theorem dJ6_bitCount_0f7a4_11 : decode cJ6_bitCount_0f7a4 11 = .ok (.ldc_w 266, 3) := bdJ6_bitCount_0f7a4_10.2.1
theorem dJ6_bitCount_0f7a4_14 : decode cJ6_bitCount_0f7a4 14 = .ok (.iand, 1) := bdJ6_bitCount_0f7a4_10.2.2.1
theorem dJ6_bitCount_0f7a4_15 : decode cJ6_bitCount_0f7a4 15 = .ok (.iload_n 0, 1) := bdJ6_bitCount_0f7a4_10.2.2.2.1
theorem dJ6_bitCount_0f7a4_16 : decode cJ6_bitCount_0f7a4 16 = .ok (.iconst 2, 1) := bdJ6_bitCount_0f7a4_10.2.2.2.2.1
theorem dJ6_bitCount_0f7a4_17 : decode cJ6_bitCount_0f7a4 17 = .ok (.iushr, 1) := bdJ6_bitCount_0f7a4_10.2.2.2.2.2.1
theorem dJ6_bitCount_0f7a4_18 : decode cJ6_bitCount_0f7a4 18 = .ok (.ldc_w 266, 3) := bdJ6_bitCount_0f7a4_10.2.2.2.2.2.2.1
theorem dJ6_bitCount_0f7a4_21 : decode cJ6_bitCount_0f7a4 21 = .ok (.iand, 1) := bdJ6_bitCount_0f7a4_10.2.2.2.2.2.2.2
theorem bdJ6_bitCount_0f7a4_22 : decode cJ6_bitCount_0f7a4 22 = .ok (.iadd, 1) ∧ decode cJ6_bitCount_0f7a4 23 = .ok (.istore_n 0, 1) ∧ decode cJ6_bitCount_0f7a4 24 = .ok (.iload_n 0, 1) ∧ decode cJ6_bitCount_0f7a4 25 = .ok (.iload_n 0, 1) ∧ decode cJ6_bitCount_0f7a4 26 = .ok (.iconst 4, 1) ∧ decode cJ6_bitCount_0f7a4 27 = .ok (.iushr, 1) ∧ decode cJ6_bitCount_0f7a4 28 = .ok (.iadd, 1) ∧ decode cJ6_bitCount_0f7a4 29 = .ok (.ldc_w 267, 3) := by decide +kernel
theorem dJ6_bitCount_0f7a4_22 : decode cJ6_bitCount_0f7a4 22 = .ok (.iadd, 1) := bdJ6_bitCount_0f7a4_22.1
theorem dJ6_bitCount_0f7a4_23 : decode cJ6_bitCount_0f7a4 23 = .ok (.istore_n 0, 1) := bdJ6_bitCount_0f7a4_22.2.1
theorem dJ6_bitCount_0f7a4_24 : decode cJ6_bitCount_0f7a4 24 = .ok (.iload_n 0, 1) := bdJ6_bitCount_0f7a4_22.2.2.1
theorem dJ6_bitCount_0f7a4_25 : decode cJ6_bitCount_0f7a4 25 = .ok (.iload_n 0, 1) := bdJ6_bitCount_0f7a4_22.2.2.2.1
theorem dJ6_bitCount_0f7a4_26 : decode cJ6_bitCount_0f7a4 26 = .ok (.iconst 4, 1) := bdJ6_bitCount_0f7a4_22.2.2.2.2.1
theorem dJ6_bitCount_0f7a4_27 : decode cJ6_bitCount_0f7a4 27 = .ok (.iushr, 1) := bdJ6_bitCount_0f7a4_22.2.2.2.2.2.1
theorem dJ6_bitCount_0f7a4_28 : decode cJ6_bitCount_0f7a4 28 = .ok (.iadd, 1) := bdJ6_bitCount_0f7a4_22.2.2.2.2.2.2.1
theorem dJ6_bitCount_0f7a4_29 : decode cJ6_bitCount_0f7a4 29 = .ok (.ldc_w 267, 3) := bdJ6_bitCount_0f7a4_22.2.2.2.2.2.2.2
theorem bdJ6_bitCount_0f7a4_32 : decode cJ6_bitCount_0f7a4 32 = .ok (.iand, 1) ∧ decode cJ6_bitCount_0f7a4 33 = .ok (.istore_n 0, 1) ∧ decode cJ6_bitCount_0f7a4 34 = .ok (.iload_n 0, 1) ∧ decode cJ6_bitCount_0f7a4 35 = .ok (.iload_n 0, 1) ∧ decode cJ6_bitCount_0f7a4 36 = .ok (.bipush 8, 2) ∧ decode cJ6_bitCount_0f7a4 38 = .ok (.iushr, 1) ∧ decode cJ6_bitCount_0f7a4 39 = .ok (.iadd, 1) ∧ decode cJ6_bitCount_0f7a4 40 = .ok (.istore_n 0, 1) := by decide +kernel
theorem dJ6_bitCount_0f7a4_32 : decode cJ6_bitCount_0f7a4 32 = .ok (.iand, 1) := bdJ6_bitCount_0f7a4_32.1
theorem dJ6_bitCount_0f7a4_33 : decode cJ6_bitCount_0f7a4 33 = .ok (.istore_n 0, 1) := bdJ6_bitCount_0f7a4_32.2.1
theorem dJ6_bitCount_0f7a4_34 : decode cJ6_bitCount_0f7a4 34 = .ok (.iload_n 0, 1) := bdJ6_bitCount_0f7a4_32.2.2.1
theorem dJ6_bitCount_0f7a4_35 : decode cJ6_bitCount_0f7a4 35 = .ok (.iload_n 0, 1) := bdJ6_bitCount_0f7a4_32.2.2.2.1
theorem dJ6_bitCount_0f7a4_36 : decode cJ6_bitCount_0f7a4 36 = .ok (.bipush 8, 2) := bdJ6_bitCount_0f7a4_32.2.2.2.2.1
theorem dJ6_bitCount_0f7a4_38 : decode cJ6_bitCount_0f7a4 38 = .ok (.iushr, 1) := bdJ6_bitCount_0f7a4_32.2.2.2.2.2.1
theorem dJ6_bitCount_0f7a4_39 : decode cJ6_bitCount_0f7a4 39 = .ok (.iadd, 1) := bdJ6_bitCount_0f7a4_32.2.2.2.2.2.2.1
theorem dJ6_bitCount_0f7a4_40 : decode cJ6_bitCount_0f7a4 40 = .ok (.istore_n 0, 1) := bdJ6_bitCount_0f7a4_32.2.2.2.2.2.2.2
theorem bdJ6_bitCount_0f7a4_41 : decode cJ6_bitCount_0f7a4 41 = .ok (.iload_n 0, 1) ∧ decode cJ6_bitCount_0f7a4 42 = .ok (.iload_n 0, 1) ∧ decode cJ6_bitCount_0f7a4 43 = .ok (.bipush 16, 2) ∧ decode cJ6_bitCount_0f7a4 45 = .ok (.iushr, 1) ∧ decode cJ6_bitCount_0f7a4 46 = .ok (.iadd, 1) ∧ decode cJ6_bitCount_0f7a4 47 = .ok (.istore_n 0, 1) ∧ decode cJ6_bitCount_0f7a4 48 = .ok (.iload_n 0, 1) ∧ decode cJ6_bitCount_0f7a4 49 = .ok (.bipush 63, 2) := by decide +kernel
theorem dJ6_bitCount_0f7a4_41 : decode cJ6_bitCount_0f7a4 41 = .ok (.iload_n 0, 1) := bdJ6_bitCount_0f7a4_41.1
theorem dJ6_bitCount_0f7a4_42 : decode cJ6_bitCount_0f7a4 42 = .ok (.iload_n 0, 1) := bdJ6_bitCount_0f7a4_41.2.1
theorem dJ6_bitCount_0f7a4_43 : decode cJ6_bitCount_0f7a4 43 = .ok (.bipush 16, 2) := bdJ6_bitCount_0f7a4_41.2.2.1
theorem dJ6_bitCount_0f7a4_45 : decode cJ6_bitCount_0f7a4 45 = .ok (.iushr, 1) := bdJ6_bitCount_0f7a4_41.2.2.2.1
theorem dJ6_bitCount_0f7a4_46 : decode cJ6_bitCount_0f7a4 46 = .ok (.iadd, 1) := bdJ6_bitCount_0f7a4_41.2.2.2.2.1
theorem dJ6_bitCount_0f7a4_47 : decode cJ6_bitCount_0f7a4 47 = .ok (.istore_n 0, 1) := bdJ6_bitCount_0f7a4_41.2.2.2.2.2.1
theorem dJ6_bitCount_0f7a4_48 : decode cJ6_bitCount_0f7a4 48 = .ok (.iload_n 0, 1) := bdJ6_bitCount_0f7a4_41.2.2.2.2.2.2.1
theorem dJ6_bitCount_0f7a4_49 : decode cJ6_bitCount_0f7a4 49 = .ok (.bipush 63, 2) := bdJ6_bitCount_0f7a4_41.2.2.2.2.2.2.2
theorem bdJ6_bitCount_0f7a4_51 : decode cJ6_bitCount_0f7a4 51 = .ok (.iand, 1) ∧ decode cJ6_bitCount_0f7a4 52 = .ok (.ireturn, 1) := by decide +kernel
theorem dJ6_bitCount_0f7a4_51 : decode cJ6_bitCount_0f7a4 51 = .ok (.iand, 1) := bdJ6_bitCount_0f7a4_51.1
theorem dJ6_bitCount_0f7a4_52 : decode cJ6_bitCount_0f7a4 52 = .ok (.ireturn, 1) := bdJ6_bitCount_0f7a4_51.2
theorem bdJ9_abs_0f7a4_0 : decode cJ9_abs_0f7a4 0 = .ok (.iload_n 0, 1) ∧ decode cJ9_abs_0f7a4 1 = .ok (.ifCond .ge 8, 3) ∧ decode cJ9_abs_0f7a4 4 = .ok (.iload_n 0, 1) ∧ decode cJ9_abs_0f7a4 5 = .ok (.ineg, 1) ∧ decode cJ9_abs_0f7a4 6 = .ok (.goto 4, 3) ∧ decode cJ9_abs_0f7a4 9 = .ok (.iload_n 0, 1) ∧ decode cJ9_abs_0f7a4 10 = .ok (.ireturn, 1) := by decide +kernel
theorem dJ9_abs_0f7a4_0 : decode cJ9_abs_0f7a4 0 = .ok (.iload_n 0, 1) := bdJ9_abs_0f7a4_0.1
theorem dJ9_abs_0f7a4_1 : decode cJ9_abs_0f7a4 1 = .ok (.ifCond .ge 8, 3) := bdJ9_abs_0f7a4_0.2.1
theorem dJ9_abs_0f7a4_4 : decode cJ9_abs_0f7a4 4 = .ok (.iload_n 0, 1) := bdJ9_abs_0f7a4_0.2.2.1
theorem dJ9_abs_0f7a4_5 : decode cJ9_abs_0f7a4 5 = .ok (.ineg, 1) := bdJ9_abs_0f7a4_0.2.2.2.1
theorem dJ9_abs_0f7a4_6 : decode cJ9_abs_0f7a4 6 = .ok (.goto 4, 3) := bdJ9_abs_0f7a4_0.2.2.2.2.1
theorem dJ9_abs_0f7a4_9 : decode cJ9_abs_0f7a4 9 = .ok (.iload_n 0, 1) := bdJ9_abs_0f7a4_0.2.2.2.2.2.1
theorem dJ9_abs_0f7a4_10 : decode cJ9_abs_0f7a4 10 = .ok (.ireturn, 1) := bdJ9_abs_0f7a4_0.2.2.2.2.2.2
theorem bdJ9_max_7cf53_0 : decode cJ9_max_7cf53 0 = .ok (.iload_n 0, 1) ∧ decode cJ9_max_7cf53 1 = .ok (.iload_n 1, 1) ∧ decode cJ9_max_7cf53 2 = .ok (.if_icmp .lt 7, 3) ∧ decode cJ9_max_7cf53 5 = .ok (.iload_n 0, 1) ∧ decode cJ9_max_7cf53 6 = .ok (.goto 4, 3) ∧ decode cJ9_max_7cf53 9 = .ok (.iload_n 1, 1) ∧ decode cJ9_max_7cf53 10 = .ok (.ireturn, 1) := by decide +kernel
theorem dJ9_max_7cf53_0 : decode cJ9_max_7cf53 0 = .ok (.iload_n 0, 1) := bdJ9_max_7cf53_0.1
theorem dJ9_max_7cf53_1 : decode cJ9_max_7cf53 1 = .ok (.iload_n 1, 1) := bdJ9_max_7cf53_0.2.1
theorem dJ9_max_7cf53_2 : decode cJ9_max_7cf53 2 = .ok (.if_icmp .lt 7, 3) := bdJ9_max_7cf53_0.2.2.1
theorem dJ9_max_7cf53_5 : decode cJ9_max_7cf53 5 = .ok (.iload_n 0, 1) := bdJ9_max_7cf53_0.2.2.2.1
theorem dJ9_max_7cf53_6 : decode cJ9_max_7cf53 6 = .ok (.goto 4, 3) := bdJ9_max_7cf53_0.2.2.2.2.1
theorem dJ9_max_7cf53_9 : decode cJ9_max_7cf53 9 = .ok (.iload_n 1, 1) := bdJ9_max_7cf53_0.2.2.2.2.2.1
theorem dJ9_max_7cf53_10 : decode cJ9_max_7cf53 10 = .ok (.ireturn, 1) := bdJ9_max_7cf53_0.2.2.2.2.2.2
theorem bdJ9_min_7cf53_0 : decode cJ9_min_7cf53 0 = .ok (.iload_n 0, 1) ∧ decode cJ9_min_7cf53 1 = .ok (.iload_n 1, 1) ∧ decode cJ9_min_7cf53 2 = .ok (.if_icmp .gt 7, 3) ∧ decode cJ9_min_7cf53 5 = .ok (.iload_n 0, 1) ∧ decode cJ9_min_7cf53 6 = .ok (.goto 4, 3) ∧ decode cJ9_min_7cf53 9 = .ok (.iload_n 1, 1) ∧ decode cJ9_min_7cf53 10 = .ok (.ireturn, 1) := by decide +kernel
theorem dJ9_min_7cf53_0 : decode cJ9_min_7cf53 0 = .ok (.iload_n 0, 1) := bdJ9_min_7cf53_0.1
theorem dJ9_min_7cf53_1 : decode cJ9_min_7cf53 1 = .ok (.iload_n 1, 1) := bdJ9_min_7cf53_0.2.1
theorem dJ9_min_7cf53_2 : decode cJ9_min_7cf53 2 = .ok (.if_icmp .gt 7, 3) := bdJ9_min_7cf53_0.2.2.1
theorem dJ9_min_7cf53_5 : decode cJ9_min_7cf53 5 = .ok (.iload_n 0, 1) := bdJ9_min_7cf53_0.2.2.2.1
theorem dJ9_min_7cf53_6 : decode cJ9_min_7cf53 6 = .ok (.goto 4, 3) := bdJ9_min_7cf53_0.2.2.2.2.1
theorem dJ9_min_7cf53_9 : decode cJ9_min_7cf53 9 = .ok (.iload_n 1, 1) := bdJ9_min_7cf53_0.2.2.2.2.2.1
theorem dJ9_min_7cf53_10 : decode cJ9_min_7cf53 10 = .ok (.ireturn, 1) := bdJ9_min_7cf53_0.2.2.2.2.2.2
set_option maxRecDepth 20000 in
set_option maxRecDepth 100000 in
theorem ggL_law_X7_init : GoodIn wsL_law wsX7_init := goodIn_hd (goodIn_c ch_L_law hc_L_law ([.code yX7_init cX7_init 2 none] : List Cond) [(0, 8)] rfl (by decide +kernel)) (goodIn_app (goodIn_app (goodIn_app (goodIn_app (goodIn_app (goodIn_app (goodIn_app (goodIn_app (goodIn_app (goodIn_c ch_L_law hc_L_law wsX7_init_r1 [(0, 9), (0, 10), (0, 11), (0, 12), (0, 13), (0, 14), (0, 15), (0, 16), (0, 17), (0, 18), (0, 19), (0, 20), (0, 21), (0, 22), (0, 23), (1, 0), (1, 1), (1, 2), (1, 3), (1, 4), (1, 5), (1, 6), (1, 7), (1, 8)] rfl (by decide +kernel)) (goodIn_app (goodIn_c ch_L_law hc_L_law wsX7_init_r2 [(1, 9), (1, 10), (1, 11), (1, 12), (1, 13), (1, 14), (1, 15), (1, 16), (1, 17), (1, 18), (1, 19), (1, 20), (1, 21), (1, 22), (1, 23), (2, 0), (2, 1), (2, 2), (2, 3), (2, 4), (2, 5), (2, 6), (2, 7), (2, 8)] rfl (by decide +kernel)) (goodIn_app (goodIn_c ch_L_law hc_L_law wsX7_init_r3 [(2, 9), (2, 10), (2, 11), (2, 12), (2, 13), (2, 14), (2, 15), (2, 16), (2, 17), (2, 18), (2, 19), (2, 20), (2, 21), (2, 22), (2, 23), (3, 0), (3, 1), (3, 2), (3, 3), (3, 4), (3, 5), (3, 6), (3, 7), (3, 8)] rfl (by decide +kernel)) (goodIn_app (goodIn_c ch_L_law hc_L_law wsX7_init_r4 [(3, 9), (3, 10), (3, 11), (3, 12), (3, 13), (3, 14), (3, 15), (3, 16), (3, 17), (3, 18), (3, 19), (3, 20), (3, 21), (3, 22), (3, 23), (4, 0), (4, 1), (4, 2), (4, 3), (4, 4), (4, 5), (4, 6), (4, 7), (4, 8)] rfl (by decide +kernel)) (goodIn_c ch_L_law hc_L_law wsX7_init_r5 [(4, 9), (4, 10), (4, 11), (4, 12), (4, 13), (4, 14), (4, 15), (4, 16), (4, 17), (4, 18), (4, 19), (4, 20), (4, 21), (4, 22), (4, 23), (5, 0), (5, 1), (5, 2), (0, 2), (5, 3)] rfl (by decide +kernel)))))) (goodIn_sub (fun _ h => (List.mem_append_left _ (List.mem_append_left _ (List.mem_append_left _ (List.mem_append_left _ (List.mem_append_left _ (List.mem_append_left _ (List.mem_append_left _ (List.mem_append_left _ (List.mem_append_left _ (List.mem_append_right _ h))))))))))) gwX7)) (goodIn_sub (fun _ h => (List.mem_append_left _ (List.mem_append_left _ (List.mem_append_left _ (List.mem_append_left _ (List.mem_append_left _ (List.mem_append_left _ (List.mem_append_left _ (List.mem_append_right _ h))))))))) gwX5)) (goodIn_sub (fun _ h => (List.mem_append_left _ (List.mem_append_left _ (List.mem_append_left _ (List.mem_append_left _ (List.mem_append_left _ (List.mem_append_left _ (List.mem_append_right _ h)))))))) gwX6)) (goodIn_sub (fun _ h => (List.mem_append_left _ (List.mem_append_left _ (List.mem_append_left _ (List.mem_append_left _ (List.mem_append_left _ (List.mem_append_right _ h))))))) gwX2)) (goodIn_sub (fun _ h => (List.mem_append_left _ (List.mem_append_left _ (List.mem_append_left _ (List.mem_append_left _ (List.mem_append_right _ h)))))) gwX3)) (goodIn_sub (fun _ h => (List.mem_append_left _ (List.mem_append_left _ (List.mem_append_left _ (List.mem_append_right _ h))))) gwX4)) (goodIn_sub (fun _ h => (List.mem_append_left _ (List.mem_append_left _ (List.mem_append_right _ h)))) gwX0)) (goodIn_sub (fun _ h => (List.mem_append_left _ (List.mem_append_right _ h))) gwX1))
set_option maxRecDepth 20000 in
theorem gL_law_X7_init : GoodIn wsL_law (wsX7_init) := ggL_law_X7_init
set_option maxRecDepth 20000 in
set_option maxRecDepth 100000 in
theorem ggL_law_X8_init : GoodIn wsL_law wsX8_init := goodIn_hd (goodIn_c ch_L_law hc_L_law ([.code yX8_init cX8_init 2 none] : List Cond) [(5, 6)] rfl (by decide +kernel)) (goodIn_app (goodIn_app (goodIn_c ch_L_law hc_L_law wsX8_init_r1 [(5, 7), (0, 10), (0, 11), (5, 8), (5, 9), (0, 12), (5, 10), (5, 11), (5, 12), (5, 13), (5, 14), (5, 15), (5, 16), (5, 17), (5, 18), (5, 19), (5, 20), (5, 21), (5, 22), (5, 23), (6, 0), (6, 1), (6, 2), (6, 3)] rfl (by decide +kernel)) (goodIn_c ch_L_law hc_L_law wsX8_init_r2 [(6, 4), (6, 5)] rfl (by decide +kernel))) (goodIn_sub (fun _ h => (List.mem_append_left _ (List.mem_append_left _ (List.mem_append_left _ (List.mem_append_left _ (List.mem_append_left _ (List.mem_append_left _ (List.mem_append_left _ (List.mem_append_left _ (List.mem_append_right _ h)))))))))) gwX8))
set_option maxRecDepth 20000 in
theorem gL_law_X8_init : GoodIn wsL_law (wsX8_init) := ggL_law_X8_init
set_option maxRecDepth 20000 in
set_option maxRecDepth 100000 in
theorem ggL_law_X7_type : GoodIn wsL_law wsX7_type := goodIn_hd (goodIn_c ch_L_law hc_L_law ([.code yX7_type cX7_type 2 (some .int)] : List Cond) [(6, 9)] rfl (by decide +kernel)) (goodIn_app (goodIn_c ch_L_law hc_L_law ([.fieldLink RX7 13 "WordFletchers" "textLength" "I", .fieldLink RX7 9 "WordFletchers" "text" "[I"] : List Cond) [(0, 14), (0, 13)] rfl (by decide +kernel)) (goodIn_sub (fun _ h => (List.mem_append_left _ (List.mem_append_left _ (List.mem_append_left _ (List.mem_append_left _ (List.mem_append_left _ (List.mem_append_left _ (List.mem_append_left _ (List.mem_append_left _ (List.mem_append_left _ (List.mem_append_right _ h))))))))))) gwX7))
set_option maxRecDepth 20000 in
theorem gL_law_X7_type : GoodIn wsL_law (wsV RL 13 RX7 yX7_type wsX7_type) := goodIn_app (goodIn_of _ (by decide +kernel)) ggL_law_X7_type
set_option maxRecDepth 20000 in
set_option maxRecDepth 100000 in
theorem ggL_law_X8_type : GoodIn wsL_law wsX8_type := goodIn_hd (goodIn_c ch_L_law hc_L_law ([.code yX8_type cX8_type 2 (some .int)] : List Cond) [(6, 13)] rfl (by decide +kernel)) (goodIn_app (goodIn_c ch_L_law hc_L_law ([.fieldLink RX8 76 "WordFletchersModel" "typed" "I", .fieldLink RX8 7 "WordFletchersModel" "text" "[B", .methodLink RX8 72 yX8_in, .static yX8_in, .initialized RX8, .code yX8_in cX8_in 3 (some .boolean)] : List Cond) [(6, 14), (5, 9), (6, 15), (6, 16), (0, 5), (6, 17)] rfl (by decide +kernel)) (goodIn_sub (fun _ h => (List.mem_append_left _ (List.mem_append_left _ (List.mem_append_left _ (List.mem_append_left _ (List.mem_append_left _ (List.mem_append_left _ (List.mem_append_left _ (List.mem_append_left _ (List.mem_append_right _ h)))))))))) gwX8))
set_option maxRecDepth 20000 in
theorem gL_law_X8_type : GoodIn wsL_law (wsV RL 17 RX8 yX8_type wsX8_type) := goodIn_app (goodIn_of _ (by decide +kernel)) ggL_law_X8_type
set_option maxRecDepth 20000 in
set_option maxRecDepth 100000 in
theorem ggL_law_X7_clear : GoodIn wsL_law wsX7_clear := goodIn_hd (goodIn_c ch_L_law hc_L_law ([.code yX7_clear cX7_clear 2 (some .int)] : List Cond) [(6, 21)] rfl (by decide +kernel)) (goodIn_app (goodIn_c ch_L_law hc_L_law ([.fieldLink RX7 13 "WordFletchers" "textLength" "I"] : List Cond) [(0, 14)] rfl (by decide +kernel)) (goodIn_sub (fun _ h => (List.mem_append_left _ (List.mem_append_left _ (List.mem_append_left _ (List.mem_append_left _ (List.mem_append_left _ (List.mem_append_left _ (List.mem_append_left _ (List.mem_append_left _ (List.mem_append_left _ (List.mem_append_right _ h))))))))))) gwX7))
set_option maxRecDepth 20000 in
theorem gL_law_X7_clear : GoodIn wsL_law (wsV RL 18 RX7 yX7_clear wsX7_clear) := goodIn_app (goodIn_of _ (by decide +kernel)) ggL_law_X7_clear
set_option maxRecDepth 20000 in
set_option maxRecDepth 100000 in
theorem ggL_law_X8_clear : GoodIn wsL_law wsX8_clear := goodIn_hd (goodIn_c ch_L_law hc_L_law ([.code yX8_clear cX8_clear 2 (some .int)] : List Cond) [(7, 1)] rfl (by decide +kernel)) (goodIn_app (goodIn_c ch_L_law hc_L_law ([.fieldLink RX8 76 "WordFletchersModel" "typed" "I"] : List Cond) [(6, 14)] rfl (by decide +kernel)) (goodIn_sub (fun _ h => (List.mem_append_left _ (List.mem_append_left _ (List.mem_append_left _ (List.mem_append_left _ (List.mem_append_left _ (List.mem_append_left _ (List.mem_append_left _ (List.mem_append_left _ (List.mem_append_right _ h)))))))))) gwX8))
set_option maxRecDepth 20000 in
theorem gL_law_X8_clear : GoodIn wsL_law (wsV RL 22 RX8 yX8_clear wsX8_clear) := goodIn_app (goodIn_of _ (by decide +kernel)) ggL_law_X8_clear
set_option maxRecDepth 20000 in
set_option maxRecDepth 100000 in
theorem ggL_law_X7_uplands : GoodIn wsL_law wsX7_uplands := goodIn_hd (goodIn_c ch_L_law hc_L_law ([.code yX7_uplands cX7_uplands 3 (some .int)] : List Cond) [(7, 5)] rfl (by decide +kernel)) (goodIn_app (goodIn_app (goodIn_app (goodIn_app (goodIn_app (goodIn_app (goodIn_app (goodIn_app (goodIn_c ch_L_law hc_L_law wsX7_uplands_r1 [(0, 18), (0, 14), (0, 23), (0, 22), (7, 6), (7, 7), (7, 8), (0, 17), (7, 9), (2, 3), (7, 10), (7, 11), (7, 12), (7, 13), (7, 14), (7, 15), (7, 16), (7, 17), (7, 18), (2, 16), (2, 17), (0, 21), (2, 18), (2, 19)] rfl (by decide +kernel)) (goodIn_app (goodIn_c ch_L_law hc_L_law wsX7_uplands_r2 [(2, 20), (2, 21), (2, 13), (2, 14), (7, 19), (7, 20), (7, 21), (7, 22), (7, 23), (8, 0), (8, 1), (8, 2), (8, 3), (8, 4), (8, 5), (8, 6), (8, 7), (8, 8), (8, 9), (8, 10), (8, 11), (8, 12), (8, 13), (8, 14)] rfl (by decide +kernel)) (goodIn_app (goodIn_c ch_L_law hc_L_law wsX7_uplands_r3 [(8, 15), (8, 16), (8, 17), (8, 18), (8, 19), (8, 20), (8, 21), (8, 22), (8, 23), (9, 0), (9, 1), (9, 2), (9, 3), (9, 4), (9, 5), (9, 6), (9, 7), (9, 8), (9, 9), (9, 10), (9, 11), (9, 12), (9, 13), (9, 14)] rfl (by decide +kernel)) (goodIn_app (goodIn_c ch_L_law hc_L_law wsX7_uplands_r4 [(9, 15), (9, 16), (9, 17), (9, 18), (9, 19), (9, 20), (9, 21), (9, 22), (9, 23), (10, 0), (10, 1), (10, 2), (10, 3), (10, 4), (0, 2), (10, 5), (1, 3), (1, 7), (10, 6), (1, 13), (10, 7), (1, 9), (10, 8), (4, 12)] rfl (by decide +kernel)) (goodIn_c ch_L_law hc_L_law wsX7_uplands_r5 [(4, 13), (4, 14), (1, 2), (4, 15), (4, 16), (4, 17), (4, 18), (3, 1), (4, 19), (3, 2), (4, 20), (4, 21), (4, 22), (4, 23), (5, 0), (5, 1), (5, 2), (5, 3)] rfl (by decide +kernel)))))) (goodIn_sub (fun _ h => (List.mem_append_left _ (List.mem_append_left _ (List.mem_append_left _ (List.mem_append_left _ (List.mem_append_left _ (List.mem_append_left _ (List.mem_append_left _ (List.mem_append_left _ (List.mem_append_left _ (List.mem_append_right _ h))))))))))) gwX7)) (goodIn_sub (fun _ h => (List.mem_append_left _ (List.mem_append_left _ (List.mem_append_left _ (List.mem_append_left _ (List.mem_append_left _ (List.mem_append_left _ (List.mem_append_left _ (List.mem_append_right _ h))))))))) gwX5)) (goodIn_sub (fun _ h => (List.mem_append_left _ (List.mem_append_left _ (List.mem_append_left _ (List.mem_append_left _ (List.mem_append_left _ (List.mem_append_left _ (List.mem_append_right _ h)))))))) gwX6)) (goodIn_sub (fun _ h => (List.mem_append_left _ (List.mem_append_left _ (List.mem_append_left _ (List.mem_append_left _ (List.mem_append_right _ h)))))) gwX3)) (goodIn_sub (fun _ h => (List.mem_append_left _ (List.mem_append_left _ (List.mem_append_left _ (List.mem_append_right _ h))))) gwX4)) (goodIn_sub (fun _ h => (List.mem_append_left _ (List.mem_append_right _ h))) gwX1)) (goodIn_sub (fun _ h => (List.mem_append_left _ (List.mem_append_left _ (List.mem_append_left _ (List.mem_append_left _ (List.mem_append_left _ (List.mem_append_right _ h))))))) gwX2))
set_option maxRecDepth 20000 in
theorem gL_law_X7_uplands : GoodIn wsL_law (wsV RL 23 RX7 yX7_uplands wsX7_uplands) := goodIn_app (goodIn_of _ (by decide +kernel)) ggL_law_X7_uplands
set_option maxRecDepth 20000 in
set_option maxRecDepth 100000 in
theorem ggL_law_X8_uplands : GoodIn wsL_law wsX8_uplands := goodIn_hd (goodIn_c ch_L_law hc_L_law ([.code yX8_uplands cX8_uplands 2 (some .int)] : List Cond) [(10, 12)] rfl (by decide +kernel)) (goodIn_app (goodIn_app (goodIn_c ch_L_law hc_L_law wsX8_uplands_r1 [(10, 13), (10, 14), (5, 10), (5, 13), (5, 17), (5, 20), (5, 11), (5, 12), (5, 14), (5, 15), (5, 16), (5, 18), (5, 19), (5, 21), (6, 1), (10, 15), (6, 14), (10, 16), (10, 17), (10, 18), (10, 19), (0, 5), (10, 20), (10, 21)] rfl (by decide +kernel)) (goodIn_app (goodIn_c ch_L_law hc_L_law wsX8_uplands_r2 [(10, 22), (10, 23), (11, 0), (11, 1), (11, 2), (11, 3), (11, 4), (11, 5), (11, 6), (11, 7), (11, 8), (5, 9), (6, 15), (6, 16), (6, 17), (11, 9), (11, 10), (11, 11), (11, 12), (11, 13), (11, 14), (11, 15), (11, 16), (11, 17)] rfl (by decide +kernel)) (goodIn_c ch_L_law hc_L_law wsX8_uplands_r3 [(11, 18), (11, 19), (11, 20), (11, 21), (11, 22), (11, 23), (12, 0), (12, 1), (12, 2), (12, 3), (12, 4)] rfl (by decide +kernel)))) (goodIn_sub (fun _ h => (List.mem_append_left _ (List.mem_append_left _ (List.mem_append_left _ (List.mem_append_left _ (List.mem_append_left _ (List.mem_append_left _ (List.mem_append_left _ (List.mem_append_left _ (List.mem_append_right _ h)))))))))) gwX8))
set_option maxRecDepth 20000 in
theorem gL_law_X8_uplands : GoodIn wsL_law (wsV RL 26 RX8 yX8_uplands wsX8_uplands) := goodIn_app (goodIn_of _ (by decide +kernel)) ggL_law_X8_uplands
set_option maxRecDepth 20000 in
set_option maxRecDepth 100000 in
theorem ggL_law_X7_one : GoodIn wsL_law wsX7_one := goodIn_hd (goodIn_c ch_L_law hc_L_law ([.code yX7_one cX7_one 3 (some .int)] : List Cond) [(12, 8)] rfl (by decide +kernel)) (goodIn_app (goodIn_app (goodIn_app (goodIn_c ch_L_law hc_L_law ([.fieldLink RX7 29 "WordFletchers" "told" "LWordFletchers$Told;", .fieldLink RX7 96 "WordFletchers$Told" "place" "[I", .fieldLink RX7 99 "WordFletchers$Told" "ear" "[I", .fieldLink RX7 39 "WordFletchers" "moment" "LWordFletchers$Moment;", .fieldLink RX7 102 "WordFletchers$Moment" "knows" "[I", .methodLink RX7 92 yX6_hasOne, .instanceMethod yX6_hasOne, .selects RX6 yX6_hasOne yX6_hasOne, .initialized RX6, .code yX6_hasOne cX6_hasOne 2 (some .boolean), .fieldLink RX6 36 "WordFletchers$Told" "people" "I"] : List Cond) [(0, 22), (12, 9), (12, 10), (1, 3), (12, 11), (12, 12), (12, 13), (12, 14), (0, 21), (12, 15), (2, 19)] rfl (by decide +kernel)) (goodIn_sub (fun _ h => (List.mem_append_left _ (List.mem_append_left _ (List.mem_append_left _ (List.mem_append_left _ (List.mem_append_left _ (List.mem_append_left _ (List.mem_append_left _ (List.mem_append_left _ (List.mem_append_left _ (List.mem_append_right _ h))))))))))) gwX7)) (goodIn_sub (fun _ h => (List.mem_append_left _ (List.mem_append_left _ (List.mem_append_left _ (List.mem_append_left _ (List.mem_append_left _ (List.mem_append_left _ (List.mem_append_right _ h)))))))) gwX6)) (goodIn_sub (fun _ h => (List.mem_append_left _ (List.mem_append_left _ (List.mem_append_left _ (List.mem_append_left _ (List.mem_append_left _ (List.mem_append_right _ h))))))) gwX2))
set_option maxRecDepth 20000 in
theorem gL_law_X7_one : GoodIn wsL_law (wsV RL 27 RX7 yX7_one wsX7_one) := goodIn_app (goodIn_of _ (by decide +kernel)) ggL_law_X7_one
set_option maxRecDepth 20000 in
set_option maxRecDepth 100000 in
theorem ggL_law_X8_one : GoodIn wsL_law wsX8_one := goodIn_hd (goodIn_c ch_L_law hc_L_law ([.code yX8_one cX8_one 5 (some .int)] : List Cond) [(12, 19)] rfl (by decide +kernel)) (goodIn_app (goodIn_c ch_L_law hc_L_law ([.fieldLink RX8 17 "WordFletchersModel" "place" "[I", .fieldLink RX8 20 "WordFletchersModel" "ear" "[I", .fieldLink RX8 23 "WordFletchersModel" "sayings" "[I", .fieldLink RX8 44 "WordFletchersModel" "now" "[I", .methodLink RX8 142 yX8_isOne, .instanceMethod yX8_isOne, .selects RX8 yX8_isOne yX8_isOne, .initialized RX8, .code yX8_isOne cX8_isOne 2 (some .boolean), .fieldLink RX8 13 "WordFletchersModel" "people" "[I", .methodLink RX8 72 yX8_in, .static yX8_in, .code yX8_in cX8_in 3 (some .boolean), .methodLink RX8 145 yX8_has, .static yX8_has, .code yX8_has cX8_has 2 (some .boolean)] : List Cond) [(5, 11), (5, 12), (5, 13), (5, 20), (12, 20), (12, 21), (12, 22), (0, 5), (12, 23), (5, 10), (6, 15), (6, 16), (6, 17), (13, 0), (13, 1), (13, 2)] rfl (by decide +kernel)) (goodIn_sub (fun _ h => (List.mem_append_left _ (List.mem_append_left _ (List.mem_append_left _ (List.mem_append_left _ (List.mem_append_left _ (List.mem_append_left _ (List.mem_append_left _ (List.mem_append_left _ (List.mem_append_right _ h)))))))))) gwX8))
set_option maxRecDepth 20000 in
theorem gL_law_X8_one : GoodIn wsL_law (wsV RL 31 RX8 yX8_one wsX8_one) := goodIn_app (goodIn_of _ (by decide +kernel)) ggL_law_X8_one
set_option maxRecDepth 20000 in
set_option maxRecDepth 100000 in
theorem ggL_law_X7_saying : GoodIn wsL_law wsX7_saying := goodIn_hd (goodIn_c ch_L_law hc_L_law ([.code yX7_saying cX7_saying 3 (some .int)] : List Cond) [(13, 6)] rfl (by decide +kernel)) (goodIn_app (goodIn_app (goodIn_app (goodIn_c ch_L_law hc_L_law ([.fieldLink RX7 29 "WordFletchers" "told" "LWordFletchers$Told;", .fieldLink RX7 108 "WordFletchers$Told" "weight" "[I", .fieldLink RX7 111 "WordFletchers$Told" "twist" "[I", .fieldLink RX7 114 "WordFletchers$Told" "first" "[I", .fieldLink RX7 39 "WordFletchers" "moment" "LWordFletchers$Moment;", .methodLink RX7 105 yX6_hasSaying, .instanceMethod yX6_hasSaying, .selects RX6 yX6_hasSaying yX6_hasSaying, .initialized RX6, .code yX6_hasSaying cX6_hasSaying 2 (some .boolean), .fieldLink RX6 40 "WordFletchers$Told" "sayings" "I", .methodLink RX7 117 yX2_whoKnows, .instanceMethod yX2_whoKnows, .selects RX2 yX2_whoKnows yX2_whoKnows, .initialized RX2, .code yX2_whoKnows cX2_whoKnows 4 (some .int), .methodLink RX2 57 yX2_isKnown, .instanceMethod yX2_isKnown, .selects RX2 yX2_isKnown yX2_isKnown, .code yX2_isKnown cX2_isKnown 3 (some .boolean), .fieldLink RX2 15 "WordFletchers$Moment" "knows" "[I", .static yX7_isIn, .initialized RX7, .code yX7_isIn cX7_isIn 2 (some .boolean)] : List Cond) [(0, 22), (13, 7), (13, 8), (13, 9), (1, 3), (13, 10), (13, 11), (13, 12), (0, 21), (13, 13), (2, 20), (13, 14), (13, 15), (13, 16), (1, 2), (13, 17), (13, 18), (13, 19), (13, 20), (13, 21), (3, 2), (5, 2), (0, 2), (5, 3)] rfl (by decide +kernel)) (goodIn_sub (fun _ h => (List.mem_append_left _ (List.mem_append_left _ (List.mem_append_left _ (List.mem_append_left _ (List.mem_append_left _ (List.mem_append_left _ (List.mem_append_left _ (List.mem_append_left _ (List.mem_append_left _ (List.mem_append_right _ h))))))))))) gwX7)) (goodIn_sub (fun _ h => (List.mem_append_left _ (List.mem_append_left _ (List.mem_append_left _ (List.mem_append_left _ (List.mem_append_left _ (List.mem_append_left _ (List.mem_append_right _ h)))))))) gwX6)) (goodIn_sub (fun _ h => (List.mem_append_left _ (List.mem_append_left _ (List.mem_append_left _ (List.mem_append_left _ (List.mem_append_left _ (List.mem_append_right _ h))))))) gwX2))
set_option maxRecDepth 20000 in
theorem gL_law_X7_saying : GoodIn wsL_law (wsV RL 32 RX7 yX7_saying wsX7_saying) := goodIn_app (goodIn_of _ (by decide +kernel)) ggL_law_X7_saying
set_option maxRecDepth 20000 in
set_option maxRecDepth 100000 in
theorem ggL_law_X8_saying : GoodIn wsL_law wsX8_saying := goodIn_hd (goodIn_c ch_L_law hc_L_law ([.code yX8_saying cX8_saying 3 (some .int)] : List Cond) [(14, 1)] rfl (by decide +kernel)) (goodIn_app (goodIn_c ch_L_law hc_L_law ([.fieldLink RX8 26 "WordFletchersModel" "weight" "[I", .fieldLink RX8 29 "WordFletchersModel" "twist" "[I", .fieldLink RX8 32 "WordFletchersModel" "first" "[I", .fieldLink RX8 44 "WordFletchersModel" "now" "[I", .methodLink RX8 148 yX8_isSaying, .instanceMethod yX8_isSaying, .selects RX8 yX8_isSaying yX8_isSaying, .initialized RX8, .code yX8_isSaying cX8_isSaying 2 (some .boolean), .fieldLink RX8 23 "WordFletchersModel" "sayings" "[I", .methodLink RX8 72 yX8_in, .static yX8_in, .code yX8_in cX8_in 3 (some .boolean)] : List Cond) [(5, 14), (5, 15), (5, 16), (5, 20), (14, 2), (14, 3), (14, 4), (0, 5), (14, 5), (5, 13), (6, 15), (6, 16), (6, 17)] rfl (by decide +kernel)) (goodIn_sub (fun _ h => (List.mem_append_left _ (List.mem_append_left _ (List.mem_append_left _ (List.mem_append_left _ (List.mem_append_left _ (List.mem_append_left _ (List.mem_append_left _ (List.mem_append_left _ (List.mem_append_right _ h)))))))))) gwX8))
set_option maxRecDepth 20000 in
theorem gL_law_X8_saying : GoodIn wsL_law (wsV RL 35 RX8 yX8_saying wsX8_saying) := goodIn_app (goodIn_of _ (by decide +kernel)) ggL_law_X8_saying
set_option maxRecDepth 20000 in
set_option maxRecDepth 100000 in
theorem ggL_law_X7_wind : GoodIn wsL_law wsX7_wind := goodIn_hd (goodIn_c ch_L_law hc_L_law ([.code yX7_wind cX7_wind 2 (some .int)] : List Cond) [(14, 9)] rfl (by decide +kernel)) (goodIn_app (goodIn_app (goodIn_app (goodIn_c ch_L_law hc_L_law ([.constant RX7 121 (-1000000), .methodLink RX7 122 yX7_windIn, .instanceMethod yX7_windIn, .selects RX7 yX7_windIn yX7_windIn, .initialized RX7, .code yX7_windIn cX7_windIn 2 (some .int), .fieldLink RX7 29 "WordFletchers" "told" "LWordFletchers$Told;", .fieldLink RX7 39 "WordFletchers" "moment" "LWordFletchers$Moment;", .fieldLink RX7 174 "WordFletchers$Moment" "hour" "I", .methodLink RX7 301 yX6_windOf, .instanceMethod yX6_windOf, .selects RX6 yX6_windOf yX6_windOf, .initialized RX6, .code yX6_windOf cX6_windOf 2 (some .int), .fieldLink RX6 27 "WordFletchers$Told" "winds" "[I", .methodLink RX6 46 Lib.Math.max.name, .static Lib.Math.max.name, .initialized "java/lang/Math", .code Lib.Math.max.name Lib.Math.max.code 2 (some .int), .methodLink RX6 52 yX6_windCount, .instanceMethod yX6_windCount, .selects RX6 yX6_windCount yX6_windCount, .code yX6_windCount cX6_windCount 1 (some .int), .fieldLink RX6 43 "WordFletchers$Told" "windsTold" "I"] : List Cond) [(14, 10), (14, 11), (14, 12), (14, 13), (0, 2), (14, 14), (0, 22), (1, 3), (14, 15), (14, 16), (14, 17), (14, 18), (0, 21), (14, 19), (2, 13), (14, 20), (14, 21), (7, 12), (14, 22), (14, 23), (15, 0), (15, 1), (15, 2), (2, 21)] rfl (by decide +kernel)) (goodIn_sub (fun _ h => (List.mem_append_left _ (List.mem_append_left _ (List.mem_append_left _ (List.mem_append_left _ (List.mem_append_left _ (List.mem_append_left _ (List.mem_append_left _ (List.mem_append_left _ (List.mem_append_left _ (List.mem_append_right _ h))))))))))) gwX7)) (goodIn_sub (fun _ h => (List.mem_append_left _ (List.mem_append_left _ (List.mem_append_left _ (List.mem_append_left _ (List.mem_append_left _ (List.mem_append_right _ h))))))) gwX2)) (goodIn_sub (fun _ h => (List.mem_append_left _ (List.mem_append_left _ (List.mem_append_left _ (List.mem_append_left _ (List.mem_append_left _ (List.mem_append_left _ (List.mem_append_right _ h)))))))) gwX6))
set_option maxRecDepth 20000 in
theorem gL_law_X7_wind : GoodIn wsL_law (wsV RL 36 RX7 yX7_wind wsX7_wind) := goodIn_app (goodIn_of _ (by decide +kernel)) ggL_law_X7_wind
set_option maxRecDepth 20000 in
set_option maxRecDepth 100000 in
theorem ggL_law_X8_wind : GoodIn wsL_law wsX8_wind := goodIn_hd (goodIn_c ch_L_law hc_L_law ([.code yX8_wind cX8_wind 2 (some .int)] : List Cond) [(15, 6)] rfl (by decide +kernel)) (goodIn_app (goodIn_c ch_L_law hc_L_law ([.constant RX8 154 (-1000000), .methodLink RX8 72 yX8_in, .static yX8_in, .initialized RX8, .code yX8_in cX8_in 3 (some .boolean), .methodLink RX8 151 yX8_windIn, .instanceMethod yX8_windIn, .selects RX8 yX8_windIn yX8_windIn, .code yX8_windIn cX8_windIn 2 (some .int), .fieldLink RX8 38 "WordFletchersModel" "wind" "[I", .fieldLink RX8 44 "WordFletchersModel" "now" "[I", .fieldLink RX8 35 "WordFletchersModel" "winds" "[I"] : List Cond) [(15, 7), (6, 15), (6, 16), (0, 5), (6, 17), (15, 8), (15, 9), (15, 10), (15, 11), (5, 18), (5, 20), (5, 17)] rfl (by decide +kernel)) (goodIn_sub (fun _ h => (List.mem_append_left _ (List.mem_append_left _ (List.mem_append_left _ (List.mem_append_left _ (List.mem_append_left _ (List.mem_append_left _ (List.mem_append_left _ (List.mem_append_left _ (List.mem_append_right _ h)))))))))) gwX8))
set_option maxRecDepth 20000 in
theorem gL_law_X8_wind : GoodIn wsL_law (wsV RL 39 RX8 yX8_wind wsX8_wind) := goodIn_app (goodIn_of _ (by decide +kernel)) ggL_law_X8_wind
set_option maxRecDepth 20000 in
set_option maxRecDepth 100000 in
theorem ggL_law_X7_stray : GoodIn wsL_law wsX7_stray := goodIn_hd (goodIn_c ch_L_law hc_L_law ([.code yX7_stray cX7_stray 3 (some .int)] : List Cond) [(15, 15)] rfl (by decide +kernel)) (goodIn_app (goodIn_app (goodIn_c ch_L_law hc_L_law ([.fieldLink RX7 39 "WordFletchers" "moment" "LWordFletchers$Moment;", .fieldLink RX7 125 "WordFletchers$Moment" "strays" "I", .fieldLink RX7 128 "WordFletchers$Moment" "straySaying" "[I", .fieldLink RX7 131 "WordFletchers$Moment" "strayPlace" "[I"] : List Cond) [(1, 3), (15, 16), (15, 17), (15, 18)] rfl (by decide +kernel)) (goodIn_sub (fun _ h => (List.mem_append_left _ (List.mem_append_left _ (List.mem_append_left _ (List.mem_append_left _ (List.mem_append_left _ (List.mem_append_left _ (List.mem_append_left _ (List.mem_append_left _ (List.mem_append_left _ (List.mem_append_right _ h))))))))))) gwX7)) (goodIn_sub (fun _ h => (List.mem_append_left _ (List.mem_append_left _ (List.mem_append_left _ (List.mem_append_left _ (List.mem_append_left _ (List.mem_append_right _ h))))))) gwX2))
set_option maxRecDepth 20000 in
theorem gL_law_X7_stray : GoodIn wsL_law (wsV RL 40 RX7 yX7_stray wsX7_stray) := goodIn_app (goodIn_of _ (by decide +kernel)) ggL_law_X7_stray
set_option maxRecDepth 20000 in
set_option maxRecDepth 100000 in
theorem ggL_law_X8_stray : GoodIn wsL_law wsX8_stray := goodIn_hd (goodIn_c ch_L_law hc_L_law ([.code yX8_stray cX8_stray 3 (some .int)] : List Cond) [(15, 22)] rfl (by decide +kernel)) (goodIn_app (goodIn_c ch_L_law hc_L_law ([.fieldLink RX8 44 "WordFletchersModel" "now" "[I", .methodLink RX8 72 yX8_in, .static yX8_in, .initialized RX8, .code yX8_in cX8_in 3 (some .boolean)] : List Cond) [(5, 20), (6, 15), (6, 16), (0, 5), (6, 17)] rfl (by decide +kernel)) (goodIn_sub (fun _ h => (List.mem_append_left _ (List.mem_append_left _ (List.mem_append_left _ (List.mem_append_left _ (List.mem_append_left _ (List.mem_append_left _ (List.mem_append_left _ (List.mem_append_left _ (List.mem_append_right _ h)))))))))) gwX8))
set_option maxRecDepth 20000 in
theorem gL_law_X8_stray : GoodIn wsL_law (wsV RL 43 RX8 yX8_stray wsX8_stray) := goodIn_app (goodIn_of _ (by decide +kernel)) ggL_law_X8_stray
set_option maxRecDepth 20000 in
set_option maxRecDepth 100000 in
theorem ggL_law_X7_lets : GoodIn wsL_law wsX7_lets := goodIn_hd (goodIn_c ch_L_law hc_L_law ([.code yX7_lets cX7_lets 8 (some .int)] : List Cond) [(16, 2)] rfl (by decide +kernel)) (goodIn_app (goodIn_app (goodIn_app (goodIn_app (goodIn_app (goodIn_c ch_L_law hc_L_law wsX7_lets_r1 [(1, 3), (16, 3), (0, 22), (1, 7), (16, 4), (16, 5), (16, 6), (0, 2), (16, 7), (12, 12), (12, 13), (12, 14), (0, 21), (12, 15), (2, 19), (13, 10), (13, 11), (13, 12), (13, 13), (2, 20), (16, 8), (13, 19), (13, 20), (1, 2)] rfl (by decide +kernel)) (goodIn_app (goodIn_c ch_L_law hc_L_law wsX7_lets_r2 [(13, 21), (3, 2), (5, 2), (5, 3), (16, 9), (16, 10), (16, 11), (16, 12), (16, 13), (16, 14), (16, 15), (16, 16), (14, 11), (14, 12), (14, 13), (14, 14), (14, 15), (14, 16), (14, 17), (14, 18), (14, 19), (2, 13), (14, 20), (14, 21)] rfl (by decide +kernel)) (goodIn_app (goodIn_c ch_L_law hc_L_law wsX7_lets_r3 [(7, 12), (14, 22), (14, 23), (15, 0), (15, 1), (15, 2), (2, 21), (16, 17), (16, 18), (16, 19), (16, 20), (2, 8), (16, 21), (16, 22), (16, 23), (17, 0), (2, 11), (2, 10), (17, 1), (17, 2), (17, 3), (17, 4), (17, 5), (17, 6)] rfl (by decide +kernel)) (goodIn_app (goodIn_c ch_L_law hc_L_law wsX7_lets_r4 [(17, 7), (17, 8), (17, 9), (17, 10), (17, 11), (2, 9), (17, 12), (17, 13), (17, 14), (1, 6), (17, 15), (3, 11), (3, 10), (17, 16), (17, 17), (17, 18), (17, 19), (17, 20), (17, 21), (17, 22), (17, 23), (4, 16), (4, 17), (4, 18)] rfl (by decide +kernel)) (goodIn_c ch_L_law hc_L_law wsX7_lets_r5 [(3, 1), (18, 0), (18, 1), (18, 2), (18, 3), (3, 3), (3, 4), (18, 4), (4, 23), (5, 0), (5, 1), (18, 5), (18, 6), (18, 7), (18, 8), (18, 9), (18, 10), (18, 11), (18, 12)] rfl (by decide +kernel)))))) (goodIn_sub (fun _ h => (List.mem_append_left _ (List.mem_append_left _ (List.mem_append_left _ (List.mem_append_left _ (List.mem_append_left _ (List.mem_append_left _ (List.mem_append_left _ (List.mem_append_left _ (List.mem_append_left _ (List.mem_append_right _ h))))))))))) gwX7)) (goodIn_sub (fun _ h => (List.mem_append_left _ (List.mem_append_left _ (List.mem_append_left _ (List.mem_append_left _ (List.mem_append_left _ (List.mem_append_right _ h))))))) gwX2)) (goodIn_sub (fun _ h => (List.mem_append_left _ (List.mem_append_left _ (List.mem_append_left _ (List.mem_append_left _ (List.mem_append_left _ (List.mem_append_left _ (List.mem_append_right _ h)))))))) gwX6)) (goodIn_sub (fun _ h => (List.mem_append_left _ (List.mem_append_left _ (List.mem_append_left _ (List.mem_append_left _ (List.mem_append_right _ h)))))) gwX3))
set_option maxRecDepth 20000 in
theorem gL_law_X7_lets : GoodIn wsL_law (wsV RL 44 RX7 yX7_lets wsX7_lets) := goodIn_app (goodIn_of _ (by decide +kernel)) ggL_law_X7_lets
set_option maxRecDepth 20000 in
set_option maxRecDepth 100000 in
theorem ggL_law_X8_lets : GoodIn wsL_law wsX8_lets := goodIn_hd (goodIn_c ch_L_law hc_L_law ([.code yX8_lets cX8_lets 8 (some .int)] : List Cond) [(18, 16)] rfl (by decide +kernel)) (goodIn_app (goodIn_app (goodIn_c ch_L_law hc_L_law wsX8_lets_r1 [(5, 20), (12, 20), (12, 21), (12, 22), (0, 5), (12, 23), (5, 10), (6, 15), (6, 16), (6, 17), (14, 2), (14, 3), (14, 4), (14, 5), (5, 13), (18, 17), (18, 18), (18, 19), (13, 0), (13, 1), (13, 2), (18, 20), (18, 21), (18, 22)] rfl (by decide +kernel)) (goodIn_app (goodIn_c ch_L_law hc_L_law wsX8_lets_r2 [(18, 23), (5, 21), (5, 22), (15, 8), (15, 9), (15, 10), (15, 11), (5, 18), (5, 17), (19, 0), (19, 1), (19, 2), (19, 3), (5, 15), (5, 14), (5, 11), (19, 4), (19, 5), (19, 6), (19, 7), (19, 8), (19, 9), (19, 10), (19, 11)] rfl (by decide +kernel)) (goodIn_c ch_L_law hc_L_law wsX8_lets_r3 [(19, 12), (19, 13), (19, 14), (5, 12), (19, 15), (19, 16), (19, 17), (19, 18)] rfl (by decide +kernel)))) (goodIn_sub (fun _ h => (List.mem_append_left _ (List.mem_append_left _ (List.mem_append_left _ (List.mem_append_left _ (List.mem_append_left _ (List.mem_append_left _ (List.mem_append_left _ (List.mem_append_left _ (List.mem_append_right _ h)))))))))) gwX8))
set_option maxRecDepth 20000 in
theorem gL_law_X8_lets : GoodIn wsL_law (wsV RL 48 RX8 yX8_lets wsX8_lets) := goodIn_app (goodIn_of _ (by decide +kernel)) ggL_law_X8_lets
set_option maxRecDepth 20000 in
set_option maxRecDepth 100000 in
theorem ggL_law_X7_picks : GoodIn wsL_law wsX7_picks := goodIn_hd (goodIn_c ch_L_law hc_L_law ([.code yX7_picks cX7_picks 4 (some .int)] : List Cond) [(19, 22)] rfl (by decide +kernel)) (goodIn_app (goodIn_app (goodIn_app (goodIn_app (goodIn_app (goodIn_c ch_L_law hc_L_law wsX7_picks_r1 [(0, 22), (1, 3), (12, 9), (1, 7), (15, 17), (12, 12), (12, 13), (12, 14), (0, 21), (12, 15), (2, 19), (19, 23), (20, 0), (20, 1), (1, 2), (20, 2), (4, 18), (3, 4), (17, 12), (17, 13), (17, 14), (1, 6), (17, 15), (3, 11)] rfl (by decide +kernel)) (goodIn_app (goodIn_c ch_L_law hc_L_law wsX7_picks_r2 [(3, 10), (17, 16), (17, 17), (17, 18), (17, 19), (17, 20), (17, 21), (17, 22), (17, 23), (4, 16), (4, 17), (3, 1), (18, 0), (18, 1), (18, 2), (18, 3), (3, 2), (3, 3), (20, 3), (18, 10), (18, 11), (18, 12), (18, 4), (4, 23)] rfl (by decide +kernel)) (goodIn_c ch_L_law hc_L_law wsX7_picks_r3 [(5, 0), (5, 1), (5, 2), (0, 2), (5, 3)] rfl (by decide +kernel)))) (goodIn_sub (fun _ h => (List.mem_append_left _ (List.mem_append_left _ (List.mem_append_left _ (List.mem_append_left _ (List.mem_append_left _ (List.mem_append_left _ (List.mem_append_left _ (List.mem_append_left _ (List.mem_append_left _ (List.mem_append_right _ h))))))))))) gwX7)) (goodIn_sub (fun _ h => (List.mem_append_left _ (List.mem_append_left _ (List.mem_append_left _ (List.mem_append_left _ (List.mem_append_left _ (List.mem_append_left _ (List.mem_append_right _ h)))))))) gwX6)) (goodIn_sub (fun _ h => (List.mem_append_left _ (List.mem_append_left _ (List.mem_append_left _ (List.mem_append_left _ (List.mem_append_left _ (List.mem_append_right _ h))))))) gwX2)) (goodIn_sub (fun _ h => (List.mem_append_left _ (List.mem_append_left _ (List.mem_append_left _ (List.mem_append_left _ (List.mem_append_right _ h)))))) gwX3))
set_option maxRecDepth 20000 in
theorem gL_law_X7_picks : GoodIn wsL_law (wsV RL 49 RX7 yX7_picks wsX7_picks) := goodIn_app (goodIn_of _ (by decide +kernel)) ggL_law_X7_picks
set_option maxRecDepth 20000 in
set_option maxRecDepth 100000 in
theorem ggL_law_X8_picks : GoodIn wsL_law wsX8_picks := goodIn_hd (goodIn_c ch_L_law hc_L_law ([.code yX8_picks cX8_picks 4 (some .int)] : List Cond) [(20, 7)] rfl (by decide +kernel)) (goodIn_app (goodIn_c ch_L_law hc_L_law ([.fieldLink RX8 44 "WordFletchersModel" "now" "[I", .fieldLink RX8 17 "WordFletchersModel" "place" "[I", .methodLink RX8 142 yX8_isOne, .instanceMethod yX8_isOne, .selects RX8 yX8_isOne yX8_isOne, .initialized RX8, .code yX8_isOne cX8_isOne 2 (some .boolean), .fieldLink RX8 13 "WordFletchersModel" "people" "[I", .methodLink RX8 72 yX8_in, .static yX8_in, .code yX8_in cX8_in 3 (some .boolean), .methodLink RX8 158 yX8_know, .instanceMethod yX8_know, .selects RX8 yX8_know yX8_know, .code yX8_know cX8_know 2 none, .fieldLink RX8 47 "WordFletchersModel" "known" "[I", .fieldLink RX8 50 "WordFletchersModel" "before" "[I", .methodLink RX8 168 yX8_takeUp, .instanceMethod yX8_takeUp, .selects RX8 yX8_takeUp yX8_takeUp, .code yX8_takeUp cX8_takeUp 3 none] : List Cond) [(5, 20), (5, 11), (12, 20), (12, 21), (12, 22), (0, 5), (12, 23), (5, 10), (6, 15), (6, 16), (6, 17), (18, 20), (18, 21), (18, 22), (18, 23), (5, 21), (5, 22), (19, 15), (19, 16), (19, 17), (19, 18)] rfl (by decide +kernel)) (goodIn_sub (fun _ h => (List.mem_append_left _ (List.mem_append_left _ (List.mem_append_left _ (List.mem_append_left _ (List.mem_append_left _ (List.mem_append_left _ (List.mem_append_left _ (List.mem_append_left _ (List.mem_append_right _ h)))))))))) gwX8))
set_option maxRecDepth 20000 in
theorem gL_law_X8_picks : GoodIn wsL_law (wsV RL 52 RX8 yX8_picks wsX8_picks) := goodIn_app (goodIn_of _ (by decide +kernel)) ggL_law_X8_picks
set_option maxRecDepth 20000 in
set_option maxRecDepth 100000 in
theorem ggL_law_X7_hours : GoodIn wsL_law wsX7_hours := goodIn_hd (goodIn_c ch_L_law hc_L_law ([.code yX7_hours cX7_hours 2 (some .int)] : List Cond) [(20, 11)] rfl (by decide +kernel)) (goodIn_app (goodIn_app (goodIn_app (goodIn_app (goodIn_c ch_L_law hc_L_law wsX7_hours_r1 [(1, 3), (14, 15), (1, 7), (17, 12), (17, 13), (17, 14), (1, 6), (17, 15), (3, 11), (3, 10), (17, 16), (17, 17), (17, 18), (17, 19), (17, 20), (17, 21), (17, 22), (1, 2), (17, 23), (4, 16), (4, 17), (4, 18), (3, 1), (18, 0)] rfl (by decide +kernel)) (goodIn_c ch_L_law hc_L_law wsX7_hours_r2 [(18, 1), (18, 2), (18, 3), (3, 2), (3, 3), (3, 4)] rfl (by decide +kernel))) (goodIn_sub (fun _ h => (List.mem_append_left _ (List.mem_append_left _ (List.mem_append_left _ (List.mem_append_left _ (List.mem_append_left _ (List.mem_append_left _ (List.mem_append_left _ (List.mem_append_left _ (List.mem_append_left _ (List.mem_append_right _ h))))))))))) gwX7)) (goodIn_sub (fun _ h => (List.mem_append_left _ (List.mem_append_left _ (List.mem_append_left _ (List.mem_append_left _ (List.mem_append_left _ (List.mem_append_right _ h))))))) gwX2)) (goodIn_sub (fun _ h => (List.mem_append_left _ (List.mem_append_left _ (List.mem_append_left _ (List.mem_append_left _ (List.mem_append_right _ h)))))) gwX3))
set_option maxRecDepth 20000 in
theorem gL_law_X7_hours : GoodIn wsL_law (wsV RL 53 RX7 yX7_hours wsX7_hours) := goodIn_app (goodIn_of _ (by decide +kernel)) ggL_law_X7_hours
set_option maxRecDepth 20000 in
set_option maxRecDepth 100000 in
theorem ggL_law_X8_hours : GoodIn wsL_law wsX8_hours := goodIn_hd (goodIn_c ch_L_law hc_L_law ([.code yX8_hours cX8_hours 2 (some .int)] : List Cond) [(20, 15)] rfl (by decide +kernel)) (goodIn_app (goodIn_c ch_L_law hc_L_law ([.fieldLink RX8 44 "WordFletchersModel" "now" "[I", .methodLink RX8 72 yX8_in, .static yX8_in, .initialized RX8, .code yX8_in cX8_in 3 (some .boolean), .methodLink RX8 158 yX8_know, .instanceMethod yX8_know, .selects RX8 yX8_know yX8_know, .code yX8_know cX8_know 2 none, .fieldLink RX8 47 "WordFletchersModel" "known" "[I", .fieldLink RX8 50 "WordFletchersModel" "before" "[I"] : List Cond) [(5, 20), (6, 15), (6, 16), (0, 5), (6, 17), (18, 20), (18, 21), (18, 22), (18, 23), (5, 21), (5, 22)] rfl (by decide +kernel)) (goodIn_sub (fun _ h => (List.mem_append_left _ (List.mem_append_left _ (List.mem_append_left _ (List.mem_append_left _ (List.mem_append_left _ (List.mem_append_left _ (List.mem_append_left _ (List.mem_append_left _ (List.mem_append_right _ h)))))))))) gwX8))
set_option maxRecDepth 20000 in
theorem gL_law_X8_hours : GoodIn wsL_law (wsV RL 56 RX8 yX8_hours wsX8_hours) := goodIn_app (goodIn_of _ (by decide +kernel)) ggL_law_X8_hours
set_option maxRecDepth 20000 in
set_option maxRecDepth 100000 in
theorem ggL_law_X7_damps : GoodIn wsL_law wsX7_damps := goodIn_hd (goodIn_c ch_L_law hc_L_law ([.code yX7_damps cX7_damps 3 (some .int)] : List Cond) [(20, 19)] rfl (by decide +kernel)) (goodIn_app (goodIn_app (goodIn_app (goodIn_app (goodIn_c ch_L_law hc_L_law wsX7_damps_r1 [(1, 3), (16, 16), (1, 7), (17, 12), (17, 13), (17, 14), (1, 6), (17, 15), (3, 11), (3, 10), (17, 16), (17, 17), (17, 18), (17, 19), (17, 20), (17, 21), (17, 22), (1, 2), (17, 23), (4, 16), (4, 17), (4, 18), (3, 1), (18, 0)] rfl (by decide +kernel)) (goodIn_c ch_L_law hc_L_law wsX7_damps_r2 [(18, 1), (18, 2), (18, 3), (3, 2), (3, 3), (3, 4)] rfl (by decide +kernel))) (goodIn_sub (fun _ h => (List.mem_append_left _ (List.mem_append_left _ (List.mem_append_left _ (List.mem_append_left _ (List.mem_append_left _ (List.mem_append_left _ (List.mem_append_left _ (List.mem_append_left _ (List.mem_append_left _ (List.mem_append_right _ h))))))))))) gwX7)) (goodIn_sub (fun _ h => (List.mem_append_left _ (List.mem_append_left _ (List.mem_append_left _ (List.mem_append_left _ (List.mem_append_left _ (List.mem_append_right _ h))))))) gwX2)) (goodIn_sub (fun _ h => (List.mem_append_left _ (List.mem_append_left _ (List.mem_append_left _ (List.mem_append_left _ (List.mem_append_right _ h)))))) gwX3))
set_option maxRecDepth 20000 in
theorem gL_law_X7_damps : GoodIn wsL_law (wsV RL 57 RX7 yX7_damps wsX7_damps) := goodIn_app (goodIn_of _ (by decide +kernel)) ggL_law_X7_damps
set_option maxRecDepth 20000 in
set_option maxRecDepth 100000 in
theorem ggL_law_X8_damps : GoodIn wsL_law wsX8_damps := goodIn_hd (goodIn_c ch_L_law hc_L_law ([.code yX8_damps cX8_damps 3 (some .int)] : List Cond) [(20, 23)] rfl (by decide +kernel)) (goodIn_app (goodIn_c ch_L_law hc_L_law ([.fieldLink RX8 44 "WordFletchersModel" "now" "[I", .methodLink RX8 72 yX8_in, .static yX8_in, .initialized RX8, .code yX8_in cX8_in 3 (some .boolean), .methodLink RX8 158 yX8_know, .instanceMethod yX8_know, .selects RX8 yX8_know yX8_know, .code yX8_know cX8_know 2 none, .fieldLink RX8 47 "WordFletchersModel" "known" "[I", .fieldLink RX8 50 "WordFletchersModel" "before" "[I"] : List Cond) [(5, 20), (6, 15), (6, 16), (0, 5), (6, 17), (18, 20), (18, 21), (18, 22), (18, 23), (5, 21), (5, 22)] rfl (by decide +kernel)) (goodIn_sub (fun _ h => (List.mem_append_left _ (List.mem_append_left _ (List.mem_append_left _ (List.mem_append_left _ (List.mem_append_left _ (List.mem_append_left _ (List.mem_append_left _ (List.mem_append_left _ (List.mem_append_right _ h)))))))))) gwX8))
set_option maxRecDepth 20000 in
theorem gL_law_X8_damps : GoodIn wsL_law (wsV RL 60 RX8 yX8_damps wsX8_damps) := goodIn_app (goodIn_of _ (by decide +kernel)) ggL_law_X8_damps
set_option maxRecDepth 20000 in
set_option maxRecDepth 100000 in
theorem ggL_law_X7_plucks : GoodIn wsL_law wsX7_plucks := goodIn_hd (goodIn_c ch_L_law hc_L_law ([.code yX7_plucks cX7_plucks 3 (some .int)] : List Cond) [(21, 3)] rfl (by decide +kernel)) (goodIn_app (goodIn_app (goodIn_app (goodIn_app (goodIn_c ch_L_law hc_L_law wsX7_plucks_r1 [(1, 3), (16, 3), (1, 7), (21, 4), (7, 11), (7, 12), (7, 13), (17, 12), (17, 13), (17, 14), (1, 6), (17, 15), (3, 11), (3, 10), (17, 16), (17, 17), (17, 18), (17, 19), (17, 20), (17, 21), (17, 22), (1, 2), (17, 23), (4, 16)] rfl (by decide +kernel)) (goodIn_c ch_L_law hc_L_law wsX7_plucks_r2 [(4, 17), (4, 18), (3, 1), (18, 0), (18, 1), (18, 2), (18, 3), (3, 2), (3, 3), (3, 4)] rfl (by decide +kernel))) (goodIn_sub (fun _ h => (List.mem_append_left _ (List.mem_append_left _ (List.mem_append_left _ (List.mem_append_left _ (List.mem_append_left _ (List.mem_append_left _ (List.mem_append_left _ (List.mem_append_left _ (List.mem_append_left _ (List.mem_append_right _ h))))))))))) gwX7)) (goodIn_sub (fun _ h => (List.mem_append_left _ (List.mem_append_left _ (List.mem_append_left _ (List.mem_append_left _ (List.mem_append_left _ (List.mem_append_right _ h))))))) gwX2)) (goodIn_sub (fun _ h => (List.mem_append_left _ (List.mem_append_left _ (List.mem_append_left _ (List.mem_append_left _ (List.mem_append_right _ h)))))) gwX3))
set_option maxRecDepth 20000 in
theorem gL_law_X7_plucks : GoodIn wsL_law (wsV RL 61 RX7 yX7_plucks wsX7_plucks) := goodIn_app (goodIn_of _ (by decide +kernel)) ggL_law_X7_plucks
set_option maxRecDepth 20000 in
set_option maxRecDepth 100000 in
theorem ggL_law_X8_plucks : GoodIn wsL_law wsX8_plucks := goodIn_hd (goodIn_c ch_L_law hc_L_law ([.code yX8_plucks cX8_plucks 4 (some .int)] : List Cond) [(21, 8)] rfl (by decide +kernel)) (goodIn_app (goodIn_c ch_L_law hc_L_law ([.fieldLink RX8 44 "WordFletchersModel" "now" "[I", .methodLink RX8 72 yX8_in, .static yX8_in, .initialized RX8, .code yX8_in cX8_in 3 (some .boolean), .methodLink RX8 158 yX8_know, .instanceMethod yX8_know, .selects RX8 yX8_know yX8_know, .code yX8_know cX8_know 2 none, .fieldLink RX8 47 "WordFletchersModel" "known" "[I", .fieldLink RX8 50 "WordFletchersModel" "before" "[I"] : List Cond) [(5, 20), (6, 15), (6, 16), (0, 5), (6, 17), (18, 20), (18, 21), (18, 22), (18, 23), (5, 21), (5, 22)] rfl (by decide +kernel)) (goodIn_sub (fun _ h => (List.mem_append_left _ (List.mem_append_left _ (List.mem_append_left _ (List.mem_append_left _ (List.mem_append_left _ (List.mem_append_left _ (List.mem_append_left _ (List.mem_append_left _ (List.mem_append_right _ h)))))))))) gwX8))
set_option maxRecDepth 20000 in
theorem gL_law_X8_plucks : GoodIn wsL_law (wsV RL 64 RX8 yX8_plucks wsX8_plucks) := goodIn_app (goodIn_of _ (by decide +kernel)) ggL_law_X8_plucks
set_option maxRecDepth 20000 in
set_option maxRecDepth 100000 in
theorem ggL_law_X7_undo : GoodIn wsL_law wsX7_undo := goodIn_hd (goodIn_c ch_L_law hc_L_law ([.code yX7_undo cX7_undo 1 (some .int)] : List Cond) [(21, 12)] rfl (by decide +kernel)) (goodIn_app (goodIn_app (goodIn_app (goodIn_app (goodIn_c ch_L_law hc_L_law wsX7_undo_r1 [(1, 7), (10, 6), (1, 3), (21, 13), (21, 14), (21, 15), (1, 6), (21, 16), (3, 11), (3, 10), (17, 20), (17, 21), (17, 22), (1, 2), (17, 23), (4, 16), (4, 17), (4, 18), (3, 1), (18, 0), (18, 1), (18, 2), (18, 3), (3, 2)] rfl (by decide +kernel)) (goodIn_c ch_L_law hc_L_law wsX7_undo_r2 [(3, 3), (3, 4)] rfl (by decide +kernel))) (goodIn_sub (fun _ h => (List.mem_append_left _ (List.mem_append_left _ (List.mem_append_left _ (List.mem_append_left _ (List.mem_append_left _ (List.mem_append_left _ (List.mem_append_left _ (List.mem_append_left _ (List.mem_append_left _ (List.mem_append_right _ h))))))))))) gwX7)) (goodIn_sub (fun _ h => (List.mem_append_left _ (List.mem_append_left _ (List.mem_append_left _ (List.mem_append_left _ (List.mem_append_right _ h)))))) gwX3)) (goodIn_sub (fun _ h => (List.mem_append_left _ (List.mem_append_left _ (List.mem_append_left _ (List.mem_append_left _ (List.mem_append_left _ (List.mem_append_right _ h))))))) gwX2))
set_option maxRecDepth 20000 in
theorem gL_law_X7_undo : GoodIn wsL_law (wsV RL 65 RX7 yX7_undo wsX7_undo) := goodIn_app (goodIn_of _ (by decide +kernel)) ggL_law_X7_undo
set_option maxRecDepth 20000 in
set_option maxRecDepth 100000 in
theorem ggL_law_X8_undo : GoodIn wsL_law wsX8_undo := goodIn_hd (goodIn_c ch_L_law hc_L_law ([.code yX8_undo cX8_undo 2 (some .int)] : List Cond) [(21, 20)] rfl (by decide +kernel)) (goodIn_app (goodIn_c ch_L_law hc_L_law ([.fieldLink RX8 47 "WordFletchersModel" "known" "[I", .fieldLink RX8 44 "WordFletchersModel" "now" "[I", .fieldLink RX8 50 "WordFletchersModel" "before" "[I"] : List Cond) [(5, 21), (5, 20), (5, 22)] rfl (by decide +kernel)) (goodIn_sub (fun _ h => (List.mem_append_left _ (List.mem_append_left _ (List.mem_append_left _ (List.mem_append_left _ (List.mem_append_left _ (List.mem_append_left _ (List.mem_append_left _ (List.mem_append_left _ (List.mem_append_right _ h)))))))))) gwX8))
set_option maxRecDepth 20000 in
theorem gL_law_X8_undo : GoodIn wsL_law (wsV RL 68 RX8 yX8_undo wsX8_undo) := goodIn_app (goodIn_of _ (by decide +kernel)) ggL_law_X8_undo
set_option maxRecDepth 20000 in
set_option maxRecDepth 100000 in
theorem ggL_law_X7_now : GoodIn wsL_law wsX7_now := goodIn_hd (goodIn_c ch_L_law hc_L_law ([.code yX7_now cX7_now 2 (some .int)] : List Cond) [(22, 0)] rfl (by decide +kernel)) (goodIn_app (goodIn_app (goodIn_c ch_L_law hc_L_law ([.fieldLink RX7 39 "WordFletchers" "moment" "LWordFletchers$Moment;", .fieldLink RX7 174 "WordFletchers$Moment" "hour" "I", .fieldLink RX7 177 "WordFletchers$Moment" "damp" "I", .fieldLink RX7 125 "WordFletchers$Moment" "strays" "I", .fieldLink RX7 142 "WordFletchers$Moment" "feathers" "[I"] : List Cond) [(1, 3), (14, 15), (16, 16), (15, 16), (16, 3)] rfl (by decide +kernel)) (goodIn_sub (fun _ h => (List.mem_append_left _ (List.mem_append_left _ (List.mem_append_left _ (List.mem_append_left _ (List.mem_append_left _ (List.mem_append_left _ (List.mem_append_left _ (List.mem_append_left _ (List.mem_append_left _ (List.mem_append_right _ h))))))))))) gwX7)) (goodIn_sub (fun _ h => (List.mem_append_left _ (List.mem_append_left _ (List.mem_append_left _ (List.mem_append_left _ (List.mem_append_left _ (List.mem_append_right _ h))))))) gwX2))
set_option maxRecDepth 20000 in
theorem gL_law_X7_now : GoodIn wsL_law (wsV RL 69 RX7 yX7_now wsX7_now) := goodIn_app (goodIn_of _ (by decide +kernel)) ggL_law_X7_now
set_option maxRecDepth 20000 in
set_option maxRecDepth 100000 in
theorem ggL_law_X8_now : GoodIn wsL_law wsX8_now := goodIn_hd (goodIn_c ch_L_law hc_L_law ([.code yX8_now cX8_now 2 (some .int)] : List Cond) [(22, 4)] rfl (by decide +kernel)) (goodIn_app (goodIn_c ch_L_law hc_L_law ([.fieldLink RX8 44 "WordFletchersModel" "now" "[I"] : List Cond) [(5, 20)] rfl (by decide +kernel)) (goodIn_sub (fun _ h => (List.mem_append_left _ (List.mem_append_left _ (List.mem_append_left _ (List.mem_append_left _ (List.mem_append_left _ (List.mem_append_left _ (List.mem_append_left _ (List.mem_append_left _ (List.mem_append_right _ h)))))))))) gwX8))
set_option maxRecDepth 20000 in
theorem gL_law_X8_now : GoodIn wsL_law (wsV RL 72 RX8 yX8_now wsX8_now) := goodIn_app (goodIn_of _ (by decide +kernel)) ggL_law_X8_now
set_option maxRecDepth 20000 in
set_option maxRecDepth 100000 in
theorem ggL_law_X7_lands : GoodIn wsL_law wsX7_lands := goodIn_hd (goodIn_c ch_L_law hc_L_law ([.code yX7_lands cX7_lands 6 (some .int)] : List Cond) [(22, 8)] rfl (by decide +kernel)) (goodIn_app (goodIn_app (goodIn_app (goodIn_app (goodIn_c ch_L_law hc_L_law wsX7_lands_r1 [(16, 4), (16, 5), (16, 6), (0, 2), (16, 7), (0, 22), (12, 12), (12, 13), (12, 14), (0, 21), (12, 15), (2, 19), (13, 10), (13, 11), (13, 12), (13, 13), (2, 20), (16, 9), (16, 10), (16, 11), (16, 12), (16, 13), (16, 14), (16, 15)] rfl (by decide +kernel)) (goodIn_app (goodIn_c ch_L_law hc_L_law wsX7_lands_r2 [(1, 3), (16, 16), (14, 11), (14, 12), (14, 13), (14, 14), (14, 15), (14, 16), (14, 17), (14, 18), (14, 19), (2, 13), (14, 20), (14, 21), (7, 12), (14, 22), (14, 23), (15, 0), (15, 1), (15, 2), (2, 21), (16, 17), (16, 18), (16, 19)] rfl (by decide +kernel)) (goodIn_c ch_L_law hc_L_law wsX7_lands_r3 [(16, 20), (2, 8), (16, 21), (16, 22), (16, 23), (17, 0), (2, 11), (2, 10)] rfl (by decide +kernel)))) (goodIn_sub (fun _ h => (List.mem_append_left _ (List.mem_append_left _ (List.mem_append_left _ (List.mem_append_left _ (List.mem_append_left _ (List.mem_append_left _ (List.mem_append_left _ (List.mem_append_left _ (List.mem_append_left _ (List.mem_append_right _ h))))))))))) gwX7)) (goodIn_sub (fun _ h => (List.mem_append_left _ (List.mem_append_left _ (List.mem_append_left _ (List.mem_append_left _ (List.mem_append_left _ (List.mem_append_left _ (List.mem_append_right _ h)))))))) gwX6)) (goodIn_sub (fun _ h => (List.mem_append_left _ (List.mem_append_left _ (List.mem_append_left _ (List.mem_append_left _ (List.mem_append_left _ (List.mem_append_right _ h))))))) gwX2))
set_option maxRecDepth 20000 in
theorem gL_law_X7_lands : GoodIn wsL_law (wsV RL 73 RX7 yX7_lands wsX7_lands) := goodIn_app (goodIn_of _ (by decide +kernel)) ggL_law_X7_lands
set_option maxRecDepth 20000 in
set_option maxRecDepth 100000 in
theorem ggL_law_X8_lands : GoodIn wsL_law wsX8_lands := goodIn_hd (goodIn_c ch_L_law hc_L_law ([.code yX8_lands cX8_lands 6 (some .int)] : List Cond) [(22, 12)] rfl (by decide +kernel)) (goodIn_app (goodIn_app (goodIn_c ch_L_law hc_L_law wsX8_lands_r1 [(12, 20), (12, 21), (12, 22), (0, 5), (12, 23), (5, 10), (6, 15), (6, 16), (6, 17), (14, 2), (14, 3), (14, 4), (14, 5), (5, 13), (18, 17), (18, 18), (18, 19), (15, 8), (15, 9), (15, 10), (15, 11), (5, 18), (5, 20), (5, 17)] rfl (by decide +kernel)) (goodIn_c ch_L_law hc_L_law wsX8_lands_r2 [(19, 0), (19, 1), (19, 2), (19, 3), (5, 15), (5, 14), (5, 11), (19, 4), (19, 5), (19, 6)] rfl (by decide +kernel))) (goodIn_sub (fun _ h => (List.mem_append_left _ (List.mem_append_left _ (List.mem_append_left _ (List.mem_append_left _ (List.mem_append_left _ (List.mem_append_left _ (List.mem_append_left _ (List.mem_append_left _ (List.mem_append_right _ h)))))))))) gwX8))
set_option maxRecDepth 20000 in
theorem gL_law_X8_lands : GoodIn wsL_law (wsV RL 76 RX8 yX8_lands wsX8_lands) := goodIn_app (goodIn_of _ (by decide +kernel)) ggL_law_X8_lands
set_option maxRecDepth 20000 in
set_option maxRecDepth 100000 in
theorem ggL_law_X7_call : GoodIn wsL_law wsX7_call := goodIn_hd (goodIn_c ch_L_law hc_L_law ([.code yX7_call cX7_call 8 (some .int)] : List Cond) [(22, 16)] rfl (by decide +kernel)) (goodIn_app (goodIn_app (goodIn_app (goodIn_app (goodIn_c ch_L_law hc_L_law wsX7_call_r1 [(0, 22), (22, 17), (22, 18), (22, 19), (22, 20), (0, 2), (22, 21), (12, 12), (12, 13), (12, 14), (0, 21), (12, 15), (2, 19), (13, 10), (13, 11), (13, 12), (13, 13), (2, 20), (16, 12), (16, 13), (16, 14), (16, 15), (1, 3), (16, 16)] rfl (by decide +kernel)) (goodIn_app (goodIn_c ch_L_law hc_L_law wsX7_call_r2 [(14, 11), (14, 12), (14, 13), (14, 14), (14, 15), (14, 16), (14, 17), (14, 18), (14, 19), (2, 13), (14, 20), (14, 21), (7, 12), (14, 22), (14, 23), (15, 0), (15, 1), (15, 2), (2, 21), (16, 17), (16, 18), (16, 19), (16, 20), (2, 8)] rfl (by decide +kernel)) (goodIn_c ch_L_law hc_L_law wsX7_call_r3 [(16, 21), (16, 22), (16, 23), (17, 0), (2, 11), (2, 10), (22, 22), (17, 6), (17, 7), (17, 8), (17, 9), (17, 10), (17, 11), (2, 9)] rfl (by decide +kernel)))) (goodIn_sub (fun _ h => (List.mem_append_left _ (List.mem_append_left _ (List.mem_append_left _ (List.mem_append_left _ (List.mem_append_left _ (List.mem_append_left _ (List.mem_append_left _ (List.mem_append_left _ (List.mem_append_left _ (List.mem_append_right _ h))))))))))) gwX7)) (goodIn_sub (fun _ h => (List.mem_append_left _ (List.mem_append_left _ (List.mem_append_left _ (List.mem_append_left _ (List.mem_append_left _ (List.mem_append_left _ (List.mem_append_right _ h)))))))) gwX6)) (goodIn_sub (fun _ h => (List.mem_append_left _ (List.mem_append_left _ (List.mem_append_left _ (List.mem_append_left _ (List.mem_append_left _ (List.mem_append_right _ h))))))) gwX2))
set_option maxRecDepth 20000 in
theorem gL_law_X7_call : GoodIn wsL_law (wsV RL 77 RX7 yX7_call wsX7_call) := goodIn_app (goodIn_of _ (by decide +kernel)) ggL_law_X7_call
set_option maxRecDepth 20000 in
set_option maxRecDepth 100000 in
theorem ggL_law_X8_call : GoodIn wsL_law wsX8_call := goodIn_hd (goodIn_c ch_L_law hc_L_law ([.code yX8_call cX8_call 8 (some .int)] : List Cond) [(23, 2)] rfl (by decide +kernel)) (goodIn_app (goodIn_app (goodIn_c ch_L_law hc_L_law wsX8_call_r1 [(23, 3), (23, 4), (23, 5), (0, 5), (23, 6), (12, 20), (12, 21), (12, 22), (12, 23), (5, 10), (6, 15), (6, 16), (6, 17), (14, 2), (14, 3), (14, 4), (14, 5), (5, 13), (15, 8), (15, 9), (15, 10), (15, 11), (5, 18), (5, 20)] rfl (by decide +kernel)) (goodIn_c ch_L_law hc_L_law wsX8_call_r2 [(5, 17), (23, 7), (23, 8), (23, 9), (23, 10), (19, 0), (19, 1), (19, 2), (19, 3), (5, 15), (5, 14), (5, 11), (19, 4), (19, 5), (19, 6), (19, 11), (19, 12), (19, 13), (19, 14), (5, 12)] rfl (by decide +kernel))) (goodIn_sub (fun _ h => (List.mem_append_left _ (List.mem_append_left _ (List.mem_append_left _ (List.mem_append_left _ (List.mem_append_left _ (List.mem_append_left _ (List.mem_append_left _ (List.mem_append_left _ (List.mem_append_right _ h)))))))))) gwX8))
set_option maxRecDepth 20000 in
theorem gL_law_X8_call : GoodIn wsL_law (wsV RL 81 RX8 yX8_call wsX8_call) := goodIn_app (goodIn_of _ (by decide +kernel)) ggL_law_X8_call
set_option maxRecDepth 20000 in
set_option maxRecDepth 100000 in
theorem ggL_law_X7_waits : GoodIn wsL_law wsX7_waits := goodIn_hd (goodIn_c ch_L_law hc_L_law ([.code yX7_waits cX7_waits 6 (some .int)] : List Cond) [(23, 14)] rfl (by decide +kernel)) (goodIn_app (goodIn_app (goodIn_app (goodIn_app (goodIn_c ch_L_law hc_L_law wsX7_waits_r1 [(0, 22), (1, 3), (16, 16), (22, 18), (22, 19), (22, 20), (0, 2), (22, 21), (12, 12), (12, 13), (12, 14), (0, 21), (12, 15), (2, 19), (13, 10), (13, 11), (13, 12), (13, 13), (2, 20), (23, 15), (23, 16), (23, 17), (14, 11), (14, 12)] rfl (by decide +kernel)) (goodIn_app (goodIn_c ch_L_law hc_L_law wsX7_waits_r2 [(14, 13), (14, 14), (14, 15), (14, 16), (14, 17), (14, 18), (14, 19), (2, 13), (14, 20), (14, 21), (7, 12), (14, 22), (14, 23), (15, 0), (15, 1), (15, 2), (2, 21), (16, 17), (16, 18), (16, 19), (16, 20), (2, 8), (16, 21), (16, 22)] rfl (by decide +kernel)) (goodIn_c ch_L_law hc_L_law wsX7_waits_r3 [(16, 23), (17, 0), (2, 11), (2, 10), (22, 22), (17, 6), (17, 7), (17, 8), (17, 9), (17, 10), (17, 11), (2, 9)] rfl (by decide +kernel)))) (goodIn_sub (fun _ h => (List.mem_append_left _ (List.mem_append_left _ (List.mem_append_left _ (List.mem_append_left _ (List.mem_append_left _ (List.mem_append_left _ (List.mem_append_left _ (List.mem_append_left _ (List.mem_append_left _ (List.mem_append_right _ h))))))))))) gwX7)) (goodIn_sub (fun _ h => (List.mem_append_left _ (List.mem_append_left _ (List.mem_append_left _ (List.mem_append_left _ (List.mem_append_left _ (List.mem_append_right _ h))))))) gwX2)) (goodIn_sub (fun _ h => (List.mem_append_left _ (List.mem_append_left _ (List.mem_append_left _ (List.mem_append_left _ (List.mem_append_left _ (List.mem_append_left _ (List.mem_append_right _ h)))))))) gwX6))
set_option maxRecDepth 20000 in
theorem gL_law_X7_waits : GoodIn wsL_law (wsV RL 82 RX7 yX7_waits wsX7_waits) := goodIn_app (goodIn_of _ (by decide +kernel)) ggL_law_X7_waits
set_option maxRecDepth 20000 in
set_option maxRecDepth 100000 in
theorem ggL_law_X8_waits : GoodIn wsL_law wsX8_waits := goodIn_hd (goodIn_c ch_L_law hc_L_law ([.code yX8_waits cX8_waits 6 (some .int)] : List Cond) [(23, 21)] rfl (by decide +kernel)) (goodIn_app (goodIn_app (goodIn_c ch_L_law hc_L_law wsX8_waits_r1 [(23, 3), (23, 4), (23, 5), (0, 5), (23, 6), (12, 20), (12, 21), (12, 22), (12, 23), (5, 10), (6, 15), (6, 16), (6, 17), (14, 2), (14, 3), (14, 4), (14, 5), (5, 13), (23, 22), (23, 23), (24, 0), (18, 17), (18, 18), (18, 19)] rfl (by decide +kernel)) (goodIn_app (goodIn_c ch_L_law hc_L_law wsX8_waits_r2 [(15, 8), (15, 9), (15, 10), (15, 11), (5, 18), (5, 20), (5, 17), (23, 7), (23, 8), (23, 9), (23, 10), (19, 0), (19, 1), (19, 2), (19, 3), (5, 15), (5, 14), (5, 11), (19, 4), (19, 5), (19, 6), (19, 11), (19, 12), (19, 13)] rfl (by decide +kernel)) (goodIn_c ch_L_law hc_L_law wsX8_waits_r3 [(19, 14), (5, 12)] rfl (by decide +kernel)))) (goodIn_sub (fun _ h => (List.mem_append_left _ (List.mem_append_left _ (List.mem_append_left _ (List.mem_append_left _ (List.mem_append_left _ (List.mem_append_left _ (List.mem_append_left _ (List.mem_append_left _ (List.mem_append_right _ h)))))))))) gwX8))
set_option maxRecDepth 20000 in
theorem gL_law_X8_waits : GoodIn wsL_law (wsV RL 86 RX8 yX8_waits wsX8_waits) := goodIn_app (goodIn_of _ (by decide +kernel)) ggL_law_X8_waits
set_option maxRecDepth 20000 in
set_option maxRecDepth 100000 in
theorem ggL_law_X7_relay : GoodIn wsL_law wsX7_relay := goodIn_hd (goodIn_c ch_L_law hc_L_law ([.code yX7_relay cX7_relay 5 (some .int)] : List Cond) [(24, 4)] rfl (by decide +kernel)) (goodIn_app (goodIn_app (goodIn_app (goodIn_app (goodIn_c ch_L_law hc_L_law wsX7_relay_r1 [(0, 22), (1, 3), (13, 10), (13, 11), (13, 12), (0, 21), (13, 13), (2, 20), (12, 12), (12, 13), (12, 14), (12, 15), (2, 19), (24, 5), (24, 6), (24, 7), (0, 2), (24, 8), (24, 9), (1, 18), (21, 4), (7, 11), (7, 12), (7, 13)] rfl (by decide +kernel)) (goodIn_app (goodIn_c ch_L_law hc_L_law wsX7_relay_r2 [(24, 10), (24, 11), (24, 12), (24, 13), (24, 14), (16, 12), (16, 13), (16, 14), (16, 15), (16, 16), (14, 11), (14, 12), (14, 13), (14, 14), (14, 15), (14, 16), (14, 17), (14, 18), (14, 19), (2, 13), (14, 20), (14, 21), (14, 22), (14, 23)] rfl (by decide +kernel)) (goodIn_app (goodIn_c ch_L_law hc_L_law wsX7_relay_r3 [(15, 0), (15, 1), (15, 2), (2, 21), (16, 17), (16, 18), (16, 19), (16, 20), (2, 8), (16, 21), (16, 22), (16, 23), (17, 0), (2, 11), (2, 10), (17, 1), (17, 2), (17, 3), (17, 4), (17, 5), (17, 6), (17, 7), (17, 8), (17, 9)] rfl (by decide +kernel)) (goodIn_app (goodIn_c ch_L_law hc_L_law wsX7_relay_r4 [(17, 10), (17, 11), (2, 9), (24, 15), (24, 16), (24, 17), (24, 18), (24, 19), (5, 2), (5, 3), (13, 14), (13, 15), (13, 16), (1, 2), (13, 17), (13, 18), (13, 19), (13, 20), (13, 21), (3, 2), (24, 20), (24, 21), (24, 22), (24, 23)] rfl (by decide +kernel)) (goodIn_c ch_L_law hc_L_law wsX7_relay_r5 [(16, 8)] rfl (by decide +kernel)))))) (goodIn_sub (fun _ h => (List.mem_append_left _ (List.mem_append_left _ (List.mem_append_left _ (List.mem_append_left _ (List.mem_append_left _ (List.mem_append_left _ (List.mem_append_left _ (List.mem_append_left _ (List.mem_append_left _ (List.mem_append_right _ h))))))))))) gwX7)) (goodIn_sub (fun _ h => (List.mem_append_left _ (List.mem_append_left _ (List.mem_append_left _ (List.mem_append_left _ (List.mem_append_left _ (List.mem_append_left _ (List.mem_append_right _ h)))))))) gwX6)) (goodIn_sub (fun _ h => (List.mem_append_left _ (List.mem_append_left _ (List.mem_append_left _ (List.mem_append_left _ (List.mem_append_left _ (List.mem_append_right _ h))))))) gwX2))
set_option maxRecDepth 20000 in
theorem gL_law_X7_relay : GoodIn wsL_law (wsV RL 87 RX7 yX7_relay wsX7_relay) := goodIn_app (goodIn_of _ (by decide +kernel)) ggL_law_X7_relay
set_option maxRecDepth 20000 in
set_option maxRecDepth 100000 in
theorem ggL_law_X8_relay : GoodIn wsL_law wsX8_relay := goodIn_hd (goodIn_c ch_L_law hc_L_law ([.code yX8_relay cX8_relay 11 (some .int)] : List Cond) [(25, 3)] rfl (by decide +kernel)) (goodIn_app (goodIn_app (goodIn_c ch_L_law hc_L_law wsX8_relay_r1 [(5, 20), (6, 2), (25, 4), (5, 10), (14, 2), (14, 3), (14, 4), (0, 5), (14, 5), (5, 13), (6, 15), (6, 16), (6, 17), (12, 20), (12, 21), (12, 22), (12, 23), (25, 5), (25, 6), (25, 7), (25, 8), (13, 0), (13, 1), (13, 2)] rfl (by decide +kernel)) (goodIn_app (goodIn_c ch_L_law hc_L_law wsX8_relay_r2 [(25, 9), (25, 10), (25, 11), (25, 12), (15, 8), (15, 9), (15, 10), (15, 11), (5, 18), (5, 17), (19, 0), (19, 1), (19, 2), (19, 3), (5, 15), (5, 14), (5, 11), (19, 4), (19, 5), (19, 6), (19, 7), (19, 8), (19, 9), (19, 10)] rfl (by decide +kernel)) (goodIn_c ch_L_law hc_L_law wsX8_relay_r3 [(19, 11), (19, 12), (19, 13), (19, 14), (5, 12)] rfl (by decide +kernel)))) (goodIn_sub (fun _ h => (List.mem_append_left _ (List.mem_append_left _ (List.mem_append_left _ (List.mem_append_left _ (List.mem_append_left _ (List.mem_append_left _ (List.mem_append_left _ (List.mem_append_left _ (List.mem_append_right _ h)))))))))) gwX8))
set_option maxRecDepth 20000 in
theorem gL_law_X8_relay : GoodIn wsL_law (wsV RL 90 RX8 yX8_relay wsX8_relay) := goodIn_app (goodIn_of _ (by decide +kernel)) ggL_law_X8_relay
set_option maxRecDepth 20000 in
set_option maxRecDepth 100000 in
theorem ggL_law_X7_allot : GoodIn wsL_law wsX7_allot := goodIn_hd (goodIn_c ch_L_law hc_L_law ([.code yX7_allot cX7_allot 3 (some .int)] : List Cond) [(25, 16)] rfl (by decide +kernel)) (goodIn_app (goodIn_app (goodIn_app (goodIn_app (goodIn_app (goodIn_c ch_L_law hc_L_law wsX7_allot_r1 [(0, 22), (25, 17), (1, 17), (1, 3), (16, 3), (25, 18), (25, 19), (25, 20), (25, 21), (0, 21), (25, 22), (2, 20), (24, 19), (5, 2), (0, 2), (5, 3), (25, 23), (26, 0), (26, 1), (26, 2), (26, 3), (26, 4), (26, 5), (26, 6)] rfl (by decide +kernel)) (goodIn_app (goodIn_c ch_L_law hc_L_law wsX7_allot_r2 [(1, 16), (26, 7), (3, 23), (4, 2), (26, 8), (26, 9), (26, 10), (26, 11), (13, 9), (16, 9), (16, 10), (16, 11), (16, 12), (16, 13), (16, 14), (16, 15), (16, 16), (14, 11), (14, 12), (14, 13), (14, 14), (14, 15), (14, 16), (14, 17)] rfl (by decide +kernel)) (goodIn_app (goodIn_c ch_L_law hc_L_law wsX7_allot_r3 [(14, 18), (14, 19), (2, 13), (14, 20), (14, 21), (7, 12), (14, 22), (14, 23), (15, 0), (15, 1), (15, 2), (2, 21), (16, 17), (16, 18), (16, 19), (16, 20), (2, 8), (16, 21), (16, 22), (16, 23), (17, 0), (2, 11), (2, 10), (17, 1)] rfl (by decide +kernel)) (goodIn_app (goodIn_c ch_L_law hc_L_law wsX7_allot_r4 [(17, 2), (17, 3), (17, 4), (2, 19), (17, 5), (17, 6), (17, 7), (17, 8), (17, 9), (17, 10), (17, 11), (2, 9), (26, 12), (26, 13), (26, 14), (26, 15), (4, 0), (26, 16), (26, 17), (26, 18), (26, 19), (26, 20), (26, 21), (26, 22)] rfl (by decide +kernel)) (goodIn_c ch_L_law hc_L_law wsX7_allot_r5 [(26, 23), (27, 0), (27, 1), (4, 1), (27, 2), (27, 3), (27, 4), (27, 5), (27, 6), (27, 7), (27, 8), (27, 9)] rfl (by decide +kernel)))))) (goodIn_sub (fun _ h => (List.mem_append_left _ (List.mem_append_left _ (List.mem_append_left _ (List.mem_append_left _ (List.mem_append_left _ (List.mem_append_left _ (List.mem_append_left _ (List.mem_append_left _ (List.mem_append_left _ (List.mem_append_right _ h))))))))))) gwX7)) (goodIn_sub (fun _ h => (List.mem_append_left _ (List.mem_append_left _ (List.mem_append_left _ (List.mem_append_left _ (List.mem_append_left _ (List.mem_append_left _ (List.mem_append_right _ h)))))))) gwX6)) (goodIn_sub (fun _ h => (List.mem_append_left _ (List.mem_append_left _ (List.mem_append_left _ (List.mem_append_left _ (List.mem_append_left _ (List.mem_append_right _ h))))))) gwX2)) (goodIn_sub (fun _ h => (List.mem_append_left _ (List.mem_append_left _ (List.mem_append_right _ h)))) gwX0))
set_option maxRecDepth 20000 in
theorem gL_law_X7_allot : GoodIn wsL_law (wsV RL 91 RX7 yX7_allot wsX7_allot) := goodIn_app (goodIn_of _ (by decide +kernel)) ggL_law_X7_allot
set_option maxRecDepth 20000 in
set_option maxRecDepth 100000 in
theorem ggL_law_X8_allot : GoodIn wsL_law wsX8_allot := goodIn_hd (goodIn_c ch_L_law hc_L_law ([.code yX8_allot cX8_allot 8 (some .int)] : List Cond) [(27, 13)] rfl (by decide +kernel)) (goodIn_app (goodIn_app (goodIn_c ch_L_law hc_L_law wsX8_allot_r1 [(5, 13), (25, 4), (6, 3), (6, 15), (6, 16), (0, 5), (6, 17), (14, 2), (14, 3), (14, 4), (14, 5), (13, 0), (13, 1), (13, 2), (27, 14), (27, 15), (27, 16), (27, 17), (5, 16), (15, 8), (15, 9), (15, 10), (15, 11), (5, 18)] rfl (by decide +kernel)) (goodIn_app (goodIn_c ch_L_law hc_L_law wsX8_allot_r2 [(5, 20), (5, 17), (19, 0), (19, 1), (19, 2), (19, 3), (5, 15), (5, 14), (5, 11), (19, 4), (19, 5), (19, 6), (19, 7), (19, 8), (19, 9), (19, 10), (5, 10), (19, 11), (19, 12), (19, 13), (19, 14), (5, 12), (27, 18), (27, 19)] rfl (by decide +kernel)) (goodIn_c ch_L_law hc_L_law wsX8_allot_r3 [(27, 20), (27, 21), (27, 22), (27, 23), (28, 0)] rfl (by decide +kernel)))) (goodIn_sub (fun _ h => (List.mem_append_left _ (List.mem_append_left _ (List.mem_append_left _ (List.mem_append_left _ (List.mem_append_left _ (List.mem_append_left _ (List.mem_append_left _ (List.mem_append_left _ (List.mem_append_right _ h)))))))))) gwX8))
set_option maxRecDepth 20000 in
theorem gL_law_X8_allot : GoodIn wsL_law (wsV RL 94 RX8 yX8_allot wsX8_allot) := goodIn_app (goodIn_of _ (by decide +kernel)) ggL_law_X8_allot
set_option maxRecDepth 20000 in
set_option maxRecDepth 100000 in
theorem ggL_law_X7_odds : GoodIn wsL_law wsX7_odds := goodIn_hd (goodIn_c ch_L_law hc_L_law ([.code yX7_odds cX7_odds 8 (some .int)] : List Cond) [(28, 4)] rfl (by decide +kernel)) (goodIn_app (goodIn_app (goodIn_app (goodIn_app (goodIn_c ch_L_law hc_L_law wsX7_odds_r1 [(0, 22), (28, 5), (1, 3), (16, 16), (28, 6), (14, 21), (7, 12), (14, 22), (22, 18), (22, 19), (22, 20), (0, 2), (22, 21), (12, 12), (12, 13), (12, 14), (0, 21), (12, 15), (2, 19), (13, 10), (13, 11), (13, 12), (13, 13), (2, 20)] rfl (by decide +kernel)) (goodIn_app (goodIn_c ch_L_law hc_L_law wsX7_odds_r2 [(23, 15), (23, 16), (23, 17), (28, 7), (15, 0), (15, 1), (15, 2), (2, 21), (14, 20), (16, 17), (16, 18), (16, 19), (16, 20), (2, 8), (16, 21), (16, 22), (16, 23), (17, 0), (2, 11), (2, 10), (22, 22), (17, 6), (17, 7), (17, 8)] rfl (by decide +kernel)) (goodIn_c ch_L_law hc_L_law wsX7_odds_r3 [(17, 9), (17, 10), (17, 11), (2, 9), (28, 8), (28, 9), (28, 10)] rfl (by decide +kernel)))) (goodIn_sub (fun _ h => (List.mem_append_left _ (List.mem_append_left _ (List.mem_append_left _ (List.mem_append_left _ (List.mem_append_left _ (List.mem_append_left _ (List.mem_append_left _ (List.mem_append_left _ (List.mem_append_left _ (List.mem_append_right _ h))))))))))) gwX7)) (goodIn_sub (fun _ h => (List.mem_append_left _ (List.mem_append_left _ (List.mem_append_left _ (List.mem_append_left _ (List.mem_append_left _ (List.mem_append_left _ (List.mem_append_right _ h)))))))) gwX6)) (goodIn_sub (fun _ h => (List.mem_append_left _ (List.mem_append_left _ (List.mem_append_left _ (List.mem_append_left _ (List.mem_append_left _ (List.mem_append_right _ h))))))) gwX2))
set_option maxRecDepth 20000 in
theorem gL_law_X7_odds : GoodIn wsL_law (wsV RL 95 RX7 yX7_odds wsX7_odds) := goodIn_app (goodIn_of _ (by decide +kernel)) ggL_law_X7_odds
set_option maxRecDepth 20000 in
set_option maxRecDepth 100000 in
theorem ggL_law_X8_odds : GoodIn wsL_law wsX8_odds := goodIn_hd (goodIn_c ch_L_law hc_L_law ([.code yX8_odds cX8_odds 10 (some .int)] : List Cond) [(28, 14)] rfl (by decide +kernel)) (goodIn_app (goodIn_app (goodIn_c ch_L_law hc_L_law wsX8_odds_r1 [(5, 17), (5, 18), (23, 3), (23, 4), (23, 5), (0, 5), (23, 6), (12, 20), (12, 21), (12, 22), (12, 23), (5, 10), (6, 15), (6, 16), (6, 17), (14, 2), (14, 3), (14, 4), (14, 5), (5, 13), (23, 22), (23, 23), (24, 0), (18, 17)] rfl (by decide +kernel)) (goodIn_c ch_L_law hc_L_law wsX8_odds_r2 [(18, 18), (18, 19), (23, 7), (23, 8), (23, 9), (23, 10), (19, 0), (19, 1), (19, 2), (19, 3), (5, 15), (5, 14), (5, 20), (5, 11), (19, 4), (19, 5), (19, 6), (19, 11), (19, 12), (19, 13), (19, 14), (5, 12)] rfl (by decide +kernel))) (goodIn_sub (fun _ h => (List.mem_append_left _ (List.mem_append_left _ (List.mem_append_left _ (List.mem_append_left _ (List.mem_append_left _ (List.mem_append_left _ (List.mem_append_left _ (List.mem_append_left _ (List.mem_append_right _ h)))))))))) gwX8))
set_option maxRecDepth 20000 in
theorem gL_law_X8_odds : GoodIn wsL_law (wsV RL 98 RX8 yX8_odds wsX8_odds) := goodIn_app (goodIn_of _ (by decide +kernel)) ggL_law_X8_odds
set_option maxRecDepth 20000 in
set_option maxRecDepth 100000 in
theorem ggL_law_X7_saw : GoodIn wsL_law wsX7_saw := goodIn_hd (goodIn_c ch_L_law hc_L_law ([.code yX7_saw cX7_saw 3 (some .int)] : List Cond) [(28, 18)] rfl (by decide +kernel)) (goodIn_app (goodIn_app (goodIn_app (goodIn_app (goodIn_app (goodIn_c ch_L_law hc_L_law wsX7_saw_r1 [(0, 22), (1, 13), (10, 7), (1, 3), (16, 16), (13, 10), (13, 11), (13, 12), (0, 21), (13, 13), (2, 20), (14, 11), (14, 12), (14, 13), (0, 2), (14, 14), (14, 15), (14, 16), (14, 17), (14, 18), (14, 19), (2, 13), (14, 20), (14, 21)] rfl (by decide +kernel)) (goodIn_c ch_L_law hc_L_law wsX7_saw_r2 [(7, 12), (14, 22), (14, 23), (15, 0), (15, 1), (15, 2), (2, 21), (28, 19), (28, 20), (28, 21), (1, 12), (28, 22), (3, 15), (3, 19), (3, 16), (3, 17), (3, 18)] rfl (by decide +kernel))) (goodIn_sub (fun _ h => (List.mem_append_left _ (List.mem_append_left _ (List.mem_append_left _ (List.mem_append_left _ (List.mem_append_left _ (List.mem_append_left _ (List.mem_append_left _ (List.mem_append_left _ (List.mem_append_left _ (List.mem_append_right _ h))))))))))) gwX7)) (goodIn_sub (fun _ h => (List.mem_append_left _ (List.mem_append_left _ (List.mem_append_left _ (List.mem_append_right _ h))))) gwX4)) (goodIn_sub (fun _ h => (List.mem_append_left _ (List.mem_append_left _ (List.mem_append_left _ (List.mem_append_left _ (List.mem_append_left _ (List.mem_append_right _ h))))))) gwX2)) (goodIn_sub (fun _ h => (List.mem_append_left _ (List.mem_append_left _ (List.mem_append_left _ (List.mem_append_left _ (List.mem_append_left _ (List.mem_append_left _ (List.mem_append_right _ h)))))))) gwX6))
set_option maxRecDepth 20000 in
theorem gL_law_X7_saw : GoodIn wsL_law (wsV RL 99 RX7 yX7_saw wsX7_saw) := goodIn_app (goodIn_of _ (by decide +kernel)) ggL_law_X7_saw
set_option maxRecDepth 20000 in
set_option maxRecDepth 100000 in
theorem ggL_law_X8_saw : GoodIn wsL_law wsX8_saw := goodIn_hd (goodIn_c ch_L_law hc_L_law ([.code yX8_saw cX8_saw 3 (some .int)] : List Cond) [(29, 2)] rfl (by decide +kernel)) (goodIn_app (goodIn_c ch_L_law hc_L_law ([.fieldLink RX8 131 "WordFletchersModel" "sights" "I", .fieldLink RX8 66 "WordFletchersModel" "sightOf" "[I", .fieldLink RX8 69 "WordFletchersModel" "sightAt" "[I", .methodLink RX8 148 yX8_isSaying, .instanceMethod yX8_isSaying, .selects RX8 yX8_isSaying yX8_isSaying, .initialized RX8, .code yX8_isSaying cX8_isSaying 2 (some .boolean), .fieldLink RX8 23 "WordFletchersModel" "sayings" "[I", .methodLink RX8 72 yX8_in, .static yX8_in, .code yX8_in cX8_in 3 (some .boolean)] : List Cond) [(10, 15), (6, 4), (6, 5), (14, 2), (14, 3), (14, 4), (0, 5), (14, 5), (5, 13), (6, 15), (6, 16), (6, 17)] rfl (by decide +kernel)) (goodIn_sub (fun _ h => (List.mem_append_left _ (List.mem_append_left _ (List.mem_append_left _ (List.mem_append_left _ (List.mem_append_left _ (List.mem_append_left _ (List.mem_append_left _ (List.mem_append_left _ (List.mem_append_right _ h)))))))))) gwX8))
set_option maxRecDepth 20000 in
theorem gL_law_X8_saw : GoodIn wsL_law (wsV RL 102 RX8 yX8_saw wsX8_saw) := goodIn_app (goodIn_of _ (by decide +kernel)) ggL_law_X8_saw
set_option maxRecDepth 20000 in
set_option maxRecDepth 100000 in
theorem ggL_law_X7_forget : GoodIn wsL_law wsX7_forget := goodIn_hd (goodIn_c ch_L_law hc_L_law ([.code yX7_forget cX7_forget 2 (some .int)] : List Cond) [(29, 6)] rfl (by decide +kernel)) (goodIn_app (goodIn_app (goodIn_c ch_L_law hc_L_law ([.fieldLink RX7 59 "WordFletchers" "sightings" "LWordFletchers$Sightings;", .fieldLink RX7 251 "WordFletchers$Sightings" "size" "I"] : List Cond) [(1, 13), (10, 7)] rfl (by decide +kernel)) (goodIn_sub (fun _ h => (List.mem_append_left _ (List.mem_append_left _ (List.mem_append_left _ (List.mem_append_left _ (List.mem_append_left _ (List.mem_append_left _ (List.mem_append_left _ (List.mem_append_left _ (List.mem_append_left _ (List.mem_append_right _ h))))))))))) gwX7)) (goodIn_sub (fun _ h => (List.mem_append_left _ (List.mem_append_left _ (List.mem_append_left _ (List.mem_append_right _ h))))) gwX4))
set_option maxRecDepth 20000 in
theorem gL_law_X7_forget : GoodIn wsL_law (wsV RL 103 RX7 yX7_forget wsX7_forget) := goodIn_app (goodIn_of _ (by decide +kernel)) ggL_law_X7_forget
set_option maxRecDepth 20000 in
set_option maxRecDepth 100000 in
theorem ggL_law_X8_forget : GoodIn wsL_law wsX8_forget := goodIn_hd (goodIn_c ch_L_law hc_L_law ([.code yX8_forget cX8_forget 2 (some .int)] : List Cond) [(29, 10)] rfl (by decide +kernel)) (goodIn_app (goodIn_c ch_L_law hc_L_law ([.fieldLink RX8 131 "WordFletchersModel" "sights" "I"] : List Cond) [(10, 15)] rfl (by decide +kernel)) (goodIn_sub (fun _ h => (List.mem_append_left _ (List.mem_append_left _ (List.mem_append_left _ (List.mem_append_left _ (List.mem_append_left _ (List.mem_append_left _ (List.mem_append_left _ (List.mem_append_left _ (List.mem_append_right _ h)))))))))) gwX8))
set_option maxRecDepth 20000 in
theorem gL_law_X8_forget : GoodIn wsL_law (wsV RL 106 RX8 yX8_forget wsX8_forget) := goodIn_app (goodIn_of _ (by decide +kernel)) ggL_law_X8_forget
set_option maxRecDepth 20000 in
set_option maxRecDepth 100000 in
theorem ggL_law_X7_who : GoodIn wsL_law wsX7_who := goodIn_hd (goodIn_c ch_L_law hc_L_law ([.code yX7_who cX7_who 1 (some .int)] : List Cond) [(29, 14)] rfl (by decide +kernel)) (goodIn_app (goodIn_app (goodIn_app (goodIn_app (goodIn_c ch_L_law hc_L_law wsX7_who_r1 [(29, 15), (29, 16), (29, 17), (0, 2), (29, 18), (0, 22), (24, 9), (29, 19), (29, 20), (29, 21), (29, 22), (1, 13), (10, 7), (29, 23), (30, 0), (30, 1), (30, 2), (30, 3), (30, 4), (30, 5), (0, 21), (30, 6), (30, 7), (16, 18)] rfl (by decide +kernel)) (goodIn_c ch_L_law hc_L_law wsX7_who_r2 [(16, 19), (16, 20), (2, 8), (16, 21), (16, 22), (16, 23), (17, 0), (2, 11), (2, 10), (14, 20), (14, 21), (7, 12), (14, 22), (24, 19), (5, 2), (5, 3)] rfl (by decide +kernel))) (goodIn_sub (fun _ h => (List.mem_append_left _ (List.mem_append_left _ (List.mem_append_left _ (List.mem_append_left _ (List.mem_append_left _ (List.mem_append_left _ (List.mem_append_left _ (List.mem_append_left _ (List.mem_append_left _ (List.mem_append_right _ h))))))))))) gwX7)) (goodIn_sub (fun _ h => (List.mem_append_left _ (List.mem_append_left _ (List.mem_append_left _ (List.mem_append_left _ (List.mem_append_left _ (List.mem_append_left _ (List.mem_append_right _ h)))))))) gwX6)) (goodIn_sub (fun _ h => (List.mem_append_left _ (List.mem_append_left _ (List.mem_append_left _ (List.mem_append_right _ h))))) gwX4))
set_option maxRecDepth 20000 in
theorem gL_law_X7_who : GoodIn wsL_law (wsV RL 107 RX7 yX7_who wsX7_who) := goodIn_app (goodIn_of _ (by decide +kernel)) ggL_law_X7_who
set_option maxRecDepth 20000 in
set_option maxRecDepth 100000 in
theorem ggL_law_X8_who : GoodIn wsL_law wsX8_who := goodIn_hd (goodIn_c ch_L_law hc_L_law ([.code yX8_who cX8_who 5 (some .int)] : List Cond) [(30, 11)] rfl (by decide +kernel)) (goodIn_app (goodIn_app (goodIn_c ch_L_law hc_L_law wsX8_who_r1 [(5, 10), (10, 15), (6, 4), (6, 5), (30, 12), (30, 13), (30, 14), (0, 5), (30, 15), (15, 8), (15, 9), (15, 10), (15, 11), (5, 18), (5, 20), (5, 17), (19, 0), (19, 1), (19, 2), (19, 3), (5, 15), (5, 14), (5, 11), (19, 4)] rfl (by decide +kernel)) (goodIn_c ch_L_law hc_L_law wsX8_who_r2 [(19, 5), (19, 6), (6, 15), (6, 16), (6, 17), (13, 0), (13, 1), (13, 2)] rfl (by decide +kernel))) (goodIn_sub (fun _ h => (List.mem_append_left _ (List.mem_append_left _ (List.mem_append_left _ (List.mem_append_left _ (List.mem_append_left _ (List.mem_append_left _ (List.mem_append_left _ (List.mem_append_left _ (List.mem_append_right _ h)))))))))) gwX8))
set_option maxRecDepth 20000 in
theorem gL_law_X8_who : GoodIn wsL_law (wsV RL 110 RX8 yX8_who wsX8_who) := goodIn_app (goodIn_of _ (by decide +kernel)) ggL_law_X8_who
set_option maxRecDepth 20000 in
set_option maxRecDepth 100000 in
theorem ggL_law_X7_ask : GoodIn wsL_law wsX7_ask := goodIn_hd (goodIn_c ch_L_law hc_L_law ([.code yX7_ask cX7_ask 6 (some .int)] : List Cond) [(30, 19)] rfl (by decide +kernel)) (goodIn_app (goodIn_app (goodIn_app (goodIn_app (goodIn_app (goodIn_c ch_L_law hc_L_law wsX7_ask_r1 [(0, 22), (25, 17), (29, 15), (29, 16), (29, 17), (0, 2), (29, 18), (24, 9), (29, 19), (29, 20), (29, 21), (29, 22), (1, 13), (10, 7), (29, 23), (30, 0), (30, 1), (30, 2), (30, 3), (30, 4), (30, 5), (0, 21), (30, 6), (30, 7)] rfl (by decide +kernel)) (goodIn_app (goodIn_c ch_L_law hc_L_law wsX7_ask_r2 [(16, 18), (16, 19), (16, 20), (2, 8), (16, 21), (16, 22), (16, 23), (17, 0), (2, 11), (2, 10), (14, 20), (14, 21), (7, 12), (14, 22), (24, 19), (5, 2), (5, 3), (30, 20), (30, 21), (30, 22), (30, 23), (31, 0), (31, 1), (31, 2)] rfl (by decide +kernel)) (goodIn_app (goodIn_c ch_L_law hc_L_law wsX7_ask_r3 [(31, 3), (31, 4), (31, 5), (31, 6), (1, 19), (1, 3), (16, 16), (28, 6), (14, 11), (14, 12), (14, 13), (14, 14), (14, 15), (14, 16), (14, 17), (14, 18), (14, 19), (2, 13), (14, 23), (15, 0), (15, 1), (15, 2), (2, 21), (31, 7)] rfl (by decide +kernel)) (goodIn_c ch_L_law hc_L_law wsX7_ask_r4 [(31, 8), (31, 9), (31, 10)] rfl (by decide +kernel))))) (goodIn_sub (fun _ h => (List.mem_append_left _ (List.mem_append_left _ (List.mem_append_left _ (List.mem_append_left _ (List.mem_append_left _ (List.mem_append_left _ (List.mem_append_left _ (List.mem_append_left _ (List.mem_append_left _ (List.mem_append_right _ h))))))))))) gwX7)) (goodIn_sub (fun _ h => (List.mem_append_left _ (List.mem_append_left _ (List.mem_append_left _ (List.mem_append_left _ (List.mem_append_left _ (List.mem_append_left _ (List.mem_append_right _ h)))))))) gwX6)) (goodIn_sub (fun _ h => (List.mem_append_left _ (List.mem_append_left _ (List.mem_append_left _ (List.mem_append_right _ h))))) gwX4)) (goodIn_sub (fun _ h => (List.mem_append_left _ (List.mem_append_left _ (List.mem_append_left _ (List.mem_append_left _ (List.mem_append_left _ (List.mem_append_right _ h))))))) gwX2))
set_option maxRecDepth 20000 in
theorem gL_law_X7_ask : GoodIn wsL_law (wsV RL 111 RX7 yX7_ask wsX7_ask) := goodIn_app (goodIn_of _ (by decide +kernel)) ggL_law_X7_ask
set_option maxRecDepth 20000 in
set_option maxRecDepth 100000 in
theorem ggL_law_X8_ask : GoodIn wsL_law wsX8_ask := goodIn_hd (goodIn_c ch_L_law hc_L_law ([.code yX8_ask cX8_ask 9 (some .int)] : List Cond) [(31, 14)] rfl (by decide +kernel)) (goodIn_app (goodIn_app (goodIn_c ch_L_law hc_L_law wsX8_ask_r1 [(5, 13), (5, 10), (31, 15), (30, 9), (30, 10), (0, 5), (30, 11), (10, 15), (6, 4), (6, 5), (30, 12), (30, 13), (30, 14), (30, 15), (15, 8), (15, 9), (15, 10), (15, 11), (5, 18), (5, 20), (5, 17), (19, 0), (19, 1), (19, 2)] rfl (by decide +kernel)) (goodIn_c ch_L_law hc_L_law wsX8_ask_r2 [(19, 3), (5, 15), (5, 14), (5, 11), (19, 4), (19, 5), (19, 6), (6, 15), (6, 16), (6, 17), (13, 0), (13, 1), (13, 2), (27, 18), (27, 19), (27, 20)] rfl (by decide +kernel))) (goodIn_sub (fun _ h => (List.mem_append_left _ (List.mem_append_left _ (List.mem_append_left _ (List.mem_append_left _ (List.mem_append_left _ (List.mem_append_left _ (List.mem_append_left _ (List.mem_append_left _ (List.mem_append_right _ h)))))))))) gwX8))
set_option maxRecDepth 20000 in
theorem gL_law_X8_ask : GoodIn wsL_law (wsV RL 114 RX8 yX8_ask wsX8_ask) := goodIn_app (goodIn_of _ (by decide +kernel)) ggL_law_X8_ask
set_option maxRecDepth 20000 in
set_option maxRecDepth 100000 in
theorem ggL_law_X7_mark : GoodIn wsL_law wsX7_mark := goodIn_hd (goodIn_c ch_L_law hc_L_law ([.code yX7_mark cX7_mark 3 (some .int)] : List Cond) [(31, 19)] rfl (by decide +kernel)) (goodIn_app (goodIn_app (goodIn_app (goodIn_app (goodIn_c ch_L_law hc_L_law wsX7_mark_r1 [(0, 22), (14, 10), (12, 12), (12, 13), (12, 14), (0, 21), (12, 15), (2, 19), (31, 20), (31, 21), (31, 22), (0, 2), (31, 23), (1, 20), (12, 9), (32, 0), (32, 1), (32, 2), (32, 3), (32, 4), (1, 3), (12, 11), (30, 20), (30, 21)] rfl (by decide +kernel)) (goodIn_app (goodIn_c ch_L_law hc_L_law wsX7_mark_r2 [(30, 22), (30, 23), (31, 0), (31, 1), (31, 2), (32, 5), (32, 6), (32, 7), (32, 8), (32, 9), (16, 16), (32, 10), (32, 11), (32, 12), (32, 13), (32, 14), (32, 15), (32, 16), (32, 17), (32, 18), (32, 19), (32, 20), (32, 21), (32, 22)] rfl (by decide +kernel)) (goodIn_c ch_L_law hc_L_law wsX7_mark_r3 [(32, 23), (33, 0), (33, 1), (33, 2), (33, 3), (1, 2), (33, 4), (3, 1)] rfl (by decide +kernel)))) (goodIn_sub (fun _ h => (List.mem_append_left _ (List.mem_append_left _ (List.mem_append_left _ (List.mem_append_left _ (List.mem_append_left _ (List.mem_append_left _ (List.mem_append_left _ (List.mem_append_left _ (List.mem_append_left _ (List.mem_append_right _ h))))))))))) gwX7)) (goodIn_sub (fun _ h => (List.mem_append_left _ (List.mem_append_left _ (List.mem_append_left _ (List.mem_append_left _ (List.mem_append_left _ (List.mem_append_left _ (List.mem_append_right _ h)))))))) gwX6)) (goodIn_sub (fun _ h => (List.mem_append_left _ (List.mem_append_left _ (List.mem_append_left _ (List.mem_append_left _ (List.mem_append_left _ (List.mem_append_right _ h))))))) gwX2))
set_option maxRecDepth 20000 in
theorem gL_law_X7_mark : GoodIn wsL_law (wsV RL 115 RX7 yX7_mark wsX7_mark) := goodIn_app (goodIn_of _ (by decide +kernel)) ggL_law_X7_mark
set_option maxRecDepth 20000 in
set_option maxRecDepth 100000 in
theorem ggL_law_X8_mark : GoodIn wsL_law wsX8_mark := goodIn_hd (goodIn_c ch_L_law hc_L_law ([.code yX8_mark cX8_mark 7 (some .int)] : List Cond) [(33, 8)] rfl (by decide +kernel)) (goodIn_app (goodIn_app (goodIn_c ch_L_law hc_L_law wsX8_mark_r1 [(15, 7), (33, 9), (33, 10), (5, 11), (5, 20), (6, 15), (6, 16), (0, 5), (6, 17), (12, 20), (12, 21), (12, 22), (12, 23), (5, 10), (33, 11), (33, 12), (33, 13), (13, 0), (13, 1), (13, 2), (33, 14), (12, 17), (12, 18), (12, 19)] rfl (by decide +kernel)) (goodIn_c ch_L_law hc_L_law wsX8_mark_r2 [(5, 12), (5, 13), (27, 18), (27, 19), (27, 20)] rfl (by decide +kernel))) (goodIn_sub (fun _ h => (List.mem_append_left _ (List.mem_append_left _ (List.mem_append_left _ (List.mem_append_left _ (List.mem_append_left _ (List.mem_append_left _ (List.mem_append_left _ (List.mem_append_left _ (List.mem_append_right _ h)))))))))) gwX8))
set_option maxRecDepth 20000 in
theorem gL_law_X8_mark : GoodIn wsL_law (wsV RL 118 RX8 yX8_mark wsX8_mark) := goodIn_app (goodIn_of _ (by decide +kernel)) ggL_law_X8_mark
set_option maxRecDepth 20000 in
set_option maxRecDepth 100000 in
theorem ggL_law_X7_keep : GoodIn wsL_law wsX7_keep := goodIn_hd (goodIn_c ch_L_law hc_L_law ([.code yX7_keep cX7_keep 2 (some .int)] : List Cond) [(33, 18)] rfl (by decide +kernel)) (goodIn_app (goodIn_app (goodIn_app (goodIn_app (goodIn_app (goodIn_c ch_L_law hc_L_law wsX7_keep_r1 [(1, 9), (1, 3), (1, 7), (14, 15), (33, 19), (33, 20), (33, 21), (1, 22), (33, 22), (4, 7), (4, 9), (4, 10), (33, 23), (17, 21), (17, 22), (1, 2), (17, 23), (4, 16), (4, 17), (4, 18), (3, 1), (18, 0), (18, 1), (18, 2)] rfl (by decide +kernel)) (goodIn_c ch_L_law hc_L_law wsX7_keep_r2 [(18, 3), (3, 2), (3, 3), (3, 4), (34, 0), (34, 1), (34, 2), (1, 6), (34, 3), (3, 11), (3, 10), (17, 20)] rfl (by decide +kernel))) (goodIn_sub (fun _ h => (List.mem_append_left _ (List.mem_append_left _ (List.mem_append_left _ (List.mem_append_left _ (List.mem_append_left _ (List.mem_append_left _ (List.mem_append_left _ (List.mem_append_left _ (List.mem_append_left _ (List.mem_append_right _ h))))))))))) gwX7)) (goodIn_sub (fun _ h => (List.mem_append_left _ (List.mem_append_left _ (List.mem_append_left _ (List.mem_append_left _ (List.mem_append_left _ (List.mem_append_right _ h))))))) gwX2)) (goodIn_sub (fun _ h => (List.mem_append_left _ (List.mem_append_right _ h))) gwX1)) (goodIn_sub (fun _ h => (List.mem_append_left _ (List.mem_append_left _ (List.mem_append_left _ (List.mem_append_left _ (List.mem_append_right _ h)))))) gwX3))
set_option maxRecDepth 20000 in
theorem gL_law_X7_keep : GoodIn wsL_law (wsV RL 119 RX7 yX7_keep wsX7_keep) := goodIn_app (goodIn_of _ (by decide +kernel)) ggL_law_X7_keep
set_option maxRecDepth 20000 in
set_option maxRecDepth 100000 in
theorem ggL_law_X8_keep : GoodIn wsL_law wsX8_keep := goodIn_hd (goodIn_c ch_L_law hc_L_law ([.code yX8_keep cX8_keep 3 (some .int)] : List Cond) [(34, 7)] rfl (by decide +kernel)) (goodIn_app (goodIn_c ch_L_law hc_L_law ([.fieldLink RX8 53 "WordFletchersModel" "store" "[I", .fieldLink RX8 44 "WordFletchersModel" "now" "[I", .fieldLink RX8 50 "WordFletchersModel" "before" "[I", .fieldLink RX8 47 "WordFletchersModel" "known" "[I", .fieldLink RX8 56 "WordFletchersModel" "isKept" "[Z", .methodLink RX8 72 yX8_in, .static yX8_in, .initialized RX8, .code yX8_in cX8_in 3 (some .boolean)] : List Cond) [(5, 23), (5, 20), (5, 22), (5, 21), (6, 1), (6, 15), (6, 16), (0, 5), (6, 17)] rfl (by decide +kernel)) (goodIn_sub (fun _ h => (List.mem_append_left _ (List.mem_append_left _ (List.mem_append_left _ (List.mem_append_left _ (List.mem_append_left _ (List.mem_append_left _ (List.mem_append_left _ (List.mem_append_left _ (List.mem_append_right _ h)))))))))) gwX8))
set_option maxRecDepth 20000 in
theorem gL_law_X8_keep : GoodIn wsL_law (wsV RL 122 RX8 yX8_keep wsX8_keep) := goodIn_app (goodIn_of _ (by decide +kernel)) ggL_law_X8_keep
set_option maxRecDepth 20000 in
set_option maxRecDepth 100000 in
theorem ggL_law_X7_back : GoodIn wsL_law wsX7_back := goodIn_hd (goodIn_c ch_L_law hc_L_law ([.code yX7_back cX7_back 2 (some .int)] : List Cond) [(34, 11)] rfl (by decide +kernel)) (goodIn_app (goodIn_app (goodIn_app (goodIn_app (goodIn_app (goodIn_c ch_L_law hc_L_law wsX7_back_r1 [(1, 9), (10, 8), (1, 3), (1, 7), (14, 15), (34, 12), (34, 13), (34, 14), (1, 22), (34, 15), (4, 7), (4, 9), (33, 23), (17, 21), (17, 22), (1, 2), (17, 23), (4, 16), (4, 17), (4, 18), (3, 1), (18, 0), (18, 1), (18, 2)] rfl (by decide +kernel)) (goodIn_c ch_L_law hc_L_law wsX7_back_r2 [(18, 3), (3, 2), (3, 3), (3, 4), (34, 0), (34, 1), (34, 2), (1, 6), (34, 3), (3, 11), (3, 10), (17, 20)] rfl (by decide +kernel))) (goodIn_sub (fun _ h => (List.mem_append_left _ (List.mem_append_left _ (List.mem_append_left _ (List.mem_append_left _ (List.mem_append_left _ (List.mem_append_left _ (List.mem_append_left _ (List.mem_append_left _ (List.mem_append_left _ (List.mem_append_right _ h))))))))))) gwX7)) (goodIn_sub (fun _ h => (List.mem_append_left _ (List.mem_append_right _ h))) gwX1)) (goodIn_sub (fun _ h => (List.mem_append_left _ (List.mem_append_left _ (List.mem_append_left _ (List.mem_append_left _ (List.mem_append_left _ (List.mem_append_right _ h))))))) gwX2)) (goodIn_sub (fun _ h => (List.mem_append_left _ (List.mem_append_left _ (List.mem_append_left _ (List.mem_append_left _ (List.mem_append_right _ h)))))) gwX3))
set_option maxRecDepth 20000 in
theorem gL_law_X7_back : GoodIn wsL_law (wsV RL 123 RX7 yX7_back wsX7_back) := goodIn_app (goodIn_of _ (by decide +kernel)) ggL_law_X7_back
set_option maxRecDepth 20000 in
set_option maxRecDepth 100000 in
theorem ggL_law_X8_back : GoodIn wsL_law wsX8_back := goodIn_hd (goodIn_c ch_L_law hc_L_law ([.code yX8_back cX8_back 3 (some .int)] : List Cond) [(34, 19)] rfl (by decide +kernel)) (goodIn_app (goodIn_c ch_L_law hc_L_law ([.fieldLink RX8 56 "WordFletchersModel" "isKept" "[Z", .fieldLink RX8 44 "WordFletchersModel" "now" "[I", .fieldLink RX8 53 "WordFletchersModel" "store" "[I", .fieldLink RX8 50 "WordFletchersModel" "before" "[I", .fieldLink RX8 47 "WordFletchersModel" "known" "[I", .methodLink RX8 72 yX8_in, .static yX8_in, .initialized RX8, .code yX8_in cX8_in 3 (some .boolean)] : List Cond) [(6, 1), (5, 20), (5, 23), (5, 22), (5, 21), (6, 15), (6, 16), (0, 5), (6, 17)] rfl (by decide +kernel)) (goodIn_sub (fun _ h => (List.mem_append_left _ (List.mem_append_left _ (List.mem_append_left _ (List.mem_append_left _ (List.mem_append_left _ (List.mem_append_left _ (List.mem_append_left _ (List.mem_append_left _ (List.mem_append_right _ h)))))))))) gwX8))
set_option maxRecDepth 20000 in
theorem gL_law_X8_back : GoodIn wsL_law (wsV RL 126 RX8 yX8_back wsX8_back) := goodIn_app (goodIn_of _ (by decide +kernel)) ggL_law_X8_back
set_option maxRecDepth 20000 in
set_option maxRecDepth 100000 in
theorem ggL_law_X7_count : GoodIn wsL_law wsX7_count := goodIn_hd (goodIn_c ch_L_law hc_L_law ([.code yX7_count cX7_count 2 (some .int)] : List Cond) [(34, 23)] rfl (by decide +kernel)) (goodIn_app (goodIn_app (goodIn_app (goodIn_app (goodIn_c ch_L_law hc_L_law ([.fieldLink RX7 29 "WordFletchers" "told" "LWordFletchers$Told;", .fieldLink RX7 298 "WordFletchers$Told" "people" "I", .fieldLink RX7 219 "WordFletchers$Told" "sayings" "I", .fieldLink RX7 59 "WordFletchers" "sightings" "LWordFletchers$Sightings;", .fieldLink RX7 251 "WordFletchers$Sightings" "size" "I", .fieldLink RX7 46 "WordFletchers" "past" "LWordFletchers$Past;", .fieldLink RX7 185 "WordFletchers$Past" "known" "I", .fieldLink RX7 13 "WordFletchers" "textLength" "I", .methodLink RX7 238 yX6_windCount, .instanceMethod yX6_windCount, .selects RX6 yX6_windCount yX6_windCount, .initialized RX6, .code yX6_windCount cX6_windCount 1 (some .int), .fieldLink RX6 43 "WordFletchers$Told" "windsTold" "I", .methodLink RX6 46 Lib.Math.max.name, .static Lib.Math.max.name, .initialized "java/lang/Math", .code Lib.Math.max.name Lib.Math.max.code 2 (some .int)] : List Cond) [(0, 22), (24, 9), (25, 17), (1, 13), (10, 7), (1, 7), (10, 6), (0, 14), (28, 7), (15, 0), (15, 1), (0, 21), (15, 2), (2, 21), (14, 20), (14, 21), (7, 12), (14, 22)] rfl (by decide +kernel)) (goodIn_sub (fun _ h => (List.mem_append_left _ (List.mem_append_left _ (List.mem_append_left _ (List.mem_append_left _ (List.mem_append_left _ (List.mem_append_left _ (List.mem_append_left _ (List.mem_append_left _ (List.mem_append_left _ (List.mem_append_right _ h))))))))))) gwX7)) (goodIn_sub (fun _ h => (List.mem_append_left _ (List.mem_append_left _ (List.mem_append_left _ (List.mem_append_left _ (List.mem_append_left _ (List.mem_append_left _ (List.mem_append_right _ h)))))))) gwX6)) (goodIn_sub (fun _ h => (List.mem_append_left _ (List.mem_append_left _ (List.mem_append_left _ (List.mem_append_right _ h))))) gwX4)) (goodIn_sub (fun _ h => (List.mem_append_left _ (List.mem_append_left _ (List.mem_append_left _ (List.mem_append_left _ (List.mem_append_right _ h)))))) gwX3))
set_option maxRecDepth 20000 in
theorem gL_law_X7_count : GoodIn wsL_law (wsV RL 127 RX7 yX7_count wsX7_count) := goodIn_app (goodIn_of _ (by decide +kernel)) ggL_law_X7_count
set_option maxRecDepth 20000 in
set_option maxRecDepth 100000 in
theorem ggL_law_X8_count : GoodIn wsL_law wsX8_count := goodIn_hd (goodIn_c ch_L_law hc_L_law ([.code yX8_count cX8_count 2 (some .int)] : List Cond) [(35, 3)] rfl (by decide +kernel)) (goodIn_app (goodIn_c ch_L_law hc_L_law ([.fieldLink RX8 13 "WordFletchersModel" "people" "[I", .fieldLink RX8 23 "WordFletchersModel" "sayings" "[I", .fieldLink RX8 35 "WordFletchersModel" "winds" "[I", .fieldLink RX8 131 "WordFletchersModel" "sights" "I", .fieldLink RX8 47 "WordFletchersModel" "known" "[I", .fieldLink RX8 76 "WordFletchersModel" "typed" "I"] : List Cond) [(5, 10), (5, 13), (5, 17), (10, 15), (5, 21), (6, 14)] rfl (by decide +kernel)) (goodIn_sub (fun _ h => (List.mem_append_left _ (List.mem_append_left _ (List.mem_append_left _ (List.mem_append_left _ (List.mem_append_left _ (List.mem_append_left _ (List.mem_append_left _ (List.mem_append_left _ (List.mem_append_right _ h)))))))))) gwX8))
set_option maxRecDepth 20000 in
theorem gL_law_X8_count : GoodIn wsL_law (wsV RL 130 RX8 yX8_count wsX8_count) := goodIn_app (goodIn_of _ (by decide +kernel)) ggL_law_X8_count
set_option maxRecDepth 20000 in
set_option maxRecDepth 100000 in
theorem ggL_law_X7_trace : GoodIn wsL_law wsX7_trace := goodIn_hd (goodIn_c ch_L_law hc_L_law ([.code yX7_trace cX7_trace 1 (some .long)] : List Cond) [(35, 7)] rfl (by decide +kernel)) (goodIn_app (goodIn_c ch_L_law hc_L_law ([.fieldLink RX7 76 "WordFletchers" "traced" "J"] : List Cond) [(1, 20)] rfl (by decide +kernel)) (goodIn_sub (fun _ h => (List.mem_append_left _ (List.mem_append_left _ (List.mem_append_left _ (List.mem_append_left _ (List.mem_append_left _ (List.mem_append_left _ (List.mem_append_left _ (List.mem_append_left _ (List.mem_append_left _ (List.mem_append_right _ h))))))))))) gwX7))
set_option maxRecDepth 20000 in
theorem gL_law_X7_trace : GoodIn wsL_law (wsV RL 131 RX7 yX7_trace wsX7_trace) := goodIn_app (goodIn_of _ (by decide +kernel)) ggL_law_X7_trace
set_option maxRecDepth 20000 in
set_option maxRecDepth 100000 in
theorem ggL_law_X8_trace : GoodIn wsL_law wsX8_trace := goodIn_hd (goodIn_c ch_L_law hc_L_law ([.code yX8_trace cX8_trace 1 (some .long)] : List Cond) [(35, 11)] rfl (by decide +kernel)) (goodIn_app (goodIn_c ch_L_law hc_L_law ([.fieldLink RX8 207 "WordFletchersModel" "trace" "J"] : List Cond) [(33, 9)] rfl (by decide +kernel)) (goodIn_sub (fun _ h => (List.mem_append_left _ (List.mem_append_left _ (List.mem_append_left _ (List.mem_append_left _ (List.mem_append_left _ (List.mem_append_left _ (List.mem_append_left _ (List.mem_append_left _ (List.mem_append_right _ h)))))))))) gwX8))
set_option maxRecDepth 20000 in
theorem gL_law_X8_trace : GoodIn wsL_law (wsV RL 135 RX8 yX8_trace wsX8_trace) := goodIn_app (goodIn_of _ (by decide +kernel)) ggL_law_X8_trace
theorem bdL_law_0 : decode cL_law 0 = .ok (.new 7, 3) ∧ decode cL_law 3 = .ok (.dup, 1) ∧ decode cL_law 4 = .ok (.invokespecial 9, 3) ∧ decode cL_law 7 = .ok (.astore_n 1, 1) ∧ decode cL_law 8 = .ok (.new 10, 3) ∧ decode cL_law 11 = .ok (.dup, 1) ∧ decode cL_law 12 = .ok (.invokespecial 12, 3) ∧ decode cL_law 15 = .ok (.astore_n 2, 1) := by decide +kernel
theorem dL_law_0 : decode cL_law 0 = .ok (.new 7, 3) := bdL_law_0.1
theorem dL_law_3 : decode cL_law 3 = .ok (.dup, 1) := bdL_law_0.2.1
theorem dL_law_4 : decode cL_law 4 = .ok (.invokespecial 9, 3) := bdL_law_0.2.2.1
theorem dL_law_7 : decode cL_law 7 = .ok (.astore_n 1, 1) := bdL_law_0.2.2.2.1
theorem dL_law_8 : decode cL_law 8 = .ok (.new 10, 3) := bdL_law_0.2.2.2.2.1
theorem dL_law_11 : decode cL_law 11 = .ok (.dup, 1) := bdL_law_0.2.2.2.2.2.1
theorem dL_law_12 : decode cL_law 12 = .ok (.invokespecial 12, 3) := bdL_law_0.2.2.2.2.2.2.1
theorem dL_law_15 : decode cL_law 15 = .ok (.astore_n 2, 1) := bdL_law_0.2.2.2.2.2.2.2
theorem bdL_law_16 : decode cL_law 16 = .ok (.iconst 0, 1) ∧ decode cL_law 17 = .ok (.istore_n 3, 1) ∧ decode cL_law 18 = .ok (.iload_n 3, 1) ∧ decode cL_law 19 = .ok (.aload_n 0, 1) ∧ decode cL_law 20 = .ok (.arraylength, 1) ∧ decode cL_law 21 = .ok (.bipush 6, 2) ∧ decode cL_law 23 = .ok (.isub, 1) ∧ decode cL_law 24 = .ok (.if_icmp .gt 1004, 3) := by decide +kernel
theorem dL_law_16 : decode cL_law 16 = .ok (.iconst 0, 1) := bdL_law_16.1
theorem dL_law_17 : decode cL_law 17 = .ok (.istore_n 3, 1) := bdL_law_16.2.1
theorem dL_law_18 : decode cL_law 18 = .ok (.iload_n 3, 1) := bdL_law_16.2.2.1
theorem dL_law_19 : decode cL_law 19 = .ok (.aload_n 0, 1) := bdL_law_16.2.2.2.1
theorem dL_law_20 : decode cL_law 20 = .ok (.arraylength, 1) := bdL_law_16.2.2.2.2.1
theorem dL_law_21 : decode cL_law 21 = .ok (.bipush 6, 2) := bdL_law_16.2.2.2.2.2.1
theorem dL_law_23 : decode cL_law 23 = .ok (.isub, 1) := bdL_law_16.2.2.2.2.2.2.1
theorem dL_law_24 : decode cL_law 24 = .ok (.if_icmp .gt 1004, 3) := bdL_law_16.2.2.2.2.2.2.2
theorem bdL_law_27 : decode cL_law 27 = .ok (.aload_n 0, 1) ∧ decode cL_law 28 = .ok (.iload_n 3, 1) ∧ decode cL_law 29 = .ok (.iaload, 1) ∧ decode cL_law 30 = .ok (.bipush 31, 2) ∧ decode cL_law 32 = .ok (.iand, 1) ∧ decode cL_law 33 = .ok (.tableswitch 989 0 28 #[131, 154, 167, 180, 213, 246, 269, 302, 365, 388, 411, 434, 467, 480, 503, 566, 609, 662, 705, 738, 801, 834, 847, 860, 873, 906, 929, 952, 975], 131) ∧ decode cL_law 164 = .ok (.aload_n 1, 1) ∧ decode cL_law 165 = .ok (.aload_n 0, 1) := by decide +kernel
theorem dL_law_27 : decode cL_law 27 = .ok (.aload_n 0, 1) := bdL_law_27.1
theorem dL_law_28 : decode cL_law 28 = .ok (.iload_n 3, 1) := bdL_law_27.2.1
theorem dL_law_29 : decode cL_law 29 = .ok (.iaload, 1) := bdL_law_27.2.2.1
theorem dL_law_30 : decode cL_law 30 = .ok (.bipush 31, 2) := bdL_law_27.2.2.2.1
theorem dL_law_32 : decode cL_law 32 = .ok (.iand, 1) := bdL_law_27.2.2.2.2.1
theorem dL_law_33 : decode cL_law 33 = .ok (.tableswitch 989 0 28 #[131, 154, 167, 180, 213, 246, 269, 302, 365, 388, 411, 434, 467, 480, 503, 566, 609, 662, 705, 738, 801, 834, 847, 860, 873, 906, 929, 952, 975], 131) := bdL_law_27.2.2.2.2.2.1
theorem dL_law_164 : decode cL_law 164 = .ok (.aload_n 1, 1) := bdL_law_27.2.2.2.2.2.2.1
theorem dL_law_165 : decode cL_law 165 = .ok (.aload_n 0, 1) := bdL_law_27.2.2.2.2.2.2.2
theorem bdL_law_166 : decode cL_law 166 = .ok (.iload_n 3, 1) ∧ decode cL_law 167 = .ok (.iconst 1, 1) ∧ decode cL_law 168 = .ok (.iadd, 1) ∧ decode cL_law 169 = .ok (.iaload, 1) ∧ decode cL_law 170 = .ok (.invokevirtual 13, 3) ∧ decode cL_law 173 = .ok (.pop, 1) ∧ decode cL_law 174 = .ok (.aload_n 2, 1) ∧ decode cL_law 175 = .ok (.aload_n 0, 1) := by decide +kernel
theorem dL_law_166 : decode cL_law 166 = .ok (.iload_n 3, 1) := bdL_law_166.1
theorem dL_law_167 : decode cL_law 167 = .ok (.iconst 1, 1) := bdL_law_166.2.1
theorem dL_law_168 : decode cL_law 168 = .ok (.iadd, 1) := bdL_law_166.2.2.1
theorem dL_law_169 : decode cL_law 169 = .ok (.iaload, 1) := bdL_law_166.2.2.2.1
theorem dL_law_170 : decode cL_law 170 = .ok (.invokevirtual 13, 3) := bdL_law_166.2.2.2.2.1
theorem dL_law_173 : decode cL_law 173 = .ok (.pop, 1) := bdL_law_166.2.2.2.2.2.1
theorem dL_law_174 : decode cL_law 174 = .ok (.aload_n 2, 1) := bdL_law_166.2.2.2.2.2.2.1
theorem dL_law_175 : decode cL_law 175 = .ok (.aload_n 0, 1) := bdL_law_166.2.2.2.2.2.2.2
theorem bdL_law_176 : decode cL_law 176 = .ok (.iload_n 3, 1) ∧ decode cL_law 177 = .ok (.iconst 1, 1) ∧ decode cL_law 178 = .ok (.iadd, 1) ∧ decode cL_law 179 = .ok (.iaload, 1) ∧ decode cL_law 180 = .ok (.invokevirtual 17, 3) ∧ decode cL_law 183 = .ok (.pop, 1) ∧ decode cL_law 184 = .ok (.goto 838, 3) ∧ decode cL_law 187 = .ok (.aload_n 1, 1) := by decide +kernel
theorem dL_law_176 : decode cL_law 176 = .ok (.iload_n 3, 1) := bdL_law_176.1
theorem dL_law_177 : decode cL_law 177 = .ok (.iconst 1, 1) := bdL_law_176.2.1
theorem dL_law_178 : decode cL_law 178 = .ok (.iadd, 1) := bdL_law_176.2.2.1
theorem dL_law_179 : decode cL_law 179 = .ok (.iaload, 1) := bdL_law_176.2.2.2.1
theorem dL_law_180 : decode cL_law 180 = .ok (.invokevirtual 17, 3) := bdL_law_176.2.2.2.2.1
theorem dL_law_183 : decode cL_law 183 = .ok (.pop, 1) := bdL_law_176.2.2.2.2.2.1
theorem dL_law_184 : decode cL_law 184 = .ok (.goto 838, 3) := bdL_law_176.2.2.2.2.2.2.1
theorem dL_law_187 : decode cL_law 187 = .ok (.aload_n 1, 1) := bdL_law_176.2.2.2.2.2.2.2
theorem bdL_law_188 : decode cL_law 188 = .ok (.invokevirtual 18, 3) ∧ decode cL_law 191 = .ok (.pop, 1) ∧ decode cL_law 192 = .ok (.aload_n 2, 1) ∧ decode cL_law 193 = .ok (.invokevirtual 22, 3) ∧ decode cL_law 196 = .ok (.pop, 1) ∧ decode cL_law 197 = .ok (.goto 825, 3) ∧ decode cL_law 200 = .ok (.aload_n 1, 1) ∧ decode cL_law 201 = .ok (.invokevirtual 23, 3) := by decide +kernel
theorem dL_law_188 : decode cL_law 188 = .ok (.invokevirtual 18, 3) := bdL_law_188.1
theorem dL_law_191 : decode cL_law 191 = .ok (.pop, 1) := bdL_law_188.2.1
theorem dL_law_192 : decode cL_law 192 = .ok (.aload_n 2, 1) := bdL_law_188.2.2.1
theorem dL_law_193 : decode cL_law 193 = .ok (.invokevirtual 22, 3) := bdL_law_188.2.2.2.1
theorem dL_law_196 : decode cL_law 196 = .ok (.pop, 1) := bdL_law_188.2.2.2.2.1
theorem dL_law_197 : decode cL_law 197 = .ok (.goto 825, 3) := bdL_law_188.2.2.2.2.2.1
theorem dL_law_200 : decode cL_law 200 = .ok (.aload_n 1, 1) := bdL_law_188.2.2.2.2.2.2.1
theorem dL_law_201 : decode cL_law 201 = .ok (.invokevirtual 23, 3) := bdL_law_188.2.2.2.2.2.2.2
theorem bdL_law_204 : decode cL_law 204 = .ok (.pop, 1) ∧ decode cL_law 205 = .ok (.aload_n 2, 1) ∧ decode cL_law 206 = .ok (.invokevirtual 26, 3) ∧ decode cL_law 209 = .ok (.pop, 1) ∧ decode cL_law 210 = .ok (.goto 812, 3) ∧ decode cL_law 213 = .ok (.aload_n 1, 1) ∧ decode cL_law 214 = .ok (.aload_n 0, 1) ∧ decode cL_law 215 = .ok (.iload_n 3, 1) := by decide +kernel
theorem dL_law_204 : decode cL_law 204 = .ok (.pop, 1) := bdL_law_204.1
theorem dL_law_205 : decode cL_law 205 = .ok (.aload_n 2, 1) := bdL_law_204.2.1
theorem dL_law_206 : decode cL_law 206 = .ok (.invokevirtual 26, 3) := bdL_law_204.2.2.1
theorem dL_law_209 : decode cL_law 209 = .ok (.pop, 1) := bdL_law_204.2.2.2.1
theorem dL_law_210 : decode cL_law 210 = .ok (.goto 812, 3) := bdL_law_204.2.2.2.2.1
theorem dL_law_213 : decode cL_law 213 = .ok (.aload_n 1, 1) := bdL_law_204.2.2.2.2.2.1
theorem dL_law_214 : decode cL_law 214 = .ok (.aload_n 0, 1) := bdL_law_204.2.2.2.2.2.2.1
theorem dL_law_215 : decode cL_law 215 = .ok (.iload_n 3, 1) := bdL_law_204.2.2.2.2.2.2.2
theorem bdL_law_216 : decode cL_law 216 = .ok (.iconst 1, 1) ∧ decode cL_law 217 = .ok (.iadd, 1) ∧ decode cL_law 218 = .ok (.iaload, 1) ∧ decode cL_law 219 = .ok (.aload_n 0, 1) ∧ decode cL_law 220 = .ok (.iload_n 3, 1) ∧ decode cL_law 221 = .ok (.iconst 2, 1) ∧ decode cL_law 222 = .ok (.iadd, 1) ∧ decode cL_law 223 = .ok (.iaload, 1) := by decide +kernel
theorem dL_law_216 : decode cL_law 216 = .ok (.iconst 1, 1) := bdL_law_216.1
theorem dL_law_217 : decode cL_law 217 = .ok (.iadd, 1) := bdL_law_216.2.1
theorem dL_law_218 : decode cL_law 218 = .ok (.iaload, 1) := bdL_law_216.2.2.1
theorem dL_law_219 : decode cL_law 219 = .ok (.aload_n 0, 1) := bdL_law_216.2.2.2.1
theorem dL_law_220 : decode cL_law 220 = .ok (.iload_n 3, 1) := bdL_law_216.2.2.2.2.1
theorem dL_law_221 : decode cL_law 221 = .ok (.iconst 2, 1) := bdL_law_216.2.2.2.2.2.1
theorem dL_law_222 : decode cL_law 222 = .ok (.iadd, 1) := bdL_law_216.2.2.2.2.2.2.1
theorem dL_law_223 : decode cL_law 223 = .ok (.iaload, 1) := bdL_law_216.2.2.2.2.2.2.2
theorem bdL_law_224 : decode cL_law 224 = .ok (.invokevirtual 27, 3) ∧ decode cL_law 227 = .ok (.pop, 1) ∧ decode cL_law 228 = .ok (.aload_n 2, 1) ∧ decode cL_law 229 = .ok (.aload_n 0, 1) ∧ decode cL_law 230 = .ok (.iload_n 3, 1) ∧ decode cL_law 231 = .ok (.iconst 1, 1) ∧ decode cL_law 232 = .ok (.iadd, 1) ∧ decode cL_law 233 = .ok (.iaload, 1) := by decide +kernel
theorem dL_law_224 : decode cL_law 224 = .ok (.invokevirtual 27, 3) := bdL_law_224.1
theorem dL_law_227 : decode cL_law 227 = .ok (.pop, 1) := bdL_law_224.2.1
theorem dL_law_228 : decode cL_law 228 = .ok (.aload_n 2, 1) := bdL_law_224.2.2.1
theorem dL_law_229 : decode cL_law 229 = .ok (.aload_n 0, 1) := bdL_law_224.2.2.2.1
theorem dL_law_230 : decode cL_law 230 = .ok (.iload_n 3, 1) := bdL_law_224.2.2.2.2.1
theorem dL_law_231 : decode cL_law 231 = .ok (.iconst 1, 1) := bdL_law_224.2.2.2.2.2.1
theorem dL_law_232 : decode cL_law 232 = .ok (.iadd, 1) := bdL_law_224.2.2.2.2.2.2.1
theorem dL_law_233 : decode cL_law 233 = .ok (.iaload, 1) := bdL_law_224.2.2.2.2.2.2.2
theorem bdL_law_234 : decode cL_law 234 = .ok (.aload_n 0, 1) ∧ decode cL_law 235 = .ok (.iload_n 3, 1) ∧ decode cL_law 236 = .ok (.iconst 2, 1) ∧ decode cL_law 237 = .ok (.iadd, 1) ∧ decode cL_law 238 = .ok (.iaload, 1) ∧ decode cL_law 239 = .ok (.invokevirtual 31, 3) ∧ decode cL_law 242 = .ok (.pop, 1) ∧ decode cL_law 243 = .ok (.goto 779, 3) := by decide +kernel
theorem dL_law_234 : decode cL_law 234 = .ok (.aload_n 0, 1) := bdL_law_234.1
theorem dL_law_235 : decode cL_law 235 = .ok (.iload_n 3, 1) := bdL_law_234.2.1
theorem dL_law_236 : decode cL_law 236 = .ok (.iconst 2, 1) := bdL_law_234.2.2.1
theorem dL_law_237 : decode cL_law 237 = .ok (.iadd, 1) := bdL_law_234.2.2.2.1
theorem dL_law_238 : decode cL_law 238 = .ok (.iaload, 1) := bdL_law_234.2.2.2.2.1
theorem dL_law_239 : decode cL_law 239 = .ok (.invokevirtual 31, 3) := bdL_law_234.2.2.2.2.2.1
theorem dL_law_242 : decode cL_law 242 = .ok (.pop, 1) := bdL_law_234.2.2.2.2.2.2.1
theorem dL_law_243 : decode cL_law 243 = .ok (.goto 779, 3) := bdL_law_234.2.2.2.2.2.2.2
theorem bdL_law_246 : decode cL_law 246 = .ok (.aload_n 1, 1) ∧ decode cL_law 247 = .ok (.aload_n 0, 1) ∧ decode cL_law 248 = .ok (.iload_n 3, 1) ∧ decode cL_law 249 = .ok (.iconst 1, 1) ∧ decode cL_law 250 = .ok (.iadd, 1) ∧ decode cL_law 251 = .ok (.iaload, 1) ∧ decode cL_law 252 = .ok (.aload_n 0, 1) ∧ decode cL_law 253 = .ok (.iload_n 3, 1) := by decide +kernel
theorem dL_law_246 : decode cL_law 246 = .ok (.aload_n 1, 1) := bdL_law_246.1
theorem dL_law_247 : decode cL_law 247 = .ok (.aload_n 0, 1) := bdL_law_246.2.1
theorem dL_law_248 : decode cL_law 248 = .ok (.iload_n 3, 1) := bdL_law_246.2.2.1
theorem dL_law_249 : decode cL_law 249 = .ok (.iconst 1, 1) := bdL_law_246.2.2.2.1
theorem dL_law_250 : decode cL_law 250 = .ok (.iadd, 1) := bdL_law_246.2.2.2.2.1
theorem dL_law_251 : decode cL_law 251 = .ok (.iaload, 1) := bdL_law_246.2.2.2.2.2.1
theorem dL_law_252 : decode cL_law 252 = .ok (.aload_n 0, 1) := bdL_law_246.2.2.2.2.2.2.1
theorem dL_law_253 : decode cL_law 253 = .ok (.iload_n 3, 1) := bdL_law_246.2.2.2.2.2.2.2
theorem bdL_law_254 : decode cL_law 254 = .ok (.iconst 2, 1) ∧ decode cL_law 255 = .ok (.iadd, 1) ∧ decode cL_law 256 = .ok (.iaload, 1) ∧ decode cL_law 257 = .ok (.invokevirtual 32, 3) ∧ decode cL_law 260 = .ok (.pop, 1) ∧ decode cL_law 261 = .ok (.aload_n 2, 1) ∧ decode cL_law 262 = .ok (.aload_n 0, 1) ∧ decode cL_law 263 = .ok (.iload_n 3, 1) := by decide +kernel
theorem dL_law_254 : decode cL_law 254 = .ok (.iconst 2, 1) := bdL_law_254.1
theorem dL_law_255 : decode cL_law 255 = .ok (.iadd, 1) := bdL_law_254.2.1
theorem dL_law_256 : decode cL_law 256 = .ok (.iaload, 1) := bdL_law_254.2.2.1
theorem dL_law_257 : decode cL_law 257 = .ok (.invokevirtual 32, 3) := bdL_law_254.2.2.2.1
theorem dL_law_260 : decode cL_law 260 = .ok (.pop, 1) := bdL_law_254.2.2.2.2.1
theorem dL_law_261 : decode cL_law 261 = .ok (.aload_n 2, 1) := bdL_law_254.2.2.2.2.2.1
theorem dL_law_262 : decode cL_law 262 = .ok (.aload_n 0, 1) := bdL_law_254.2.2.2.2.2.2.1
theorem dL_law_263 : decode cL_law 263 = .ok (.iload_n 3, 1) := bdL_law_254.2.2.2.2.2.2.2
theorem bdL_law_264 : decode cL_law 264 = .ok (.iconst 1, 1) ∧ decode cL_law 265 = .ok (.iadd, 1) ∧ decode cL_law 266 = .ok (.iaload, 1) ∧ decode cL_law 267 = .ok (.aload_n 0, 1) ∧ decode cL_law 268 = .ok (.iload_n 3, 1) ∧ decode cL_law 269 = .ok (.iconst 2, 1) ∧ decode cL_law 270 = .ok (.iadd, 1) ∧ decode cL_law 271 = .ok (.iaload, 1) := by decide +kernel
theorem dL_law_264 : decode cL_law 264 = .ok (.iconst 1, 1) := bdL_law_264.1
theorem dL_law_265 : decode cL_law 265 = .ok (.iadd, 1) := bdL_law_264.2.1
theorem dL_law_266 : decode cL_law 266 = .ok (.iaload, 1) := bdL_law_264.2.2.1
theorem dL_law_267 : decode cL_law 267 = .ok (.aload_n 0, 1) := bdL_law_264.2.2.2.1
theorem dL_law_268 : decode cL_law 268 = .ok (.iload_n 3, 1) := bdL_law_264.2.2.2.2.1
theorem dL_law_269 : decode cL_law 269 = .ok (.iconst 2, 1) := bdL_law_264.2.2.2.2.2.1
theorem dL_law_270 : decode cL_law 270 = .ok (.iadd, 1) := bdL_law_264.2.2.2.2.2.2.1
theorem dL_law_271 : decode cL_law 271 = .ok (.iaload, 1) := bdL_law_264.2.2.2.2.2.2.2
theorem bdL_law_272 : decode cL_law 272 = .ok (.invokevirtual 35, 3) ∧ decode cL_law 275 = .ok (.pop, 1) ∧ decode cL_law 276 = .ok (.goto 746, 3) ∧ decode cL_law 279 = .ok (.aload_n 1, 1) ∧ decode cL_law 280 = .ok (.aload_n 0, 1) ∧ decode cL_law 281 = .ok (.iload_n 3, 1) ∧ decode cL_law 282 = .ok (.iconst 1, 1) ∧ decode cL_law 283 = .ok (.iadd, 1) := by decide +kernel
theorem dL_law_272 : decode cL_law 272 = .ok (.invokevirtual 35, 3) := bdL_law_272.1
theorem dL_law_275 : decode cL_law 275 = .ok (.pop, 1) := bdL_law_272.2.1
theorem dL_law_276 : decode cL_law 276 = .ok (.goto 746, 3) := bdL_law_272.2.2.1
theorem dL_law_279 : decode cL_law 279 = .ok (.aload_n 1, 1) := bdL_law_272.2.2.2.1
theorem dL_law_280 : decode cL_law 280 = .ok (.aload_n 0, 1) := bdL_law_272.2.2.2.2.1
theorem dL_law_281 : decode cL_law 281 = .ok (.iload_n 3, 1) := bdL_law_272.2.2.2.2.2.1
theorem dL_law_282 : decode cL_law 282 = .ok (.iconst 1, 1) := bdL_law_272.2.2.2.2.2.2.1
theorem dL_law_283 : decode cL_law 283 = .ok (.iadd, 1) := bdL_law_272.2.2.2.2.2.2.2
theorem bdL_law_284 : decode cL_law 284 = .ok (.iaload, 1) ∧ decode cL_law 285 = .ok (.invokevirtual 36, 3) ∧ decode cL_law 288 = .ok (.pop, 1) ∧ decode cL_law 289 = .ok (.aload_n 2, 1) ∧ decode cL_law 290 = .ok (.aload_n 0, 1) ∧ decode cL_law 291 = .ok (.iload_n 3, 1) ∧ decode cL_law 292 = .ok (.iconst 1, 1) ∧ decode cL_law 293 = .ok (.iadd, 1) := by decide +kernel
theorem dL_law_284 : decode cL_law 284 = .ok (.iaload, 1) := bdL_law_284.1
theorem dL_law_285 : decode cL_law 285 = .ok (.invokevirtual 36, 3) := bdL_law_284.2.1
theorem dL_law_288 : decode cL_law 288 = .ok (.pop, 1) := bdL_law_284.2.2.1
theorem dL_law_289 : decode cL_law 289 = .ok (.aload_n 2, 1) := bdL_law_284.2.2.2.1
theorem dL_law_290 : decode cL_law 290 = .ok (.aload_n 0, 1) := bdL_law_284.2.2.2.2.1
theorem dL_law_291 : decode cL_law 291 = .ok (.iload_n 3, 1) := bdL_law_284.2.2.2.2.2.1
theorem dL_law_292 : decode cL_law 292 = .ok (.iconst 1, 1) := bdL_law_284.2.2.2.2.2.2.1
theorem dL_law_293 : decode cL_law 293 = .ok (.iadd, 1) := bdL_law_284.2.2.2.2.2.2.2
theorem bdL_law_294 : decode cL_law 294 = .ok (.iaload, 1) ∧ decode cL_law 295 = .ok (.invokevirtual 39, 3) ∧ decode cL_law 298 = .ok (.pop, 1) ∧ decode cL_law 299 = .ok (.goto 723, 3) ∧ decode cL_law 302 = .ok (.aload_n 1, 1) ∧ decode cL_law 303 = .ok (.aload_n 0, 1) ∧ decode cL_law 304 = .ok (.iload_n 3, 1) ∧ decode cL_law 305 = .ok (.iconst 1, 1) := by decide +kernel
theorem dL_law_294 : decode cL_law 294 = .ok (.iaload, 1) := bdL_law_294.1
theorem dL_law_295 : decode cL_law 295 = .ok (.invokevirtual 39, 3) := bdL_law_294.2.1
theorem dL_law_298 : decode cL_law 298 = .ok (.pop, 1) := bdL_law_294.2.2.1
theorem dL_law_299 : decode cL_law 299 = .ok (.goto 723, 3) := bdL_law_294.2.2.2.1
theorem dL_law_302 : decode cL_law 302 = .ok (.aload_n 1, 1) := bdL_law_294.2.2.2.2.1
theorem dL_law_303 : decode cL_law 303 = .ok (.aload_n 0, 1) := bdL_law_294.2.2.2.2.2.1
theorem dL_law_304 : decode cL_law 304 = .ok (.iload_n 3, 1) := bdL_law_294.2.2.2.2.2.2.1
theorem dL_law_305 : decode cL_law 305 = .ok (.iconst 1, 1) := bdL_law_294.2.2.2.2.2.2.2
theorem bdL_law_306 : decode cL_law 306 = .ok (.iadd, 1) ∧ decode cL_law 307 = .ok (.iaload, 1) ∧ decode cL_law 308 = .ok (.aload_n 0, 1) ∧ decode cL_law 309 = .ok (.iload_n 3, 1) ∧ decode cL_law 310 = .ok (.iconst 2, 1) ∧ decode cL_law 311 = .ok (.iadd, 1) ∧ decode cL_law 312 = .ok (.iaload, 1) ∧ decode cL_law 313 = .ok (.invokevirtual 40, 3) := by decide +kernel
theorem dL_law_306 : decode cL_law 306 = .ok (.iadd, 1) := bdL_law_306.1
theorem dL_law_307 : decode cL_law 307 = .ok (.iaload, 1) := bdL_law_306.2.1
theorem dL_law_308 : decode cL_law 308 = .ok (.aload_n 0, 1) := bdL_law_306.2.2.1
theorem dL_law_309 : decode cL_law 309 = .ok (.iload_n 3, 1) := bdL_law_306.2.2.2.1
theorem dL_law_310 : decode cL_law 310 = .ok (.iconst 2, 1) := bdL_law_306.2.2.2.2.1
theorem dL_law_311 : decode cL_law 311 = .ok (.iadd, 1) := bdL_law_306.2.2.2.2.2.1
theorem dL_law_312 : decode cL_law 312 = .ok (.iaload, 1) := bdL_law_306.2.2.2.2.2.2.1
theorem dL_law_313 : decode cL_law 313 = .ok (.invokevirtual 40, 3) := bdL_law_306.2.2.2.2.2.2.2
theorem bdL_law_316 : decode cL_law 316 = .ok (.pop, 1) ∧ decode cL_law 317 = .ok (.aload_n 2, 1) ∧ decode cL_law 318 = .ok (.aload_n 0, 1) ∧ decode cL_law 319 = .ok (.iload_n 3, 1) ∧ decode cL_law 320 = .ok (.iconst 1, 1) ∧ decode cL_law 321 = .ok (.iadd, 1) ∧ decode cL_law 322 = .ok (.iaload, 1) ∧ decode cL_law 323 = .ok (.aload_n 0, 1) := by decide +kernel
theorem dL_law_316 : decode cL_law 316 = .ok (.pop, 1) := bdL_law_316.1
theorem dL_law_317 : decode cL_law 317 = .ok (.aload_n 2, 1) := bdL_law_316.2.1
theorem dL_law_318 : decode cL_law 318 = .ok (.aload_n 0, 1) := bdL_law_316.2.2.1
theorem dL_law_319 : decode cL_law 319 = .ok (.iload_n 3, 1) := bdL_law_316.2.2.2.1
theorem dL_law_320 : decode cL_law 320 = .ok (.iconst 1, 1) := bdL_law_316.2.2.2.2.1
theorem dL_law_321 : decode cL_law 321 = .ok (.iadd, 1) := bdL_law_316.2.2.2.2.2.1
theorem dL_law_322 : decode cL_law 322 = .ok (.iaload, 1) := bdL_law_316.2.2.2.2.2.2.1
theorem dL_law_323 : decode cL_law 323 = .ok (.aload_n 0, 1) := bdL_law_316.2.2.2.2.2.2.2
theorem bdL_law_324 : decode cL_law 324 = .ok (.iload_n 3, 1) ∧ decode cL_law 325 = .ok (.iconst 2, 1) ∧ decode cL_law 326 = .ok (.iadd, 1) ∧ decode cL_law 327 = .ok (.iaload, 1) ∧ decode cL_law 328 = .ok (.invokevirtual 43, 3) ∧ decode cL_law 331 = .ok (.pop, 1) ∧ decode cL_law 332 = .ok (.goto 690, 3) ∧ decode cL_law 335 = .ok (.aload_n 1, 1) := by decide +kernel
theorem dL_law_324 : decode cL_law 324 = .ok (.iload_n 3, 1) := bdL_law_324.1
theorem dL_law_325 : decode cL_law 325 = .ok (.iconst 2, 1) := bdL_law_324.2.1
theorem dL_law_326 : decode cL_law 326 = .ok (.iadd, 1) := bdL_law_324.2.2.1
theorem dL_law_327 : decode cL_law 327 = .ok (.iaload, 1) := bdL_law_324.2.2.2.1
theorem dL_law_328 : decode cL_law 328 = .ok (.invokevirtual 43, 3) := bdL_law_324.2.2.2.2.1
theorem dL_law_331 : decode cL_law 331 = .ok (.pop, 1) := bdL_law_324.2.2.2.2.2.1
theorem dL_law_332 : decode cL_law 332 = .ok (.goto 690, 3) := bdL_law_324.2.2.2.2.2.2.1
theorem dL_law_335 : decode cL_law 335 = .ok (.aload_n 1, 1) := bdL_law_324.2.2.2.2.2.2.2
theorem bdL_law_336 : decode cL_law 336 = .ok (.aload_n 0, 1) ∧ decode cL_law 337 = .ok (.iload_n 3, 1) ∧ decode cL_law 338 = .ok (.iconst 1, 1) ∧ decode cL_law 339 = .ok (.iadd, 1) ∧ decode cL_law 340 = .ok (.iaload, 1) ∧ decode cL_law 341 = .ok (.aload_n 0, 1) ∧ decode cL_law 342 = .ok (.iload_n 3, 1) ∧ decode cL_law 343 = .ok (.iconst 2, 1) := by decide +kernel
theorem dL_law_336 : decode cL_law 336 = .ok (.aload_n 0, 1) := bdL_law_336.1
theorem dL_law_337 : decode cL_law 337 = .ok (.iload_n 3, 1) := bdL_law_336.2.1
theorem dL_law_338 : decode cL_law 338 = .ok (.iconst 1, 1) := bdL_law_336.2.2.1
theorem dL_law_339 : decode cL_law 339 = .ok (.iadd, 1) := bdL_law_336.2.2.2.1
theorem dL_law_340 : decode cL_law 340 = .ok (.iaload, 1) := bdL_law_336.2.2.2.2.1
theorem dL_law_341 : decode cL_law 341 = .ok (.aload_n 0, 1) := bdL_law_336.2.2.2.2.2.1
theorem dL_law_342 : decode cL_law 342 = .ok (.iload_n 3, 1) := bdL_law_336.2.2.2.2.2.2.1
theorem dL_law_343 : decode cL_law 343 = .ok (.iconst 2, 1) := bdL_law_336.2.2.2.2.2.2.2
theorem bdL_law_344 : decode cL_law 344 = .ok (.iadd, 1) ∧ decode cL_law 345 = .ok (.iaload, 1) ∧ decode cL_law 346 = .ok (.aload_n 0, 1) ∧ decode cL_law 347 = .ok (.iload_n 3, 1) ∧ decode cL_law 348 = .ok (.iconst 3, 1) ∧ decode cL_law 349 = .ok (.iadd, 1) ∧ decode cL_law 350 = .ok (.iaload, 1) ∧ decode cL_law 351 = .ok (.aload_n 0, 1) := by decide +kernel
theorem dL_law_344 : decode cL_law 344 = .ok (.iadd, 1) := bdL_law_344.1
theorem dL_law_345 : decode cL_law 345 = .ok (.iaload, 1) := bdL_law_344.2.1
theorem dL_law_346 : decode cL_law 346 = .ok (.aload_n 0, 1) := bdL_law_344.2.2.1
theorem dL_law_347 : decode cL_law 347 = .ok (.iload_n 3, 1) := bdL_law_344.2.2.2.1
theorem dL_law_348 : decode cL_law 348 = .ok (.iconst 3, 1) := bdL_law_344.2.2.2.2.1
theorem dL_law_349 : decode cL_law 349 = .ok (.iadd, 1) := bdL_law_344.2.2.2.2.2.1
theorem dL_law_350 : decode cL_law 350 = .ok (.iaload, 1) := bdL_law_344.2.2.2.2.2.2.1
theorem dL_law_351 : decode cL_law 351 = .ok (.aload_n 0, 1) := bdL_law_344.2.2.2.2.2.2.2
theorem bdL_law_352 : decode cL_law 352 = .ok (.iload_n 3, 1) ∧ decode cL_law 353 = .ok (.iconst 4, 1) ∧ decode cL_law 354 = .ok (.iadd, 1) ∧ decode cL_law 355 = .ok (.iaload, 1) ∧ decode cL_law 356 = .ok (.aload_n 0, 1) ∧ decode cL_law 357 = .ok (.iload_n 3, 1) ∧ decode cL_law 358 = .ok (.iconst 5, 1) ∧ decode cL_law 359 = .ok (.iadd, 1) := by decide +kernel
theorem dL_law_352 : decode cL_law 352 = .ok (.iload_n 3, 1) := bdL_law_352.1
theorem dL_law_353 : decode cL_law 353 = .ok (.iconst 4, 1) := bdL_law_352.2.1
theorem dL_law_354 : decode cL_law 354 = .ok (.iadd, 1) := bdL_law_352.2.2.1
theorem dL_law_355 : decode cL_law 355 = .ok (.iaload, 1) := bdL_law_352.2.2.2.1
theorem dL_law_356 : decode cL_law 356 = .ok (.aload_n 0, 1) := bdL_law_352.2.2.2.2.1
theorem dL_law_357 : decode cL_law 357 = .ok (.iload_n 3, 1) := bdL_law_352.2.2.2.2.2.1
theorem dL_law_358 : decode cL_law 358 = .ok (.iconst 5, 1) := bdL_law_352.2.2.2.2.2.2.1
theorem dL_law_359 : decode cL_law 359 = .ok (.iadd, 1) := bdL_law_352.2.2.2.2.2.2.2
theorem bdL_law_360 : decode cL_law 360 = .ok (.iaload, 1) ∧ decode cL_law 361 = .ok (.invokevirtual 44, 3) ∧ decode cL_law 364 = .ok (.pop, 1) ∧ decode cL_law 365 = .ok (.aload_n 2, 1) ∧ decode cL_law 366 = .ok (.aload_n 0, 1) ∧ decode cL_law 367 = .ok (.iload_n 3, 1) ∧ decode cL_law 368 = .ok (.iconst 1, 1) ∧ decode cL_law 369 = .ok (.iadd, 1) := by decide +kernel
theorem dL_law_360 : decode cL_law 360 = .ok (.iaload, 1) := bdL_law_360.1
theorem dL_law_361 : decode cL_law 361 = .ok (.invokevirtual 44, 3) := bdL_law_360.2.1
theorem dL_law_364 : decode cL_law 364 = .ok (.pop, 1) := bdL_law_360.2.2.1
theorem dL_law_365 : decode cL_law 365 = .ok (.aload_n 2, 1) := bdL_law_360.2.2.2.1
theorem dL_law_366 : decode cL_law 366 = .ok (.aload_n 0, 1) := bdL_law_360.2.2.2.2.1
theorem dL_law_367 : decode cL_law 367 = .ok (.iload_n 3, 1) := bdL_law_360.2.2.2.2.2.1
theorem dL_law_368 : decode cL_law 368 = .ok (.iconst 1, 1) := bdL_law_360.2.2.2.2.2.2.1
theorem dL_law_369 : decode cL_law 369 = .ok (.iadd, 1) := bdL_law_360.2.2.2.2.2.2.2
theorem bdL_law_370 : decode cL_law 370 = .ok (.iaload, 1) ∧ decode cL_law 371 = .ok (.aload_n 0, 1) ∧ decode cL_law 372 = .ok (.iload_n 3, 1) ∧ decode cL_law 373 = .ok (.iconst 2, 1) ∧ decode cL_law 374 = .ok (.iadd, 1) ∧ decode cL_law 375 = .ok (.iaload, 1) ∧ decode cL_law 376 = .ok (.aload_n 0, 1) ∧ decode cL_law 377 = .ok (.iload_n 3, 1) := by decide +kernel
theorem dL_law_370 : decode cL_law 370 = .ok (.iaload, 1) := bdL_law_370.1
theorem dL_law_371 : decode cL_law 371 = .ok (.aload_n 0, 1) := bdL_law_370.2.1
theorem dL_law_372 : decode cL_law 372 = .ok (.iload_n 3, 1) := bdL_law_370.2.2.1
theorem dL_law_373 : decode cL_law 373 = .ok (.iconst 2, 1) := bdL_law_370.2.2.2.1
theorem dL_law_374 : decode cL_law 374 = .ok (.iadd, 1) := bdL_law_370.2.2.2.2.1
theorem dL_law_375 : decode cL_law 375 = .ok (.iaload, 1) := bdL_law_370.2.2.2.2.2.1
theorem dL_law_376 : decode cL_law 376 = .ok (.aload_n 0, 1) := bdL_law_370.2.2.2.2.2.2.1
theorem dL_law_377 : decode cL_law 377 = .ok (.iload_n 3, 1) := bdL_law_370.2.2.2.2.2.2.2
theorem bdL_law_378 : decode cL_law 378 = .ok (.iconst 3, 1) ∧ decode cL_law 379 = .ok (.iadd, 1) ∧ decode cL_law 380 = .ok (.iaload, 1) ∧ decode cL_law 381 = .ok (.aload_n 0, 1) ∧ decode cL_law 382 = .ok (.iload_n 3, 1) ∧ decode cL_law 383 = .ok (.iconst 4, 1) ∧ decode cL_law 384 = .ok (.iadd, 1) ∧ decode cL_law 385 = .ok (.iaload, 1) := by decide +kernel
theorem dL_law_378 : decode cL_law 378 = .ok (.iconst 3, 1) := bdL_law_378.1
theorem dL_law_379 : decode cL_law 379 = .ok (.iadd, 1) := bdL_law_378.2.1
theorem dL_law_380 : decode cL_law 380 = .ok (.iaload, 1) := bdL_law_378.2.2.1
theorem dL_law_381 : decode cL_law 381 = .ok (.aload_n 0, 1) := bdL_law_378.2.2.2.1
theorem dL_law_382 : decode cL_law 382 = .ok (.iload_n 3, 1) := bdL_law_378.2.2.2.2.1
theorem dL_law_383 : decode cL_law 383 = .ok (.iconst 4, 1) := bdL_law_378.2.2.2.2.2.1
theorem dL_law_384 : decode cL_law 384 = .ok (.iadd, 1) := bdL_law_378.2.2.2.2.2.2.1
theorem dL_law_385 : decode cL_law 385 = .ok (.iaload, 1) := bdL_law_378.2.2.2.2.2.2.2
theorem bdL_law_386 : decode cL_law 386 = .ok (.aload_n 0, 1) ∧ decode cL_law 387 = .ok (.iload_n 3, 1) ∧ decode cL_law 388 = .ok (.iconst 5, 1) ∧ decode cL_law 389 = .ok (.iadd, 1) ∧ decode cL_law 390 = .ok (.iaload, 1) ∧ decode cL_law 391 = .ok (.invokevirtual 48, 3) ∧ decode cL_law 394 = .ok (.pop, 1) ∧ decode cL_law 395 = .ok (.goto 627, 3) := by decide +kernel
theorem dL_law_386 : decode cL_law 386 = .ok (.aload_n 0, 1) := bdL_law_386.1
theorem dL_law_387 : decode cL_law 387 = .ok (.iload_n 3, 1) := bdL_law_386.2.1
theorem dL_law_388 : decode cL_law 388 = .ok (.iconst 5, 1) := bdL_law_386.2.2.1
theorem dL_law_389 : decode cL_law 389 = .ok (.iadd, 1) := bdL_law_386.2.2.2.1
theorem dL_law_390 : decode cL_law 390 = .ok (.iaload, 1) := bdL_law_386.2.2.2.2.1
theorem dL_law_391 : decode cL_law 391 = .ok (.invokevirtual 48, 3) := bdL_law_386.2.2.2.2.2.1
theorem dL_law_394 : decode cL_law 394 = .ok (.pop, 1) := bdL_law_386.2.2.2.2.2.2.1
theorem dL_law_395 : decode cL_law 395 = .ok (.goto 627, 3) := bdL_law_386.2.2.2.2.2.2.2
theorem bdL_law_398 : decode cL_law 398 = .ok (.aload_n 1, 1) ∧ decode cL_law 399 = .ok (.aload_n 0, 1) ∧ decode cL_law 400 = .ok (.iload_n 3, 1) ∧ decode cL_law 401 = .ok (.iconst 1, 1) ∧ decode cL_law 402 = .ok (.iadd, 1) ∧ decode cL_law 403 = .ok (.iaload, 1) ∧ decode cL_law 404 = .ok (.invokevirtual 49, 3) ∧ decode cL_law 407 = .ok (.pop, 1) := by decide +kernel
theorem dL_law_398 : decode cL_law 398 = .ok (.aload_n 1, 1) := bdL_law_398.1
theorem dL_law_399 : decode cL_law 399 = .ok (.aload_n 0, 1) := bdL_law_398.2.1
theorem dL_law_400 : decode cL_law 400 = .ok (.iload_n 3, 1) := bdL_law_398.2.2.1
theorem dL_law_401 : decode cL_law 401 = .ok (.iconst 1, 1) := bdL_law_398.2.2.2.1
theorem dL_law_402 : decode cL_law 402 = .ok (.iadd, 1) := bdL_law_398.2.2.2.2.1
theorem dL_law_403 : decode cL_law 403 = .ok (.iaload, 1) := bdL_law_398.2.2.2.2.2.1
theorem dL_law_404 : decode cL_law 404 = .ok (.invokevirtual 49, 3) := bdL_law_398.2.2.2.2.2.2.1
theorem dL_law_407 : decode cL_law 407 = .ok (.pop, 1) := bdL_law_398.2.2.2.2.2.2.2
theorem bdL_law_408 : decode cL_law 408 = .ok (.aload_n 2, 1) ∧ decode cL_law 409 = .ok (.aload_n 0, 1) ∧ decode cL_law 410 = .ok (.iload_n 3, 1) ∧ decode cL_law 411 = .ok (.iconst 1, 1) ∧ decode cL_law 412 = .ok (.iadd, 1) ∧ decode cL_law 413 = .ok (.iaload, 1) ∧ decode cL_law 414 = .ok (.invokevirtual 52, 3) ∧ decode cL_law 417 = .ok (.pop, 1) := by decide +kernel
theorem dL_law_408 : decode cL_law 408 = .ok (.aload_n 2, 1) := bdL_law_408.1
theorem dL_law_409 : decode cL_law 409 = .ok (.aload_n 0, 1) := bdL_law_408.2.1
theorem dL_law_410 : decode cL_law 410 = .ok (.iload_n 3, 1) := bdL_law_408.2.2.1
theorem dL_law_411 : decode cL_law 411 = .ok (.iconst 1, 1) := bdL_law_408.2.2.2.1
theorem dL_law_412 : decode cL_law 412 = .ok (.iadd, 1) := bdL_law_408.2.2.2.2.1
theorem dL_law_413 : decode cL_law 413 = .ok (.iaload, 1) := bdL_law_408.2.2.2.2.2.1
theorem dL_law_414 : decode cL_law 414 = .ok (.invokevirtual 52, 3) := bdL_law_408.2.2.2.2.2.2.1
theorem dL_law_417 : decode cL_law 417 = .ok (.pop, 1) := bdL_law_408.2.2.2.2.2.2.2
theorem bdL_law_418 : decode cL_law 418 = .ok (.goto 604, 3) ∧ decode cL_law 421 = .ok (.aload_n 1, 1) ∧ decode cL_law 422 = .ok (.aload_n 0, 1) ∧ decode cL_law 423 = .ok (.iload_n 3, 1) ∧ decode cL_law 424 = .ok (.iconst 1, 1) ∧ decode cL_law 425 = .ok (.iadd, 1) ∧ decode cL_law 426 = .ok (.iaload, 1) ∧ decode cL_law 427 = .ok (.invokevirtual 53, 3) := by decide +kernel
theorem dL_law_418 : decode cL_law 418 = .ok (.goto 604, 3) := bdL_law_418.1
theorem dL_law_421 : decode cL_law 421 = .ok (.aload_n 1, 1) := bdL_law_418.2.1
theorem dL_law_422 : decode cL_law 422 = .ok (.aload_n 0, 1) := bdL_law_418.2.2.1
theorem dL_law_423 : decode cL_law 423 = .ok (.iload_n 3, 1) := bdL_law_418.2.2.2.1
theorem dL_law_424 : decode cL_law 424 = .ok (.iconst 1, 1) := bdL_law_418.2.2.2.2.1
theorem dL_law_425 : decode cL_law 425 = .ok (.iadd, 1) := bdL_law_418.2.2.2.2.2.1
theorem dL_law_426 : decode cL_law 426 = .ok (.iaload, 1) := bdL_law_418.2.2.2.2.2.2.1
theorem dL_law_427 : decode cL_law 427 = .ok (.invokevirtual 53, 3) := bdL_law_418.2.2.2.2.2.2.2
theorem bdL_law_430 : decode cL_law 430 = .ok (.pop, 1) ∧ decode cL_law 431 = .ok (.aload_n 2, 1) ∧ decode cL_law 432 = .ok (.aload_n 0, 1) ∧ decode cL_law 433 = .ok (.iload_n 3, 1) ∧ decode cL_law 434 = .ok (.iconst 1, 1) ∧ decode cL_law 435 = .ok (.iadd, 1) ∧ decode cL_law 436 = .ok (.iaload, 1) ∧ decode cL_law 437 = .ok (.invokevirtual 56, 3) := by decide +kernel
theorem dL_law_430 : decode cL_law 430 = .ok (.pop, 1) := bdL_law_430.1
theorem dL_law_431 : decode cL_law 431 = .ok (.aload_n 2, 1) := bdL_law_430.2.1
theorem dL_law_432 : decode cL_law 432 = .ok (.aload_n 0, 1) := bdL_law_430.2.2.1
theorem dL_law_433 : decode cL_law 433 = .ok (.iload_n 3, 1) := bdL_law_430.2.2.2.1
theorem dL_law_434 : decode cL_law 434 = .ok (.iconst 1, 1) := bdL_law_430.2.2.2.2.1
theorem dL_law_435 : decode cL_law 435 = .ok (.iadd, 1) := bdL_law_430.2.2.2.2.2.1
theorem dL_law_436 : decode cL_law 436 = .ok (.iaload, 1) := bdL_law_430.2.2.2.2.2.2.1
theorem dL_law_437 : decode cL_law 437 = .ok (.invokevirtual 56, 3) := bdL_law_430.2.2.2.2.2.2.2
theorem bdL_law_440 : decode cL_law 440 = .ok (.pop, 1) ∧ decode cL_law 441 = .ok (.goto 581, 3) ∧ decode cL_law 444 = .ok (.aload_n 1, 1) ∧ decode cL_law 445 = .ok (.aload_n 0, 1) ∧ decode cL_law 446 = .ok (.iload_n 3, 1) ∧ decode cL_law 447 = .ok (.iconst 1, 1) ∧ decode cL_law 448 = .ok (.iadd, 1) ∧ decode cL_law 449 = .ok (.iaload, 1) := by decide +kernel
theorem dL_law_440 : decode cL_law 440 = .ok (.pop, 1) := bdL_law_440.1
theorem dL_law_441 : decode cL_law 441 = .ok (.goto 581, 3) := bdL_law_440.2.1
theorem dL_law_444 : decode cL_law 444 = .ok (.aload_n 1, 1) := bdL_law_440.2.2.1
theorem dL_law_445 : decode cL_law 445 = .ok (.aload_n 0, 1) := bdL_law_440.2.2.2.1
theorem dL_law_446 : decode cL_law 446 = .ok (.iload_n 3, 1) := bdL_law_440.2.2.2.2.1
theorem dL_law_447 : decode cL_law 447 = .ok (.iconst 1, 1) := bdL_law_440.2.2.2.2.2.1
theorem dL_law_448 : decode cL_law 448 = .ok (.iadd, 1) := bdL_law_440.2.2.2.2.2.2.1
theorem dL_law_449 : decode cL_law 449 = .ok (.iaload, 1) := bdL_law_440.2.2.2.2.2.2.2
theorem bdL_law_450 : decode cL_law 450 = .ok (.invokevirtual 57, 3) ∧ decode cL_law 453 = .ok (.pop, 1) ∧ decode cL_law 454 = .ok (.aload_n 2, 1) ∧ decode cL_law 455 = .ok (.aload_n 0, 1) ∧ decode cL_law 456 = .ok (.iload_n 3, 1) ∧ decode cL_law 457 = .ok (.iconst 1, 1) ∧ decode cL_law 458 = .ok (.iadd, 1) ∧ decode cL_law 459 = .ok (.iaload, 1) := by decide +kernel
theorem dL_law_450 : decode cL_law 450 = .ok (.invokevirtual 57, 3) := bdL_law_450.1
theorem dL_law_453 : decode cL_law 453 = .ok (.pop, 1) := bdL_law_450.2.1
theorem dL_law_454 : decode cL_law 454 = .ok (.aload_n 2, 1) := bdL_law_450.2.2.1
theorem dL_law_455 : decode cL_law 455 = .ok (.aload_n 0, 1) := bdL_law_450.2.2.2.1
theorem dL_law_456 : decode cL_law 456 = .ok (.iload_n 3, 1) := bdL_law_450.2.2.2.2.1
theorem dL_law_457 : decode cL_law 457 = .ok (.iconst 1, 1) := bdL_law_450.2.2.2.2.2.1
theorem dL_law_458 : decode cL_law 458 = .ok (.iadd, 1) := bdL_law_450.2.2.2.2.2.2.1
theorem dL_law_459 : decode cL_law 459 = .ok (.iaload, 1) := bdL_law_450.2.2.2.2.2.2.2
theorem bdL_law_460 : decode cL_law 460 = .ok (.invokevirtual 60, 3) ∧ decode cL_law 463 = .ok (.pop, 1) ∧ decode cL_law 464 = .ok (.goto 558, 3) ∧ decode cL_law 467 = .ok (.aload_n 1, 1) ∧ decode cL_law 468 = .ok (.aload_n 0, 1) ∧ decode cL_law 469 = .ok (.iload_n 3, 1) ∧ decode cL_law 470 = .ok (.iconst 1, 1) ∧ decode cL_law 471 = .ok (.iadd, 1) := by decide +kernel
theorem dL_law_460 : decode cL_law 460 = .ok (.invokevirtual 60, 3) := bdL_law_460.1
theorem dL_law_463 : decode cL_law 463 = .ok (.pop, 1) := bdL_law_460.2.1
theorem dL_law_464 : decode cL_law 464 = .ok (.goto 558, 3) := bdL_law_460.2.2.1
theorem dL_law_467 : decode cL_law 467 = .ok (.aload_n 1, 1) := bdL_law_460.2.2.2.1
theorem dL_law_468 : decode cL_law 468 = .ok (.aload_n 0, 1) := bdL_law_460.2.2.2.2.1
theorem dL_law_469 : decode cL_law 469 = .ok (.iload_n 3, 1) := bdL_law_460.2.2.2.2.2.1
theorem dL_law_470 : decode cL_law 470 = .ok (.iconst 1, 1) := bdL_law_460.2.2.2.2.2.2.1
theorem dL_law_471 : decode cL_law 471 = .ok (.iadd, 1) := bdL_law_460.2.2.2.2.2.2.2
theorem bdL_law_472 : decode cL_law 472 = .ok (.iaload, 1) ∧ decode cL_law 473 = .ok (.aload_n 0, 1) ∧ decode cL_law 474 = .ok (.iload_n 3, 1) ∧ decode cL_law 475 = .ok (.iconst 2, 1) ∧ decode cL_law 476 = .ok (.iadd, 1) ∧ decode cL_law 477 = .ok (.iaload, 1) ∧ decode cL_law 478 = .ok (.invokevirtual 61, 3) ∧ decode cL_law 481 = .ok (.pop, 1) := by decide +kernel
theorem dL_law_472 : decode cL_law 472 = .ok (.iaload, 1) := bdL_law_472.1
theorem dL_law_473 : decode cL_law 473 = .ok (.aload_n 0, 1) := bdL_law_472.2.1
theorem dL_law_474 : decode cL_law 474 = .ok (.iload_n 3, 1) := bdL_law_472.2.2.1
theorem dL_law_475 : decode cL_law 475 = .ok (.iconst 2, 1) := bdL_law_472.2.2.2.1
theorem dL_law_476 : decode cL_law 476 = .ok (.iadd, 1) := bdL_law_472.2.2.2.2.1
theorem dL_law_477 : decode cL_law 477 = .ok (.iaload, 1) := bdL_law_472.2.2.2.2.2.1
theorem dL_law_478 : decode cL_law 478 = .ok (.invokevirtual 61, 3) := bdL_law_472.2.2.2.2.2.2.1
theorem dL_law_481 : decode cL_law 481 = .ok (.pop, 1) := bdL_law_472.2.2.2.2.2.2.2
theorem bdL_law_482 : decode cL_law 482 = .ok (.aload_n 2, 1) ∧ decode cL_law 483 = .ok (.aload_n 0, 1) ∧ decode cL_law 484 = .ok (.iload_n 3, 1) ∧ decode cL_law 485 = .ok (.iconst 1, 1) ∧ decode cL_law 486 = .ok (.iadd, 1) ∧ decode cL_law 487 = .ok (.iaload, 1) ∧ decode cL_law 488 = .ok (.aload_n 0, 1) ∧ decode cL_law 489 = .ok (.iload_n 3, 1) := by decide +kernel
theorem dL_law_482 : decode cL_law 482 = .ok (.aload_n 2, 1) := bdL_law_482.1
theorem dL_law_483 : decode cL_law 483 = .ok (.aload_n 0, 1) := bdL_law_482.2.1
theorem dL_law_484 : decode cL_law 484 = .ok (.iload_n 3, 1) := bdL_law_482.2.2.1
theorem dL_law_485 : decode cL_law 485 = .ok (.iconst 1, 1) := bdL_law_482.2.2.2.1
theorem dL_law_486 : decode cL_law 486 = .ok (.iadd, 1) := bdL_law_482.2.2.2.2.1
theorem dL_law_487 : decode cL_law 487 = .ok (.iaload, 1) := bdL_law_482.2.2.2.2.2.1
theorem dL_law_488 : decode cL_law 488 = .ok (.aload_n 0, 1) := bdL_law_482.2.2.2.2.2.2.1
theorem dL_law_489 : decode cL_law 489 = .ok (.iload_n 3, 1) := bdL_law_482.2.2.2.2.2.2.2
theorem bdL_law_490 : decode cL_law 490 = .ok (.iconst 2, 1) ∧ decode cL_law 491 = .ok (.iadd, 1) ∧ decode cL_law 492 = .ok (.iaload, 1) ∧ decode cL_law 493 = .ok (.invokevirtual 64, 3) ∧ decode cL_law 496 = .ok (.pop, 1) ∧ decode cL_law 497 = .ok (.goto 525, 3) ∧ decode cL_law 500 = .ok (.aload_n 1, 1) ∧ decode cL_law 501 = .ok (.invokevirtual 65, 3) := by decide +kernel
theorem dL_law_490 : decode cL_law 490 = .ok (.iconst 2, 1) := bdL_law_490.1
theorem dL_law_491 : decode cL_law 491 = .ok (.iadd, 1) := bdL_law_490.2.1
theorem dL_law_492 : decode cL_law 492 = .ok (.iaload, 1) := bdL_law_490.2.2.1
theorem dL_law_493 : decode cL_law 493 = .ok (.invokevirtual 64, 3) := bdL_law_490.2.2.2.1
theorem dL_law_496 : decode cL_law 496 = .ok (.pop, 1) := bdL_law_490.2.2.2.2.1
theorem dL_law_497 : decode cL_law 497 = .ok (.goto 525, 3) := bdL_law_490.2.2.2.2.2.1
theorem dL_law_500 : decode cL_law 500 = .ok (.aload_n 1, 1) := bdL_law_490.2.2.2.2.2.2.1
theorem dL_law_501 : decode cL_law 501 = .ok (.invokevirtual 65, 3) := bdL_law_490.2.2.2.2.2.2.2
theorem bdL_law_504 : decode cL_law 504 = .ok (.pop, 1) ∧ decode cL_law 505 = .ok (.aload_n 2, 1) ∧ decode cL_law 506 = .ok (.invokevirtual 68, 3) ∧ decode cL_law 509 = .ok (.pop, 1) ∧ decode cL_law 510 = .ok (.goto 512, 3) ∧ decode cL_law 513 = .ok (.aload_n 1, 1) ∧ decode cL_law 514 = .ok (.aload_n 0, 1) ∧ decode cL_law 515 = .ok (.iload_n 3, 1) := by decide +kernel
theorem dL_law_504 : decode cL_law 504 = .ok (.pop, 1) := bdL_law_504.1
theorem dL_law_505 : decode cL_law 505 = .ok (.aload_n 2, 1) := bdL_law_504.2.1
theorem dL_law_506 : decode cL_law 506 = .ok (.invokevirtual 68, 3) := bdL_law_504.2.2.1
theorem dL_law_509 : decode cL_law 509 = .ok (.pop, 1) := bdL_law_504.2.2.2.1
theorem dL_law_510 : decode cL_law 510 = .ok (.goto 512, 3) := bdL_law_504.2.2.2.2.1
theorem dL_law_513 : decode cL_law 513 = .ok (.aload_n 1, 1) := bdL_law_504.2.2.2.2.2.1
theorem dL_law_514 : decode cL_law 514 = .ok (.aload_n 0, 1) := bdL_law_504.2.2.2.2.2.2.1
theorem dL_law_515 : decode cL_law 515 = .ok (.iload_n 3, 1) := bdL_law_504.2.2.2.2.2.2.2
theorem bdL_law_516 : decode cL_law 516 = .ok (.iconst 1, 1) ∧ decode cL_law 517 = .ok (.iadd, 1) ∧ decode cL_law 518 = .ok (.iaload, 1) ∧ decode cL_law 519 = .ok (.invokevirtual 69, 3) ∧ decode cL_law 522 = .ok (.pop, 1) ∧ decode cL_law 523 = .ok (.aload_n 2, 1) ∧ decode cL_law 524 = .ok (.aload_n 0, 1) ∧ decode cL_law 525 = .ok (.iload_n 3, 1) := by decide +kernel
theorem dL_law_516 : decode cL_law 516 = .ok (.iconst 1, 1) := bdL_law_516.1
theorem dL_law_517 : decode cL_law 517 = .ok (.iadd, 1) := bdL_law_516.2.1
theorem dL_law_518 : decode cL_law 518 = .ok (.iaload, 1) := bdL_law_516.2.2.1
theorem dL_law_519 : decode cL_law 519 = .ok (.invokevirtual 69, 3) := bdL_law_516.2.2.2.1
theorem dL_law_522 : decode cL_law 522 = .ok (.pop, 1) := bdL_law_516.2.2.2.2.1
theorem dL_law_523 : decode cL_law 523 = .ok (.aload_n 2, 1) := bdL_law_516.2.2.2.2.2.1
theorem dL_law_524 : decode cL_law 524 = .ok (.aload_n 0, 1) := bdL_law_516.2.2.2.2.2.2.1
theorem dL_law_525 : decode cL_law 525 = .ok (.iload_n 3, 1) := bdL_law_516.2.2.2.2.2.2.2
theorem bdL_law_526 : decode cL_law 526 = .ok (.iconst 1, 1) ∧ decode cL_law 527 = .ok (.iadd, 1) ∧ decode cL_law 528 = .ok (.iaload, 1) ∧ decode cL_law 529 = .ok (.invokevirtual 72, 3) ∧ decode cL_law 532 = .ok (.pop, 1) ∧ decode cL_law 533 = .ok (.goto 489, 3) ∧ decode cL_law 536 = .ok (.aload_n 1, 1) ∧ decode cL_law 537 = .ok (.aload_n 0, 1) := by decide +kernel
theorem dL_law_526 : decode cL_law 526 = .ok (.iconst 1, 1) := bdL_law_526.1
theorem dL_law_527 : decode cL_law 527 = .ok (.iadd, 1) := bdL_law_526.2.1
theorem dL_law_528 : decode cL_law 528 = .ok (.iaload, 1) := bdL_law_526.2.2.1
theorem dL_law_529 : decode cL_law 529 = .ok (.invokevirtual 72, 3) := bdL_law_526.2.2.2.1
theorem dL_law_532 : decode cL_law 532 = .ok (.pop, 1) := bdL_law_526.2.2.2.2.1
theorem dL_law_533 : decode cL_law 533 = .ok (.goto 489, 3) := bdL_law_526.2.2.2.2.2.1
theorem dL_law_536 : decode cL_law 536 = .ok (.aload_n 1, 1) := bdL_law_526.2.2.2.2.2.2.1
theorem dL_law_537 : decode cL_law 537 = .ok (.aload_n 0, 1) := bdL_law_526.2.2.2.2.2.2.2
theorem bdL_law_538 : decode cL_law 538 = .ok (.iload_n 3, 1) ∧ decode cL_law 539 = .ok (.iconst 1, 1) ∧ decode cL_law 540 = .ok (.iadd, 1) ∧ decode cL_law 541 = .ok (.iaload, 1) ∧ decode cL_law 542 = .ok (.aload_n 0, 1) ∧ decode cL_law 543 = .ok (.iload_n 3, 1) ∧ decode cL_law 544 = .ok (.iconst 2, 1) ∧ decode cL_law 545 = .ok (.iadd, 1) := by decide +kernel
theorem dL_law_538 : decode cL_law 538 = .ok (.iload_n 3, 1) := bdL_law_538.1
theorem dL_law_539 : decode cL_law 539 = .ok (.iconst 1, 1) := bdL_law_538.2.1
theorem dL_law_540 : decode cL_law 540 = .ok (.iadd, 1) := bdL_law_538.2.2.1
theorem dL_law_541 : decode cL_law 541 = .ok (.iaload, 1) := bdL_law_538.2.2.2.1
theorem dL_law_542 : decode cL_law 542 = .ok (.aload_n 0, 1) := bdL_law_538.2.2.2.2.1
theorem dL_law_543 : decode cL_law 543 = .ok (.iload_n 3, 1) := bdL_law_538.2.2.2.2.2.1
theorem dL_law_544 : decode cL_law 544 = .ok (.iconst 2, 1) := bdL_law_538.2.2.2.2.2.2.1
theorem dL_law_545 : decode cL_law 545 = .ok (.iadd, 1) := bdL_law_538.2.2.2.2.2.2.2
theorem bdL_law_546 : decode cL_law 546 = .ok (.iaload, 1) ∧ decode cL_law 547 = .ok (.aload_n 0, 1) ∧ decode cL_law 548 = .ok (.iload_n 3, 1) ∧ decode cL_law 549 = .ok (.iconst 3, 1) ∧ decode cL_law 550 = .ok (.iadd, 1) ∧ decode cL_law 551 = .ok (.iaload, 1) ∧ decode cL_law 552 = .ok (.aload_n 0, 1) ∧ decode cL_law 553 = .ok (.iload_n 3, 1) := by decide +kernel
theorem dL_law_546 : decode cL_law 546 = .ok (.iaload, 1) := bdL_law_546.1
theorem dL_law_547 : decode cL_law 547 = .ok (.aload_n 0, 1) := bdL_law_546.2.1
theorem dL_law_548 : decode cL_law 548 = .ok (.iload_n 3, 1) := bdL_law_546.2.2.1
theorem dL_law_549 : decode cL_law 549 = .ok (.iconst 3, 1) := bdL_law_546.2.2.2.1
theorem dL_law_550 : decode cL_law 550 = .ok (.iadd, 1) := bdL_law_546.2.2.2.2.1
theorem dL_law_551 : decode cL_law 551 = .ok (.iaload, 1) := bdL_law_546.2.2.2.2.2.1
theorem dL_law_552 : decode cL_law 552 = .ok (.aload_n 0, 1) := bdL_law_546.2.2.2.2.2.2.1
theorem dL_law_553 : decode cL_law 553 = .ok (.iload_n 3, 1) := bdL_law_546.2.2.2.2.2.2.2
theorem bdL_law_554 : decode cL_law 554 = .ok (.iconst 4, 1) ∧ decode cL_law 555 = .ok (.iadd, 1) ∧ decode cL_law 556 = .ok (.iaload, 1) ∧ decode cL_law 557 = .ok (.aload_n 0, 1) ∧ decode cL_law 558 = .ok (.iload_n 3, 1) ∧ decode cL_law 559 = .ok (.iconst 5, 1) ∧ decode cL_law 560 = .ok (.iadd, 1) ∧ decode cL_law 561 = .ok (.iaload, 1) := by decide +kernel
theorem dL_law_554 : decode cL_law 554 = .ok (.iconst 4, 1) := bdL_law_554.1
theorem dL_law_555 : decode cL_law 555 = .ok (.iadd, 1) := bdL_law_554.2.1
theorem dL_law_556 : decode cL_law 556 = .ok (.iaload, 1) := bdL_law_554.2.2.1
theorem dL_law_557 : decode cL_law 557 = .ok (.aload_n 0, 1) := bdL_law_554.2.2.2.1
theorem dL_law_558 : decode cL_law 558 = .ok (.iload_n 3, 1) := bdL_law_554.2.2.2.2.1
theorem dL_law_559 : decode cL_law 559 = .ok (.iconst 5, 1) := bdL_law_554.2.2.2.2.2.1
theorem dL_law_560 : decode cL_law 560 = .ok (.iadd, 1) := bdL_law_554.2.2.2.2.2.2.1
theorem dL_law_561 : decode cL_law 561 = .ok (.iaload, 1) := bdL_law_554.2.2.2.2.2.2.2
theorem bdL_law_562 : decode cL_law 562 = .ok (.invokevirtual 73, 3) ∧ decode cL_law 565 = .ok (.pop, 1) ∧ decode cL_law 566 = .ok (.aload_n 2, 1) ∧ decode cL_law 567 = .ok (.aload_n 0, 1) ∧ decode cL_law 568 = .ok (.iload_n 3, 1) ∧ decode cL_law 569 = .ok (.iconst 1, 1) ∧ decode cL_law 570 = .ok (.iadd, 1) ∧ decode cL_law 571 = .ok (.iaload, 1) := by decide +kernel
theorem dL_law_562 : decode cL_law 562 = .ok (.invokevirtual 73, 3) := bdL_law_562.1
theorem dL_law_565 : decode cL_law 565 = .ok (.pop, 1) := bdL_law_562.2.1
theorem dL_law_566 : decode cL_law 566 = .ok (.aload_n 2, 1) := bdL_law_562.2.2.1
theorem dL_law_567 : decode cL_law 567 = .ok (.aload_n 0, 1) := bdL_law_562.2.2.2.1
theorem dL_law_568 : decode cL_law 568 = .ok (.iload_n 3, 1) := bdL_law_562.2.2.2.2.1
theorem dL_law_569 : decode cL_law 569 = .ok (.iconst 1, 1) := bdL_law_562.2.2.2.2.2.1
theorem dL_law_570 : decode cL_law 570 = .ok (.iadd, 1) := bdL_law_562.2.2.2.2.2.2.1
theorem dL_law_571 : decode cL_law 571 = .ok (.iaload, 1) := bdL_law_562.2.2.2.2.2.2.2
theorem bdL_law_572 : decode cL_law 572 = .ok (.aload_n 0, 1) ∧ decode cL_law 573 = .ok (.iload_n 3, 1) ∧ decode cL_law 574 = .ok (.iconst 2, 1) ∧ decode cL_law 575 = .ok (.iadd, 1) ∧ decode cL_law 576 = .ok (.iaload, 1) ∧ decode cL_law 577 = .ok (.aload_n 0, 1) ∧ decode cL_law 578 = .ok (.iload_n 3, 1) ∧ decode cL_law 579 = .ok (.iconst 3, 1) := by decide +kernel
theorem dL_law_572 : decode cL_law 572 = .ok (.aload_n 0, 1) := bdL_law_572.1
theorem dL_law_573 : decode cL_law 573 = .ok (.iload_n 3, 1) := bdL_law_572.2.1
theorem dL_law_574 : decode cL_law 574 = .ok (.iconst 2, 1) := bdL_law_572.2.2.1
theorem dL_law_575 : decode cL_law 575 = .ok (.iadd, 1) := bdL_law_572.2.2.2.1
theorem dL_law_576 : decode cL_law 576 = .ok (.iaload, 1) := bdL_law_572.2.2.2.2.1
theorem dL_law_577 : decode cL_law 577 = .ok (.aload_n 0, 1) := bdL_law_572.2.2.2.2.2.1
theorem dL_law_578 : decode cL_law 578 = .ok (.iload_n 3, 1) := bdL_law_572.2.2.2.2.2.2.1
theorem dL_law_579 : decode cL_law 579 = .ok (.iconst 3, 1) := bdL_law_572.2.2.2.2.2.2.2
theorem bdL_law_580 : decode cL_law 580 = .ok (.iadd, 1) ∧ decode cL_law 581 = .ok (.iaload, 1) ∧ decode cL_law 582 = .ok (.aload_n 0, 1) ∧ decode cL_law 583 = .ok (.iload_n 3, 1) ∧ decode cL_law 584 = .ok (.iconst 4, 1) ∧ decode cL_law 585 = .ok (.iadd, 1) ∧ decode cL_law 586 = .ok (.iaload, 1) ∧ decode cL_law 587 = .ok (.aload_n 0, 1) := by decide +kernel
theorem dL_law_580 : decode cL_law 580 = .ok (.iadd, 1) := bdL_law_580.1
theorem dL_law_581 : decode cL_law 581 = .ok (.iaload, 1) := bdL_law_580.2.1
theorem dL_law_582 : decode cL_law 582 = .ok (.aload_n 0, 1) := bdL_law_580.2.2.1
theorem dL_law_583 : decode cL_law 583 = .ok (.iload_n 3, 1) := bdL_law_580.2.2.2.1
theorem dL_law_584 : decode cL_law 584 = .ok (.iconst 4, 1) := bdL_law_580.2.2.2.2.1
theorem dL_law_585 : decode cL_law 585 = .ok (.iadd, 1) := bdL_law_580.2.2.2.2.2.1
theorem dL_law_586 : decode cL_law 586 = .ok (.iaload, 1) := bdL_law_580.2.2.2.2.2.2.1
theorem dL_law_587 : decode cL_law 587 = .ok (.aload_n 0, 1) := bdL_law_580.2.2.2.2.2.2.2
theorem bdL_law_588 : decode cL_law 588 = .ok (.iload_n 3, 1) ∧ decode cL_law 589 = .ok (.iconst 5, 1) ∧ decode cL_law 590 = .ok (.iadd, 1) ∧ decode cL_law 591 = .ok (.iaload, 1) ∧ decode cL_law 592 = .ok (.invokevirtual 76, 3) ∧ decode cL_law 595 = .ok (.pop, 1) ∧ decode cL_law 596 = .ok (.goto 426, 3) ∧ decode cL_law 599 = .ok (.aload_n 1, 1) := by decide +kernel
theorem dL_law_588 : decode cL_law 588 = .ok (.iload_n 3, 1) := bdL_law_588.1
theorem dL_law_589 : decode cL_law 589 = .ok (.iconst 5, 1) := bdL_law_588.2.1
theorem dL_law_590 : decode cL_law 590 = .ok (.iadd, 1) := bdL_law_588.2.2.1
theorem dL_law_591 : decode cL_law 591 = .ok (.iaload, 1) := bdL_law_588.2.2.2.1
theorem dL_law_592 : decode cL_law 592 = .ok (.invokevirtual 76, 3) := bdL_law_588.2.2.2.2.1
theorem dL_law_595 : decode cL_law 595 = .ok (.pop, 1) := bdL_law_588.2.2.2.2.2.1
theorem dL_law_596 : decode cL_law 596 = .ok (.goto 426, 3) := bdL_law_588.2.2.2.2.2.2.1
theorem dL_law_599 : decode cL_law 599 = .ok (.aload_n 1, 1) := bdL_law_588.2.2.2.2.2.2.2
theorem bdL_law_600 : decode cL_law 600 = .ok (.aload_n 0, 1) ∧ decode cL_law 601 = .ok (.iload_n 3, 1) ∧ decode cL_law 602 = .ok (.iconst 1, 1) ∧ decode cL_law 603 = .ok (.iadd, 1) ∧ decode cL_law 604 = .ok (.iaload, 1) ∧ decode cL_law 605 = .ok (.aload_n 0, 1) ∧ decode cL_law 606 = .ok (.iload_n 3, 1) ∧ decode cL_law 607 = .ok (.iconst 2, 1) := by decide +kernel
theorem dL_law_600 : decode cL_law 600 = .ok (.aload_n 0, 1) := bdL_law_600.1
theorem dL_law_601 : decode cL_law 601 = .ok (.iload_n 3, 1) := bdL_law_600.2.1
theorem dL_law_602 : decode cL_law 602 = .ok (.iconst 1, 1) := bdL_law_600.2.2.1
theorem dL_law_603 : decode cL_law 603 = .ok (.iadd, 1) := bdL_law_600.2.2.2.1
theorem dL_law_604 : decode cL_law 604 = .ok (.iaload, 1) := bdL_law_600.2.2.2.2.1
theorem dL_law_605 : decode cL_law 605 = .ok (.aload_n 0, 1) := bdL_law_600.2.2.2.2.2.1
theorem dL_law_606 : decode cL_law 606 = .ok (.iload_n 3, 1) := bdL_law_600.2.2.2.2.2.2.1
theorem dL_law_607 : decode cL_law 607 = .ok (.iconst 2, 1) := bdL_law_600.2.2.2.2.2.2.2
theorem bdL_law_608 : decode cL_law 608 = .ok (.iadd, 1) ∧ decode cL_law 609 = .ok (.iaload, 1) ∧ decode cL_law 610 = .ok (.aload_n 0, 1) ∧ decode cL_law 611 = .ok (.iload_n 3, 1) ∧ decode cL_law 612 = .ok (.iconst 3, 1) ∧ decode cL_law 613 = .ok (.iadd, 1) ∧ decode cL_law 614 = .ok (.iaload, 1) ∧ decode cL_law 615 = .ok (.invokevirtual 77, 3) := by decide +kernel
theorem dL_law_608 : decode cL_law 608 = .ok (.iadd, 1) := bdL_law_608.1
theorem dL_law_609 : decode cL_law 609 = .ok (.iaload, 1) := bdL_law_608.2.1
theorem dL_law_610 : decode cL_law 610 = .ok (.aload_n 0, 1) := bdL_law_608.2.2.1
theorem dL_law_611 : decode cL_law 611 = .ok (.iload_n 3, 1) := bdL_law_608.2.2.2.1
theorem dL_law_612 : decode cL_law 612 = .ok (.iconst 3, 1) := bdL_law_608.2.2.2.2.1
theorem dL_law_613 : decode cL_law 613 = .ok (.iadd, 1) := bdL_law_608.2.2.2.2.2.1
theorem dL_law_614 : decode cL_law 614 = .ok (.iaload, 1) := bdL_law_608.2.2.2.2.2.2.1
theorem dL_law_615 : decode cL_law 615 = .ok (.invokevirtual 77, 3) := bdL_law_608.2.2.2.2.2.2.2
theorem bdL_law_618 : decode cL_law 618 = .ok (.pop, 1) ∧ decode cL_law 619 = .ok (.aload_n 2, 1) ∧ decode cL_law 620 = .ok (.aload_n 0, 1) ∧ decode cL_law 621 = .ok (.iload_n 3, 1) ∧ decode cL_law 622 = .ok (.iconst 1, 1) ∧ decode cL_law 623 = .ok (.iadd, 1) ∧ decode cL_law 624 = .ok (.iaload, 1) ∧ decode cL_law 625 = .ok (.aload_n 0, 1) := by decide +kernel
theorem dL_law_618 : decode cL_law 618 = .ok (.pop, 1) := bdL_law_618.1
theorem dL_law_619 : decode cL_law 619 = .ok (.aload_n 2, 1) := bdL_law_618.2.1
theorem dL_law_620 : decode cL_law 620 = .ok (.aload_n 0, 1) := bdL_law_618.2.2.1
theorem dL_law_621 : decode cL_law 621 = .ok (.iload_n 3, 1) := bdL_law_618.2.2.2.1
theorem dL_law_622 : decode cL_law 622 = .ok (.iconst 1, 1) := bdL_law_618.2.2.2.2.1
theorem dL_law_623 : decode cL_law 623 = .ok (.iadd, 1) := bdL_law_618.2.2.2.2.2.1
theorem dL_law_624 : decode cL_law 624 = .ok (.iaload, 1) := bdL_law_618.2.2.2.2.2.2.1
theorem dL_law_625 : decode cL_law 625 = .ok (.aload_n 0, 1) := bdL_law_618.2.2.2.2.2.2.2
theorem bdL_law_626 : decode cL_law 626 = .ok (.iload_n 3, 1) ∧ decode cL_law 627 = .ok (.iconst 2, 1) ∧ decode cL_law 628 = .ok (.iadd, 1) ∧ decode cL_law 629 = .ok (.iaload, 1) ∧ decode cL_law 630 = .ok (.aload_n 0, 1) ∧ decode cL_law 631 = .ok (.iload_n 3, 1) ∧ decode cL_law 632 = .ok (.iconst 3, 1) ∧ decode cL_law 633 = .ok (.iadd, 1) := by decide +kernel
theorem dL_law_626 : decode cL_law 626 = .ok (.iload_n 3, 1) := bdL_law_626.1
theorem dL_law_627 : decode cL_law 627 = .ok (.iconst 2, 1) := bdL_law_626.2.1
theorem dL_law_628 : decode cL_law 628 = .ok (.iadd, 1) := bdL_law_626.2.2.1
theorem dL_law_629 : decode cL_law 629 = .ok (.iaload, 1) := bdL_law_626.2.2.2.1
theorem dL_law_630 : decode cL_law 630 = .ok (.aload_n 0, 1) := bdL_law_626.2.2.2.2.1
theorem dL_law_631 : decode cL_law 631 = .ok (.iload_n 3, 1) := bdL_law_626.2.2.2.2.2.1
theorem dL_law_632 : decode cL_law 632 = .ok (.iconst 3, 1) := bdL_law_626.2.2.2.2.2.2.1
theorem dL_law_633 : decode cL_law 633 = .ok (.iadd, 1) := bdL_law_626.2.2.2.2.2.2.2
theorem bdL_law_634 : decode cL_law 634 = .ok (.iaload, 1) ∧ decode cL_law 635 = .ok (.invokevirtual 81, 3) ∧ decode cL_law 638 = .ok (.pop, 1) ∧ decode cL_law 639 = .ok (.goto 383, 3) ∧ decode cL_law 642 = .ok (.aload_n 1, 1) ∧ decode cL_law 643 = .ok (.aload_n 0, 1) ∧ decode cL_law 644 = .ok (.iload_n 3, 1) ∧ decode cL_law 645 = .ok (.iconst 1, 1) := by decide +kernel
theorem dL_law_634 : decode cL_law 634 = .ok (.iaload, 1) := bdL_law_634.1
theorem dL_law_635 : decode cL_law 635 = .ok (.invokevirtual 81, 3) := bdL_law_634.2.1
theorem dL_law_638 : decode cL_law 638 = .ok (.pop, 1) := bdL_law_634.2.2.1
theorem dL_law_639 : decode cL_law 639 = .ok (.goto 383, 3) := bdL_law_634.2.2.2.1
theorem dL_law_642 : decode cL_law 642 = .ok (.aload_n 1, 1) := bdL_law_634.2.2.2.2.1
theorem dL_law_643 : decode cL_law 643 = .ok (.aload_n 0, 1) := bdL_law_634.2.2.2.2.2.1
theorem dL_law_644 : decode cL_law 644 = .ok (.iload_n 3, 1) := bdL_law_634.2.2.2.2.2.2.1
theorem dL_law_645 : decode cL_law 645 = .ok (.iconst 1, 1) := bdL_law_634.2.2.2.2.2.2.2
theorem bdL_law_646 : decode cL_law 646 = .ok (.iadd, 1) ∧ decode cL_law 647 = .ok (.iaload, 1) ∧ decode cL_law 648 = .ok (.aload_n 0, 1) ∧ decode cL_law 649 = .ok (.iload_n 3, 1) ∧ decode cL_law 650 = .ok (.iconst 2, 1) ∧ decode cL_law 651 = .ok (.iadd, 1) ∧ decode cL_law 652 = .ok (.iaload, 1) ∧ decode cL_law 653 = .ok (.aload_n 0, 1) := by decide +kernel
theorem dL_law_646 : decode cL_law 646 = .ok (.iadd, 1) := bdL_law_646.1
theorem dL_law_647 : decode cL_law 647 = .ok (.iaload, 1) := bdL_law_646.2.1
theorem dL_law_648 : decode cL_law 648 = .ok (.aload_n 0, 1) := bdL_law_646.2.2.1
theorem dL_law_649 : decode cL_law 649 = .ok (.iload_n 3, 1) := bdL_law_646.2.2.2.1
theorem dL_law_650 : decode cL_law 650 = .ok (.iconst 2, 1) := bdL_law_646.2.2.2.2.1
theorem dL_law_651 : decode cL_law 651 = .ok (.iadd, 1) := bdL_law_646.2.2.2.2.2.1
theorem dL_law_652 : decode cL_law 652 = .ok (.iaload, 1) := bdL_law_646.2.2.2.2.2.2.1
theorem dL_law_653 : decode cL_law 653 = .ok (.aload_n 0, 1) := bdL_law_646.2.2.2.2.2.2.2
theorem bdL_law_654 : decode cL_law 654 = .ok (.iload_n 3, 1) ∧ decode cL_law 655 = .ok (.iconst 3, 1) ∧ decode cL_law 656 = .ok (.iadd, 1) ∧ decode cL_law 657 = .ok (.iaload, 1) ∧ decode cL_law 658 = .ok (.aload_n 0, 1) ∧ decode cL_law 659 = .ok (.iload_n 3, 1) ∧ decode cL_law 660 = .ok (.iconst 4, 1) ∧ decode cL_law 661 = .ok (.iadd, 1) := by decide +kernel
theorem dL_law_654 : decode cL_law 654 = .ok (.iload_n 3, 1) := bdL_law_654.1
theorem dL_law_655 : decode cL_law 655 = .ok (.iconst 3, 1) := bdL_law_654.2.1
theorem dL_law_656 : decode cL_law 656 = .ok (.iadd, 1) := bdL_law_654.2.2.1
theorem dL_law_657 : decode cL_law 657 = .ok (.iaload, 1) := bdL_law_654.2.2.2.1
theorem dL_law_658 : decode cL_law 658 = .ok (.aload_n 0, 1) := bdL_law_654.2.2.2.2.1
theorem dL_law_659 : decode cL_law 659 = .ok (.iload_n 3, 1) := bdL_law_654.2.2.2.2.2.1
theorem dL_law_660 : decode cL_law 660 = .ok (.iconst 4, 1) := bdL_law_654.2.2.2.2.2.2.1
theorem dL_law_661 : decode cL_law 661 = .ok (.iadd, 1) := bdL_law_654.2.2.2.2.2.2.2
theorem bdL_law_662 : decode cL_law 662 = .ok (.iaload, 1) ∧ decode cL_law 663 = .ok (.invokevirtual 82, 3) ∧ decode cL_law 666 = .ok (.pop, 1) ∧ decode cL_law 667 = .ok (.aload_n 2, 1) ∧ decode cL_law 668 = .ok (.aload_n 0, 1) ∧ decode cL_law 669 = .ok (.iload_n 3, 1) ∧ decode cL_law 670 = .ok (.iconst 1, 1) ∧ decode cL_law 671 = .ok (.iadd, 1) := by decide +kernel
theorem dL_law_662 : decode cL_law 662 = .ok (.iaload, 1) := bdL_law_662.1
theorem dL_law_663 : decode cL_law 663 = .ok (.invokevirtual 82, 3) := bdL_law_662.2.1
theorem dL_law_666 : decode cL_law 666 = .ok (.pop, 1) := bdL_law_662.2.2.1
theorem dL_law_667 : decode cL_law 667 = .ok (.aload_n 2, 1) := bdL_law_662.2.2.2.1
theorem dL_law_668 : decode cL_law 668 = .ok (.aload_n 0, 1) := bdL_law_662.2.2.2.2.1
theorem dL_law_669 : decode cL_law 669 = .ok (.iload_n 3, 1) := bdL_law_662.2.2.2.2.2.1
theorem dL_law_670 : decode cL_law 670 = .ok (.iconst 1, 1) := bdL_law_662.2.2.2.2.2.2.1
theorem dL_law_671 : decode cL_law 671 = .ok (.iadd, 1) := bdL_law_662.2.2.2.2.2.2.2
theorem bdL_law_672 : decode cL_law 672 = .ok (.iaload, 1) ∧ decode cL_law 673 = .ok (.aload_n 0, 1) ∧ decode cL_law 674 = .ok (.iload_n 3, 1) ∧ decode cL_law 675 = .ok (.iconst 2, 1) ∧ decode cL_law 676 = .ok (.iadd, 1) ∧ decode cL_law 677 = .ok (.iaload, 1) ∧ decode cL_law 678 = .ok (.aload_n 0, 1) ∧ decode cL_law 679 = .ok (.iload_n 3, 1) := by decide +kernel
theorem dL_law_672 : decode cL_law 672 = .ok (.iaload, 1) := bdL_law_672.1
theorem dL_law_673 : decode cL_law 673 = .ok (.aload_n 0, 1) := bdL_law_672.2.1
theorem dL_law_674 : decode cL_law 674 = .ok (.iload_n 3, 1) := bdL_law_672.2.2.1
theorem dL_law_675 : decode cL_law 675 = .ok (.iconst 2, 1) := bdL_law_672.2.2.2.1
theorem dL_law_676 : decode cL_law 676 = .ok (.iadd, 1) := bdL_law_672.2.2.2.2.1
theorem dL_law_677 : decode cL_law 677 = .ok (.iaload, 1) := bdL_law_672.2.2.2.2.2.1
theorem dL_law_678 : decode cL_law 678 = .ok (.aload_n 0, 1) := bdL_law_672.2.2.2.2.2.2.1
theorem dL_law_679 : decode cL_law 679 = .ok (.iload_n 3, 1) := bdL_law_672.2.2.2.2.2.2.2
theorem bdL_law_680 : decode cL_law 680 = .ok (.iconst 3, 1) ∧ decode cL_law 681 = .ok (.iadd, 1) ∧ decode cL_law 682 = .ok (.iaload, 1) ∧ decode cL_law 683 = .ok (.aload_n 0, 1) ∧ decode cL_law 684 = .ok (.iload_n 3, 1) ∧ decode cL_law 685 = .ok (.iconst 4, 1) ∧ decode cL_law 686 = .ok (.iadd, 1) ∧ decode cL_law 687 = .ok (.iaload, 1) := by decide +kernel
theorem dL_law_680 : decode cL_law 680 = .ok (.iconst 3, 1) := bdL_law_680.1
theorem dL_law_681 : decode cL_law 681 = .ok (.iadd, 1) := bdL_law_680.2.1
theorem dL_law_682 : decode cL_law 682 = .ok (.iaload, 1) := bdL_law_680.2.2.1
theorem dL_law_683 : decode cL_law 683 = .ok (.aload_n 0, 1) := bdL_law_680.2.2.2.1
theorem dL_law_684 : decode cL_law 684 = .ok (.iload_n 3, 1) := bdL_law_680.2.2.2.2.1
theorem dL_law_685 : decode cL_law 685 = .ok (.iconst 4, 1) := bdL_law_680.2.2.2.2.2.1
theorem dL_law_686 : decode cL_law 686 = .ok (.iadd, 1) := bdL_law_680.2.2.2.2.2.2.1
theorem dL_law_687 : decode cL_law 687 = .ok (.iaload, 1) := bdL_law_680.2.2.2.2.2.2.2
theorem bdL_law_688 : decode cL_law 688 = .ok (.invokevirtual 86, 3) ∧ decode cL_law 691 = .ok (.pop, 1) ∧ decode cL_law 692 = .ok (.goto 330, 3) ∧ decode cL_law 695 = .ok (.aload_n 1, 1) ∧ decode cL_law 696 = .ok (.aload_n 0, 1) ∧ decode cL_law 697 = .ok (.iload_n 3, 1) ∧ decode cL_law 698 = .ok (.iconst 1, 1) ∧ decode cL_law 699 = .ok (.iadd, 1) := by decide +kernel
theorem dL_law_688 : decode cL_law 688 = .ok (.invokevirtual 86, 3) := bdL_law_688.1
theorem dL_law_691 : decode cL_law 691 = .ok (.pop, 1) := bdL_law_688.2.1
theorem dL_law_692 : decode cL_law 692 = .ok (.goto 330, 3) := bdL_law_688.2.2.1
theorem dL_law_695 : decode cL_law 695 = .ok (.aload_n 1, 1) := bdL_law_688.2.2.2.1
theorem dL_law_696 : decode cL_law 696 = .ok (.aload_n 0, 1) := bdL_law_688.2.2.2.2.1
theorem dL_law_697 : decode cL_law 697 = .ok (.iload_n 3, 1) := bdL_law_688.2.2.2.2.2.1
theorem dL_law_698 : decode cL_law 698 = .ok (.iconst 1, 1) := bdL_law_688.2.2.2.2.2.2.1
theorem dL_law_699 : decode cL_law 699 = .ok (.iadd, 1) := bdL_law_688.2.2.2.2.2.2.2
theorem bdL_law_700 : decode cL_law 700 = .ok (.iaload, 1) ∧ decode cL_law 701 = .ok (.aload_n 0, 1) ∧ decode cL_law 702 = .ok (.iload_n 3, 1) ∧ decode cL_law 703 = .ok (.iconst 2, 1) ∧ decode cL_law 704 = .ok (.iadd, 1) ∧ decode cL_law 705 = .ok (.iaload, 1) ∧ decode cL_law 706 = .ok (.aload_n 0, 1) ∧ decode cL_law 707 = .ok (.iload_n 3, 1) := by decide +kernel
theorem dL_law_700 : decode cL_law 700 = .ok (.iaload, 1) := bdL_law_700.1
theorem dL_law_701 : decode cL_law 701 = .ok (.aload_n 0, 1) := bdL_law_700.2.1
theorem dL_law_702 : decode cL_law 702 = .ok (.iload_n 3, 1) := bdL_law_700.2.2.1
theorem dL_law_703 : decode cL_law 703 = .ok (.iconst 2, 1) := bdL_law_700.2.2.2.1
theorem dL_law_704 : decode cL_law 704 = .ok (.iadd, 1) := bdL_law_700.2.2.2.2.1
theorem dL_law_705 : decode cL_law 705 = .ok (.iaload, 1) := bdL_law_700.2.2.2.2.2.1
theorem dL_law_706 : decode cL_law 706 = .ok (.aload_n 0, 1) := bdL_law_700.2.2.2.2.2.2.1
theorem dL_law_707 : decode cL_law 707 = .ok (.iload_n 3, 1) := bdL_law_700.2.2.2.2.2.2.2
theorem bdL_law_708 : decode cL_law 708 = .ok (.iconst 3, 1) ∧ decode cL_law 709 = .ok (.iadd, 1) ∧ decode cL_law 710 = .ok (.iaload, 1) ∧ decode cL_law 711 = .ok (.invokevirtual 87, 3) ∧ decode cL_law 714 = .ok (.pop, 1) ∧ decode cL_law 715 = .ok (.aload_n 2, 1) ∧ decode cL_law 716 = .ok (.aload_n 0, 1) ∧ decode cL_law 717 = .ok (.iload_n 3, 1) := by decide +kernel
theorem dL_law_708 : decode cL_law 708 = .ok (.iconst 3, 1) := bdL_law_708.1
theorem dL_law_709 : decode cL_law 709 = .ok (.iadd, 1) := bdL_law_708.2.1
theorem dL_law_710 : decode cL_law 710 = .ok (.iaload, 1) := bdL_law_708.2.2.1
theorem dL_law_711 : decode cL_law 711 = .ok (.invokevirtual 87, 3) := bdL_law_708.2.2.2.1
theorem dL_law_714 : decode cL_law 714 = .ok (.pop, 1) := bdL_law_708.2.2.2.2.1
theorem dL_law_715 : decode cL_law 715 = .ok (.aload_n 2, 1) := bdL_law_708.2.2.2.2.2.1
theorem dL_law_716 : decode cL_law 716 = .ok (.aload_n 0, 1) := bdL_law_708.2.2.2.2.2.2.1
theorem dL_law_717 : decode cL_law 717 = .ok (.iload_n 3, 1) := bdL_law_708.2.2.2.2.2.2.2
theorem bdL_law_718 : decode cL_law 718 = .ok (.iconst 1, 1) ∧ decode cL_law 719 = .ok (.iadd, 1) ∧ decode cL_law 720 = .ok (.iaload, 1) ∧ decode cL_law 721 = .ok (.aload_n 0, 1) ∧ decode cL_law 722 = .ok (.iload_n 3, 1) ∧ decode cL_law 723 = .ok (.iconst 2, 1) ∧ decode cL_law 724 = .ok (.iadd, 1) ∧ decode cL_law 725 = .ok (.iaload, 1) := by decide +kernel
theorem dL_law_718 : decode cL_law 718 = .ok (.iconst 1, 1) := bdL_law_718.1
theorem dL_law_719 : decode cL_law 719 = .ok (.iadd, 1) := bdL_law_718.2.1
theorem dL_law_720 : decode cL_law 720 = .ok (.iaload, 1) := bdL_law_718.2.2.1
theorem dL_law_721 : decode cL_law 721 = .ok (.aload_n 0, 1) := bdL_law_718.2.2.2.1
theorem dL_law_722 : decode cL_law 722 = .ok (.iload_n 3, 1) := bdL_law_718.2.2.2.2.1
theorem dL_law_723 : decode cL_law 723 = .ok (.iconst 2, 1) := bdL_law_718.2.2.2.2.2.1
theorem dL_law_724 : decode cL_law 724 = .ok (.iadd, 1) := bdL_law_718.2.2.2.2.2.2.1
theorem dL_law_725 : decode cL_law 725 = .ok (.iaload, 1) := bdL_law_718.2.2.2.2.2.2.2
theorem bdL_law_726 : decode cL_law 726 = .ok (.aload_n 0, 1) ∧ decode cL_law 727 = .ok (.iload_n 3, 1) ∧ decode cL_law 728 = .ok (.iconst 3, 1) ∧ decode cL_law 729 = .ok (.iadd, 1) ∧ decode cL_law 730 = .ok (.iaload, 1) ∧ decode cL_law 731 = .ok (.invokevirtual 90, 3) ∧ decode cL_law 734 = .ok (.pop, 1) ∧ decode cL_law 735 = .ok (.goto 287, 3) := by decide +kernel
theorem dL_law_726 : decode cL_law 726 = .ok (.aload_n 0, 1) := bdL_law_726.1
theorem dL_law_727 : decode cL_law 727 = .ok (.iload_n 3, 1) := bdL_law_726.2.1
theorem dL_law_728 : decode cL_law 728 = .ok (.iconst 3, 1) := bdL_law_726.2.2.1
theorem dL_law_729 : decode cL_law 729 = .ok (.iadd, 1) := bdL_law_726.2.2.2.1
theorem dL_law_730 : decode cL_law 730 = .ok (.iaload, 1) := bdL_law_726.2.2.2.2.1
theorem dL_law_731 : decode cL_law 731 = .ok (.invokevirtual 90, 3) := bdL_law_726.2.2.2.2.2.1
theorem dL_law_734 : decode cL_law 734 = .ok (.pop, 1) := bdL_law_726.2.2.2.2.2.2.1
theorem dL_law_735 : decode cL_law 735 = .ok (.goto 287, 3) := bdL_law_726.2.2.2.2.2.2.2
theorem bdL_law_738 : decode cL_law 738 = .ok (.aload_n 1, 1) ∧ decode cL_law 739 = .ok (.aload_n 0, 1) ∧ decode cL_law 740 = .ok (.iload_n 3, 1) ∧ decode cL_law 741 = .ok (.iconst 1, 1) ∧ decode cL_law 742 = .ok (.iadd, 1) ∧ decode cL_law 743 = .ok (.iaload, 1) ∧ decode cL_law 744 = .ok (.aload_n 0, 1) ∧ decode cL_law 745 = .ok (.iload_n 3, 1) := by decide +kernel
theorem dL_law_738 : decode cL_law 738 = .ok (.aload_n 1, 1) := bdL_law_738.1
theorem dL_law_739 : decode cL_law 739 = .ok (.aload_n 0, 1) := bdL_law_738.2.1
theorem dL_law_740 : decode cL_law 740 = .ok (.iload_n 3, 1) := bdL_law_738.2.2.1
theorem dL_law_741 : decode cL_law 741 = .ok (.iconst 1, 1) := bdL_law_738.2.2.2.1
theorem dL_law_742 : decode cL_law 742 = .ok (.iadd, 1) := bdL_law_738.2.2.2.2.1
theorem dL_law_743 : decode cL_law 743 = .ok (.iaload, 1) := bdL_law_738.2.2.2.2.2.1
theorem dL_law_744 : decode cL_law 744 = .ok (.aload_n 0, 1) := bdL_law_738.2.2.2.2.2.2.1
theorem dL_law_745 : decode cL_law 745 = .ok (.iload_n 3, 1) := bdL_law_738.2.2.2.2.2.2.2
theorem bdL_law_746 : decode cL_law 746 = .ok (.iconst 2, 1) ∧ decode cL_law 747 = .ok (.iadd, 1) ∧ decode cL_law 748 = .ok (.iaload, 1) ∧ decode cL_law 749 = .ok (.invokevirtual 91, 3) ∧ decode cL_law 752 = .ok (.pop, 1) ∧ decode cL_law 753 = .ok (.aload_n 2, 1) ∧ decode cL_law 754 = .ok (.aload_n 0, 1) ∧ decode cL_law 755 = .ok (.iload_n 3, 1) := by decide +kernel
theorem dL_law_746 : decode cL_law 746 = .ok (.iconst 2, 1) := bdL_law_746.1
theorem dL_law_747 : decode cL_law 747 = .ok (.iadd, 1) := bdL_law_746.2.1
theorem dL_law_748 : decode cL_law 748 = .ok (.iaload, 1) := bdL_law_746.2.2.1
theorem dL_law_749 : decode cL_law 749 = .ok (.invokevirtual 91, 3) := bdL_law_746.2.2.2.1
theorem dL_law_752 : decode cL_law 752 = .ok (.pop, 1) := bdL_law_746.2.2.2.2.1
theorem dL_law_753 : decode cL_law 753 = .ok (.aload_n 2, 1) := bdL_law_746.2.2.2.2.2.1
theorem dL_law_754 : decode cL_law 754 = .ok (.aload_n 0, 1) := bdL_law_746.2.2.2.2.2.2.1
theorem dL_law_755 : decode cL_law 755 = .ok (.iload_n 3, 1) := bdL_law_746.2.2.2.2.2.2.2
theorem bdL_law_756 : decode cL_law 756 = .ok (.iconst 1, 1) ∧ decode cL_law 757 = .ok (.iadd, 1) ∧ decode cL_law 758 = .ok (.iaload, 1) ∧ decode cL_law 759 = .ok (.aload_n 0, 1) ∧ decode cL_law 760 = .ok (.iload_n 3, 1) ∧ decode cL_law 761 = .ok (.iconst 2, 1) ∧ decode cL_law 762 = .ok (.iadd, 1) ∧ decode cL_law 763 = .ok (.iaload, 1) := by decide +kernel
theorem dL_law_756 : decode cL_law 756 = .ok (.iconst 1, 1) := bdL_law_756.1
theorem dL_law_757 : decode cL_law 757 = .ok (.iadd, 1) := bdL_law_756.2.1
theorem dL_law_758 : decode cL_law 758 = .ok (.iaload, 1) := bdL_law_756.2.2.1
theorem dL_law_759 : decode cL_law 759 = .ok (.aload_n 0, 1) := bdL_law_756.2.2.2.1
theorem dL_law_760 : decode cL_law 760 = .ok (.iload_n 3, 1) := bdL_law_756.2.2.2.2.1
theorem dL_law_761 : decode cL_law 761 = .ok (.iconst 2, 1) := bdL_law_756.2.2.2.2.2.1
theorem dL_law_762 : decode cL_law 762 = .ok (.iadd, 1) := bdL_law_756.2.2.2.2.2.2.1
theorem dL_law_763 : decode cL_law 763 = .ok (.iaload, 1) := bdL_law_756.2.2.2.2.2.2.2
theorem bdL_law_764 : decode cL_law 764 = .ok (.invokevirtual 94, 3) ∧ decode cL_law 767 = .ok (.pop, 1) ∧ decode cL_law 768 = .ok (.goto 254, 3) ∧ decode cL_law 771 = .ok (.aload_n 1, 1) ∧ decode cL_law 772 = .ok (.aload_n 0, 1) ∧ decode cL_law 773 = .ok (.iload_n 3, 1) ∧ decode cL_law 774 = .ok (.iconst 1, 1) ∧ decode cL_law 775 = .ok (.iadd, 1) := by decide +kernel
theorem dL_law_764 : decode cL_law 764 = .ok (.invokevirtual 94, 3) := bdL_law_764.1
theorem dL_law_767 : decode cL_law 767 = .ok (.pop, 1) := bdL_law_764.2.1
theorem dL_law_768 : decode cL_law 768 = .ok (.goto 254, 3) := bdL_law_764.2.2.1
theorem dL_law_771 : decode cL_law 771 = .ok (.aload_n 1, 1) := bdL_law_764.2.2.2.1
theorem dL_law_772 : decode cL_law 772 = .ok (.aload_n 0, 1) := bdL_law_764.2.2.2.2.1
theorem dL_law_773 : decode cL_law 773 = .ok (.iload_n 3, 1) := bdL_law_764.2.2.2.2.2.1
theorem dL_law_774 : decode cL_law 774 = .ok (.iconst 1, 1) := bdL_law_764.2.2.2.2.2.2.1
theorem dL_law_775 : decode cL_law 775 = .ok (.iadd, 1) := bdL_law_764.2.2.2.2.2.2.2
theorem bdL_law_776 : decode cL_law 776 = .ok (.iaload, 1) ∧ decode cL_law 777 = .ok (.aload_n 0, 1) ∧ decode cL_law 778 = .ok (.iload_n 3, 1) ∧ decode cL_law 779 = .ok (.iconst 2, 1) ∧ decode cL_law 780 = .ok (.iadd, 1) ∧ decode cL_law 781 = .ok (.iaload, 1) ∧ decode cL_law 782 = .ok (.aload_n 0, 1) ∧ decode cL_law 783 = .ok (.iload_n 3, 1) := by decide +kernel
theorem dL_law_776 : decode cL_law 776 = .ok (.iaload, 1) := bdL_law_776.1
theorem dL_law_777 : decode cL_law 777 = .ok (.aload_n 0, 1) := bdL_law_776.2.1
theorem dL_law_778 : decode cL_law 778 = .ok (.iload_n 3, 1) := bdL_law_776.2.2.1
theorem dL_law_779 : decode cL_law 779 = .ok (.iconst 2, 1) := bdL_law_776.2.2.2.1
theorem dL_law_780 : decode cL_law 780 = .ok (.iadd, 1) := bdL_law_776.2.2.2.2.1
theorem dL_law_781 : decode cL_law 781 = .ok (.iaload, 1) := bdL_law_776.2.2.2.2.2.1
theorem dL_law_782 : decode cL_law 782 = .ok (.aload_n 0, 1) := bdL_law_776.2.2.2.2.2.2.1
theorem dL_law_783 : decode cL_law 783 = .ok (.iload_n 3, 1) := bdL_law_776.2.2.2.2.2.2.2
theorem bdL_law_784 : decode cL_law 784 = .ok (.iconst 3, 1) ∧ decode cL_law 785 = .ok (.iadd, 1) ∧ decode cL_law 786 = .ok (.iaload, 1) ∧ decode cL_law 787 = .ok (.aload_n 0, 1) ∧ decode cL_law 788 = .ok (.iload_n 3, 1) ∧ decode cL_law 789 = .ok (.iconst 4, 1) ∧ decode cL_law 790 = .ok (.iadd, 1) ∧ decode cL_law 791 = .ok (.iaload, 1) := by decide +kernel
theorem dL_law_784 : decode cL_law 784 = .ok (.iconst 3, 1) := bdL_law_784.1
theorem dL_law_785 : decode cL_law 785 = .ok (.iadd, 1) := bdL_law_784.2.1
theorem dL_law_786 : decode cL_law 786 = .ok (.iaload, 1) := bdL_law_784.2.2.1
theorem dL_law_787 : decode cL_law 787 = .ok (.aload_n 0, 1) := bdL_law_784.2.2.2.1
theorem dL_law_788 : decode cL_law 788 = .ok (.iload_n 3, 1) := bdL_law_784.2.2.2.2.1
theorem dL_law_789 : decode cL_law 789 = .ok (.iconst 4, 1) := bdL_law_784.2.2.2.2.2.1
theorem dL_law_790 : decode cL_law 790 = .ok (.iadd, 1) := bdL_law_784.2.2.2.2.2.2.1
theorem dL_law_791 : decode cL_law 791 = .ok (.iaload, 1) := bdL_law_784.2.2.2.2.2.2.2
theorem bdL_law_792 : decode cL_law 792 = .ok (.aload_n 0, 1) ∧ decode cL_law 793 = .ok (.iload_n 3, 1) ∧ decode cL_law 794 = .ok (.iconst 5, 1) ∧ decode cL_law 795 = .ok (.iadd, 1) ∧ decode cL_law 796 = .ok (.iaload, 1) ∧ decode cL_law 797 = .ok (.invokevirtual 95, 3) ∧ decode cL_law 800 = .ok (.pop, 1) ∧ decode cL_law 801 = .ok (.aload_n 2, 1) := by decide +kernel
theorem dL_law_792 : decode cL_law 792 = .ok (.aload_n 0, 1) := bdL_law_792.1
theorem dL_law_793 : decode cL_law 793 = .ok (.iload_n 3, 1) := bdL_law_792.2.1
theorem dL_law_794 : decode cL_law 794 = .ok (.iconst 5, 1) := bdL_law_792.2.2.1
theorem dL_law_795 : decode cL_law 795 = .ok (.iadd, 1) := bdL_law_792.2.2.2.1
theorem dL_law_796 : decode cL_law 796 = .ok (.iaload, 1) := bdL_law_792.2.2.2.2.1
theorem dL_law_797 : decode cL_law 797 = .ok (.invokevirtual 95, 3) := bdL_law_792.2.2.2.2.2.1
theorem dL_law_800 : decode cL_law 800 = .ok (.pop, 1) := bdL_law_792.2.2.2.2.2.2.1
theorem dL_law_801 : decode cL_law 801 = .ok (.aload_n 2, 1) := bdL_law_792.2.2.2.2.2.2.2
theorem bdL_law_802 : decode cL_law 802 = .ok (.aload_n 0, 1) ∧ decode cL_law 803 = .ok (.iload_n 3, 1) ∧ decode cL_law 804 = .ok (.iconst 1, 1) ∧ decode cL_law 805 = .ok (.iadd, 1) ∧ decode cL_law 806 = .ok (.iaload, 1) ∧ decode cL_law 807 = .ok (.aload_n 0, 1) ∧ decode cL_law 808 = .ok (.iload_n 3, 1) ∧ decode cL_law 809 = .ok (.iconst 2, 1) := by decide +kernel
theorem dL_law_802 : decode cL_law 802 = .ok (.aload_n 0, 1) := bdL_law_802.1
theorem dL_law_803 : decode cL_law 803 = .ok (.iload_n 3, 1) := bdL_law_802.2.1
theorem dL_law_804 : decode cL_law 804 = .ok (.iconst 1, 1) := bdL_law_802.2.2.1
theorem dL_law_805 : decode cL_law 805 = .ok (.iadd, 1) := bdL_law_802.2.2.2.1
theorem dL_law_806 : decode cL_law 806 = .ok (.iaload, 1) := bdL_law_802.2.2.2.2.1
theorem dL_law_807 : decode cL_law 807 = .ok (.aload_n 0, 1) := bdL_law_802.2.2.2.2.2.1
theorem dL_law_808 : decode cL_law 808 = .ok (.iload_n 3, 1) := bdL_law_802.2.2.2.2.2.2.1
theorem dL_law_809 : decode cL_law 809 = .ok (.iconst 2, 1) := bdL_law_802.2.2.2.2.2.2.2
theorem bdL_law_810 : decode cL_law 810 = .ok (.iadd, 1) ∧ decode cL_law 811 = .ok (.iaload, 1) ∧ decode cL_law 812 = .ok (.aload_n 0, 1) ∧ decode cL_law 813 = .ok (.iload_n 3, 1) ∧ decode cL_law 814 = .ok (.iconst 3, 1) ∧ decode cL_law 815 = .ok (.iadd, 1) ∧ decode cL_law 816 = .ok (.iaload, 1) ∧ decode cL_law 817 = .ok (.aload_n 0, 1) := by decide +kernel
theorem dL_law_810 : decode cL_law 810 = .ok (.iadd, 1) := bdL_law_810.1
theorem dL_law_811 : decode cL_law 811 = .ok (.iaload, 1) := bdL_law_810.2.1
theorem dL_law_812 : decode cL_law 812 = .ok (.aload_n 0, 1) := bdL_law_810.2.2.1
theorem dL_law_813 : decode cL_law 813 = .ok (.iload_n 3, 1) := bdL_law_810.2.2.2.1
theorem dL_law_814 : decode cL_law 814 = .ok (.iconst 3, 1) := bdL_law_810.2.2.2.2.1
theorem dL_law_815 : decode cL_law 815 = .ok (.iadd, 1) := bdL_law_810.2.2.2.2.2.1
theorem dL_law_816 : decode cL_law 816 = .ok (.iaload, 1) := bdL_law_810.2.2.2.2.2.2.1
theorem dL_law_817 : decode cL_law 817 = .ok (.aload_n 0, 1) := bdL_law_810.2.2.2.2.2.2.2
theorem bdL_law_818 : decode cL_law 818 = .ok (.iload_n 3, 1) ∧ decode cL_law 819 = .ok (.iconst 4, 1) ∧ decode cL_law 820 = .ok (.iadd, 1) ∧ decode cL_law 821 = .ok (.iaload, 1) ∧ decode cL_law 822 = .ok (.aload_n 0, 1) ∧ decode cL_law 823 = .ok (.iload_n 3, 1) ∧ decode cL_law 824 = .ok (.iconst 5, 1) ∧ decode cL_law 825 = .ok (.iadd, 1) := by decide +kernel
theorem dL_law_818 : decode cL_law 818 = .ok (.iload_n 3, 1) := bdL_law_818.1
theorem dL_law_819 : decode cL_law 819 = .ok (.iconst 4, 1) := bdL_law_818.2.1
theorem dL_law_820 : decode cL_law 820 = .ok (.iadd, 1) := bdL_law_818.2.2.1
theorem dL_law_821 : decode cL_law 821 = .ok (.iaload, 1) := bdL_law_818.2.2.2.1
theorem dL_law_822 : decode cL_law 822 = .ok (.aload_n 0, 1) := bdL_law_818.2.2.2.2.1
theorem dL_law_823 : decode cL_law 823 = .ok (.iload_n 3, 1) := bdL_law_818.2.2.2.2.2.1
theorem dL_law_824 : decode cL_law 824 = .ok (.iconst 5, 1) := bdL_law_818.2.2.2.2.2.2.1
theorem dL_law_825 : decode cL_law 825 = .ok (.iadd, 1) := bdL_law_818.2.2.2.2.2.2.2
theorem bdL_law_826 : decode cL_law 826 = .ok (.iaload, 1) ∧ decode cL_law 827 = .ok (.invokevirtual 98, 3) ∧ decode cL_law 830 = .ok (.pop, 1) ∧ decode cL_law 831 = .ok (.goto 191, 3) ∧ decode cL_law 834 = .ok (.aload_n 1, 1) ∧ decode cL_law 835 = .ok (.aload_n 0, 1) ∧ decode cL_law 836 = .ok (.iload_n 3, 1) ∧ decode cL_law 837 = .ok (.iconst 1, 1) := by decide +kernel
theorem dL_law_826 : decode cL_law 826 = .ok (.iaload, 1) := bdL_law_826.1
theorem dL_law_827 : decode cL_law 827 = .ok (.invokevirtual 98, 3) := bdL_law_826.2.1
theorem dL_law_830 : decode cL_law 830 = .ok (.pop, 1) := bdL_law_826.2.2.1
theorem dL_law_831 : decode cL_law 831 = .ok (.goto 191, 3) := bdL_law_826.2.2.2.1
theorem dL_law_834 : decode cL_law 834 = .ok (.aload_n 1, 1) := bdL_law_826.2.2.2.2.1
theorem dL_law_835 : decode cL_law 835 = .ok (.aload_n 0, 1) := bdL_law_826.2.2.2.2.2.1
theorem dL_law_836 : decode cL_law 836 = .ok (.iload_n 3, 1) := bdL_law_826.2.2.2.2.2.2.1
theorem dL_law_837 : decode cL_law 837 = .ok (.iconst 1, 1) := bdL_law_826.2.2.2.2.2.2.2
theorem bdL_law_838 : decode cL_law 838 = .ok (.iadd, 1) ∧ decode cL_law 839 = .ok (.iaload, 1) ∧ decode cL_law 840 = .ok (.aload_n 0, 1) ∧ decode cL_law 841 = .ok (.iload_n 3, 1) ∧ decode cL_law 842 = .ok (.iconst 2, 1) ∧ decode cL_law 843 = .ok (.iadd, 1) ∧ decode cL_law 844 = .ok (.iaload, 1) ∧ decode cL_law 845 = .ok (.invokevirtual 99, 3) := by decide +kernel
theorem dL_law_838 : decode cL_law 838 = .ok (.iadd, 1) := bdL_law_838.1
theorem dL_law_839 : decode cL_law 839 = .ok (.iaload, 1) := bdL_law_838.2.1
theorem dL_law_840 : decode cL_law 840 = .ok (.aload_n 0, 1) := bdL_law_838.2.2.1
theorem dL_law_841 : decode cL_law 841 = .ok (.iload_n 3, 1) := bdL_law_838.2.2.2.1
theorem dL_law_842 : decode cL_law 842 = .ok (.iconst 2, 1) := bdL_law_838.2.2.2.2.1
theorem dL_law_843 : decode cL_law 843 = .ok (.iadd, 1) := bdL_law_838.2.2.2.2.2.1
theorem dL_law_844 : decode cL_law 844 = .ok (.iaload, 1) := bdL_law_838.2.2.2.2.2.2.1
theorem dL_law_845 : decode cL_law 845 = .ok (.invokevirtual 99, 3) := bdL_law_838.2.2.2.2.2.2.2
theorem bdL_law_848 : decode cL_law 848 = .ok (.pop, 1) ∧ decode cL_law 849 = .ok (.aload_n 2, 1) ∧ decode cL_law 850 = .ok (.aload_n 0, 1) ∧ decode cL_law 851 = .ok (.iload_n 3, 1) ∧ decode cL_law 852 = .ok (.iconst 1, 1) ∧ decode cL_law 853 = .ok (.iadd, 1) ∧ decode cL_law 854 = .ok (.iaload, 1) ∧ decode cL_law 855 = .ok (.aload_n 0, 1) := by decide +kernel
theorem dL_law_848 : decode cL_law 848 = .ok (.pop, 1) := bdL_law_848.1
theorem dL_law_849 : decode cL_law 849 = .ok (.aload_n 2, 1) := bdL_law_848.2.1
theorem dL_law_850 : decode cL_law 850 = .ok (.aload_n 0, 1) := bdL_law_848.2.2.1
theorem dL_law_851 : decode cL_law 851 = .ok (.iload_n 3, 1) := bdL_law_848.2.2.2.1
theorem dL_law_852 : decode cL_law 852 = .ok (.iconst 1, 1) := bdL_law_848.2.2.2.2.1
theorem dL_law_853 : decode cL_law 853 = .ok (.iadd, 1) := bdL_law_848.2.2.2.2.2.1
theorem dL_law_854 : decode cL_law 854 = .ok (.iaload, 1) := bdL_law_848.2.2.2.2.2.2.1
theorem dL_law_855 : decode cL_law 855 = .ok (.aload_n 0, 1) := bdL_law_848.2.2.2.2.2.2.2
theorem bdL_law_856 : decode cL_law 856 = .ok (.iload_n 3, 1) ∧ decode cL_law 857 = .ok (.iconst 2, 1) ∧ decode cL_law 858 = .ok (.iadd, 1) ∧ decode cL_law 859 = .ok (.iaload, 1) ∧ decode cL_law 860 = .ok (.invokevirtual 102, 3) ∧ decode cL_law 863 = .ok (.pop, 1) ∧ decode cL_law 864 = .ok (.goto 158, 3) ∧ decode cL_law 867 = .ok (.aload_n 1, 1) := by decide +kernel
theorem dL_law_856 : decode cL_law 856 = .ok (.iload_n 3, 1) := bdL_law_856.1
theorem dL_law_857 : decode cL_law 857 = .ok (.iconst 2, 1) := bdL_law_856.2.1
theorem dL_law_858 : decode cL_law 858 = .ok (.iadd, 1) := bdL_law_856.2.2.1
theorem dL_law_859 : decode cL_law 859 = .ok (.iaload, 1) := bdL_law_856.2.2.2.1
theorem dL_law_860 : decode cL_law 860 = .ok (.invokevirtual 102, 3) := bdL_law_856.2.2.2.2.1
theorem dL_law_863 : decode cL_law 863 = .ok (.pop, 1) := bdL_law_856.2.2.2.2.2.1
theorem dL_law_864 : decode cL_law 864 = .ok (.goto 158, 3) := bdL_law_856.2.2.2.2.2.2.1
theorem dL_law_867 : decode cL_law 867 = .ok (.aload_n 1, 1) := bdL_law_856.2.2.2.2.2.2.2
theorem bdL_law_868 : decode cL_law 868 = .ok (.invokevirtual 103, 3) ∧ decode cL_law 871 = .ok (.pop, 1) ∧ decode cL_law 872 = .ok (.aload_n 2, 1) ∧ decode cL_law 873 = .ok (.invokevirtual 106, 3) ∧ decode cL_law 876 = .ok (.pop, 1) ∧ decode cL_law 877 = .ok (.goto 145, 3) ∧ decode cL_law 880 = .ok (.aload_n 1, 1) ∧ decode cL_law 881 = .ok (.invokevirtual 107, 3) := by decide +kernel
theorem dL_law_868 : decode cL_law 868 = .ok (.invokevirtual 103, 3) := bdL_law_868.1
theorem dL_law_871 : decode cL_law 871 = .ok (.pop, 1) := bdL_law_868.2.1
theorem dL_law_872 : decode cL_law 872 = .ok (.aload_n 2, 1) := bdL_law_868.2.2.1
theorem dL_law_873 : decode cL_law 873 = .ok (.invokevirtual 106, 3) := bdL_law_868.2.2.2.1
theorem dL_law_876 : decode cL_law 876 = .ok (.pop, 1) := bdL_law_868.2.2.2.2.1
theorem dL_law_877 : decode cL_law 877 = .ok (.goto 145, 3) := bdL_law_868.2.2.2.2.2.1
theorem dL_law_880 : decode cL_law 880 = .ok (.aload_n 1, 1) := bdL_law_868.2.2.2.2.2.2.1
theorem dL_law_881 : decode cL_law 881 = .ok (.invokevirtual 107, 3) := bdL_law_868.2.2.2.2.2.2.2
theorem bdL_law_884 : decode cL_law 884 = .ok (.pop, 1) ∧ decode cL_law 885 = .ok (.aload_n 2, 1) ∧ decode cL_law 886 = .ok (.invokevirtual 110, 3) ∧ decode cL_law 889 = .ok (.pop, 1) ∧ decode cL_law 890 = .ok (.goto 132, 3) ∧ decode cL_law 893 = .ok (.aload_n 1, 1) ∧ decode cL_law 894 = .ok (.invokevirtual 111, 3) ∧ decode cL_law 897 = .ok (.pop, 1) := by decide +kernel
theorem dL_law_884 : decode cL_law 884 = .ok (.pop, 1) := bdL_law_884.1
theorem dL_law_885 : decode cL_law 885 = .ok (.aload_n 2, 1) := bdL_law_884.2.1
theorem dL_law_886 : decode cL_law 886 = .ok (.invokevirtual 110, 3) := bdL_law_884.2.2.1
theorem dL_law_889 : decode cL_law 889 = .ok (.pop, 1) := bdL_law_884.2.2.2.1
theorem dL_law_890 : decode cL_law 890 = .ok (.goto 132, 3) := bdL_law_884.2.2.2.2.1
theorem dL_law_893 : decode cL_law 893 = .ok (.aload_n 1, 1) := bdL_law_884.2.2.2.2.2.1
theorem dL_law_894 : decode cL_law 894 = .ok (.invokevirtual 111, 3) := bdL_law_884.2.2.2.2.2.2.1
theorem dL_law_897 : decode cL_law 897 = .ok (.pop, 1) := bdL_law_884.2.2.2.2.2.2.2
theorem bdL_law_898 : decode cL_law 898 = .ok (.aload_n 2, 1) ∧ decode cL_law 899 = .ok (.invokevirtual 114, 3) ∧ decode cL_law 902 = .ok (.pop, 1) ∧ decode cL_law 903 = .ok (.goto 119, 3) ∧ decode cL_law 906 = .ok (.aload_n 1, 1) ∧ decode cL_law 907 = .ok (.aload_n 0, 1) ∧ decode cL_law 908 = .ok (.iload_n 3, 1) ∧ decode cL_law 909 = .ok (.iconst 1, 1) := by decide +kernel
theorem dL_law_898 : decode cL_law 898 = .ok (.aload_n 2, 1) := bdL_law_898.1
theorem dL_law_899 : decode cL_law 899 = .ok (.invokevirtual 114, 3) := bdL_law_898.2.1
theorem dL_law_902 : decode cL_law 902 = .ok (.pop, 1) := bdL_law_898.2.2.1
theorem dL_law_903 : decode cL_law 903 = .ok (.goto 119, 3) := bdL_law_898.2.2.2.1
theorem dL_law_906 : decode cL_law 906 = .ok (.aload_n 1, 1) := bdL_law_898.2.2.2.2.1
theorem dL_law_907 : decode cL_law 907 = .ok (.aload_n 0, 1) := bdL_law_898.2.2.2.2.2.1
theorem dL_law_908 : decode cL_law 908 = .ok (.iload_n 3, 1) := bdL_law_898.2.2.2.2.2.2.1
theorem dL_law_909 : decode cL_law 909 = .ok (.iconst 1, 1) := bdL_law_898.2.2.2.2.2.2.2
theorem bdL_law_910 : decode cL_law 910 = .ok (.iadd, 1) ∧ decode cL_law 911 = .ok (.iaload, 1) ∧ decode cL_law 912 = .ok (.aload_n 0, 1) ∧ decode cL_law 913 = .ok (.iload_n 3, 1) ∧ decode cL_law 914 = .ok (.iconst 2, 1) ∧ decode cL_law 915 = .ok (.iadd, 1) ∧ decode cL_law 916 = .ok (.iaload, 1) ∧ decode cL_law 917 = .ok (.invokevirtual 115, 3) := by decide +kernel
theorem dL_law_910 : decode cL_law 910 = .ok (.iadd, 1) := bdL_law_910.1
theorem dL_law_911 : decode cL_law 911 = .ok (.iaload, 1) := bdL_law_910.2.1
theorem dL_law_912 : decode cL_law 912 = .ok (.aload_n 0, 1) := bdL_law_910.2.2.1
theorem dL_law_913 : decode cL_law 913 = .ok (.iload_n 3, 1) := bdL_law_910.2.2.2.1
theorem dL_law_914 : decode cL_law 914 = .ok (.iconst 2, 1) := bdL_law_910.2.2.2.2.1
theorem dL_law_915 : decode cL_law 915 = .ok (.iadd, 1) := bdL_law_910.2.2.2.2.2.1
theorem dL_law_916 : decode cL_law 916 = .ok (.iaload, 1) := bdL_law_910.2.2.2.2.2.2.1
theorem dL_law_917 : decode cL_law 917 = .ok (.invokevirtual 115, 3) := bdL_law_910.2.2.2.2.2.2.2
theorem bdL_law_920 : decode cL_law 920 = .ok (.pop, 1) ∧ decode cL_law 921 = .ok (.aload_n 2, 1) ∧ decode cL_law 922 = .ok (.aload_n 0, 1) ∧ decode cL_law 923 = .ok (.iload_n 3, 1) ∧ decode cL_law 924 = .ok (.iconst 1, 1) ∧ decode cL_law 925 = .ok (.iadd, 1) ∧ decode cL_law 926 = .ok (.iaload, 1) ∧ decode cL_law 927 = .ok (.aload_n 0, 1) := by decide +kernel
theorem dL_law_920 : decode cL_law 920 = .ok (.pop, 1) := bdL_law_920.1
theorem dL_law_921 : decode cL_law 921 = .ok (.aload_n 2, 1) := bdL_law_920.2.1
theorem dL_law_922 : decode cL_law 922 = .ok (.aload_n 0, 1) := bdL_law_920.2.2.1
theorem dL_law_923 : decode cL_law 923 = .ok (.iload_n 3, 1) := bdL_law_920.2.2.2.1
theorem dL_law_924 : decode cL_law 924 = .ok (.iconst 1, 1) := bdL_law_920.2.2.2.2.1
theorem dL_law_925 : decode cL_law 925 = .ok (.iadd, 1) := bdL_law_920.2.2.2.2.2.1
theorem dL_law_926 : decode cL_law 926 = .ok (.iaload, 1) := bdL_law_920.2.2.2.2.2.2.1
theorem dL_law_927 : decode cL_law 927 = .ok (.aload_n 0, 1) := bdL_law_920.2.2.2.2.2.2.2
theorem bdL_law_928 : decode cL_law 928 = .ok (.iload_n 3, 1) ∧ decode cL_law 929 = .ok (.iconst 2, 1) ∧ decode cL_law 930 = .ok (.iadd, 1) ∧ decode cL_law 931 = .ok (.iaload, 1) ∧ decode cL_law 932 = .ok (.invokevirtual 118, 3) ∧ decode cL_law 935 = .ok (.pop, 1) ∧ decode cL_law 936 = .ok (.goto 86, 3) ∧ decode cL_law 939 = .ok (.aload_n 1, 1) := by decide +kernel
theorem dL_law_928 : decode cL_law 928 = .ok (.iload_n 3, 1) := bdL_law_928.1
theorem dL_law_929 : decode cL_law 929 = .ok (.iconst 2, 1) := bdL_law_928.2.1
theorem dL_law_930 : decode cL_law 930 = .ok (.iadd, 1) := bdL_law_928.2.2.1
theorem dL_law_931 : decode cL_law 931 = .ok (.iaload, 1) := bdL_law_928.2.2.2.1
theorem dL_law_932 : decode cL_law 932 = .ok (.invokevirtual 118, 3) := bdL_law_928.2.2.2.2.1
theorem dL_law_935 : decode cL_law 935 = .ok (.pop, 1) := bdL_law_928.2.2.2.2.2.1
theorem dL_law_936 : decode cL_law 936 = .ok (.goto 86, 3) := bdL_law_928.2.2.2.2.2.2.1
theorem dL_law_939 : decode cL_law 939 = .ok (.aload_n 1, 1) := bdL_law_928.2.2.2.2.2.2.2
theorem bdL_law_940 : decode cL_law 940 = .ok (.aload_n 0, 1) ∧ decode cL_law 941 = .ok (.iload_n 3, 1) ∧ decode cL_law 942 = .ok (.iconst 1, 1) ∧ decode cL_law 943 = .ok (.iadd, 1) ∧ decode cL_law 944 = .ok (.iaload, 1) ∧ decode cL_law 945 = .ok (.invokevirtual 119, 3) ∧ decode cL_law 948 = .ok (.pop, 1) ∧ decode cL_law 949 = .ok (.aload_n 2, 1) := by decide +kernel
theorem dL_law_940 : decode cL_law 940 = .ok (.aload_n 0, 1) := bdL_law_940.1
theorem dL_law_941 : decode cL_law 941 = .ok (.iload_n 3, 1) := bdL_law_940.2.1
theorem dL_law_942 : decode cL_law 942 = .ok (.iconst 1, 1) := bdL_law_940.2.2.1
theorem dL_law_943 : decode cL_law 943 = .ok (.iadd, 1) := bdL_law_940.2.2.2.1
theorem dL_law_944 : decode cL_law 944 = .ok (.iaload, 1) := bdL_law_940.2.2.2.2.1
theorem dL_law_945 : decode cL_law 945 = .ok (.invokevirtual 119, 3) := bdL_law_940.2.2.2.2.2.1
theorem dL_law_948 : decode cL_law 948 = .ok (.pop, 1) := bdL_law_940.2.2.2.2.2.2.1
theorem dL_law_949 : decode cL_law 949 = .ok (.aload_n 2, 1) := bdL_law_940.2.2.2.2.2.2.2
theorem bdL_law_950 : decode cL_law 950 = .ok (.aload_n 0, 1) ∧ decode cL_law 951 = .ok (.iload_n 3, 1) ∧ decode cL_law 952 = .ok (.iconst 1, 1) ∧ decode cL_law 953 = .ok (.iadd, 1) ∧ decode cL_law 954 = .ok (.iaload, 1) ∧ decode cL_law 955 = .ok (.invokevirtual 122, 3) ∧ decode cL_law 958 = .ok (.pop, 1) ∧ decode cL_law 959 = .ok (.goto 63, 3) := by decide +kernel
theorem dL_law_950 : decode cL_law 950 = .ok (.aload_n 0, 1) := bdL_law_950.1
theorem dL_law_951 : decode cL_law 951 = .ok (.iload_n 3, 1) := bdL_law_950.2.1
theorem dL_law_952 : decode cL_law 952 = .ok (.iconst 1, 1) := bdL_law_950.2.2.1
theorem dL_law_953 : decode cL_law 953 = .ok (.iadd, 1) := bdL_law_950.2.2.2.1
theorem dL_law_954 : decode cL_law 954 = .ok (.iaload, 1) := bdL_law_950.2.2.2.2.1
theorem dL_law_955 : decode cL_law 955 = .ok (.invokevirtual 122, 3) := bdL_law_950.2.2.2.2.2.1
theorem dL_law_958 : decode cL_law 958 = .ok (.pop, 1) := bdL_law_950.2.2.2.2.2.2.1
theorem dL_law_959 : decode cL_law 959 = .ok (.goto 63, 3) := bdL_law_950.2.2.2.2.2.2.2
theorem bdL_law_962 : decode cL_law 962 = .ok (.aload_n 1, 1) ∧ decode cL_law 963 = .ok (.aload_n 0, 1) ∧ decode cL_law 964 = .ok (.iload_n 3, 1) ∧ decode cL_law 965 = .ok (.iconst 1, 1) ∧ decode cL_law 966 = .ok (.iadd, 1) ∧ decode cL_law 967 = .ok (.iaload, 1) ∧ decode cL_law 968 = .ok (.invokevirtual 123, 3) ∧ decode cL_law 971 = .ok (.pop, 1) := by decide +kernel
theorem dL_law_962 : decode cL_law 962 = .ok (.aload_n 1, 1) := bdL_law_962.1
theorem dL_law_963 : decode cL_law 963 = .ok (.aload_n 0, 1) := bdL_law_962.2.1
theorem dL_law_964 : decode cL_law 964 = .ok (.iload_n 3, 1) := bdL_law_962.2.2.1
theorem dL_law_965 : decode cL_law 965 = .ok (.iconst 1, 1) := bdL_law_962.2.2.2.1
theorem dL_law_966 : decode cL_law 966 = .ok (.iadd, 1) := bdL_law_962.2.2.2.2.1
theorem dL_law_967 : decode cL_law 967 = .ok (.iaload, 1) := bdL_law_962.2.2.2.2.2.1
theorem dL_law_968 : decode cL_law 968 = .ok (.invokevirtual 123, 3) := bdL_law_962.2.2.2.2.2.2.1
theorem dL_law_971 : decode cL_law 971 = .ok (.pop, 1) := bdL_law_962.2.2.2.2.2.2.2
theorem bdL_law_972 : decode cL_law 972 = .ok (.aload_n 2, 1) ∧ decode cL_law 973 = .ok (.aload_n 0, 1) ∧ decode cL_law 974 = .ok (.iload_n 3, 1) ∧ decode cL_law 975 = .ok (.iconst 1, 1) ∧ decode cL_law 976 = .ok (.iadd, 1) ∧ decode cL_law 977 = .ok (.iaload, 1) ∧ decode cL_law 978 = .ok (.invokevirtual 126, 3) ∧ decode cL_law 981 = .ok (.pop, 1) := by decide +kernel
theorem dL_law_972 : decode cL_law 972 = .ok (.aload_n 2, 1) := bdL_law_972.1
theorem dL_law_973 : decode cL_law 973 = .ok (.aload_n 0, 1) := bdL_law_972.2.1
theorem dL_law_974 : decode cL_law 974 = .ok (.iload_n 3, 1) := bdL_law_972.2.2.1
theorem dL_law_975 : decode cL_law 975 = .ok (.iconst 1, 1) := bdL_law_972.2.2.2.1
theorem dL_law_976 : decode cL_law 976 = .ok (.iadd, 1) := bdL_law_972.2.2.2.2.1
theorem dL_law_977 : decode cL_law 977 = .ok (.iaload, 1) := bdL_law_972.2.2.2.2.2.1
theorem dL_law_978 : decode cL_law 978 = .ok (.invokevirtual 126, 3) := bdL_law_972.2.2.2.2.2.2.1
theorem dL_law_981 : decode cL_law 981 = .ok (.pop, 1) := bdL_law_972.2.2.2.2.2.2.2
theorem bdL_law_982 : decode cL_law 982 = .ok (.goto 40, 3) ∧ decode cL_law 985 = .ok (.aload_n 1, 1) ∧ decode cL_law 986 = .ok (.aload_n 0, 1) ∧ decode cL_law 987 = .ok (.iload_n 3, 1) ∧ decode cL_law 988 = .ok (.iconst 1, 1) ∧ decode cL_law 989 = .ok (.iadd, 1) ∧ decode cL_law 990 = .ok (.iaload, 1) ∧ decode cL_law 991 = .ok (.invokevirtual 127, 3) := by decide +kernel
theorem dL_law_982 : decode cL_law 982 = .ok (.goto 40, 3) := bdL_law_982.1
theorem dL_law_985 : decode cL_law 985 = .ok (.aload_n 1, 1) := bdL_law_982.2.1
theorem dL_law_986 : decode cL_law 986 = .ok (.aload_n 0, 1) := bdL_law_982.2.2.1
theorem dL_law_987 : decode cL_law 987 = .ok (.iload_n 3, 1) := bdL_law_982.2.2.2.1
theorem dL_law_988 : decode cL_law 988 = .ok (.iconst 1, 1) := bdL_law_982.2.2.2.2.1
theorem dL_law_989 : decode cL_law 989 = .ok (.iadd, 1) := bdL_law_982.2.2.2.2.2.1
theorem dL_law_990 : decode cL_law 990 = .ok (.iaload, 1) := bdL_law_982.2.2.2.2.2.2.1
theorem dL_law_991 : decode cL_law 991 = .ok (.invokevirtual 127, 3) := bdL_law_982.2.2.2.2.2.2.2
theorem bdL_law_994 : decode cL_law 994 = .ok (.pop, 1) ∧ decode cL_law 995 = .ok (.aload_n 2, 1) ∧ decode cL_law 996 = .ok (.aload_n 0, 1) ∧ decode cL_law 997 = .ok (.iload_n 3, 1) ∧ decode cL_law 998 = .ok (.iconst 1, 1) ∧ decode cL_law 999 = .ok (.iadd, 1) ∧ decode cL_law 1000 = .ok (.iaload, 1) ∧ decode cL_law 1001 = .ok (.invokevirtual 130, 3) := by decide +kernel
theorem dL_law_994 : decode cL_law 994 = .ok (.pop, 1) := bdL_law_994.1
theorem dL_law_995 : decode cL_law 995 = .ok (.aload_n 2, 1) := bdL_law_994.2.1
theorem dL_law_996 : decode cL_law 996 = .ok (.aload_n 0, 1) := bdL_law_994.2.2.1
theorem dL_law_997 : decode cL_law 997 = .ok (.iload_n 3, 1) := bdL_law_994.2.2.2.1
theorem dL_law_998 : decode cL_law 998 = .ok (.iconst 1, 1) := bdL_law_994.2.2.2.2.1
theorem dL_law_999 : decode cL_law 999 = .ok (.iadd, 1) := bdL_law_994.2.2.2.2.2.1
theorem dL_law_1000 : decode cL_law 1000 = .ok (.iaload, 1) := bdL_law_994.2.2.2.2.2.2.1
theorem dL_law_1001 : decode cL_law 1001 = .ok (.invokevirtual 130, 3) := bdL_law_994.2.2.2.2.2.2.2
theorem bdL_law_1004 : decode cL_law 1004 = .ok (.pop, 1) ∧ decode cL_law 1005 = .ok (.goto 17, 3) ∧ decode cL_law 1008 = .ok (.aload_n 1, 1) ∧ decode cL_law 1009 = .ok (.invokevirtual 131, 3) ∧ decode cL_law 1012 = .ok (.aload_n 2, 1) ∧ decode cL_law 1013 = .ok (.invokevirtual 135, 3) ∧ decode cL_law 1016 = .ok (.lcmp, 1) ∧ decode cL_law 1017 = .ok (.ifCond .eq 5, 3) := by decide +kernel
theorem dL_law_1004 : decode cL_law 1004 = .ok (.pop, 1) := bdL_law_1004.1
theorem dL_law_1005 : decode cL_law 1005 = .ok (.goto 17, 3) := bdL_law_1004.2.1
theorem dL_law_1008 : decode cL_law 1008 = .ok (.aload_n 1, 1) := bdL_law_1004.2.2.1
theorem dL_law_1009 : decode cL_law 1009 = .ok (.invokevirtual 131, 3) := bdL_law_1004.2.2.2.1
theorem dL_law_1012 : decode cL_law 1012 = .ok (.aload_n 2, 1) := bdL_law_1004.2.2.2.2.1
theorem dL_law_1013 : decode cL_law 1013 = .ok (.invokevirtual 135, 3) := bdL_law_1004.2.2.2.2.2.1
theorem dL_law_1016 : decode cL_law 1016 = .ok (.lcmp, 1) := bdL_law_1004.2.2.2.2.2.2.1
theorem dL_law_1017 : decode cL_law 1017 = .ok (.ifCond .eq 5, 3) := bdL_law_1004.2.2.2.2.2.2.2
theorem bdL_law_1020 : decode cL_law 1020 = .ok (.iconst 0, 1) ∧ decode cL_law 1021 = .ok (.ireturn, 1) ∧ decode cL_law 1022 = .ok (.iinc 3 6, 3) ∧ decode cL_law 1025 = .ok (.goto (-1007), 3) ∧ decode cL_law 1028 = .ok (.iconst 1, 1) ∧ decode cL_law 1029 = .ok (.ireturn, 1) := by decide +kernel
theorem dL_law_1020 : decode cL_law 1020 = .ok (.iconst 0, 1) := bdL_law_1020.1
theorem dL_law_1021 : decode cL_law 1021 = .ok (.ireturn, 1) := bdL_law_1020.2.1
theorem dL_law_1022 : decode cL_law 1022 = .ok (.iinc 3 6, 3) := bdL_law_1020.2.2.1
theorem dL_law_1025 : decode cL_law 1025 = .ok (.goto (-1007), 3) := bdL_law_1020.2.2.2.1
theorem dL_law_1028 : decode cL_law 1028 = .ok (.iconst 1, 1) := bdL_law_1020.2.2.2.2.1
theorem dL_law_1029 : decode cL_law 1029 = .ok (.ireturn, 1) := bdL_law_1020.2.2.2.2.2
