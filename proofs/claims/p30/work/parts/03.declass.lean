theorem bdX0_init_0 : decode cX0_init 0 = .ok (.aload_n 0, 1) ∧ decode cX0_init 1 = .ok (.invokespecial 3, 3) ∧ decode cX0_init 4 = .ok (.aload_n 0, 1) ∧ decode cX0_init 5 = .ok (.bipush 6, 2) ∧ decode cX0_init 7 = .ok (.newarray .int, 2) ∧ decode cX0_init 9 = .ok (.putfield 9, 3) ∧ decode cX0_init 12 = .ok (.aload_n 0, 1) ∧ decode cX0_init 13 = .ok (.bipush 24, 2) := by decide +kernel
theorem dX0_init_0 : decode cX0_init 0 = .ok (.aload_n 0, 1) := bdX0_init_0.1
theorem dX0_init_1 : decode cX0_init 1 = .ok (.invokespecial 3, 3) := bdX0_init_0.2.1
theorem dX0_init_4 : decode cX0_init 4 = .ok (.aload_n 0, 1) := bdX0_init_0.2.2.1
theorem dX0_init_5 : decode cX0_init 5 = .ok (.bipush 6, 2) := bdX0_init_0.2.2.2.1
theorem dX0_init_7 : decode cX0_init 7 = .ok (.newarray .int, 2) := bdX0_init_0.2.2.2.2.1
theorem dX0_init_9 : decode cX0_init 9 = .ok (.putfield 9, 3) := bdX0_init_0.2.2.2.2.2.1
theorem dX0_init_12 : decode cX0_init 12 = .ok (.aload_n 0, 1) := bdX0_init_0.2.2.2.2.2.2.1
theorem dX0_init_13 : decode cX0_init 13 = .ok (.bipush 24, 2) := bdX0_init_0.2.2.2.2.2.2.2
theorem bdX0_init_15 : decode cX0_init 15 = .ok (.newarray .int, 2) ∧ decode cX0_init 17 = .ok (.putfield 15, 3) ∧ decode cX0_init 20 = .ok (.aload_n 0, 1) ∧ decode cX0_init 21 = .ok (.iconst 4, 1) ∧ decode cX0_init 22 = .ok (.newarray .int, 2) ∧ decode cX0_init 24 = .ok (.putfield 18, 3) ∧ decode cX0_init 27 = .ok (.aload_n 0, 1) ∧ decode cX0_init 28 = .ok (.iconst 0, 1) := by decide +kernel
theorem dX0_init_15 : decode cX0_init 15 = .ok (.newarray .int, 2) := bdX0_init_15.1
theorem dX0_init_17 : decode cX0_init 17 = .ok (.putfield 15, 3) := bdX0_init_15.2.1
theorem dX0_init_20 : decode cX0_init 20 = .ok (.aload_n 0, 1) := bdX0_init_15.2.2.1
theorem dX0_init_21 : decode cX0_init 21 = .ok (.iconst 4, 1) := bdX0_init_15.2.2.2.1
theorem dX0_init_22 : decode cX0_init 22 = .ok (.newarray .int, 2) := bdX0_init_15.2.2.2.2.1
theorem dX0_init_24 : decode cX0_init 24 = .ok (.putfield 18, 3) := bdX0_init_15.2.2.2.2.2.1
theorem dX0_init_27 : decode cX0_init 27 = .ok (.aload_n 0, 1) := bdX0_init_15.2.2.2.2.2.2.1
theorem dX0_init_28 : decode cX0_init 28 = .ok (.iconst 0, 1) := bdX0_init_15.2.2.2.2.2.2.2
theorem bdX0_init_29 : decode cX0_init 29 = .ok (.putfield 21, 3) ∧ decode cX0_init 32 = .ok (.return_, 1) := by decide +kernel
theorem dX0_init_29 : decode cX0_init 29 = .ok (.putfield 21, 3) := bdX0_init_29.1
theorem dX0_init_32 : decode cX0_init 32 = .ok (.return_, 1) := bdX0_init_29.2
theorem bdX0_addMember_0 : decode cX0_addMember 0 = .ok (.aload_n 0, 1) ∧ decode cX0_addMember 1 = .ok (.getfield 9, 3) ∧ decode cX0_addMember 4 = .ok (.aload_n 0, 1) ∧ decode cX0_addMember 5 = .ok (.getfield 21, 3) ∧ decode cX0_addMember 8 = .ok (.iload_n 1, 1) ∧ decode cX0_addMember 9 = .ok (.iastore, 1) ∧ decode cX0_addMember 10 = .ok (.aload_n 0, 1) ∧ decode cX0_addMember 11 = .ok (.dup, 1) := by decide +kernel
theorem dX0_addMember_0 : decode cX0_addMember 0 = .ok (.aload_n 0, 1) := bdX0_addMember_0.1
theorem dX0_addMember_1 : decode cX0_addMember 1 = .ok (.getfield 9, 3) := bdX0_addMember_0.2.1
theorem dX0_addMember_4 : decode cX0_addMember 4 = .ok (.aload_n 0, 1) := bdX0_addMember_0.2.2.1
theorem dX0_addMember_5 : decode cX0_addMember 5 = .ok (.getfield 21, 3) := bdX0_addMember_0.2.2.2.1
theorem dX0_addMember_8 : decode cX0_addMember 8 = .ok (.iload_n 1, 1) := bdX0_addMember_0.2.2.2.2.1
theorem dX0_addMember_9 : decode cX0_addMember 9 = .ok (.iastore, 1) := bdX0_addMember_0.2.2.2.2.2.1
theorem dX0_addMember_10 : decode cX0_addMember 10 = .ok (.aload_n 0, 1) := bdX0_addMember_0.2.2.2.2.2.2.1
theorem dX0_addMember_11 : decode cX0_addMember 11 = .ok (.dup, 1) := bdX0_addMember_0.2.2.2.2.2.2.2
theorem bdX0_addMember_12 : decode cX0_addMember 12 = .ok (.getfield 21, 3) ∧ decode cX0_addMember 15 = .ok (.iconst 1, 1) ∧ decode cX0_addMember 16 = .ok (.iadd, 1) ∧ decode cX0_addMember 17 = .ok (.putfield 21, 3) ∧ decode cX0_addMember 20 = .ok (.aload_n 0, 1) ∧ decode cX0_addMember 21 = .ok (.getfield 21, 3) ∧ decode cX0_addMember 24 = .ok (.iconst 1, 1) ∧ decode cX0_addMember 25 = .ok (.isub, 1) := by decide +kernel
theorem dX0_addMember_12 : decode cX0_addMember 12 = .ok (.getfield 21, 3) := bdX0_addMember_12.1
theorem dX0_addMember_15 : decode cX0_addMember 15 = .ok (.iconst 1, 1) := bdX0_addMember_12.2.1
theorem dX0_addMember_16 : decode cX0_addMember 16 = .ok (.iadd, 1) := bdX0_addMember_12.2.2.1
theorem dX0_addMember_17 : decode cX0_addMember 17 = .ok (.putfield 21, 3) := bdX0_addMember_12.2.2.2.1
theorem dX0_addMember_20 : decode cX0_addMember 20 = .ok (.aload_n 0, 1) := bdX0_addMember_12.2.2.2.2.1
theorem dX0_addMember_21 : decode cX0_addMember 21 = .ok (.getfield 21, 3) := bdX0_addMember_12.2.2.2.2.2.1
theorem dX0_addMember_24 : decode cX0_addMember 24 = .ok (.iconst 1, 1) := bdX0_addMember_12.2.2.2.2.2.2.1
theorem dX0_addMember_25 : decode cX0_addMember 25 = .ok (.isub, 1) := bdX0_addMember_12.2.2.2.2.2.2.2
theorem dX0_addMember_26 : decode cX0_addMember 26 = .ok (.ireturn, 1) := by decide +kernel
theorem bdX0_setFewest_0 : decode cX0_setFewest 0 = .ok (.aload_n 0, 1) ∧ decode cX0_setFewest 1 = .ok (.getfield 15, 3) ∧ decode cX0_setFewest 4 = .ok (.iload_n 1, 1) ∧ decode cX0_setFewest 5 = .ok (.iconst 4, 1) ∧ decode cX0_setFewest 6 = .ok (.imul, 1) ∧ decode cX0_setFewest 7 = .ok (.iload_n 2, 1) ∧ decode cX0_setFewest 8 = .ok (.iadd, 1) ∧ decode cX0_setFewest 9 = .ok (.iload_n 3, 1) := by decide +kernel
theorem dX0_setFewest_0 : decode cX0_setFewest 0 = .ok (.aload_n 0, 1) := bdX0_setFewest_0.1
theorem dX0_setFewest_1 : decode cX0_setFewest 1 = .ok (.getfield 15, 3) := bdX0_setFewest_0.2.1
theorem dX0_setFewest_4 : decode cX0_setFewest 4 = .ok (.iload_n 1, 1) := bdX0_setFewest_0.2.2.1
theorem dX0_setFewest_5 : decode cX0_setFewest 5 = .ok (.iconst 4, 1) := bdX0_setFewest_0.2.2.2.1
theorem dX0_setFewest_6 : decode cX0_setFewest 6 = .ok (.imul, 1) := bdX0_setFewest_0.2.2.2.2.1
theorem dX0_setFewest_7 : decode cX0_setFewest 7 = .ok (.iload_n 2, 1) := bdX0_setFewest_0.2.2.2.2.2.1
theorem dX0_setFewest_8 : decode cX0_setFewest 8 = .ok (.iadd, 1) := bdX0_setFewest_0.2.2.2.2.2.2.1
theorem dX0_setFewest_9 : decode cX0_setFewest 9 = .ok (.iload_n 3, 1) := bdX0_setFewest_0.2.2.2.2.2.2.2
theorem bdX0_setFewest_10 : decode cX0_setFewest 10 = .ok (.iastore, 1) ∧ decode cX0_setFewest 11 = .ok (.return_, 1) := by decide +kernel
theorem dX0_setFewest_10 : decode cX0_setFewest 10 = .ok (.iastore, 1) := bdX0_setFewest_10.1
theorem dX0_setFewest_11 : decode cX0_setFewest 11 = .ok (.return_, 1) := bdX0_setFewest_10.2
set_option maxRecDepth 20000 in
set_option maxRecDepth 100000 in
theorem ggX0_search_X0_costOf : GoodIn wsX0_search wsX0_costOf := goodIn_hd (goodIn_c ch_X0_search hc_X0_search ([.code yX0_costOf cX0_costOf 7 (some .int)] : List Cond) [(1, 7)] rfl (by decide +kernel)) (goodIn_app (goodIn_c ch_X0_search hc_X0_search ([.fieldLink RX0 18 "WordFletchers$Allotment" "used" "[I", .fieldLink RX0 21 "WordFletchers$Allotment" "members" "I", .fieldLink RX0 15 "WordFletchers$Allotment" "fewest" "[I", .methodLink RX0 35 yX0_kindOf, .instanceMethod yX0_kindOf, .selects RX0 yX0_kindOf yX0_kindOf, .initialized RX0, .code yX0_kindOf cX0_kindOf 3 (some .int)] : List Cond) [(1, 8), (1, 1), (1, 9), (1, 10), (1, 11), (1, 12), (1, 6), (1, 13)] rfl (by decide +kernel)) (goodIn_sub (fun _ h => (List.mem_cons_of_mem _ (List.mem_append_right _ h))) gwX0))
set_option maxRecDepth 20000 in
theorem gX0_search_X0_costOf : GoodIn wsX0_search (wsV RX0 28 RX0 yX0_costOf wsX0_costOf) := goodIn_app (goodIn_of _ (by decide +kernel)) ggX0_search_X0_costOf
theorem bdX0_search_0 : decode cX0_search 0 = .ok (.aload_n 0, 1) ∧ decode cX0_search 1 = .ok (.bipush (-9), 2) ∧ decode cX0_search 3 = .ok (.putfield 25, 3) ∧ decode cX0_search 6 = .ok (.iconst 0, 1) ∧ decode cX0_search 7 = .ok (.istore_n 2, 1) ∧ decode cX0_search 8 = .ok (.iload_n 2, 1) ∧ decode cX0_search 9 = .ok (.iconst 1, 1) ∧ decode cX0_search 10 = .ok (.iconst 2, 1) := by decide +kernel
theorem dX0_search_0 : decode cX0_search 0 = .ok (.aload_n 0, 1) := bdX0_search_0.1
theorem dX0_search_1 : decode cX0_search 1 = .ok (.bipush (-9), 2) := bdX0_search_0.2.1
theorem dX0_search_3 : decode cX0_search 3 = .ok (.putfield 25, 3) := bdX0_search_0.2.2.1
theorem dX0_search_6 : decode cX0_search 6 = .ok (.iconst 0, 1) := bdX0_search_0.2.2.2.1
theorem dX0_search_7 : decode cX0_search 7 = .ok (.istore_n 2, 1) := bdX0_search_0.2.2.2.2.1
theorem dX0_search_8 : decode cX0_search 8 = .ok (.iload_n 2, 1) := bdX0_search_0.2.2.2.2.2.1
theorem dX0_search_9 : decode cX0_search 9 = .ok (.iconst 1, 1) := bdX0_search_0.2.2.2.2.2.2.1
theorem dX0_search_10 : decode cX0_search 10 = .ok (.iconst 2, 1) := bdX0_search_0.2.2.2.2.2.2.2
theorem bdX0_search_11 : decode cX0_search 11 = .ok (.aload_n 0, 1) ∧ decode cX0_search 12 = .ok (.getfield 21, 3) ∧ decode cX0_search 15 = .ok (.imul, 1) ∧ decode cX0_search 16 = .ok (.ishl, 1) ∧ decode cX0_search 17 = .ok (.if_icmp .ge 45, 3) ∧ decode cX0_search 20 = .ok (.aload_n 0, 1) ∧ decode cX0_search 21 = .ok (.iload_n 2, 1) ∧ decode cX0_search 22 = .ok (.aload_n 1, 1) := by decide +kernel
theorem dX0_search_11 : decode cX0_search 11 = .ok (.aload_n 0, 1) := bdX0_search_11.1
theorem dX0_search_12 : decode cX0_search 12 = .ok (.getfield 21, 3) := bdX0_search_11.2.1
theorem dX0_search_15 : decode cX0_search 15 = .ok (.imul, 1) := bdX0_search_11.2.2.1
theorem dX0_search_16 : decode cX0_search 16 = .ok (.ishl, 1) := bdX0_search_11.2.2.2.1
theorem dX0_search_17 : decode cX0_search 17 = .ok (.if_icmp .ge 45, 3) := bdX0_search_11.2.2.2.2.1
theorem dX0_search_20 : decode cX0_search 20 = .ok (.aload_n 0, 1) := bdX0_search_11.2.2.2.2.2.1
theorem dX0_search_21 : decode cX0_search 21 = .ok (.iload_n 2, 1) := bdX0_search_11.2.2.2.2.2.2.1
theorem dX0_search_22 : decode cX0_search 22 = .ok (.aload_n 1, 1) := bdX0_search_11.2.2.2.2.2.2.2
theorem bdX0_search_23 : decode cX0_search 23 = .ok (.invokevirtual 28, 3) ∧ decode cX0_search 26 = .ok (.istore_n 3, 1) ∧ decode cX0_search 27 = .ok (.iload_n 3, 1) ∧ decode cX0_search 28 = .ok (.ifCond .lt 28, 3) ∧ decode cX0_search 31 = .ok (.aload_n 0, 1) ∧ decode cX0_search 32 = .ok (.getfield 25, 3) ∧ decode cX0_search 35 = .ok (.ifCond .lt 11, 3) ∧ decode cX0_search 38 = .ok (.iload_n 3, 1) := by decide +kernel
theorem dX0_search_23 : decode cX0_search 23 = .ok (.invokevirtual 28, 3) := bdX0_search_23.1
theorem dX0_search_26 : decode cX0_search 26 = .ok (.istore_n 3, 1) := bdX0_search_23.2.1
theorem dX0_search_27 : decode cX0_search 27 = .ok (.iload_n 3, 1) := bdX0_search_23.2.2.1
theorem dX0_search_28 : decode cX0_search 28 = .ok (.ifCond .lt 28, 3) := bdX0_search_23.2.2.2.1
theorem dX0_search_31 : decode cX0_search 31 = .ok (.aload_n 0, 1) := bdX0_search_23.2.2.2.2.1
theorem dX0_search_32 : decode cX0_search 32 = .ok (.getfield 25, 3) := bdX0_search_23.2.2.2.2.2.1
theorem dX0_search_35 : decode cX0_search 35 = .ok (.ifCond .lt 11, 3) := bdX0_search_23.2.2.2.2.2.2.1
theorem dX0_search_38 : decode cX0_search 38 = .ok (.iload_n 3, 1) := bdX0_search_23.2.2.2.2.2.2.2
theorem bdX0_search_39 : decode cX0_search 39 = .ok (.aload_n 0, 1) ∧ decode cX0_search 40 = .ok (.getfield 25, 3) ∧ decode cX0_search 43 = .ok (.if_icmp .ge 13, 3) ∧ decode cX0_search 46 = .ok (.aload_n 0, 1) ∧ decode cX0_search 47 = .ok (.iload_n 3, 1) ∧ decode cX0_search 48 = .ok (.putfield 25, 3) ∧ decode cX0_search 51 = .ok (.aload_n 0, 1) ∧ decode cX0_search 52 = .ok (.iload_n 2, 1) := by decide +kernel
theorem dX0_search_39 : decode cX0_search 39 = .ok (.aload_n 0, 1) := bdX0_search_39.1
theorem dX0_search_40 : decode cX0_search 40 = .ok (.getfield 25, 3) := bdX0_search_39.2.1
theorem dX0_search_43 : decode cX0_search 43 = .ok (.if_icmp .ge 13, 3) := bdX0_search_39.2.2.1
theorem dX0_search_46 : decode cX0_search 46 = .ok (.aload_n 0, 1) := bdX0_search_39.2.2.2.1
theorem dX0_search_47 : decode cX0_search 47 = .ok (.iload_n 3, 1) := bdX0_search_39.2.2.2.2.1
theorem dX0_search_48 : decode cX0_search 48 = .ok (.putfield 25, 3) := bdX0_search_39.2.2.2.2.2.1
theorem dX0_search_51 : decode cX0_search 51 = .ok (.aload_n 0, 1) := bdX0_search_39.2.2.2.2.2.2.1
theorem dX0_search_52 : decode cX0_search 52 = .ok (.iload_n 2, 1) := bdX0_search_39.2.2.2.2.2.2.2
theorem bdX0_search_53 : decode cX0_search 53 = .ok (.putfield 32, 3) ∧ decode cX0_search 56 = .ok (.iinc 2 1, 3) ∧ decode cX0_search 59 = .ok (.goto (-51), 3) ∧ decode cX0_search 62 = .ok (.aload_n 0, 1) ∧ decode cX0_search 63 = .ok (.getfield 25, 3) ∧ decode cX0_search 66 = .ok (.ifCond .lt 7, 3) ∧ decode cX0_search 69 = .ok (.iconst 1, 1) ∧ decode cX0_search 70 = .ok (.goto 4, 3) := by decide +kernel
theorem dX0_search_53 : decode cX0_search 53 = .ok (.putfield 32, 3) := bdX0_search_53.1
theorem dX0_search_56 : decode cX0_search 56 = .ok (.iinc 2 1, 3) := bdX0_search_53.2.1
theorem dX0_search_59 : decode cX0_search 59 = .ok (.goto (-51), 3) := bdX0_search_53.2.2.1
theorem dX0_search_62 : decode cX0_search 62 = .ok (.aload_n 0, 1) := bdX0_search_53.2.2.2.1
theorem dX0_search_63 : decode cX0_search 63 = .ok (.getfield 25, 3) := bdX0_search_53.2.2.2.2.1
theorem dX0_search_66 : decode cX0_search 66 = .ok (.ifCond .lt 7, 3) := bdX0_search_53.2.2.2.2.2.1
theorem dX0_search_69 : decode cX0_search 69 = .ok (.iconst 1, 1) := bdX0_search_53.2.2.2.2.2.2.1
theorem dX0_search_70 : decode cX0_search 70 = .ok (.goto 4, 3) := bdX0_search_53.2.2.2.2.2.2.2
theorem bdX0_search_73 : decode cX0_search 73 = .ok (.iconst 0, 1) ∧ decode cX0_search 74 = .ok (.ireturn, 1) := by decide +kernel
theorem dX0_search_73 : decode cX0_search 73 = .ok (.iconst 0, 1) := bdX0_search_73.1
theorem dX0_search_74 : decode cX0_search 74 = .ok (.ireturn, 1) := bdX0_search_73.2
theorem bdX0_kindOf_0 : decode cX0_kindOf 0 = .ok (.iload_n 1, 1) ∧ decode cX0_kindOf 1 = .ok (.iconst 2, 1) ∧ decode cX0_kindOf 2 = .ok (.aload_n 0, 1) ∧ decode cX0_kindOf 3 = .ok (.getfield 21, 3) ∧ decode cX0_kindOf 6 = .ok (.iconst 1, 1) ∧ decode cX0_kindOf 7 = .ok (.isub, 1) ∧ decode cX0_kindOf 8 = .ok (.iload_n 2, 1) ∧ decode cX0_kindOf 9 = .ok (.isub, 1) := by decide +kernel
theorem dX0_kindOf_0 : decode cX0_kindOf 0 = .ok (.iload_n 1, 1) := bdX0_kindOf_0.1
theorem dX0_kindOf_1 : decode cX0_kindOf 1 = .ok (.iconst 2, 1) := bdX0_kindOf_0.2.1
theorem dX0_kindOf_2 : decode cX0_kindOf 2 = .ok (.aload_n 0, 1) := bdX0_kindOf_0.2.2.1
theorem dX0_kindOf_3 : decode cX0_kindOf 3 = .ok (.getfield 21, 3) := bdX0_kindOf_0.2.2.2.1
theorem dX0_kindOf_6 : decode cX0_kindOf 6 = .ok (.iconst 1, 1) := bdX0_kindOf_0.2.2.2.2.1
theorem dX0_kindOf_7 : decode cX0_kindOf 7 = .ok (.isub, 1) := bdX0_kindOf_0.2.2.2.2.2.1
theorem dX0_kindOf_8 : decode cX0_kindOf 8 = .ok (.iload_n 2, 1) := bdX0_kindOf_0.2.2.2.2.2.2.1
theorem dX0_kindOf_9 : decode cX0_kindOf 9 = .ok (.isub, 1) := bdX0_kindOf_0.2.2.2.2.2.2.2
theorem bdX0_kindOf_10 : decode cX0_kindOf 10 = .ok (.imul, 1) ∧ decode cX0_kindOf 11 = .ok (.ishr, 1) ∧ decode cX0_kindOf 12 = .ok (.iconst 3, 1) ∧ decode cX0_kindOf 13 = .ok (.iand, 1) ∧ decode cX0_kindOf 14 = .ok (.ireturn, 1) := by decide +kernel
theorem dX0_kindOf_10 : decode cX0_kindOf 10 = .ok (.imul, 1) := bdX0_kindOf_10.1
theorem dX0_kindOf_11 : decode cX0_kindOf 11 = .ok (.ishr, 1) := bdX0_kindOf_10.2.1
theorem dX0_kindOf_12 : decode cX0_kindOf 12 = .ok (.iconst 3, 1) := bdX0_kindOf_10.2.2.1
theorem dX0_kindOf_13 : decode cX0_kindOf 13 = .ok (.iand, 1) := bdX0_kindOf_10.2.2.2.1
theorem dX0_kindOf_14 : decode cX0_kindOf 14 = .ok (.ireturn, 1) := bdX0_kindOf_10.2.2.2.2
set_option maxRecDepth 20000 in
set_option maxRecDepth 100000 in
theorem ggX0_costOf_X0_kindOf : GoodIn wsX0_costOf wsX0_kindOf := goodIn_hd (goodIn_c ch_X0_costOf hc_X0_costOf ([.code yX0_kindOf cX0_kindOf 3 (some .int)] : List Cond) [(1, 7)] rfl (by decide +kernel)) (goodIn_app (goodIn_c ch_X0_costOf hc_X0_costOf ([.fieldLink RX0 21 "WordFletchers$Allotment" "members" "I"] : List Cond) [(1, 1)] rfl (by decide +kernel)) (goodIn_sub (fun _ h => (List.mem_cons_of_mem _ (List.mem_append_right _ h))) gwX0))
set_option maxRecDepth 20000 in
theorem gX0_costOf_X0_kindOf : GoodIn wsX0_costOf (wsV RX0 35 RX0 yX0_kindOf wsX0_kindOf) := goodIn_app (goodIn_of _ (by decide +kernel)) ggX0_costOf_X0_kindOf
theorem bdX0_costOf_0 : decode cX0_costOf 0 = .ok (.iconst 0, 1) ∧ decode cX0_costOf 1 = .ok (.istore_n 3, 1) ∧ decode cX0_costOf 2 = .ok (.iload_n 3, 1) ∧ decode cX0_costOf 3 = .ok (.iconst 4, 1) ∧ decode cX0_costOf 4 = .ok (.if_icmp .ge 16, 3) ∧ decode cX0_costOf 7 = .ok (.aload_n 0, 1) ∧ decode cX0_costOf 8 = .ok (.getfield 18, 3) ∧ decode cX0_costOf 11 = .ok (.iload_n 3, 1) := by decide +kernel
theorem dX0_costOf_0 : decode cX0_costOf 0 = .ok (.iconst 0, 1) := bdX0_costOf_0.1
theorem dX0_costOf_1 : decode cX0_costOf 1 = .ok (.istore_n 3, 1) := bdX0_costOf_0.2.1
theorem dX0_costOf_2 : decode cX0_costOf 2 = .ok (.iload_n 3, 1) := bdX0_costOf_0.2.2.1
theorem dX0_costOf_3 : decode cX0_costOf 3 = .ok (.iconst 4, 1) := bdX0_costOf_0.2.2.2.1
theorem dX0_costOf_4 : decode cX0_costOf 4 = .ok (.if_icmp .ge 16, 3) := bdX0_costOf_0.2.2.2.2.1
theorem dX0_costOf_7 : decode cX0_costOf 7 = .ok (.aload_n 0, 1) := bdX0_costOf_0.2.2.2.2.2.1
theorem dX0_costOf_8 : decode cX0_costOf 8 = .ok (.getfield 18, 3) := bdX0_costOf_0.2.2.2.2.2.2.1
theorem dX0_costOf_11 : decode cX0_costOf 11 = .ok (.iload_n 3, 1) := bdX0_costOf_0.2.2.2.2.2.2.2
theorem bdX0_costOf_12 : decode cX0_costOf 12 = .ok (.iconst 0, 1) ∧ decode cX0_costOf 13 = .ok (.iastore, 1) ∧ decode cX0_costOf 14 = .ok (.iinc 3 1, 3) ∧ decode cX0_costOf 17 = .ok (.goto (-15), 3) ∧ decode cX0_costOf 20 = .ok (.iconst 0, 1) ∧ decode cX0_costOf 21 = .ok (.istore_n 3, 1) ∧ decode cX0_costOf 22 = .ok (.iconst 0, 1) ∧ decode cX0_costOf 23 = .ok (.istore 4, 2) := by decide +kernel
theorem dX0_costOf_12 : decode cX0_costOf 12 = .ok (.iconst 0, 1) := bdX0_costOf_12.1
theorem dX0_costOf_13 : decode cX0_costOf 13 = .ok (.iastore, 1) := bdX0_costOf_12.2.1
theorem dX0_costOf_14 : decode cX0_costOf 14 = .ok (.iinc 3 1, 3) := bdX0_costOf_12.2.2.1
theorem dX0_costOf_17 : decode cX0_costOf 17 = .ok (.goto (-15), 3) := bdX0_costOf_12.2.2.2.1
theorem dX0_costOf_20 : decode cX0_costOf 20 = .ok (.iconst 0, 1) := bdX0_costOf_12.2.2.2.2.1
theorem dX0_costOf_21 : decode cX0_costOf 21 = .ok (.istore_n 3, 1) := bdX0_costOf_12.2.2.2.2.2.1
theorem dX0_costOf_22 : decode cX0_costOf 22 = .ok (.iconst 0, 1) := bdX0_costOf_12.2.2.2.2.2.2.1
theorem dX0_costOf_23 : decode cX0_costOf 23 = .ok (.istore 4, 2) := bdX0_costOf_12.2.2.2.2.2.2.2
theorem bdX0_costOf_25 : decode cX0_costOf 25 = .ok (.iload 4, 2) ∧ decode cX0_costOf 27 = .ok (.aload_n 0, 1) ∧ decode cX0_costOf 28 = .ok (.getfield 21, 3) ∧ decode cX0_costOf 31 = .ok (.if_icmp .ge 74, 3) ∧ decode cX0_costOf 34 = .ok (.aload_n 0, 1) ∧ decode cX0_costOf 35 = .ok (.iload_n 1, 1) ∧ decode cX0_costOf 36 = .ok (.iload 4, 2) ∧ decode cX0_costOf 38 = .ok (.invokevirtual 35, 3) := by decide +kernel
theorem dX0_costOf_25 : decode cX0_costOf 25 = .ok (.iload 4, 2) := bdX0_costOf_25.1
theorem dX0_costOf_27 : decode cX0_costOf 27 = .ok (.aload_n 0, 1) := bdX0_costOf_25.2.1
theorem dX0_costOf_28 : decode cX0_costOf 28 = .ok (.getfield 21, 3) := bdX0_costOf_25.2.2.1
theorem dX0_costOf_31 : decode cX0_costOf 31 = .ok (.if_icmp .ge 74, 3) := bdX0_costOf_25.2.2.2.1
theorem dX0_costOf_34 : decode cX0_costOf 34 = .ok (.aload_n 0, 1) := bdX0_costOf_25.2.2.2.2.1
theorem dX0_costOf_35 : decode cX0_costOf 35 = .ok (.iload_n 1, 1) := bdX0_costOf_25.2.2.2.2.2.1
theorem dX0_costOf_36 : decode cX0_costOf 36 = .ok (.iload 4, 2) := bdX0_costOf_25.2.2.2.2.2.2.1
theorem dX0_costOf_38 : decode cX0_costOf 38 = .ok (.invokevirtual 35, 3) := bdX0_costOf_25.2.2.2.2.2.2.2
theorem bdX0_costOf_41 : decode cX0_costOf 41 = .ok (.istore 5, 2) ∧ decode cX0_costOf 43 = .ok (.aload_n 0, 1) ∧ decode cX0_costOf 44 = .ok (.getfield 15, 3) ∧ decode cX0_costOf 47 = .ok (.iload 4, 2) ∧ decode cX0_costOf 49 = .ok (.iconst 4, 1) ∧ decode cX0_costOf 50 = .ok (.imul, 1) ∧ decode cX0_costOf 51 = .ok (.iload 5, 2) ∧ decode cX0_costOf 53 = .ok (.iadd, 1) := by decide +kernel
theorem dX0_costOf_41 : decode cX0_costOf 41 = .ok (.istore 5, 2) := bdX0_costOf_41.1
theorem dX0_costOf_43 : decode cX0_costOf 43 = .ok (.aload_n 0, 1) := bdX0_costOf_41.2.1
theorem dX0_costOf_44 : decode cX0_costOf 44 = .ok (.getfield 15, 3) := bdX0_costOf_41.2.2.1
theorem dX0_costOf_47 : decode cX0_costOf 47 = .ok (.iload 4, 2) := bdX0_costOf_41.2.2.2.1
theorem dX0_costOf_49 : decode cX0_costOf 49 = .ok (.iconst 4, 1) := bdX0_costOf_41.2.2.2.2.1
theorem dX0_costOf_50 : decode cX0_costOf 50 = .ok (.imul, 1) := bdX0_costOf_41.2.2.2.2.2.1
theorem dX0_costOf_51 : decode cX0_costOf 51 = .ok (.iload 5, 2) := bdX0_costOf_41.2.2.2.2.2.2.1
theorem dX0_costOf_53 : decode cX0_costOf 53 = .ok (.iadd, 1) := bdX0_costOf_41.2.2.2.2.2.2.2
theorem bdX0_costOf_54 : decode cX0_costOf 54 = .ok (.iaload, 1) ∧ decode cX0_costOf 55 = .ok (.istore 6, 2) ∧ decode cX0_costOf 57 = .ok (.iload 6, 2) ∧ decode cX0_costOf 59 = .ok (.ifCond .lt 20, 3) ∧ decode cX0_costOf 62 = .ok (.aload_n 0, 1) ∧ decode cX0_costOf 63 = .ok (.getfield 18, 3) ∧ decode cX0_costOf 66 = .ok (.iload 5, 2) ∧ decode cX0_costOf 68 = .ok (.iaload, 1) := by decide +kernel
theorem dX0_costOf_54 : decode cX0_costOf 54 = .ok (.iaload, 1) := bdX0_costOf_54.1
theorem dX0_costOf_55 : decode cX0_costOf 55 = .ok (.istore 6, 2) := bdX0_costOf_54.2.1
theorem dX0_costOf_57 : decode cX0_costOf 57 = .ok (.iload 6, 2) := bdX0_costOf_54.2.2.1
theorem dX0_costOf_59 : decode cX0_costOf 59 = .ok (.ifCond .lt 20, 3) := bdX0_costOf_54.2.2.2.1
theorem dX0_costOf_62 : decode cX0_costOf 62 = .ok (.aload_n 0, 1) := bdX0_costOf_54.2.2.2.2.1
theorem dX0_costOf_63 : decode cX0_costOf 63 = .ok (.getfield 18, 3) := bdX0_costOf_54.2.2.2.2.2.1
theorem dX0_costOf_66 : decode cX0_costOf 66 = .ok (.iload 5, 2) := bdX0_costOf_54.2.2.2.2.2.2.1
theorem dX0_costOf_68 : decode cX0_costOf 68 = .ok (.iaload, 1) := bdX0_costOf_54.2.2.2.2.2.2.2
theorem bdX0_costOf_69 : decode cX0_costOf 69 = .ok (.iload 6, 2) ∧ decode cX0_costOf 71 = .ok (.iadd, 1) ∧ decode cX0_costOf 72 = .ok (.aload_n 2, 1) ∧ decode cX0_costOf 73 = .ok (.iload 5, 2) ∧ decode cX0_costOf 75 = .ok (.iaload, 1) ∧ decode cX0_costOf 76 = .ok (.if_icmp .le 6, 3) ∧ decode cX0_costOf 79 = .ok (.bipush (-9), 2) ∧ decode cX0_costOf 81 = .ok (.ireturn, 1) := by decide +kernel
theorem dX0_costOf_69 : decode cX0_costOf 69 = .ok (.iload 6, 2) := bdX0_costOf_69.1
theorem dX0_costOf_71 : decode cX0_costOf 71 = .ok (.iadd, 1) := bdX0_costOf_69.2.1
theorem dX0_costOf_72 : decode cX0_costOf 72 = .ok (.aload_n 2, 1) := bdX0_costOf_69.2.2.1
theorem dX0_costOf_73 : decode cX0_costOf 73 = .ok (.iload 5, 2) := bdX0_costOf_69.2.2.2.1
theorem dX0_costOf_75 : decode cX0_costOf 75 = .ok (.iaload, 1) := bdX0_costOf_69.2.2.2.2.1
theorem dX0_costOf_76 : decode cX0_costOf 76 = .ok (.if_icmp .le 6, 3) := bdX0_costOf_69.2.2.2.2.2.1
theorem dX0_costOf_79 : decode cX0_costOf 79 = .ok (.bipush (-9), 2) := bdX0_costOf_69.2.2.2.2.2.2.1
theorem dX0_costOf_81 : decode cX0_costOf 81 = .ok (.ireturn, 1) := bdX0_costOf_69.2.2.2.2.2.2.2
theorem bdX0_costOf_82 : decode cX0_costOf 82 = .ok (.aload_n 0, 1) ∧ decode cX0_costOf 83 = .ok (.getfield 18, 3) ∧ decode cX0_costOf 86 = .ok (.iload 5, 2) ∧ decode cX0_costOf 88 = .ok (.dup2, 1) ∧ decode cX0_costOf 89 = .ok (.iaload, 1) ∧ decode cX0_costOf 90 = .ok (.iload 6, 2) ∧ decode cX0_costOf 92 = .ok (.iadd, 1) ∧ decode cX0_costOf 93 = .ok (.iastore, 1) := by decide +kernel
theorem dX0_costOf_82 : decode cX0_costOf 82 = .ok (.aload_n 0, 1) := bdX0_costOf_82.1
theorem dX0_costOf_83 : decode cX0_costOf 83 = .ok (.getfield 18, 3) := bdX0_costOf_82.2.1
theorem dX0_costOf_86 : decode cX0_costOf 86 = .ok (.iload 5, 2) := bdX0_costOf_82.2.2.1
theorem dX0_costOf_88 : decode cX0_costOf 88 = .ok (.dup2, 1) := bdX0_costOf_82.2.2.2.1
theorem dX0_costOf_89 : decode cX0_costOf 89 = .ok (.iaload, 1) := bdX0_costOf_82.2.2.2.2.1
theorem dX0_costOf_90 : decode cX0_costOf 90 = .ok (.iload 6, 2) := bdX0_costOf_82.2.2.2.2.2.1
theorem dX0_costOf_92 : decode cX0_costOf 92 = .ok (.iadd, 1) := bdX0_costOf_82.2.2.2.2.2.2.1
theorem dX0_costOf_93 : decode cX0_costOf 93 = .ok (.iastore, 1) := bdX0_costOf_82.2.2.2.2.2.2.2
theorem bdX0_costOf_94 : decode cX0_costOf 94 = .ok (.iload_n 3, 1) ∧ decode cX0_costOf 95 = .ok (.iload 6, 2) ∧ decode cX0_costOf 97 = .ok (.iadd, 1) ∧ decode cX0_costOf 98 = .ok (.istore_n 3, 1) ∧ decode cX0_costOf 99 = .ok (.iinc 4 1, 3) ∧ decode cX0_costOf 102 = .ok (.goto (-77), 3) ∧ decode cX0_costOf 105 = .ok (.iload_n 3, 1) ∧ decode cX0_costOf 106 = .ok (.ireturn, 1) := by decide +kernel
theorem dX0_costOf_94 : decode cX0_costOf 94 = .ok (.iload_n 3, 1) := bdX0_costOf_94.1
theorem dX0_costOf_95 : decode cX0_costOf 95 = .ok (.iload 6, 2) := bdX0_costOf_94.2.1
theorem dX0_costOf_97 : decode cX0_costOf 97 = .ok (.iadd, 1) := bdX0_costOf_94.2.2.1
theorem dX0_costOf_98 : decode cX0_costOf 98 = .ok (.istore_n 3, 1) := bdX0_costOf_94.2.2.2.1
theorem dX0_costOf_99 : decode cX0_costOf 99 = .ok (.iinc 4 1, 3) := bdX0_costOf_94.2.2.2.2.1
theorem dX0_costOf_102 : decode cX0_costOf 102 = .ok (.goto (-77), 3) := bdX0_costOf_94.2.2.2.2.2.1
theorem dX0_costOf_105 : decode cX0_costOf 105 = .ok (.iload_n 3, 1) := bdX0_costOf_94.2.2.2.2.2.2.1
theorem dX0_costOf_106 : decode cX0_costOf 106 = .ok (.ireturn, 1) := bdX0_costOf_94.2.2.2.2.2.2.2
set_option maxRecDepth 20000 in
set_option maxRecDepth 100000 in
theorem ggX0_shareOf_X0_kindOf : GoodIn wsX0_shareOf wsX0_kindOf := goodIn_hd (goodIn_c ch_X0_shareOf hc_X0_shareOf ([.code yX0_kindOf cX0_kindOf 3 (some .int)] : List Cond) [(1, 8)] rfl (by decide +kernel)) (goodIn_app (goodIn_c ch_X0_shareOf hc_X0_shareOf ([.fieldLink RX0 21 "WordFletchers$Allotment" "members" "I"] : List Cond) [(1, 0)] rfl (by decide +kernel)) (goodIn_sub (fun _ h => (List.mem_cons_of_mem _ (List.mem_append_right _ h))) gwX0))
set_option maxRecDepth 20000 in
theorem gX0_shareOf_X0_kindOf : GoodIn wsX0_shareOf (wsV RX0 35 RX0 yX0_kindOf wsX0_kindOf) := goodIn_app (goodIn_of _ (by decide +kernel)) ggX0_shareOf_X0_kindOf
theorem bdX0_shareOf_0 : decode cX0_shareOf 0 = .ok (.iconst 0, 1) ∧ decode cX0_shareOf 1 = .ok (.istore_n 2, 1) ∧ decode cX0_shareOf 2 = .ok (.iload_n 2, 1) ∧ decode cX0_shareOf 3 = .ok (.aload_n 0, 1) ∧ decode cX0_shareOf 4 = .ok (.getfield 21, 3) ∧ decode cX0_shareOf 7 = .ok (.if_icmp .ge 45, 3) ∧ decode cX0_shareOf 10 = .ok (.aload_n 0, 1) ∧ decode cX0_shareOf 11 = .ok (.getfield 9, 3) := by decide +kernel
theorem dX0_shareOf_0 : decode cX0_shareOf 0 = .ok (.iconst 0, 1) := bdX0_shareOf_0.1
theorem dX0_shareOf_1 : decode cX0_shareOf 1 = .ok (.istore_n 2, 1) := bdX0_shareOf_0.2.1
theorem dX0_shareOf_2 : decode cX0_shareOf 2 = .ok (.iload_n 2, 1) := bdX0_shareOf_0.2.2.1
theorem dX0_shareOf_3 : decode cX0_shareOf 3 = .ok (.aload_n 0, 1) := bdX0_shareOf_0.2.2.2.1
theorem dX0_shareOf_4 : decode cX0_shareOf 4 = .ok (.getfield 21, 3) := bdX0_shareOf_0.2.2.2.2.1
theorem dX0_shareOf_7 : decode cX0_shareOf 7 = .ok (.if_icmp .ge 45, 3) := bdX0_shareOf_0.2.2.2.2.2.1
theorem dX0_shareOf_10 : decode cX0_shareOf 10 = .ok (.aload_n 0, 1) := bdX0_shareOf_0.2.2.2.2.2.2.1
theorem dX0_shareOf_11 : decode cX0_shareOf 11 = .ok (.getfield 9, 3) := bdX0_shareOf_0.2.2.2.2.2.2.2
theorem bdX0_shareOf_14 : decode cX0_shareOf 14 = .ok (.iload_n 2, 1) ∧ decode cX0_shareOf 15 = .ok (.iaload, 1) ∧ decode cX0_shareOf 16 = .ok (.iload_n 1, 1) ∧ decode cX0_shareOf 17 = .ok (.if_icmp .ne 29, 3) ∧ decode cX0_shareOf 20 = .ok (.aload_n 0, 1) ∧ decode cX0_shareOf 21 = .ok (.aload_n 0, 1) ∧ decode cX0_shareOf 22 = .ok (.getfield 32, 3) ∧ decode cX0_shareOf 25 = .ok (.iload_n 2, 1) := by decide +kernel
theorem dX0_shareOf_14 : decode cX0_shareOf 14 = .ok (.iload_n 2, 1) := bdX0_shareOf_14.1
theorem dX0_shareOf_15 : decode cX0_shareOf 15 = .ok (.iaload, 1) := bdX0_shareOf_14.2.1
theorem dX0_shareOf_16 : decode cX0_shareOf 16 = .ok (.iload_n 1, 1) := bdX0_shareOf_14.2.2.1
theorem dX0_shareOf_17 : decode cX0_shareOf 17 = .ok (.if_icmp .ne 29, 3) := bdX0_shareOf_14.2.2.2.1
theorem dX0_shareOf_20 : decode cX0_shareOf 20 = .ok (.aload_n 0, 1) := bdX0_shareOf_14.2.2.2.2.1
theorem dX0_shareOf_21 : decode cX0_shareOf 21 = .ok (.aload_n 0, 1) := bdX0_shareOf_14.2.2.2.2.2.1
theorem dX0_shareOf_22 : decode cX0_shareOf 22 = .ok (.getfield 32, 3) := bdX0_shareOf_14.2.2.2.2.2.2.1
theorem dX0_shareOf_25 : decode cX0_shareOf 25 = .ok (.iload_n 2, 1) := bdX0_shareOf_14.2.2.2.2.2.2.2
theorem bdX0_shareOf_26 : decode cX0_shareOf 26 = .ok (.invokevirtual 35, 3) ∧ decode cX0_shareOf 29 = .ok (.istore_n 3, 1) ∧ decode cX0_shareOf 30 = .ok (.bipush 10, 2) ∧ decode cX0_shareOf 32 = .ok (.iload_n 3, 1) ∧ decode cX0_shareOf 33 = .ok (.imul, 1) ∧ decode cX0_shareOf 34 = .ok (.aload_n 0, 1) ∧ decode cX0_shareOf 35 = .ok (.getfield 15, 3) ∧ decode cX0_shareOf 38 = .ok (.iload_n 2, 1) := by decide +kernel
theorem dX0_shareOf_26 : decode cX0_shareOf 26 = .ok (.invokevirtual 35, 3) := bdX0_shareOf_26.1
theorem dX0_shareOf_29 : decode cX0_shareOf 29 = .ok (.istore_n 3, 1) := bdX0_shareOf_26.2.1
theorem dX0_shareOf_30 : decode cX0_shareOf 30 = .ok (.bipush 10, 2) := bdX0_shareOf_26.2.2.1
theorem dX0_shareOf_32 : decode cX0_shareOf 32 = .ok (.iload_n 3, 1) := bdX0_shareOf_26.2.2.2.1
theorem dX0_shareOf_33 : decode cX0_shareOf 33 = .ok (.imul, 1) := bdX0_shareOf_26.2.2.2.2.1
theorem dX0_shareOf_34 : decode cX0_shareOf 34 = .ok (.aload_n 0, 1) := bdX0_shareOf_26.2.2.2.2.2.1
theorem dX0_shareOf_35 : decode cX0_shareOf 35 = .ok (.getfield 15, 3) := bdX0_shareOf_26.2.2.2.2.2.2.1
theorem dX0_shareOf_38 : decode cX0_shareOf 38 = .ok (.iload_n 2, 1) := bdX0_shareOf_26.2.2.2.2.2.2.2
theorem bdX0_shareOf_39 : decode cX0_shareOf 39 = .ok (.iconst 4, 1) ∧ decode cX0_shareOf 40 = .ok (.imul, 1) ∧ decode cX0_shareOf 41 = .ok (.iload_n 3, 1) ∧ decode cX0_shareOf 42 = .ok (.iadd, 1) ∧ decode cX0_shareOf 43 = .ok (.iaload, 1) ∧ decode cX0_shareOf 44 = .ok (.iadd, 1) ∧ decode cX0_shareOf 45 = .ok (.ireturn, 1) ∧ decode cX0_shareOf 46 = .ok (.iinc 2 1, 3) := by decide +kernel
theorem dX0_shareOf_39 : decode cX0_shareOf 39 = .ok (.iconst 4, 1) := bdX0_shareOf_39.1
theorem dX0_shareOf_40 : decode cX0_shareOf 40 = .ok (.imul, 1) := bdX0_shareOf_39.2.1
theorem dX0_shareOf_41 : decode cX0_shareOf 41 = .ok (.iload_n 3, 1) := bdX0_shareOf_39.2.2.1
theorem dX0_shareOf_42 : decode cX0_shareOf 42 = .ok (.iadd, 1) := bdX0_shareOf_39.2.2.2.1
theorem dX0_shareOf_43 : decode cX0_shareOf 43 = .ok (.iaload, 1) := bdX0_shareOf_39.2.2.2.2.1
theorem dX0_shareOf_44 : decode cX0_shareOf 44 = .ok (.iadd, 1) := bdX0_shareOf_39.2.2.2.2.2.1
theorem dX0_shareOf_45 : decode cX0_shareOf 45 = .ok (.ireturn, 1) := bdX0_shareOf_39.2.2.2.2.2.2.1
theorem dX0_shareOf_46 : decode cX0_shareOf 46 = .ok (.iinc 2 1, 3) := bdX0_shareOf_39.2.2.2.2.2.2.2
theorem bdX0_shareOf_49 : decode cX0_shareOf 49 = .ok (.goto (-47), 3) ∧ decode cX0_shareOf 52 = .ok (.bipush (-9), 2) ∧ decode cX0_shareOf 54 = .ok (.ireturn, 1) := by decide +kernel
theorem dX0_shareOf_49 : decode cX0_shareOf 49 = .ok (.goto (-47), 3) := bdX0_shareOf_49.1
theorem dX0_shareOf_52 : decode cX0_shareOf 52 = .ok (.bipush (-9), 2) := bdX0_shareOf_49.2.1
theorem dX0_shareOf_54 : decode cX0_shareOf 54 = .ok (.ireturn, 1) := bdX0_shareOf_49.2.2
set_option maxRecDepth 20000 in
set_option maxRecDepth 100000 in
theorem ggX1_init_X2_init : GoodIn wsX1_init wsX2_init := goodIn_hd (goodIn_c ch_X1_init hc_X1_init ([.code yX2_init cX2_init 1 none] : List Cond) [(1, 13)] rfl (by decide +kernel)) (goodIn_app (goodIn_c ch_X1_init hc_X1_init ([.methodLink RX2 3 objectInit, .instanceMethod objectInit, .code objectInit ⟨#[0xb1]⟩ 1 none, .arrayClass .int, .fieldLink RX2 9 "WordFletchers$Moment" "feathers" "[I", .fieldLink RX2 15 "WordFletchers$Moment" "knows" "[I", .fieldLink RX2 18 "WordFletchers$Moment" "straySaying" "[I", .fieldLink RX2 21 "WordFletchers$Moment" "strayPlace" "[I"] : List Cond) [(1, 14), (1, 1), (1, 2), (1, 15), (1, 16), (1, 17), (1, 18), (1, 19)] rfl (by decide +kernel)) (goodIn_sub (fun _ h => (List.mem_cons_of_mem _ (List.mem_append_left _ (List.mem_append_left _ (List.mem_append_right _ h))))) gwX2))
set_option maxRecDepth 20000 in
theorem gX1_init_X2_init_n9 : GoodIn wsX1_init (wsX2_init) := ggX1_init_X2_init
set_option maxRecDepth 20000 in
set_option maxRecDepth 100000 in
theorem ggX1_init_X3_init : GoodIn wsX1_init wsX3_init := goodIn_hd (goodIn_c ch_X1_init hc_X1_init ([.code yX3_init cX3_init 2 none] : List Cond) [(1, 22)] rfl (by decide +kernel)) (goodIn_app (goodIn_app (goodIn_c ch_X1_init hc_X1_init ([.methodLink RX3 3 objectInit, .instanceMethod objectInit, .code objectInit ⟨#[0xb1]⟩ 1 none, .classLink RX3 9 RX2, .fieldLink RX3 11 "WordFletchers$Past" "moments" "[LWordFletchers$Moment;", .fieldLink RX3 17 "WordFletchers$Past" "known" "I", .instantiable RX2 7, .initialized RX2, .instanceMethod yX2_init, .code yX2_init cX2_init 1 none, .methodLink RX2 3 objectInit, .arrayClass .int, .fieldLink RX2 9 "WordFletchers$Moment" "feathers" "[I", .fieldLink RX2 15 "WordFletchers$Moment" "knows" "[I", .fieldLink RX2 18 "WordFletchers$Moment" "straySaying" "[I", .fieldLink RX2 21 "WordFletchers$Moment" "strayPlace" "[I"] : List Cond) [(1, 23), (1, 1), (1, 2), (2, 0), (2, 1), (2, 2), (1, 4), (1, 5), (1, 12), (1, 13), (1, 14), (1, 15), (1, 16), (1, 17), (1, 18), (1, 19)] rfl (by decide +kernel)) (goodIn_sub (fun _ h => (List.mem_cons_of_mem _ (List.mem_append_right _ h))) gwX3)) (goodIn_sub (fun _ h => (List.mem_cons_of_mem _ (List.mem_append_left _ (List.mem_append_left _ (List.mem_append_right _ h))))) gwX2))
set_option maxRecDepth 20000 in
theorem gX1_init_X3_init : GoodIn wsX1_init (wsX3_init) := ggX1_init_X3_init
theorem bdX1_init_0 : decode cX1_init 0 = .ok (.aload_n 0, 1) ∧ decode cX1_init 1 = .ok (.invokespecial 1, 3) ∧ decode cX1_init 4 = .ok (.aload_n 0, 1) ∧ decode cX1_init 5 = .ok (.new 7, 3) ∧ decode cX1_init 8 = .ok (.dup, 1) ∧ decode cX1_init 9 = .ok (.invokespecial 9, 3) ∧ decode cX1_init 12 = .ok (.putfield 10, 3) ∧ decode cX1_init 15 = .ok (.aload_n 0, 1) := by decide +kernel
theorem dX1_init_0 : decode cX1_init 0 = .ok (.aload_n 0, 1) := bdX1_init_0.1
theorem dX1_init_1 : decode cX1_init 1 = .ok (.invokespecial 1, 3) := bdX1_init_0.2.1
theorem dX1_init_4 : decode cX1_init 4 = .ok (.aload_n 0, 1) := bdX1_init_0.2.2.1
theorem dX1_init_5 : decode cX1_init 5 = .ok (.new 7, 3) := bdX1_init_0.2.2.2.1
theorem dX1_init_8 : decode cX1_init 8 = .ok (.dup, 1) := bdX1_init_0.2.2.2.2.1
theorem dX1_init_9 : decode cX1_init 9 = .ok (.invokespecial 9, 3) := bdX1_init_0.2.2.2.2.2.1
theorem dX1_init_12 : decode cX1_init 12 = .ok (.putfield 10, 3) := bdX1_init_0.2.2.2.2.2.2.1
theorem dX1_init_15 : decode cX1_init 15 = .ok (.aload_n 0, 1) := bdX1_init_0.2.2.2.2.2.2.2
theorem bdX1_init_16 : decode cX1_init 16 = .ok (.new 16, 3) ∧ decode cX1_init 19 = .ok (.dup, 1) ∧ decode cX1_init 20 = .ok (.invokespecial 18, 3) ∧ decode cX1_init 23 = .ok (.putfield 19, 3) ∧ decode cX1_init 26 = .ok (.aload_n 0, 1) ∧ decode cX1_init 27 = .ok (.iconst 0, 1) ∧ decode cX1_init 28 = .ok (.putfield 23, 3) ∧ decode cX1_init 31 = .ok (.return_, 1) := by decide +kernel
theorem dX1_init_16 : decode cX1_init 16 = .ok (.new 16, 3) := bdX1_init_16.1
theorem dX1_init_19 : decode cX1_init 19 = .ok (.dup, 1) := bdX1_init_16.2.1
theorem dX1_init_20 : decode cX1_init 20 = .ok (.invokespecial 18, 3) := bdX1_init_16.2.2.1
theorem dX1_init_23 : decode cX1_init 23 = .ok (.putfield 19, 3) := bdX1_init_16.2.2.2.1
theorem dX1_init_26 : decode cX1_init 26 = .ok (.aload_n 0, 1) := bdX1_init_16.2.2.2.2.1
theorem dX1_init_27 : decode cX1_init 27 = .ok (.iconst 0, 1) := bdX1_init_16.2.2.2.2.2.1
theorem dX1_init_28 : decode cX1_init 28 = .ok (.putfield 23, 3) := bdX1_init_16.2.2.2.2.2.2.1
theorem dX1_init_31 : decode cX1_init 31 = .ok (.return_, 1) := bdX1_init_16.2.2.2.2.2.2.2
set_option maxRecDepth 20000 in
set_option maxRecDepth 100000 in
theorem ggX1_take_X2_become : GoodIn wsX1_take wsX2_become := goodIn_hd (goodIn_c ch_X1_take hc_X1_take ([.code yX2_become cX2_become 2 none] : List Cond) [(1, 7)] rfl (by decide +kernel)) (goodIn_app (goodIn_c ch_X1_take hc_X1_take ([.fieldLink RX2 24 "WordFletchers$Moment" "hour" "I", .fieldLink RX2 28 "WordFletchers$Moment" "damp" "I", .fieldLink RX2 31 "WordFletchers$Moment" "strays" "I", .fieldLink RX2 9 "WordFletchers$Moment" "feathers" "[I", .methodLink RX2 47 arraycopyName, .native arraycopyName, .static arraycopyName, .initialized "java/lang/System", .fieldLink RX2 15 "WordFletchers$Moment" "knows" "[I", .fieldLink RX2 18 "WordFletchers$Moment" "straySaying" "[I", .fieldLink RX2 21 "WordFletchers$Moment" "strayPlace" "[I"] : List Cond) [(1, 8), (1, 9), (1, 10), (1, 11), (1, 12), (1, 13), (1, 14), (1, 15), (1, 16), (1, 17), (1, 18)] rfl (by decide +kernel)) (goodIn_sub (fun _ h => (List.mem_cons_of_mem _ (List.mem_append_left _ (List.mem_append_right _ h)))) gwX2))
set_option maxRecDepth 20000 in
theorem gX1_take_X2_become : GoodIn wsX1_take (wsV RX1 27 RX2 yX2_become wsX2_become) := goodIn_app (goodIn_of _ (by decide +kernel)) ggX1_take_X2_become
set_option maxRecDepth 20000 in
set_option maxRecDepth 100000 in
theorem ggX1_take_X3_become : GoodIn wsX1_take wsX3_become := goodIn_hd (goodIn_c ch_X1_take hc_X1_take ([.code yX3_become cX3_become 3 none] : List Cond) [(1, 23)] rfl (by decide +kernel)) (goodIn_app (goodIn_app (goodIn_c ch_X1_take hc_X1_take ([.fieldLink RX3 17 "WordFletchers$Past" "known" "I", .fieldLink RX3 11 "WordFletchers$Past" "moments" "[LWordFletchers$Moment;", .methodLink RX3 25 yX2_become, .instanceMethod yX2_become, .selects RX2 yX2_become yX2_become, .initialized RX2, .code yX2_become cX2_become 2 none, .fieldLink RX2 24 "WordFletchers$Moment" "hour" "I", .fieldLink RX2 28 "WordFletchers$Moment" "damp" "I", .fieldLink RX2 31 "WordFletchers$Moment" "strays" "I", .fieldLink RX2 9 "WordFletchers$Moment" "feathers" "[I", .methodLink RX2 47 arraycopyName, .native arraycopyName, .static arraycopyName, .initialized "java/lang/System", .fieldLink RX2 15 "WordFletchers$Moment" "knows" "[I", .fieldLink RX2 18 "WordFletchers$Moment" "straySaying" "[I", .fieldLink RX2 21 "WordFletchers$Moment" "strayPlace" "[I"] : List Cond) [(2, 0), (2, 1), (2, 2), (1, 4), (1, 5), (1, 6), (1, 7), (1, 8), (1, 9), (1, 10), (1, 11), (1, 12), (1, 13), (1, 14), (1, 15), (1, 16), (1, 17), (1, 18)] rfl (by decide +kernel)) (goodIn_sub (fun _ h => (List.mem_cons_of_mem _ (List.mem_append_right _ h))) gwX3)) (goodIn_sub (fun _ h => (List.mem_cons_of_mem _ (List.mem_append_left _ (List.mem_append_right _ h)))) gwX2))
set_option maxRecDepth 20000 in
theorem gX1_take_X3_become : GoodIn wsX1_take (wsV RX1 31 RX3 yX3_become wsX3_become) := goodIn_app (goodIn_of _ (by decide +kernel)) ggX1_take_X3_become
theorem bdX1_take_0 : decode cX1_take 0 = .ok (.aload_n 0, 1) ∧ decode cX1_take 1 = .ok (.getfield 10, 3) ∧ decode cX1_take 4 = .ok (.aload_n 1, 1) ∧ decode cX1_take 5 = .ok (.invokevirtual 27, 3) ∧ decode cX1_take 8 = .ok (.aload_n 0, 1) ∧ decode cX1_take 9 = .ok (.getfield 19, 3) ∧ decode cX1_take 12 = .ok (.aload_n 2, 1) ∧ decode cX1_take 13 = .ok (.invokevirtual 31, 3) := by decide +kernel
theorem dX1_take_0 : decode cX1_take 0 = .ok (.aload_n 0, 1) := bdX1_take_0.1
theorem dX1_take_1 : decode cX1_take 1 = .ok (.getfield 10, 3) := bdX1_take_0.2.1
theorem dX1_take_4 : decode cX1_take 4 = .ok (.aload_n 1, 1) := bdX1_take_0.2.2.1
theorem dX1_take_5 : decode cX1_take 5 = .ok (.invokevirtual 27, 3) := bdX1_take_0.2.2.2.1
theorem dX1_take_8 : decode cX1_take 8 = .ok (.aload_n 0, 1) := bdX1_take_0.2.2.2.2.1
theorem dX1_take_9 : decode cX1_take 9 = .ok (.getfield 19, 3) := bdX1_take_0.2.2.2.2.2.1
theorem dX1_take_12 : decode cX1_take 12 = .ok (.aload_n 2, 1) := bdX1_take_0.2.2.2.2.2.2.1
theorem dX1_take_13 : decode cX1_take 13 = .ok (.invokevirtual 31, 3) := bdX1_take_0.2.2.2.2.2.2.2
theorem bdX1_take_16 : decode cX1_take 16 = .ok (.aload_n 0, 1) ∧ decode cX1_take 17 = .ok (.iconst 1, 1) ∧ decode cX1_take 18 = .ok (.putfield 23, 3) ∧ decode cX1_take 21 = .ok (.return_, 1) := by decide +kernel
theorem dX1_take_16 : decode cX1_take 16 = .ok (.aload_n 0, 1) := bdX1_take_16.1
theorem dX1_take_17 : decode cX1_take 17 = .ok (.iconst 1, 1) := bdX1_take_16.2.1
theorem dX1_take_18 : decode cX1_take 18 = .ok (.putfield 23, 3) := bdX1_take_16.2.2.1
theorem dX1_take_21 : decode cX1_take 21 = .ok (.return_, 1) := bdX1_take_16.2.2.2
set_option maxRecDepth 20000 in
set_option maxRecDepth 100000 in
theorem ggX1_give_X2_become : GoodIn wsX1_give wsX2_become := goodIn_hd (goodIn_c ch_X1_give hc_X1_give ([.code yX2_become cX2_become 2 none] : List Cond) [(1, 6)] rfl (by decide +kernel)) (goodIn_app (goodIn_c ch_X1_give hc_X1_give ([.fieldLink RX2 24 "WordFletchers$Moment" "hour" "I", .fieldLink RX2 28 "WordFletchers$Moment" "damp" "I", .fieldLink RX2 31 "WordFletchers$Moment" "strays" "I", .fieldLink RX2 9 "WordFletchers$Moment" "feathers" "[I", .methodLink RX2 47 arraycopyName, .native arraycopyName, .static arraycopyName, .initialized "java/lang/System", .fieldLink RX2 15 "WordFletchers$Moment" "knows" "[I", .fieldLink RX2 18 "WordFletchers$Moment" "straySaying" "[I", .fieldLink RX2 21 "WordFletchers$Moment" "strayPlace" "[I"] : List Cond) [(1, 7), (1, 8), (1, 9), (1, 10), (1, 11), (1, 12), (1, 13), (1, 14), (1, 15), (1, 16), (1, 17)] rfl (by decide +kernel)) (goodIn_sub (fun _ h => (List.mem_cons_of_mem _ (List.mem_append_left _ (List.mem_append_right _ h)))) gwX2))
set_option maxRecDepth 20000 in
theorem gX1_give_X2_become : GoodIn wsX1_give (wsV RX1 27 RX2 yX2_become wsX2_become) := goodIn_app (goodIn_of _ (by decide +kernel)) ggX1_give_X2_become
set_option maxRecDepth 20000 in
set_option maxRecDepth 100000 in
theorem ggX1_give_X3_become : GoodIn wsX1_give wsX3_become := goodIn_hd (goodIn_c ch_X1_give hc_X1_give ([.code yX3_become cX3_become 3 none] : List Cond) [(1, 22)] rfl (by decide +kernel)) (goodIn_app (goodIn_app (goodIn_c ch_X1_give hc_X1_give ([.fieldLink RX3 17 "WordFletchers$Past" "known" "I", .fieldLink RX3 11 "WordFletchers$Past" "moments" "[LWordFletchers$Moment;", .methodLink RX3 25 yX2_become, .instanceMethod yX2_become, .selects RX2 yX2_become yX2_become, .initialized RX2, .code yX2_become cX2_become 2 none, .fieldLink RX2 24 "WordFletchers$Moment" "hour" "I", .fieldLink RX2 28 "WordFletchers$Moment" "damp" "I", .fieldLink RX2 31 "WordFletchers$Moment" "strays" "I", .fieldLink RX2 9 "WordFletchers$Moment" "feathers" "[I", .methodLink RX2 47 arraycopyName, .native arraycopyName, .static arraycopyName, .initialized "java/lang/System", .fieldLink RX2 15 "WordFletchers$Moment" "knows" "[I", .fieldLink RX2 18 "WordFletchers$Moment" "straySaying" "[I", .fieldLink RX2 21 "WordFletchers$Moment" "strayPlace" "[I"] : List Cond) [(1, 23), (2, 0), (2, 1), (1, 3), (1, 4), (1, 5), (1, 6), (1, 7), (1, 8), (1, 9), (1, 10), (1, 11), (1, 12), (1, 13), (1, 14), (1, 15), (1, 16), (1, 17)] rfl (by decide +kernel)) (goodIn_sub (fun _ h => (List.mem_cons_of_mem _ (List.mem_append_right _ h))) gwX3)) (goodIn_sub (fun _ h => (List.mem_cons_of_mem _ (List.mem_append_left _ (List.mem_append_right _ h)))) gwX2))
set_option maxRecDepth 20000 in
theorem gX1_give_X3_become : GoodIn wsX1_give (wsV RX1 31 RX3 yX3_become wsX3_become) := goodIn_app (goodIn_of _ (by decide +kernel)) ggX1_give_X3_become
theorem bdX1_give_0 : decode cX1_give 0 = .ok (.aload_n 1, 1) ∧ decode cX1_give 1 = .ok (.aload_n 0, 1) ∧ decode cX1_give 2 = .ok (.getfield 10, 3) ∧ decode cX1_give 5 = .ok (.invokevirtual 27, 3) ∧ decode cX1_give 8 = .ok (.aload_n 2, 1) ∧ decode cX1_give 9 = .ok (.aload_n 0, 1) ∧ decode cX1_give 10 = .ok (.getfield 19, 3) ∧ decode cX1_give 13 = .ok (.invokevirtual 31, 3) := by decide +kernel
theorem dX1_give_0 : decode cX1_give 0 = .ok (.aload_n 1, 1) := bdX1_give_0.1
theorem dX1_give_1 : decode cX1_give 1 = .ok (.aload_n 0, 1) := bdX1_give_0.2.1
theorem dX1_give_2 : decode cX1_give 2 = .ok (.getfield 10, 3) := bdX1_give_0.2.2.1
theorem dX1_give_5 : decode cX1_give 5 = .ok (.invokevirtual 27, 3) := bdX1_give_0.2.2.2.1
theorem dX1_give_8 : decode cX1_give 8 = .ok (.aload_n 2, 1) := bdX1_give_0.2.2.2.2.1
theorem dX1_give_9 : decode cX1_give 9 = .ok (.aload_n 0, 1) := bdX1_give_0.2.2.2.2.2.1
theorem dX1_give_10 : decode cX1_give 10 = .ok (.getfield 19, 3) := bdX1_give_0.2.2.2.2.2.2.1
theorem dX1_give_13 : decode cX1_give 13 = .ok (.invokevirtual 31, 3) := bdX1_give_0.2.2.2.2.2.2.2
theorem dX1_give_16 : decode cX1_give 16 = .ok (.return_, 1) := by decide +kernel
theorem bdX2_init_0 : decode cX2_init 0 = .ok (.aload_n 0, 1) ∧ decode cX2_init 1 = .ok (.invokespecial 3, 3) ∧ decode cX2_init 4 = .ok (.aload_n 0, 1) ∧ decode cX2_init 5 = .ok (.iconst 4, 1) ∧ decode cX2_init 6 = .ok (.newarray .int, 2) ∧ decode cX2_init 8 = .ok (.putfield 9, 3) ∧ decode cX2_init 11 = .ok (.aload_n 0, 1) ∧ decode cX2_init 12 = .ok (.bipush 6, 2) := by decide +kernel
theorem dX2_init_0 : decode cX2_init 0 = .ok (.aload_n 0, 1) := bdX2_init_0.1
theorem dX2_init_1 : decode cX2_init 1 = .ok (.invokespecial 3, 3) := bdX2_init_0.2.1
theorem dX2_init_4 : decode cX2_init 4 = .ok (.aload_n 0, 1) := bdX2_init_0.2.2.1
theorem dX2_init_5 : decode cX2_init 5 = .ok (.iconst 4, 1) := bdX2_init_0.2.2.2.1
theorem dX2_init_6 : decode cX2_init 6 = .ok (.newarray .int, 2) := bdX2_init_0.2.2.2.2.1
theorem dX2_init_8 : decode cX2_init 8 = .ok (.putfield 9, 3) := bdX2_init_0.2.2.2.2.2.1
theorem dX2_init_11 : decode cX2_init 11 = .ok (.aload_n 0, 1) := bdX2_init_0.2.2.2.2.2.2.1
theorem dX2_init_12 : decode cX2_init 12 = .ok (.bipush 6, 2) := bdX2_init_0.2.2.2.2.2.2.2
theorem bdX2_init_14 : decode cX2_init 14 = .ok (.newarray .int, 2) ∧ decode cX2_init 16 = .ok (.putfield 15, 3) ∧ decode cX2_init 19 = .ok (.aload_n 0, 1) ∧ decode cX2_init 20 = .ok (.bipush 8, 2) ∧ decode cX2_init 22 = .ok (.newarray .int, 2) ∧ decode cX2_init 24 = .ok (.putfield 18, 3) ∧ decode cX2_init 27 = .ok (.aload_n 0, 1) ∧ decode cX2_init 28 = .ok (.bipush 8, 2) := by decide +kernel
theorem dX2_init_14 : decode cX2_init 14 = .ok (.newarray .int, 2) := bdX2_init_14.1
theorem dX2_init_16 : decode cX2_init 16 = .ok (.putfield 15, 3) := bdX2_init_14.2.1
theorem dX2_init_19 : decode cX2_init 19 = .ok (.aload_n 0, 1) := bdX2_init_14.2.2.1
theorem dX2_init_20 : decode cX2_init 20 = .ok (.bipush 8, 2) := bdX2_init_14.2.2.2.1
theorem dX2_init_22 : decode cX2_init 22 = .ok (.newarray .int, 2) := bdX2_init_14.2.2.2.2.1
theorem dX2_init_24 : decode cX2_init 24 = .ok (.putfield 18, 3) := bdX2_init_14.2.2.2.2.2.1
theorem dX2_init_27 : decode cX2_init 27 = .ok (.aload_n 0, 1) := bdX2_init_14.2.2.2.2.2.2.1
theorem dX2_init_28 : decode cX2_init 28 = .ok (.bipush 8, 2) := bdX2_init_14.2.2.2.2.2.2.2
theorem bdX2_init_30 : decode cX2_init 30 = .ok (.newarray .int, 2) ∧ decode cX2_init 32 = .ok (.putfield 21, 3) ∧ decode cX2_init 35 = .ok (.return_, 1) := by decide +kernel
theorem dX2_init_30 : decode cX2_init 30 = .ok (.newarray .int, 2) := bdX2_init_30.1
theorem dX2_init_32 : decode cX2_init 32 = .ok (.putfield 21, 3) := bdX2_init_30.2.1
theorem dX2_init_35 : decode cX2_init 35 = .ok (.return_, 1) := bdX2_init_30.2.2
set_option maxRecDepth 20000 in
set_option maxRecDepth 100000 in
theorem ggX2_begin_X2_tell : GoodIn wsX2_begin wsX2_tell := goodIn_hd (goodIn_c ch_X2_begin hc_X2_begin ([.code yX2_tell cX2_tell 4 none] : List Cond) [(1, 12)] rfl (by decide +kernel)) (goodIn_app (goodIn_c ch_X2_begin hc_X2_begin ([.fieldLink RX2 15 "WordFletchers$Moment" "knows" "[I", .static yX7_isIn, .initialized RX7, .code yX7_isIn cX7_isIn 2 (some .boolean)] : List Cond) [(1, 5), (1, 13), (1, 14), (1, 15)] rfl (by decide +kernel)) (goodIn_sub (fun _ h => (List.mem_cons_of_mem _ (List.mem_append_left _ (List.mem_append_right _ h)))) gwX2))
set_option maxRecDepth 20000 in
theorem gX2_begin_X2_tell : GoodIn wsX2_begin (wsV RX2 43 RX2 yX2_tell wsX2_tell) := goodIn_app (goodIn_of _ (by decide +kernel)) ggX2_begin_X2_tell
theorem bdX2_begin_0 : decode cX2_begin 0 = .ok (.aload_n 0, 1) ∧ decode cX2_begin 1 = .ok (.iconst 0, 1) ∧ decode cX2_begin 2 = .ok (.putfield 24, 3) ∧ decode cX2_begin 5 = .ok (.aload_n 0, 1) ∧ decode cX2_begin 6 = .ok (.iconst 0, 1) ∧ decode cX2_begin 7 = .ok (.putfield 28, 3) ∧ decode cX2_begin 10 = .ok (.aload_n 0, 1) ∧ decode cX2_begin 11 = .ok (.iconst 0, 1) := by decide +kernel
theorem dX2_begin_0 : decode cX2_begin 0 = .ok (.aload_n 0, 1) := bdX2_begin_0.1
theorem dX2_begin_1 : decode cX2_begin 1 = .ok (.iconst 0, 1) := bdX2_begin_0.2.1
theorem dX2_begin_2 : decode cX2_begin 2 = .ok (.putfield 24, 3) := bdX2_begin_0.2.2.1
theorem dX2_begin_5 : decode cX2_begin 5 = .ok (.aload_n 0, 1) := bdX2_begin_0.2.2.2.1
theorem dX2_begin_6 : decode cX2_begin 6 = .ok (.iconst 0, 1) := bdX2_begin_0.2.2.2.2.1
theorem dX2_begin_7 : decode cX2_begin 7 = .ok (.putfield 28, 3) := bdX2_begin_0.2.2.2.2.2.1
theorem dX2_begin_10 : decode cX2_begin 10 = .ok (.aload_n 0, 1) := bdX2_begin_0.2.2.2.2.2.2.1
theorem dX2_begin_11 : decode cX2_begin 11 = .ok (.iconst 0, 1) := bdX2_begin_0.2.2.2.2.2.2.2
theorem bdX2_begin_12 : decode cX2_begin 12 = .ok (.putfield 31, 3) ∧ decode cX2_begin 15 = .ok (.iconst 0, 1) ∧ decode cX2_begin 16 = .ok (.istore_n 2, 1) ∧ decode cX2_begin 17 = .ok (.iload_n 2, 1) ∧ decode cX2_begin 18 = .ok (.iconst 4, 1) ∧ decode cX2_begin 19 = .ok (.if_icmp .ge 21, 3) ∧ decode cX2_begin 22 = .ok (.aload_n 0, 1) ∧ decode cX2_begin 23 = .ok (.getfield 9, 3) := by decide +kernel
theorem dX2_begin_12 : decode cX2_begin 12 = .ok (.putfield 31, 3) := bdX2_begin_12.1
theorem dX2_begin_15 : decode cX2_begin 15 = .ok (.iconst 0, 1) := bdX2_begin_12.2.1
theorem dX2_begin_16 : decode cX2_begin 16 = .ok (.istore_n 2, 1) := bdX2_begin_12.2.2.1
theorem dX2_begin_17 : decode cX2_begin 17 = .ok (.iload_n 2, 1) := bdX2_begin_12.2.2.2.1
theorem dX2_begin_18 : decode cX2_begin 18 = .ok (.iconst 4, 1) := bdX2_begin_12.2.2.2.2.1
theorem dX2_begin_19 : decode cX2_begin 19 = .ok (.if_icmp .ge 21, 3) := bdX2_begin_12.2.2.2.2.2.1
theorem dX2_begin_22 : decode cX2_begin 22 = .ok (.aload_n 0, 1) := bdX2_begin_12.2.2.2.2.2.2.1
theorem dX2_begin_23 : decode cX2_begin 23 = .ok (.getfield 9, 3) := bdX2_begin_12.2.2.2.2.2.2.2
theorem bdX2_begin_26 : decode cX2_begin 26 = .ok (.iload_n 2, 1) ∧ decode cX2_begin 27 = .ok (.aload_n 1, 1) ∧ decode cX2_begin 28 = .ok (.getfield 34, 3) ∧ decode cX2_begin 31 = .ok (.iload_n 2, 1) ∧ decode cX2_begin 32 = .ok (.iaload, 1) ∧ decode cX2_begin 33 = .ok (.iastore, 1) ∧ decode cX2_begin 34 = .ok (.iinc 2 1, 3) ∧ decode cX2_begin 37 = .ok (.goto (-20), 3) := by decide +kernel
theorem dX2_begin_26 : decode cX2_begin 26 = .ok (.iload_n 2, 1) := bdX2_begin_26.1
theorem dX2_begin_27 : decode cX2_begin 27 = .ok (.aload_n 1, 1) := bdX2_begin_26.2.1
theorem dX2_begin_28 : decode cX2_begin 28 = .ok (.getfield 34, 3) := bdX2_begin_26.2.2.1
theorem dX2_begin_31 : decode cX2_begin 31 = .ok (.iload_n 2, 1) := bdX2_begin_26.2.2.2.1
theorem dX2_begin_32 : decode cX2_begin 32 = .ok (.iaload, 1) := bdX2_begin_26.2.2.2.2.1
theorem dX2_begin_33 : decode cX2_begin 33 = .ok (.iastore, 1) := bdX2_begin_26.2.2.2.2.2.1
theorem dX2_begin_34 : decode cX2_begin 34 = .ok (.iinc 2 1, 3) := bdX2_begin_26.2.2.2.2.2.2.1
theorem dX2_begin_37 : decode cX2_begin 37 = .ok (.goto (-20), 3) := bdX2_begin_26.2.2.2.2.2.2.2
theorem bdX2_begin_40 : decode cX2_begin 40 = .ok (.iconst 0, 1) ∧ decode cX2_begin 41 = .ok (.istore_n 2, 1) ∧ decode cX2_begin 42 = .ok (.iload_n 2, 1) ∧ decode cX2_begin 43 = .ok (.bipush 6, 2) ∧ decode cX2_begin 45 = .ok (.if_icmp .ge 16, 3) ∧ decode cX2_begin 48 = .ok (.aload_n 0, 1) ∧ decode cX2_begin 49 = .ok (.getfield 15, 3) ∧ decode cX2_begin 52 = .ok (.iload_n 2, 1) := by decide +kernel
theorem dX2_begin_40 : decode cX2_begin 40 = .ok (.iconst 0, 1) := bdX2_begin_40.1
theorem dX2_begin_41 : decode cX2_begin 41 = .ok (.istore_n 2, 1) := bdX2_begin_40.2.1
theorem dX2_begin_42 : decode cX2_begin 42 = .ok (.iload_n 2, 1) := bdX2_begin_40.2.2.1
theorem dX2_begin_43 : decode cX2_begin 43 = .ok (.bipush 6, 2) := bdX2_begin_40.2.2.2.1
theorem dX2_begin_45 : decode cX2_begin 45 = .ok (.if_icmp .ge 16, 3) := bdX2_begin_40.2.2.2.2.1
theorem dX2_begin_48 : decode cX2_begin 48 = .ok (.aload_n 0, 1) := bdX2_begin_40.2.2.2.2.2.1
theorem dX2_begin_49 : decode cX2_begin 49 = .ok (.getfield 15, 3) := bdX2_begin_40.2.2.2.2.2.2.1
theorem dX2_begin_52 : decode cX2_begin 52 = .ok (.iload_n 2, 1) := bdX2_begin_40.2.2.2.2.2.2.2
theorem bdX2_begin_53 : decode cX2_begin 53 = .ok (.iconst 0, 1) ∧ decode cX2_begin 54 = .ok (.iastore, 1) ∧ decode cX2_begin 55 = .ok (.iinc 2 1, 3) ∧ decode cX2_begin 58 = .ok (.goto (-16), 3) ∧ decode cX2_begin 61 = .ok (.iconst 0, 1) ∧ decode cX2_begin 62 = .ok (.istore_n 2, 1) ∧ decode cX2_begin 63 = .ok (.iload_n 2, 1) ∧ decode cX2_begin 64 = .ok (.aload_n 1, 1) := by decide +kernel
theorem dX2_begin_53 : decode cX2_begin 53 = .ok (.iconst 0, 1) := bdX2_begin_53.1
theorem dX2_begin_54 : decode cX2_begin 54 = .ok (.iastore, 1) := bdX2_begin_53.2.1
theorem dX2_begin_55 : decode cX2_begin 55 = .ok (.iinc 2 1, 3) := bdX2_begin_53.2.2.1
theorem dX2_begin_58 : decode cX2_begin 58 = .ok (.goto (-16), 3) := bdX2_begin_53.2.2.2.1
theorem dX2_begin_61 : decode cX2_begin 61 = .ok (.iconst 0, 1) := bdX2_begin_53.2.2.2.2.1
theorem dX2_begin_62 : decode cX2_begin 62 = .ok (.istore_n 2, 1) := bdX2_begin_53.2.2.2.2.2.1
theorem dX2_begin_63 : decode cX2_begin 63 = .ok (.iload_n 2, 1) := bdX2_begin_53.2.2.2.2.2.2.1
theorem dX2_begin_64 : decode cX2_begin 64 = .ok (.aload_n 1, 1) := bdX2_begin_53.2.2.2.2.2.2.2
theorem bdX2_begin_65 : decode cX2_begin 65 = .ok (.getfield 37, 3) ∧ decode cX2_begin 68 = .ok (.if_icmp .ge 22, 3) ∧ decode cX2_begin 71 = .ok (.aload_n 0, 1) ∧ decode cX2_begin 72 = .ok (.iconst 1, 1) ∧ decode cX2_begin 73 = .ok (.aload_n 1, 1) ∧ decode cX2_begin 74 = .ok (.getfield 40, 3) ∧ decode cX2_begin 77 = .ok (.iload_n 2, 1) ∧ decode cX2_begin 78 = .ok (.iaload, 1) := by decide +kernel
theorem dX2_begin_65 : decode cX2_begin 65 = .ok (.getfield 37, 3) := bdX2_begin_65.1
theorem dX2_begin_68 : decode cX2_begin 68 = .ok (.if_icmp .ge 22, 3) := bdX2_begin_65.2.1
theorem dX2_begin_71 : decode cX2_begin 71 = .ok (.aload_n 0, 1) := bdX2_begin_65.2.2.1
theorem dX2_begin_72 : decode cX2_begin 72 = .ok (.iconst 1, 1) := bdX2_begin_65.2.2.2.1
theorem dX2_begin_73 : decode cX2_begin 73 = .ok (.aload_n 1, 1) := bdX2_begin_65.2.2.2.2.1
theorem dX2_begin_74 : decode cX2_begin 74 = .ok (.getfield 40, 3) := bdX2_begin_65.2.2.2.2.2.1
theorem dX2_begin_77 : decode cX2_begin 77 = .ok (.iload_n 2, 1) := bdX2_begin_65.2.2.2.2.2.2.1
theorem dX2_begin_78 : decode cX2_begin 78 = .ok (.iaload, 1) := bdX2_begin_65.2.2.2.2.2.2.2
theorem bdX2_begin_79 : decode cX2_begin 79 = .ok (.ishl, 1) ∧ decode cX2_begin 80 = .ok (.iload_n 2, 1) ∧ decode cX2_begin 81 = .ok (.invokevirtual 43, 3) ∧ decode cX2_begin 84 = .ok (.iinc 2 1, 3) ∧ decode cX2_begin 87 = .ok (.goto (-24), 3) ∧ decode cX2_begin 90 = .ok (.return_, 1) := by decide +kernel
theorem dX2_begin_79 : decode cX2_begin 79 = .ok (.ishl, 1) := bdX2_begin_79.1
theorem dX2_begin_80 : decode cX2_begin 80 = .ok (.iload_n 2, 1) := bdX2_begin_79.2.1
theorem dX2_begin_81 : decode cX2_begin 81 = .ok (.invokevirtual 43, 3) := bdX2_begin_79.2.2.1
theorem dX2_begin_84 : decode cX2_begin 84 = .ok (.iinc 2 1, 3) := bdX2_begin_79.2.2.2.1
theorem dX2_begin_87 : decode cX2_begin 87 = .ok (.goto (-24), 3) := bdX2_begin_79.2.2.2.2.1
theorem dX2_begin_90 : decode cX2_begin 90 = .ok (.return_, 1) := bdX2_begin_79.2.2.2.2.2
theorem bdX2_become_0 : decode cX2_become 0 = .ok (.aload_n 0, 1) ∧ decode cX2_become 1 = .ok (.aload_n 1, 1) ∧ decode cX2_become 2 = .ok (.getfield 24, 3) ∧ decode cX2_become 5 = .ok (.putfield 24, 3) ∧ decode cX2_become 8 = .ok (.aload_n 0, 1) ∧ decode cX2_become 9 = .ok (.aload_n 1, 1) ∧ decode cX2_become 10 = .ok (.getfield 28, 3) ∧ decode cX2_become 13 = .ok (.putfield 28, 3) := by decide +kernel
theorem dX2_become_0 : decode cX2_become 0 = .ok (.aload_n 0, 1) := bdX2_become_0.1
theorem dX2_become_1 : decode cX2_become 1 = .ok (.aload_n 1, 1) := bdX2_become_0.2.1
theorem dX2_become_2 : decode cX2_become 2 = .ok (.getfield 24, 3) := bdX2_become_0.2.2.1
theorem dX2_become_5 : decode cX2_become 5 = .ok (.putfield 24, 3) := bdX2_become_0.2.2.2.1
theorem dX2_become_8 : decode cX2_become 8 = .ok (.aload_n 0, 1) := bdX2_become_0.2.2.2.2.1
theorem dX2_become_9 : decode cX2_become 9 = .ok (.aload_n 1, 1) := bdX2_become_0.2.2.2.2.2.1
theorem dX2_become_10 : decode cX2_become 10 = .ok (.getfield 28, 3) := bdX2_become_0.2.2.2.2.2.2.1
theorem dX2_become_13 : decode cX2_become 13 = .ok (.putfield 28, 3) := bdX2_become_0.2.2.2.2.2.2.2
theorem bdX2_become_16 : decode cX2_become 16 = .ok (.aload_n 0, 1) ∧ decode cX2_become 17 = .ok (.aload_n 1, 1) ∧ decode cX2_become 18 = .ok (.getfield 31, 3) ∧ decode cX2_become 21 = .ok (.putfield 31, 3) ∧ decode cX2_become 24 = .ok (.aload_n 1, 1) ∧ decode cX2_become 25 = .ok (.getfield 9, 3) ∧ decode cX2_become 28 = .ok (.iconst 0, 1) ∧ decode cX2_become 29 = .ok (.aload_n 0, 1) := by decide +kernel
theorem dX2_become_16 : decode cX2_become 16 = .ok (.aload_n 0, 1) := bdX2_become_16.1
theorem dX2_become_17 : decode cX2_become 17 = .ok (.aload_n 1, 1) := bdX2_become_16.2.1
theorem dX2_become_18 : decode cX2_become 18 = .ok (.getfield 31, 3) := bdX2_become_16.2.2.1
theorem dX2_become_21 : decode cX2_become 21 = .ok (.putfield 31, 3) := bdX2_become_16.2.2.2.1
theorem dX2_become_24 : decode cX2_become 24 = .ok (.aload_n 1, 1) := bdX2_become_16.2.2.2.2.1
theorem dX2_become_25 : decode cX2_become 25 = .ok (.getfield 9, 3) := bdX2_become_16.2.2.2.2.2.1
theorem dX2_become_28 : decode cX2_become 28 = .ok (.iconst 0, 1) := bdX2_become_16.2.2.2.2.2.2.1
theorem dX2_become_29 : decode cX2_become 29 = .ok (.aload_n 0, 1) := bdX2_become_16.2.2.2.2.2.2.2
theorem bdX2_become_30 : decode cX2_become 30 = .ok (.getfield 9, 3) ∧ decode cX2_become 33 = .ok (.iconst 0, 1) ∧ decode cX2_become 34 = .ok (.iconst 4, 1) ∧ decode cX2_become 35 = .ok (.invokestatic 47, 3) ∧ decode cX2_become 38 = .ok (.aload_n 1, 1) ∧ decode cX2_become 39 = .ok (.getfield 15, 3) ∧ decode cX2_become 42 = .ok (.iconst 0, 1) ∧ decode cX2_become 43 = .ok (.aload_n 0, 1) := by decide +kernel
theorem dX2_become_30 : decode cX2_become 30 = .ok (.getfield 9, 3) := bdX2_become_30.1
theorem dX2_become_33 : decode cX2_become 33 = .ok (.iconst 0, 1) := bdX2_become_30.2.1
theorem dX2_become_34 : decode cX2_become 34 = .ok (.iconst 4, 1) := bdX2_become_30.2.2.1
theorem dX2_become_35 : decode cX2_become 35 = .ok (.invokestatic 47, 3) := bdX2_become_30.2.2.2.1
theorem dX2_become_38 : decode cX2_become 38 = .ok (.aload_n 1, 1) := bdX2_become_30.2.2.2.2.1
theorem dX2_become_39 : decode cX2_become 39 = .ok (.getfield 15, 3) := bdX2_become_30.2.2.2.2.2.1
theorem dX2_become_42 : decode cX2_become 42 = .ok (.iconst 0, 1) := bdX2_become_30.2.2.2.2.2.2.1
theorem dX2_become_43 : decode cX2_become 43 = .ok (.aload_n 0, 1) := bdX2_become_30.2.2.2.2.2.2.2
theorem bdX2_become_44 : decode cX2_become 44 = .ok (.getfield 15, 3) ∧ decode cX2_become 47 = .ok (.iconst 0, 1) ∧ decode cX2_become 48 = .ok (.bipush 6, 2) ∧ decode cX2_become 50 = .ok (.invokestatic 47, 3) ∧ decode cX2_become 53 = .ok (.aload_n 1, 1) ∧ decode cX2_become 54 = .ok (.getfield 18, 3) ∧ decode cX2_become 57 = .ok (.iconst 0, 1) ∧ decode cX2_become 58 = .ok (.aload_n 0, 1) := by decide +kernel
theorem dX2_become_44 : decode cX2_become 44 = .ok (.getfield 15, 3) := bdX2_become_44.1
theorem dX2_become_47 : decode cX2_become 47 = .ok (.iconst 0, 1) := bdX2_become_44.2.1
theorem dX2_become_48 : decode cX2_become 48 = .ok (.bipush 6, 2) := bdX2_become_44.2.2.1
theorem dX2_become_50 : decode cX2_become 50 = .ok (.invokestatic 47, 3) := bdX2_become_44.2.2.2.1
theorem dX2_become_53 : decode cX2_become 53 = .ok (.aload_n 1, 1) := bdX2_become_44.2.2.2.2.1
theorem dX2_become_54 : decode cX2_become 54 = .ok (.getfield 18, 3) := bdX2_become_44.2.2.2.2.2.1
theorem dX2_become_57 : decode cX2_become 57 = .ok (.iconst 0, 1) := bdX2_become_44.2.2.2.2.2.2.1
theorem dX2_become_58 : decode cX2_become 58 = .ok (.aload_n 0, 1) := bdX2_become_44.2.2.2.2.2.2.2
theorem bdX2_become_59 : decode cX2_become 59 = .ok (.getfield 18, 3) ∧ decode cX2_become 62 = .ok (.iconst 0, 1) ∧ decode cX2_become 63 = .ok (.bipush 8, 2) ∧ decode cX2_become 65 = .ok (.invokestatic 47, 3) ∧ decode cX2_become 68 = .ok (.aload_n 1, 1) ∧ decode cX2_become 69 = .ok (.getfield 21, 3) ∧ decode cX2_become 72 = .ok (.iconst 0, 1) ∧ decode cX2_become 73 = .ok (.aload_n 0, 1) := by decide +kernel
theorem dX2_become_59 : decode cX2_become 59 = .ok (.getfield 18, 3) := bdX2_become_59.1
theorem dX2_become_62 : decode cX2_become 62 = .ok (.iconst 0, 1) := bdX2_become_59.2.1
theorem dX2_become_63 : decode cX2_become 63 = .ok (.bipush 8, 2) := bdX2_become_59.2.2.1
theorem dX2_become_65 : decode cX2_become 65 = .ok (.invokestatic 47, 3) := bdX2_become_59.2.2.2.1
theorem dX2_become_68 : decode cX2_become 68 = .ok (.aload_n 1, 1) := bdX2_become_59.2.2.2.2.1
theorem dX2_become_69 : decode cX2_become 69 = .ok (.getfield 21, 3) := bdX2_become_59.2.2.2.2.2.1
theorem dX2_become_72 : decode cX2_become 72 = .ok (.iconst 0, 1) := bdX2_become_59.2.2.2.2.2.2.1
theorem dX2_become_73 : decode cX2_become 73 = .ok (.aload_n 0, 1) := bdX2_become_59.2.2.2.2.2.2.2
theorem bdX2_become_74 : decode cX2_become 74 = .ok (.getfield 21, 3) ∧ decode cX2_become 77 = .ok (.iconst 0, 1) ∧ decode cX2_become 78 = .ok (.bipush 8, 2) ∧ decode cX2_become 80 = .ok (.invokestatic 47, 3) ∧ decode cX2_become 83 = .ok (.return_, 1) := by decide +kernel
theorem dX2_become_74 : decode cX2_become 74 = .ok (.getfield 21, 3) := bdX2_become_74.1
theorem dX2_become_77 : decode cX2_become 77 = .ok (.iconst 0, 1) := bdX2_become_74.2.1
theorem dX2_become_78 : decode cX2_become 78 = .ok (.bipush 8, 2) := bdX2_become_74.2.2.1
theorem dX2_become_80 : decode cX2_become 80 = .ok (.invokestatic 47, 3) := bdX2_become_74.2.2.2.1
theorem dX2_become_83 : decode cX2_become 83 = .ok (.return_, 1) := bdX2_become_74.2.2.2.2
set_option maxRecDepth 20000 in
set_option maxRecDepth 100000 in
theorem ggX2_isKnown_X7_isIn : GoodIn wsX2_isKnown wsX7_isIn := goodIn_hd (goodIn_c ch_X2_isKnown hc_X2_isKnown ([.code yX7_isIn cX7_isIn 2 (some .boolean)] : List Cond) [(1, 3)] rfl (by decide +kernel)) (goodIn_c ch_X2_isKnown hc_X2_isKnown ([] : List Cond) [] rfl (by decide +kernel))
set_option maxRecDepth 20000 in
theorem gX2_isKnown_X7_isIn_n53 : GoodIn wsX2_isKnown (wsX7_isIn) := ggX2_isKnown_X7_isIn
theorem bdX2_isKnown_0 : decode cX2_isKnown 0 = .ok (.aload_n 0, 1) ∧ decode cX2_isKnown 1 = .ok (.getfield 15, 3) ∧ decode cX2_isKnown 4 = .ok (.iload_n 1, 1) ∧ decode cX2_isKnown 5 = .ok (.iaload, 1) ∧ decode cX2_isKnown 6 = .ok (.iload_n 2, 1) ∧ decode cX2_isKnown 7 = .ok (.invokestatic 53, 3) ∧ decode cX2_isKnown 10 = .ok (.ireturn, 1) := by decide +kernel
theorem dX2_isKnown_0 : decode cX2_isKnown 0 = .ok (.aload_n 0, 1) := bdX2_isKnown_0.1
theorem dX2_isKnown_1 : decode cX2_isKnown 1 = .ok (.getfield 15, 3) := bdX2_isKnown_0.2.1
theorem dX2_isKnown_4 : decode cX2_isKnown 4 = .ok (.iload_n 1, 1) := bdX2_isKnown_0.2.2.1
theorem dX2_isKnown_5 : decode cX2_isKnown 5 = .ok (.iaload, 1) := bdX2_isKnown_0.2.2.2.1
theorem dX2_isKnown_6 : decode cX2_isKnown 6 = .ok (.iload_n 2, 1) := bdX2_isKnown_0.2.2.2.2.1
theorem dX2_isKnown_7 : decode cX2_isKnown 7 = .ok (.invokestatic 53, 3) := bdX2_isKnown_0.2.2.2.2.2.1
theorem dX2_isKnown_10 : decode cX2_isKnown 10 = .ok (.ireturn, 1) := bdX2_isKnown_0.2.2.2.2.2.2
set_option maxRecDepth 20000 in
set_option maxRecDepth 100000 in
theorem ggX2_whoKnows_X2_isKnown : GoodIn wsX2_whoKnows wsX2_isKnown := goodIn_hd (goodIn_c ch_X2_whoKnows hc_X2_whoKnows ([.code yX2_isKnown cX2_isKnown 3 (some .boolean)] : List Cond) [(1, 4)] rfl (by decide +kernel)) (goodIn_app (goodIn_c ch_X2_whoKnows hc_X2_whoKnows ([.fieldLink RX2 15 "WordFletchers$Moment" "knows" "[I", .static yX7_isIn, .initialized RX7, .code yX7_isIn cX7_isIn 2 (some .boolean)] : List Cond) [(1, 5), (1, 6), (1, 7), (1, 8)] rfl (by decide +kernel)) (goodIn_sub (fun _ h => (List.mem_cons_of_mem _ (List.mem_append_right _ h))) gwX2))
set_option maxRecDepth 20000 in
theorem gX2_whoKnows_X2_isKnown : GoodIn wsX2_whoKnows (wsV RX2 57 RX2 yX2_isKnown wsX2_isKnown) := goodIn_app (goodIn_of _ (by decide +kernel)) ggX2_whoKnows_X2_isKnown
theorem bdX2_whoKnows_0 : decode cX2_whoKnows 0 = .ok (.iconst 0, 1) ∧ decode cX2_whoKnows 1 = .ok (.istore_n 2, 1) ∧ decode cX2_whoKnows 2 = .ok (.iconst 0, 1) ∧ decode cX2_whoKnows 3 = .ok (.istore_n 3, 1) ∧ decode cX2_whoKnows 4 = .ok (.iload_n 3, 1) ∧ decode cX2_whoKnows 5 = .ok (.bipush 6, 2) ∧ decode cX2_whoKnows 7 = .ok (.if_icmp .ge 24, 3) ∧ decode cX2_whoKnows 10 = .ok (.aload_n 0, 1) := by decide +kernel
theorem dX2_whoKnows_0 : decode cX2_whoKnows 0 = .ok (.iconst 0, 1) := bdX2_whoKnows_0.1
theorem dX2_whoKnows_1 : decode cX2_whoKnows 1 = .ok (.istore_n 2, 1) := bdX2_whoKnows_0.2.1
theorem dX2_whoKnows_2 : decode cX2_whoKnows 2 = .ok (.iconst 0, 1) := bdX2_whoKnows_0.2.2.1
theorem dX2_whoKnows_3 : decode cX2_whoKnows 3 = .ok (.istore_n 3, 1) := bdX2_whoKnows_0.2.2.2.1
theorem dX2_whoKnows_4 : decode cX2_whoKnows 4 = .ok (.iload_n 3, 1) := bdX2_whoKnows_0.2.2.2.2.1
theorem dX2_whoKnows_5 : decode cX2_whoKnows 5 = .ok (.bipush 6, 2) := bdX2_whoKnows_0.2.2.2.2.2.1
theorem dX2_whoKnows_7 : decode cX2_whoKnows 7 = .ok (.if_icmp .ge 24, 3) := bdX2_whoKnows_0.2.2.2.2.2.2.1
theorem dX2_whoKnows_10 : decode cX2_whoKnows 10 = .ok (.aload_n 0, 1) := bdX2_whoKnows_0.2.2.2.2.2.2.2
theorem bdX2_whoKnows_11 : decode cX2_whoKnows 11 = .ok (.iload_n 3, 1) ∧ decode cX2_whoKnows 12 = .ok (.iload_n 1, 1) ∧ decode cX2_whoKnows 13 = .ok (.invokevirtual 57, 3) ∧ decode cX2_whoKnows 16 = .ok (.ifCond .eq 9, 3) ∧ decode cX2_whoKnows 19 = .ok (.iload_n 2, 1) ∧ decode cX2_whoKnows 20 = .ok (.iconst 1, 1) ∧ decode cX2_whoKnows 21 = .ok (.iload_n 3, 1) ∧ decode cX2_whoKnows 22 = .ok (.ishl, 1) := by decide +kernel
theorem dX2_whoKnows_11 : decode cX2_whoKnows 11 = .ok (.iload_n 3, 1) := bdX2_whoKnows_11.1
theorem dX2_whoKnows_12 : decode cX2_whoKnows 12 = .ok (.iload_n 1, 1) := bdX2_whoKnows_11.2.1
theorem dX2_whoKnows_13 : decode cX2_whoKnows 13 = .ok (.invokevirtual 57, 3) := bdX2_whoKnows_11.2.2.1
theorem dX2_whoKnows_16 : decode cX2_whoKnows 16 = .ok (.ifCond .eq 9, 3) := bdX2_whoKnows_11.2.2.2.1
theorem dX2_whoKnows_19 : decode cX2_whoKnows 19 = .ok (.iload_n 2, 1) := bdX2_whoKnows_11.2.2.2.2.1
theorem dX2_whoKnows_20 : decode cX2_whoKnows 20 = .ok (.iconst 1, 1) := bdX2_whoKnows_11.2.2.2.2.2.1
theorem dX2_whoKnows_21 : decode cX2_whoKnows 21 = .ok (.iload_n 3, 1) := bdX2_whoKnows_11.2.2.2.2.2.2.1
theorem dX2_whoKnows_22 : decode cX2_whoKnows 22 = .ok (.ishl, 1) := bdX2_whoKnows_11.2.2.2.2.2.2.2
theorem bdX2_whoKnows_23 : decode cX2_whoKnows 23 = .ok (.ior, 1) ∧ decode cX2_whoKnows 24 = .ok (.istore_n 2, 1) ∧ decode cX2_whoKnows 25 = .ok (.iinc 3 1, 3) ∧ decode cX2_whoKnows 28 = .ok (.goto (-24), 3) ∧ decode cX2_whoKnows 31 = .ok (.iload_n 2, 1) ∧ decode cX2_whoKnows 32 = .ok (.ireturn, 1) := by decide +kernel
theorem dX2_whoKnows_23 : decode cX2_whoKnows 23 = .ok (.ior, 1) := bdX2_whoKnows_23.1
theorem dX2_whoKnows_24 : decode cX2_whoKnows 24 = .ok (.istore_n 2, 1) := bdX2_whoKnows_23.2.1
theorem dX2_whoKnows_25 : decode cX2_whoKnows 25 = .ok (.iinc 3 1, 3) := bdX2_whoKnows_23.2.2.1
theorem dX2_whoKnows_28 : decode cX2_whoKnows 28 = .ok (.goto (-24), 3) := bdX2_whoKnows_23.2.2.2.1
theorem dX2_whoKnows_31 : decode cX2_whoKnows 31 = .ok (.iload_n 2, 1) := bdX2_whoKnows_23.2.2.2.2.1
theorem dX2_whoKnows_32 : decode cX2_whoKnows 32 = .ok (.ireturn, 1) := bdX2_whoKnows_23.2.2.2.2.2
set_option maxRecDepth 20000 in
set_option maxRecDepth 100000 in
theorem ggX2_tell_X7_isIn : GoodIn wsX2_tell wsX7_isIn := goodIn_hd (goodIn_c ch_X2_tell hc_X2_tell ([.code yX7_isIn cX7_isIn 2 (some .boolean)] : List Cond) [(1, 3)] rfl (by decide +kernel)) (goodIn_c ch_X2_tell hc_X2_tell ([] : List Cond) [] rfl (by decide +kernel))
set_option maxRecDepth 20000 in
theorem gX2_tell_X7_isIn_n53 : GoodIn wsX2_tell (wsX7_isIn) := ggX2_tell_X7_isIn
theorem bdX2_tell_0 : decode cX2_tell 0 = .ok (.iconst 0, 1) ∧ decode cX2_tell 1 = .ok (.istore_n 3, 1) ∧ decode cX2_tell 2 = .ok (.iload_n 3, 1) ∧ decode cX2_tell 3 = .ok (.bipush 6, 2) ∧ decode cX2_tell 5 = .ok (.if_icmp .ge 29, 3) ∧ decode cX2_tell 8 = .ok (.iload_n 1, 1) ∧ decode cX2_tell 9 = .ok (.iload_n 3, 1) ∧ decode cX2_tell 10 = .ok (.invokestatic 53, 3) := by decide +kernel
theorem dX2_tell_0 : decode cX2_tell 0 = .ok (.iconst 0, 1) := bdX2_tell_0.1
theorem dX2_tell_1 : decode cX2_tell 1 = .ok (.istore_n 3, 1) := bdX2_tell_0.2.1
theorem dX2_tell_2 : decode cX2_tell 2 = .ok (.iload_n 3, 1) := bdX2_tell_0.2.2.1
theorem dX2_tell_3 : decode cX2_tell 3 = .ok (.bipush 6, 2) := bdX2_tell_0.2.2.2.1
theorem dX2_tell_5 : decode cX2_tell 5 = .ok (.if_icmp .ge 29, 3) := bdX2_tell_0.2.2.2.2.1
theorem dX2_tell_8 : decode cX2_tell 8 = .ok (.iload_n 1, 1) := bdX2_tell_0.2.2.2.2.2.1
theorem dX2_tell_9 : decode cX2_tell 9 = .ok (.iload_n 3, 1) := bdX2_tell_0.2.2.2.2.2.2.1
theorem dX2_tell_10 : decode cX2_tell 10 = .ok (.invokestatic 53, 3) := bdX2_tell_0.2.2.2.2.2.2.2
theorem bdX2_tell_13 : decode cX2_tell 13 = .ok (.ifCond .eq 15, 3) ∧ decode cX2_tell 16 = .ok (.aload_n 0, 1) ∧ decode cX2_tell 17 = .ok (.getfield 15, 3) ∧ decode cX2_tell 20 = .ok (.iload_n 3, 1) ∧ decode cX2_tell 21 = .ok (.dup2, 1) ∧ decode cX2_tell 22 = .ok (.iaload, 1) ∧ decode cX2_tell 23 = .ok (.iconst 1, 1) ∧ decode cX2_tell 24 = .ok (.iload_n 2, 1) := by decide +kernel
theorem dX2_tell_13 : decode cX2_tell 13 = .ok (.ifCond .eq 15, 3) := bdX2_tell_13.1
theorem dX2_tell_16 : decode cX2_tell 16 = .ok (.aload_n 0, 1) := bdX2_tell_13.2.1
theorem dX2_tell_17 : decode cX2_tell 17 = .ok (.getfield 15, 3) := bdX2_tell_13.2.2.1
theorem dX2_tell_20 : decode cX2_tell 20 = .ok (.iload_n 3, 1) := bdX2_tell_13.2.2.2.1
theorem dX2_tell_21 : decode cX2_tell 21 = .ok (.dup2, 1) := bdX2_tell_13.2.2.2.2.1
theorem dX2_tell_22 : decode cX2_tell 22 = .ok (.iaload, 1) := bdX2_tell_13.2.2.2.2.2.1
theorem dX2_tell_23 : decode cX2_tell 23 = .ok (.iconst 1, 1) := bdX2_tell_13.2.2.2.2.2.2.1
theorem dX2_tell_24 : decode cX2_tell 24 = .ok (.iload_n 2, 1) := bdX2_tell_13.2.2.2.2.2.2.2
theorem bdX2_tell_25 : decode cX2_tell 25 = .ok (.ishl, 1) ∧ decode cX2_tell 26 = .ok (.ior, 1) ∧ decode cX2_tell 27 = .ok (.iastore, 1) ∧ decode cX2_tell 28 = .ok (.iinc 3 1, 3) ∧ decode cX2_tell 31 = .ok (.goto (-29), 3) ∧ decode cX2_tell 34 = .ok (.return_, 1) := by decide +kernel
theorem dX2_tell_25 : decode cX2_tell 25 = .ok (.ishl, 1) := bdX2_tell_25.1
theorem dX2_tell_26 : decode cX2_tell 26 = .ok (.ior, 1) := bdX2_tell_25.2.1
theorem dX2_tell_27 : decode cX2_tell 27 = .ok (.iastore, 1) := bdX2_tell_25.2.2.1
theorem dX2_tell_28 : decode cX2_tell 28 = .ok (.iinc 3 1, 3) := bdX2_tell_25.2.2.2.1
theorem dX2_tell_31 : decode cX2_tell 31 = .ok (.goto (-29), 3) := bdX2_tell_25.2.2.2.2.1
theorem dX2_tell_34 : decode cX2_tell 34 = .ok (.return_, 1) := bdX2_tell_25.2.2.2.2.2
theorem bdX2_allFeathers_0 : decode cX2_allFeathers 0 = .ok (.iconst 0, 1) ∧ decode cX2_allFeathers 1 = .ok (.istore_n 1, 1) ∧ decode cX2_allFeathers 2 = .ok (.iconst 0, 1) ∧ decode cX2_allFeathers 3 = .ok (.istore_n 2, 1) ∧ decode cX2_allFeathers 4 = .ok (.iload_n 2, 1) ∧ decode cX2_allFeathers 5 = .ok (.iconst 4, 1) ∧ decode cX2_allFeathers 6 = .ok (.if_icmp .ge 18, 3) ∧ decode cX2_allFeathers 9 = .ok (.iload_n 1, 1) := by decide +kernel
theorem dX2_allFeathers_0 : decode cX2_allFeathers 0 = .ok (.iconst 0, 1) := bdX2_allFeathers_0.1
theorem dX2_allFeathers_1 : decode cX2_allFeathers 1 = .ok (.istore_n 1, 1) := bdX2_allFeathers_0.2.1
theorem dX2_allFeathers_2 : decode cX2_allFeathers 2 = .ok (.iconst 0, 1) := bdX2_allFeathers_0.2.2.1
theorem dX2_allFeathers_3 : decode cX2_allFeathers 3 = .ok (.istore_n 2, 1) := bdX2_allFeathers_0.2.2.2.1
theorem dX2_allFeathers_4 : decode cX2_allFeathers 4 = .ok (.iload_n 2, 1) := bdX2_allFeathers_0.2.2.2.2.1
theorem dX2_allFeathers_5 : decode cX2_allFeathers 5 = .ok (.iconst 4, 1) := bdX2_allFeathers_0.2.2.2.2.2.1
theorem dX2_allFeathers_6 : decode cX2_allFeathers 6 = .ok (.if_icmp .ge 18, 3) := bdX2_allFeathers_0.2.2.2.2.2.2.1
theorem dX2_allFeathers_9 : decode cX2_allFeathers 9 = .ok (.iload_n 1, 1) := bdX2_allFeathers_0.2.2.2.2.2.2.2
theorem bdX2_allFeathers_10 : decode cX2_allFeathers 10 = .ok (.aload_n 0, 1) ∧ decode cX2_allFeathers 11 = .ok (.getfield 9, 3) ∧ decode cX2_allFeathers 14 = .ok (.iload_n 2, 1) ∧ decode cX2_allFeathers 15 = .ok (.iaload, 1) ∧ decode cX2_allFeathers 16 = .ok (.iadd, 1) ∧ decode cX2_allFeathers 17 = .ok (.istore_n 1, 1) ∧ decode cX2_allFeathers 18 = .ok (.iinc 2 1, 3) ∧ decode cX2_allFeathers 21 = .ok (.goto (-17), 3) := by decide +kernel
theorem dX2_allFeathers_10 : decode cX2_allFeathers 10 = .ok (.aload_n 0, 1) := bdX2_allFeathers_10.1
theorem dX2_allFeathers_11 : decode cX2_allFeathers 11 = .ok (.getfield 9, 3) := bdX2_allFeathers_10.2.1
theorem dX2_allFeathers_14 : decode cX2_allFeathers 14 = .ok (.iload_n 2, 1) := bdX2_allFeathers_10.2.2.1
theorem dX2_allFeathers_15 : decode cX2_allFeathers 15 = .ok (.iaload, 1) := bdX2_allFeathers_10.2.2.2.1
theorem dX2_allFeathers_16 : decode cX2_allFeathers 16 = .ok (.iadd, 1) := bdX2_allFeathers_10.2.2.2.2.1
theorem dX2_allFeathers_17 : decode cX2_allFeathers 17 = .ok (.istore_n 1, 1) := bdX2_allFeathers_10.2.2.2.2.2.1
theorem dX2_allFeathers_18 : decode cX2_allFeathers 18 = .ok (.iinc 2 1, 3) := bdX2_allFeathers_10.2.2.2.2.2.2.1
theorem dX2_allFeathers_21 : decode cX2_allFeathers 21 = .ok (.goto (-17), 3) := bdX2_allFeathers_10.2.2.2.2.2.2.2
theorem bdX2_allFeathers_24 : decode cX2_allFeathers 24 = .ok (.iload_n 1, 1) ∧ decode cX2_allFeathers 25 = .ok (.ireturn, 1) := by decide +kernel
theorem dX2_allFeathers_24 : decode cX2_allFeathers 24 = .ok (.iload_n 1, 1) := bdX2_allFeathers_24.1
theorem dX2_allFeathers_25 : decode cX2_allFeathers 25 = .ok (.ireturn, 1) := bdX2_allFeathers_24.2
set_option maxRecDepth 20000 in
set_option maxRecDepth 100000 in
theorem ggX2_addStray_X2_removeStray : GoodIn wsX2_addStray wsX2_removeStray := goodIn_hd (goodIn_c ch_X2_addStray hc_X2_addStray ([.code yX2_removeStray cX2_removeStray 3 none] : List Cond) [(1, 7)] rfl (by decide +kernel)) (goodIn_app (goodIn_c ch_X2_addStray hc_X2_addStray ([.fieldLink RX2 31 "WordFletchers$Moment" "strays" "I", .fieldLink RX2 18 "WordFletchers$Moment" "straySaying" "[I", .fieldLink RX2 21 "WordFletchers$Moment" "strayPlace" "[I"] : List Cond) [(1, 0), (1, 1), (1, 2)] rfl (by decide +kernel)) (goodIn_sub (fun _ h => (List.mem_cons_of_mem _ (List.mem_append_right _ h))) gwX2))
set_option maxRecDepth 20000 in
theorem gX2_addStray_X2_removeStray : GoodIn wsX2_addStray (wsV RX2 60 RX2 yX2_removeStray wsX2_removeStray) := goodIn_app (goodIn_of _ (by decide +kernel)) ggX2_addStray_X2_removeStray
theorem bdX2_addStray_0 : decode cX2_addStray 0 = .ok (.aload_n 0, 1) ∧ decode cX2_addStray 1 = .ok (.getfield 31, 3) ∧ decode cX2_addStray 4 = .ok (.bipush 8, 2) ∧ decode cX2_addStray 6 = .ok (.if_icmp .lt 8, 3) ∧ decode cX2_addStray 9 = .ok (.aload_n 0, 1) ∧ decode cX2_addStray 10 = .ok (.iconst 0, 1) ∧ decode cX2_addStray 11 = .ok (.invokevirtual 60, 3) ∧ decode cX2_addStray 14 = .ok (.aload_n 0, 1) := by decide +kernel
theorem dX2_addStray_0 : decode cX2_addStray 0 = .ok (.aload_n 0, 1) := bdX2_addStray_0.1
theorem dX2_addStray_1 : decode cX2_addStray 1 = .ok (.getfield 31, 3) := bdX2_addStray_0.2.1
theorem dX2_addStray_4 : decode cX2_addStray 4 = .ok (.bipush 8, 2) := bdX2_addStray_0.2.2.1
theorem dX2_addStray_6 : decode cX2_addStray 6 = .ok (.if_icmp .lt 8, 3) := bdX2_addStray_0.2.2.2.1
theorem dX2_addStray_9 : decode cX2_addStray 9 = .ok (.aload_n 0, 1) := bdX2_addStray_0.2.2.2.2.1
theorem dX2_addStray_10 : decode cX2_addStray 10 = .ok (.iconst 0, 1) := bdX2_addStray_0.2.2.2.2.2.1
theorem dX2_addStray_11 : decode cX2_addStray 11 = .ok (.invokevirtual 60, 3) := bdX2_addStray_0.2.2.2.2.2.2.1
theorem dX2_addStray_14 : decode cX2_addStray 14 = .ok (.aload_n 0, 1) := bdX2_addStray_0.2.2.2.2.2.2.2
theorem bdX2_addStray_15 : decode cX2_addStray 15 = .ok (.getfield 18, 3) ∧ decode cX2_addStray 18 = .ok (.aload_n 0, 1) ∧ decode cX2_addStray 19 = .ok (.getfield 31, 3) ∧ decode cX2_addStray 22 = .ok (.iload_n 1, 1) ∧ decode cX2_addStray 23 = .ok (.iastore, 1) ∧ decode cX2_addStray 24 = .ok (.aload_n 0, 1) ∧ decode cX2_addStray 25 = .ok (.getfield 21, 3) ∧ decode cX2_addStray 28 = .ok (.aload_n 0, 1) := by decide +kernel
theorem dX2_addStray_15 : decode cX2_addStray 15 = .ok (.getfield 18, 3) := bdX2_addStray_15.1
theorem dX2_addStray_18 : decode cX2_addStray 18 = .ok (.aload_n 0, 1) := bdX2_addStray_15.2.1
theorem dX2_addStray_19 : decode cX2_addStray 19 = .ok (.getfield 31, 3) := bdX2_addStray_15.2.2.1
theorem dX2_addStray_22 : decode cX2_addStray 22 = .ok (.iload_n 1, 1) := bdX2_addStray_15.2.2.2.1
theorem dX2_addStray_23 : decode cX2_addStray 23 = .ok (.iastore, 1) := bdX2_addStray_15.2.2.2.2.1
theorem dX2_addStray_24 : decode cX2_addStray 24 = .ok (.aload_n 0, 1) := bdX2_addStray_15.2.2.2.2.2.1
theorem dX2_addStray_25 : decode cX2_addStray 25 = .ok (.getfield 21, 3) := bdX2_addStray_15.2.2.2.2.2.2.1
theorem dX2_addStray_28 : decode cX2_addStray 28 = .ok (.aload_n 0, 1) := bdX2_addStray_15.2.2.2.2.2.2.2
theorem bdX2_addStray_29 : decode cX2_addStray 29 = .ok (.getfield 31, 3) ∧ decode cX2_addStray 32 = .ok (.iload_n 2, 1) ∧ decode cX2_addStray 33 = .ok (.iastore, 1) ∧ decode cX2_addStray 34 = .ok (.aload_n 0, 1) ∧ decode cX2_addStray 35 = .ok (.dup, 1) ∧ decode cX2_addStray 36 = .ok (.getfield 31, 3) ∧ decode cX2_addStray 39 = .ok (.iconst 1, 1) ∧ decode cX2_addStray 40 = .ok (.iadd, 1) := by decide +kernel
theorem dX2_addStray_29 : decode cX2_addStray 29 = .ok (.getfield 31, 3) := bdX2_addStray_29.1
theorem dX2_addStray_32 : decode cX2_addStray 32 = .ok (.iload_n 2, 1) := bdX2_addStray_29.2.1
theorem dX2_addStray_33 : decode cX2_addStray 33 = .ok (.iastore, 1) := bdX2_addStray_29.2.2.1
theorem dX2_addStray_34 : decode cX2_addStray 34 = .ok (.aload_n 0, 1) := bdX2_addStray_29.2.2.2.1
theorem dX2_addStray_35 : decode cX2_addStray 35 = .ok (.dup, 1) := bdX2_addStray_29.2.2.2.2.1
theorem dX2_addStray_36 : decode cX2_addStray 36 = .ok (.getfield 31, 3) := bdX2_addStray_29.2.2.2.2.2.1
theorem dX2_addStray_39 : decode cX2_addStray 39 = .ok (.iconst 1, 1) := bdX2_addStray_29.2.2.2.2.2.2.1
theorem dX2_addStray_40 : decode cX2_addStray 40 = .ok (.iadd, 1) := bdX2_addStray_29.2.2.2.2.2.2.2
theorem bdX2_addStray_41 : decode cX2_addStray 41 = .ok (.putfield 31, 3) ∧ decode cX2_addStray 44 = .ok (.return_, 1) := by decide +kernel
theorem dX2_addStray_41 : decode cX2_addStray 41 = .ok (.putfield 31, 3) := bdX2_addStray_41.1
theorem dX2_addStray_44 : decode cX2_addStray 44 = .ok (.return_, 1) := bdX2_addStray_41.2
theorem bdX2_removeStray_0 : decode cX2_removeStray 0 = .ok (.iload_n 1, 1) ∧ decode cX2_removeStray 1 = .ok (.iconst 1, 1) ∧ decode cX2_removeStray 2 = .ok (.iadd, 1) ∧ decode cX2_removeStray 3 = .ok (.istore_n 2, 1) ∧ decode cX2_removeStray 4 = .ok (.iload_n 2, 1) ∧ decode cX2_removeStray 5 = .ok (.aload_n 0, 1) ∧ decode cX2_removeStray 6 = .ok (.getfield 31, 3) ∧ decode cX2_removeStray 9 = .ok (.if_icmp .ge 37, 3) := by decide +kernel
theorem dX2_removeStray_0 : decode cX2_removeStray 0 = .ok (.iload_n 1, 1) := bdX2_removeStray_0.1
theorem dX2_removeStray_1 : decode cX2_removeStray 1 = .ok (.iconst 1, 1) := bdX2_removeStray_0.2.1
theorem dX2_removeStray_2 : decode cX2_removeStray 2 = .ok (.iadd, 1) := bdX2_removeStray_0.2.2.1
theorem dX2_removeStray_3 : decode cX2_removeStray 3 = .ok (.istore_n 2, 1) := bdX2_removeStray_0.2.2.2.1
theorem dX2_removeStray_4 : decode cX2_removeStray 4 = .ok (.iload_n 2, 1) := bdX2_removeStray_0.2.2.2.2.1
theorem dX2_removeStray_5 : decode cX2_removeStray 5 = .ok (.aload_n 0, 1) := bdX2_removeStray_0.2.2.2.2.2.1
theorem dX2_removeStray_6 : decode cX2_removeStray 6 = .ok (.getfield 31, 3) := bdX2_removeStray_0.2.2.2.2.2.2.1
theorem dX2_removeStray_9 : decode cX2_removeStray 9 = .ok (.if_icmp .ge 37, 3) := bdX2_removeStray_0.2.2.2.2.2.2.2
theorem bdX2_removeStray_12 : decode cX2_removeStray 12 = .ok (.aload_n 0, 1) ∧ decode cX2_removeStray 13 = .ok (.getfield 18, 3) ∧ decode cX2_removeStray 16 = .ok (.iload_n 2, 1) ∧ decode cX2_removeStray 17 = .ok (.iconst 1, 1) ∧ decode cX2_removeStray 18 = .ok (.isub, 1) ∧ decode cX2_removeStray 19 = .ok (.aload_n 0, 1) ∧ decode cX2_removeStray 20 = .ok (.getfield 18, 3) ∧ decode cX2_removeStray 23 = .ok (.iload_n 2, 1) := by decide +kernel
theorem dX2_removeStray_12 : decode cX2_removeStray 12 = .ok (.aload_n 0, 1) := bdX2_removeStray_12.1
theorem dX2_removeStray_13 : decode cX2_removeStray 13 = .ok (.getfield 18, 3) := bdX2_removeStray_12.2.1
theorem dX2_removeStray_16 : decode cX2_removeStray 16 = .ok (.iload_n 2, 1) := bdX2_removeStray_12.2.2.1
theorem dX2_removeStray_17 : decode cX2_removeStray 17 = .ok (.iconst 1, 1) := bdX2_removeStray_12.2.2.2.1
theorem dX2_removeStray_18 : decode cX2_removeStray 18 = .ok (.isub, 1) := bdX2_removeStray_12.2.2.2.2.1
theorem dX2_removeStray_19 : decode cX2_removeStray 19 = .ok (.aload_n 0, 1) := bdX2_removeStray_12.2.2.2.2.2.1
theorem dX2_removeStray_20 : decode cX2_removeStray 20 = .ok (.getfield 18, 3) := bdX2_removeStray_12.2.2.2.2.2.2.1
theorem dX2_removeStray_23 : decode cX2_removeStray 23 = .ok (.iload_n 2, 1) := bdX2_removeStray_12.2.2.2.2.2.2.2
theorem bdX2_removeStray_24 : decode cX2_removeStray 24 = .ok (.iaload, 1) ∧ decode cX2_removeStray 25 = .ok (.iastore, 1) ∧ decode cX2_removeStray 26 = .ok (.aload_n 0, 1) ∧ decode cX2_removeStray 27 = .ok (.getfield 21, 3) ∧ decode cX2_removeStray 30 = .ok (.iload_n 2, 1) ∧ decode cX2_removeStray 31 = .ok (.iconst 1, 1) ∧ decode cX2_removeStray 32 = .ok (.isub, 1) ∧ decode cX2_removeStray 33 = .ok (.aload_n 0, 1) := by decide +kernel
theorem dX2_removeStray_24 : decode cX2_removeStray 24 = .ok (.iaload, 1) := bdX2_removeStray_24.1
theorem dX2_removeStray_25 : decode cX2_removeStray 25 = .ok (.iastore, 1) := bdX2_removeStray_24.2.1
theorem dX2_removeStray_26 : decode cX2_removeStray 26 = .ok (.aload_n 0, 1) := bdX2_removeStray_24.2.2.1
theorem dX2_removeStray_27 : decode cX2_removeStray 27 = .ok (.getfield 21, 3) := bdX2_removeStray_24.2.2.2.1
theorem dX2_removeStray_30 : decode cX2_removeStray 30 = .ok (.iload_n 2, 1) := bdX2_removeStray_24.2.2.2.2.1
theorem dX2_removeStray_31 : decode cX2_removeStray 31 = .ok (.iconst 1, 1) := bdX2_removeStray_24.2.2.2.2.2.1
theorem dX2_removeStray_32 : decode cX2_removeStray 32 = .ok (.isub, 1) := bdX2_removeStray_24.2.2.2.2.2.2.1
theorem dX2_removeStray_33 : decode cX2_removeStray 33 = .ok (.aload_n 0, 1) := bdX2_removeStray_24.2.2.2.2.2.2.2
theorem bdX2_removeStray_34 : decode cX2_removeStray 34 = .ok (.getfield 21, 3) ∧ decode cX2_removeStray 37 = .ok (.iload_n 2, 1) ∧ decode cX2_removeStray 38 = .ok (.iaload, 1) ∧ decode cX2_removeStray 39 = .ok (.iastore, 1) ∧ decode cX2_removeStray 40 = .ok (.iinc 2 1, 3) ∧ decode cX2_removeStray 43 = .ok (.goto (-39), 3) ∧ decode cX2_removeStray 46 = .ok (.aload_n 0, 1) ∧ decode cX2_removeStray 47 = .ok (.dup, 1) := by decide +kernel
theorem dX2_removeStray_34 : decode cX2_removeStray 34 = .ok (.getfield 21, 3) := bdX2_removeStray_34.1
theorem dX2_removeStray_37 : decode cX2_removeStray 37 = .ok (.iload_n 2, 1) := bdX2_removeStray_34.2.1
theorem dX2_removeStray_38 : decode cX2_removeStray 38 = .ok (.iaload, 1) := bdX2_removeStray_34.2.2.1
theorem dX2_removeStray_39 : decode cX2_removeStray 39 = .ok (.iastore, 1) := bdX2_removeStray_34.2.2.2.1
theorem dX2_removeStray_40 : decode cX2_removeStray 40 = .ok (.iinc 2 1, 3) := bdX2_removeStray_34.2.2.2.2.1
theorem dX2_removeStray_43 : decode cX2_removeStray 43 = .ok (.goto (-39), 3) := bdX2_removeStray_34.2.2.2.2.2.1
theorem dX2_removeStray_46 : decode cX2_removeStray 46 = .ok (.aload_n 0, 1) := bdX2_removeStray_34.2.2.2.2.2.2.1
theorem dX2_removeStray_47 : decode cX2_removeStray 47 = .ok (.dup, 1) := bdX2_removeStray_34.2.2.2.2.2.2.2
theorem bdX2_removeStray_48 : decode cX2_removeStray 48 = .ok (.getfield 31, 3) ∧ decode cX2_removeStray 51 = .ok (.iconst 1, 1) ∧ decode cX2_removeStray 52 = .ok (.isub, 1) ∧ decode cX2_removeStray 53 = .ok (.putfield 31, 3) ∧ decode cX2_removeStray 56 = .ok (.return_, 1) := by decide +kernel
theorem dX2_removeStray_48 : decode cX2_removeStray 48 = .ok (.getfield 31, 3) := bdX2_removeStray_48.1
theorem dX2_removeStray_51 : decode cX2_removeStray 51 = .ok (.iconst 1, 1) := bdX2_removeStray_48.2.1
theorem dX2_removeStray_52 : decode cX2_removeStray 52 = .ok (.isub, 1) := bdX2_removeStray_48.2.2.1
theorem dX2_removeStray_53 : decode cX2_removeStray 53 = .ok (.putfield 31, 3) := bdX2_removeStray_48.2.2.2.1
theorem dX2_removeStray_56 : decode cX2_removeStray 56 = .ok (.return_, 1) := bdX2_removeStray_48.2.2.2.2
theorem bdX2_longestStrayAt_0 : decode cX2_longestStrayAt 0 = .ok (.iconst 0, 1) ∧ decode cX2_longestStrayAt 1 = .ok (.istore_n 2, 1) ∧ decode cX2_longestStrayAt 2 = .ok (.iload_n 2, 1) ∧ decode cX2_longestStrayAt 3 = .ok (.aload_n 0, 1) ∧ decode cX2_longestStrayAt 4 = .ok (.getfield 31, 3) ∧ decode cX2_longestStrayAt 7 = .ok (.if_icmp .ge 21, 3) ∧ decode cX2_longestStrayAt 10 = .ok (.aload_n 0, 1) ∧ decode cX2_longestStrayAt 11 = .ok (.getfield 21, 3) := by decide +kernel
theorem dX2_longestStrayAt_0 : decode cX2_longestStrayAt 0 = .ok (.iconst 0, 1) := bdX2_longestStrayAt_0.1
theorem dX2_longestStrayAt_1 : decode cX2_longestStrayAt 1 = .ok (.istore_n 2, 1) := bdX2_longestStrayAt_0.2.1
theorem dX2_longestStrayAt_2 : decode cX2_longestStrayAt 2 = .ok (.iload_n 2, 1) := bdX2_longestStrayAt_0.2.2.1
theorem dX2_longestStrayAt_3 : decode cX2_longestStrayAt 3 = .ok (.aload_n 0, 1) := bdX2_longestStrayAt_0.2.2.2.1
theorem dX2_longestStrayAt_4 : decode cX2_longestStrayAt 4 = .ok (.getfield 31, 3) := bdX2_longestStrayAt_0.2.2.2.2.1
theorem dX2_longestStrayAt_7 : decode cX2_longestStrayAt 7 = .ok (.if_icmp .ge 21, 3) := bdX2_longestStrayAt_0.2.2.2.2.2.1
theorem dX2_longestStrayAt_10 : decode cX2_longestStrayAt 10 = .ok (.aload_n 0, 1) := bdX2_longestStrayAt_0.2.2.2.2.2.2.1
theorem dX2_longestStrayAt_11 : decode cX2_longestStrayAt 11 = .ok (.getfield 21, 3) := bdX2_longestStrayAt_0.2.2.2.2.2.2.2
theorem bdX2_longestStrayAt_14 : decode cX2_longestStrayAt 14 = .ok (.iload_n 2, 1) ∧ decode cX2_longestStrayAt 15 = .ok (.iaload, 1) ∧ decode cX2_longestStrayAt 16 = .ok (.iload_n 1, 1) ∧ decode cX2_longestStrayAt 17 = .ok (.if_icmp .ne 5, 3) ∧ decode cX2_longestStrayAt 20 = .ok (.iload_n 2, 1) ∧ decode cX2_longestStrayAt 21 = .ok (.ireturn, 1) ∧ decode cX2_longestStrayAt 22 = .ok (.iinc 2 1, 3) ∧ decode cX2_longestStrayAt 25 = .ok (.goto (-23), 3) := by decide +kernel
theorem dX2_longestStrayAt_14 : decode cX2_longestStrayAt 14 = .ok (.iload_n 2, 1) := bdX2_longestStrayAt_14.1
theorem dX2_longestStrayAt_15 : decode cX2_longestStrayAt 15 = .ok (.iaload, 1) := bdX2_longestStrayAt_14.2.1
theorem dX2_longestStrayAt_16 : decode cX2_longestStrayAt 16 = .ok (.iload_n 1, 1) := bdX2_longestStrayAt_14.2.2.1
theorem dX2_longestStrayAt_17 : decode cX2_longestStrayAt 17 = .ok (.if_icmp .ne 5, 3) := bdX2_longestStrayAt_14.2.2.2.1
theorem dX2_longestStrayAt_20 : decode cX2_longestStrayAt 20 = .ok (.iload_n 2, 1) := bdX2_longestStrayAt_14.2.2.2.2.1
theorem dX2_longestStrayAt_21 : decode cX2_longestStrayAt 21 = .ok (.ireturn, 1) := bdX2_longestStrayAt_14.2.2.2.2.2.1
theorem dX2_longestStrayAt_22 : decode cX2_longestStrayAt 22 = .ok (.iinc 2 1, 3) := bdX2_longestStrayAt_14.2.2.2.2.2.2.1
theorem dX2_longestStrayAt_25 : decode cX2_longestStrayAt 25 = .ok (.goto (-23), 3) := bdX2_longestStrayAt_14.2.2.2.2.2.2.2
theorem bdX2_longestStrayAt_28 : decode cX2_longestStrayAt 28 = .ok (.bipush (-9), 2) ∧ decode cX2_longestStrayAt 30 = .ok (.ireturn, 1) := by decide +kernel
theorem dX2_longestStrayAt_28 : decode cX2_longestStrayAt 28 = .ok (.bipush (-9), 2) := bdX2_longestStrayAt_28.1
theorem dX2_longestStrayAt_30 : decode cX2_longestStrayAt 30 = .ok (.ireturn, 1) := bdX2_longestStrayAt_28.2
set_option maxRecDepth 20000 in
set_option maxRecDepth 100000 in
theorem ggX3_init_X2_init : GoodIn wsX3_init wsX2_init := goodIn_hd (goodIn_c ch_X3_init hc_X3_init ([.code yX2_init cX2_init 1 none] : List Cond) [(1, 9)] rfl (by decide +kernel)) (goodIn_app (goodIn_c ch_X3_init hc_X3_init ([.methodLink RX2 3 objectInit, .instanceMethod objectInit, .code objectInit ⟨#[0xb1]⟩ 1 none, .arrayClass .int, .fieldLink RX2 9 "WordFletchers$Moment" "feathers" "[I", .fieldLink RX2 15 "WordFletchers$Moment" "knows" "[I", .fieldLink RX2 18 "WordFletchers$Moment" "straySaying" "[I", .fieldLink RX2 21 "WordFletchers$Moment" "strayPlace" "[I"] : List Cond) [(1, 10), (1, 1), (1, 2), (1, 11), (1, 12), (1, 13), (1, 14), (1, 15)] rfl (by decide +kernel)) (goodIn_sub (fun _ h => (List.mem_cons_of_mem _ (List.mem_append_right _ h))) gwX2))
set_option maxRecDepth 20000 in
theorem gX3_init_X2_init_n21 : GoodIn wsX3_init (wsX2_init) := ggX3_init_X2_init
theorem bdX3_init_0 : decode cX3_init 0 = .ok (.aload_n 0, 1) ∧ decode cX3_init 1 = .ok (.invokespecial 3, 3) ∧ decode cX3_init 4 = .ok (.aload_n 0, 1) ∧ decode cX3_init 5 = .ok (.bipush 10, 2) ∧ decode cX3_init 7 = .ok (.anewarray 9, 3) ∧ decode cX3_init 10 = .ok (.putfield 11, 3) ∧ decode cX3_init 13 = .ok (.aload_n 0, 1) ∧ decode cX3_init 14 = .ok (.iconst 0, 1) := by decide +kernel
theorem dX3_init_0 : decode cX3_init 0 = .ok (.aload_n 0, 1) := bdX3_init_0.1
theorem dX3_init_1 : decode cX3_init 1 = .ok (.invokespecial 3, 3) := bdX3_init_0.2.1
theorem dX3_init_4 : decode cX3_init 4 = .ok (.aload_n 0, 1) := bdX3_init_0.2.2.1
theorem dX3_init_5 : decode cX3_init 5 = .ok (.bipush 10, 2) := bdX3_init_0.2.2.2.1
theorem dX3_init_7 : decode cX3_init 7 = .ok (.anewarray 9, 3) := bdX3_init_0.2.2.2.2.1
theorem dX3_init_10 : decode cX3_init 10 = .ok (.putfield 11, 3) := bdX3_init_0.2.2.2.2.2.1
theorem dX3_init_13 : decode cX3_init 13 = .ok (.aload_n 0, 1) := bdX3_init_0.2.2.2.2.2.2.1
theorem dX3_init_14 : decode cX3_init 14 = .ok (.iconst 0, 1) := bdX3_init_0.2.2.2.2.2.2.2
theorem bdX3_init_15 : decode cX3_init 15 = .ok (.putfield 17, 3) ∧ decode cX3_init 18 = .ok (.iconst 0, 1) ∧ decode cX3_init 19 = .ok (.istore_n 1, 1) ∧ decode cX3_init 20 = .ok (.iload_n 1, 1) ∧ decode cX3_init 21 = .ok (.bipush 10, 2) ∧ decode cX3_init 23 = .ok (.if_icmp .ge 22, 3) ∧ decode cX3_init 26 = .ok (.aload_n 0, 1) ∧ decode cX3_init 27 = .ok (.getfield 11, 3) := by decide +kernel
theorem dX3_init_15 : decode cX3_init 15 = .ok (.putfield 17, 3) := bdX3_init_15.1
theorem dX3_init_18 : decode cX3_init 18 = .ok (.iconst 0, 1) := bdX3_init_15.2.1
theorem dX3_init_19 : decode cX3_init 19 = .ok (.istore_n 1, 1) := bdX3_init_15.2.2.1
theorem dX3_init_20 : decode cX3_init 20 = .ok (.iload_n 1, 1) := bdX3_init_15.2.2.2.1
theorem dX3_init_21 : decode cX3_init 21 = .ok (.bipush 10, 2) := bdX3_init_15.2.2.2.2.1
theorem dX3_init_23 : decode cX3_init 23 = .ok (.if_icmp .ge 22, 3) := bdX3_init_15.2.2.2.2.2.1
theorem dX3_init_26 : decode cX3_init 26 = .ok (.aload_n 0, 1) := bdX3_init_15.2.2.2.2.2.2.1
theorem dX3_init_27 : decode cX3_init 27 = .ok (.getfield 11, 3) := bdX3_init_15.2.2.2.2.2.2.2
theorem bdX3_init_30 : decode cX3_init 30 = .ok (.iload_n 1, 1) ∧ decode cX3_init 31 = .ok (.new 9, 3) ∧ decode cX3_init 34 = .ok (.dup, 1) ∧ decode cX3_init 35 = .ok (.invokespecial 21, 3) ∧ decode cX3_init 38 = .ok (.aastore, 1) ∧ decode cX3_init 39 = .ok (.iinc 1 1, 3) ∧ decode cX3_init 42 = .ok (.goto (-22), 3) ∧ decode cX3_init 45 = .ok (.return_, 1) := by decide +kernel
theorem dX3_init_30 : decode cX3_init 30 = .ok (.iload_n 1, 1) := bdX3_init_30.1
theorem dX3_init_31 : decode cX3_init 31 = .ok (.new 9, 3) := bdX3_init_30.2.1
theorem dX3_init_34 : decode cX3_init 34 = .ok (.dup, 1) := bdX3_init_30.2.2.1
theorem dX3_init_35 : decode cX3_init 35 = .ok (.invokespecial 21, 3) := bdX3_init_30.2.2.2.1
theorem dX3_init_38 : decode cX3_init 38 = .ok (.aastore, 1) := bdX3_init_30.2.2.2.2.1
theorem dX3_init_39 : decode cX3_init 39 = .ok (.iinc 1 1, 3) := bdX3_init_30.2.2.2.2.2.1
theorem dX3_init_42 : decode cX3_init 42 = .ok (.goto (-22), 3) := bdX3_init_30.2.2.2.2.2.2.1
theorem dX3_init_45 : decode cX3_init 45 = .ok (.return_, 1) := bdX3_init_30.2.2.2.2.2.2.2
set_option maxRecDepth 20000 in
set_option maxRecDepth 100000 in
theorem ggX3_remember_X3_loseOldest : GoodIn wsX3_remember wsX3_loseOldest := goodIn_hd (goodIn_c ch_X3_remember hc_X3_remember ([.code yX3_loseOldest cX3_loseOldest 3 none] : List Cond) [(1, 6)] rfl (by decide +kernel)) (goodIn_app (goodIn_c ch_X3_remember hc_X3_remember ([.fieldLink RX3 11 "WordFletchers$Past" "moments" "[LWordFletchers$Moment;", .fieldLink RX3 17 "WordFletchers$Past" "known" "I"] : List Cond) [(1, 1), (1, 0)] rfl (by decide +kernel)) (goodIn_sub (fun _ h => (List.mem_cons_of_mem _ (List.mem_append_left _ (List.mem_append_right _ h)))) gwX3))
set_option maxRecDepth 20000 in
theorem gX3_remember_X3_loseOldest : GoodIn wsX3_remember (wsV RX3 22 RX3 yX3_loseOldest wsX3_loseOldest) := goodIn_app (goodIn_of _ (by decide +kernel)) ggX3_remember_X3_loseOldest
set_option maxRecDepth 20000 in
set_option maxRecDepth 100000 in
theorem ggX3_remember_X2_become : GoodIn wsX3_remember wsX2_become := goodIn_hd (goodIn_c ch_X3_remember hc_X3_remember ([.code yX2_become cX2_become 2 none] : List Cond) [(1, 11)] rfl (by decide +kernel)) (goodIn_app (goodIn_c ch_X3_remember hc_X3_remember ([.fieldLink RX2 24 "WordFletchers$Moment" "hour" "I", .fieldLink RX2 28 "WordFletchers$Moment" "damp" "I", .fieldLink RX2 31 "WordFletchers$Moment" "strays" "I", .fieldLink RX2 9 "WordFletchers$Moment" "feathers" "[I", .methodLink RX2 47 arraycopyName, .native arraycopyName, .static arraycopyName, .initialized "java/lang/System", .fieldLink RX2 15 "WordFletchers$Moment" "knows" "[I", .fieldLink RX2 18 "WordFletchers$Moment" "straySaying" "[I", .fieldLink RX2 21 "WordFletchers$Moment" "strayPlace" "[I"] : List Cond) [(1, 12), (1, 13), (1, 14), (1, 15), (1, 16), (1, 17), (1, 18), (1, 19), (1, 20), (1, 21), (1, 22)] rfl (by decide +kernel)) (goodIn_sub (fun _ h => (List.mem_cons_of_mem _ (List.mem_append_right _ h))) gwX2))
set_option maxRecDepth 20000 in
theorem gX3_remember_X2_become : GoodIn wsX3_remember (wsV RX3 25 RX2 yX2_become wsX2_become) := goodIn_app (goodIn_of _ (by decide +kernel)) ggX3_remember_X2_become
theorem bdX3_remember_0 : decode cX3_remember 0 = .ok (.aload_n 0, 1) ∧ decode cX3_remember 1 = .ok (.getfield 17, 3) ∧ decode cX3_remember 4 = .ok (.bipush 10, 2) ∧ decode cX3_remember 6 = .ok (.if_icmp .lt 7, 3) ∧ decode cX3_remember 9 = .ok (.aload_n 0, 1) ∧ decode cX3_remember 10 = .ok (.invokevirtual 22, 3) ∧ decode cX3_remember 13 = .ok (.aload_n 0, 1) ∧ decode cX3_remember 14 = .ok (.getfield 11, 3) := by decide +kernel
theorem dX3_remember_0 : decode cX3_remember 0 = .ok (.aload_n 0, 1) := bdX3_remember_0.1
theorem dX3_remember_1 : decode cX3_remember 1 = .ok (.getfield 17, 3) := bdX3_remember_0.2.1
theorem dX3_remember_4 : decode cX3_remember 4 = .ok (.bipush 10, 2) := bdX3_remember_0.2.2.1
theorem dX3_remember_6 : decode cX3_remember 6 = .ok (.if_icmp .lt 7, 3) := bdX3_remember_0.2.2.2.1
theorem dX3_remember_9 : decode cX3_remember 9 = .ok (.aload_n 0, 1) := bdX3_remember_0.2.2.2.2.1
theorem dX3_remember_10 : decode cX3_remember 10 = .ok (.invokevirtual 22, 3) := bdX3_remember_0.2.2.2.2.2.1
theorem dX3_remember_13 : decode cX3_remember 13 = .ok (.aload_n 0, 1) := bdX3_remember_0.2.2.2.2.2.2.1
theorem dX3_remember_14 : decode cX3_remember 14 = .ok (.getfield 11, 3) := bdX3_remember_0.2.2.2.2.2.2.2
theorem bdX3_remember_17 : decode cX3_remember 17 = .ok (.aload_n 0, 1) ∧ decode cX3_remember 18 = .ok (.getfield 17, 3) ∧ decode cX3_remember 21 = .ok (.aaload, 1) ∧ decode cX3_remember 22 = .ok (.aload_n 1, 1) ∧ decode cX3_remember 23 = .ok (.invokevirtual 25, 3) ∧ decode cX3_remember 26 = .ok (.aload_n 0, 1) ∧ decode cX3_remember 27 = .ok (.dup, 1) ∧ decode cX3_remember 28 = .ok (.getfield 17, 3) := by decide +kernel
theorem dX3_remember_17 : decode cX3_remember 17 = .ok (.aload_n 0, 1) := bdX3_remember_17.1
theorem dX3_remember_18 : decode cX3_remember 18 = .ok (.getfield 17, 3) := bdX3_remember_17.2.1
theorem dX3_remember_21 : decode cX3_remember 21 = .ok (.aaload, 1) := bdX3_remember_17.2.2.1
theorem dX3_remember_22 : decode cX3_remember 22 = .ok (.aload_n 1, 1) := bdX3_remember_17.2.2.2.1
theorem dX3_remember_23 : decode cX3_remember 23 = .ok (.invokevirtual 25, 3) := bdX3_remember_17.2.2.2.2.1
theorem dX3_remember_26 : decode cX3_remember 26 = .ok (.aload_n 0, 1) := bdX3_remember_17.2.2.2.2.2.1
theorem dX3_remember_27 : decode cX3_remember 27 = .ok (.dup, 1) := bdX3_remember_17.2.2.2.2.2.2.1
theorem dX3_remember_28 : decode cX3_remember 28 = .ok (.getfield 17, 3) := bdX3_remember_17.2.2.2.2.2.2.2
theorem bdX3_remember_31 : decode cX3_remember 31 = .ok (.iconst 1, 1) ∧ decode cX3_remember 32 = .ok (.iadd, 1) ∧ decode cX3_remember 33 = .ok (.putfield 17, 3) ∧ decode cX3_remember 36 = .ok (.return_, 1) := by decide +kernel
theorem dX3_remember_31 : decode cX3_remember 31 = .ok (.iconst 1, 1) := bdX3_remember_31.1
theorem dX3_remember_32 : decode cX3_remember 32 = .ok (.iadd, 1) := bdX3_remember_31.2.1
theorem dX3_remember_33 : decode cX3_remember 33 = .ok (.putfield 17, 3) := bdX3_remember_31.2.2.1
theorem dX3_remember_36 : decode cX3_remember 36 = .ok (.return_, 1) := bdX3_remember_31.2.2.2
set_option maxRecDepth 20000 in
set_option maxRecDepth 100000 in
theorem ggX3_bringBack_X2_become : GoodIn wsX3_bringBack wsX2_become := goodIn_hd (goodIn_c ch_X3_bringBack hc_X3_bringBack ([.code yX2_become cX2_become 2 none] : List Cond) [(1, 6)] rfl (by decide +kernel)) (goodIn_app (goodIn_c ch_X3_bringBack hc_X3_bringBack ([.fieldLink RX2 24 "WordFletchers$Moment" "hour" "I", .fieldLink RX2 28 "WordFletchers$Moment" "damp" "I", .fieldLink RX2 31 "WordFletchers$Moment" "strays" "I", .fieldLink RX2 9 "WordFletchers$Moment" "feathers" "[I", .methodLink RX2 47 arraycopyName, .native arraycopyName, .static arraycopyName, .initialized "java/lang/System", .fieldLink RX2 15 "WordFletchers$Moment" "knows" "[I", .fieldLink RX2 18 "WordFletchers$Moment" "straySaying" "[I", .fieldLink RX2 21 "WordFletchers$Moment" "strayPlace" "[I"] : List Cond) [(1, 7), (1, 8), (1, 9), (1, 10), (1, 11), (1, 12), (1, 13), (1, 14), (1, 15), (1, 16), (1, 17)] rfl (by decide +kernel)) (goodIn_sub (fun _ h => (List.mem_cons_of_mem _ (List.mem_append_right _ h))) gwX2))
set_option maxRecDepth 20000 in
theorem gX3_bringBack_X2_become : GoodIn wsX3_bringBack (wsV RX3 25 RX2 yX2_become wsX2_become) := goodIn_app (goodIn_of _ (by decide +kernel)) ggX3_bringBack_X2_become
theorem bdX3_bringBack_0 : decode cX3_bringBack 0 = .ok (.aload_n 0, 1) ∧ decode cX3_bringBack 1 = .ok (.getfield 17, 3) ∧ decode cX3_bringBack 4 = .ok (.ifCond .le 26, 3) ∧ decode cX3_bringBack 7 = .ok (.aload_n 0, 1) ∧ decode cX3_bringBack 8 = .ok (.dup, 1) ∧ decode cX3_bringBack 9 = .ok (.getfield 17, 3) ∧ decode cX3_bringBack 12 = .ok (.iconst 1, 1) ∧ decode cX3_bringBack 13 = .ok (.isub, 1) := by decide +kernel
theorem dX3_bringBack_0 : decode cX3_bringBack 0 = .ok (.aload_n 0, 1) := bdX3_bringBack_0.1
theorem dX3_bringBack_1 : decode cX3_bringBack 1 = .ok (.getfield 17, 3) := bdX3_bringBack_0.2.1
theorem dX3_bringBack_4 : decode cX3_bringBack 4 = .ok (.ifCond .le 26, 3) := bdX3_bringBack_0.2.2.1
theorem dX3_bringBack_7 : decode cX3_bringBack 7 = .ok (.aload_n 0, 1) := bdX3_bringBack_0.2.2.2.1
theorem dX3_bringBack_8 : decode cX3_bringBack 8 = .ok (.dup, 1) := bdX3_bringBack_0.2.2.2.2.1
theorem dX3_bringBack_9 : decode cX3_bringBack 9 = .ok (.getfield 17, 3) := bdX3_bringBack_0.2.2.2.2.2.1
theorem dX3_bringBack_12 : decode cX3_bringBack 12 = .ok (.iconst 1, 1) := bdX3_bringBack_0.2.2.2.2.2.2.1
theorem dX3_bringBack_13 : decode cX3_bringBack 13 = .ok (.isub, 1) := bdX3_bringBack_0.2.2.2.2.2.2.2
theorem bdX3_bringBack_14 : decode cX3_bringBack 14 = .ok (.putfield 17, 3) ∧ decode cX3_bringBack 17 = .ok (.aload_n 1, 1) ∧ decode cX3_bringBack 18 = .ok (.aload_n 0, 1) ∧ decode cX3_bringBack 19 = .ok (.getfield 11, 3) ∧ decode cX3_bringBack 22 = .ok (.aload_n 0, 1) ∧ decode cX3_bringBack 23 = .ok (.getfield 17, 3) ∧ decode cX3_bringBack 26 = .ok (.aaload, 1) ∧ decode cX3_bringBack 27 = .ok (.invokevirtual 25, 3) := by decide +kernel
theorem dX3_bringBack_14 : decode cX3_bringBack 14 = .ok (.putfield 17, 3) := bdX3_bringBack_14.1
theorem dX3_bringBack_17 : decode cX3_bringBack 17 = .ok (.aload_n 1, 1) := bdX3_bringBack_14.2.1
theorem dX3_bringBack_18 : decode cX3_bringBack 18 = .ok (.aload_n 0, 1) := bdX3_bringBack_14.2.2.1
theorem dX3_bringBack_19 : decode cX3_bringBack 19 = .ok (.getfield 11, 3) := bdX3_bringBack_14.2.2.2.1
theorem dX3_bringBack_22 : decode cX3_bringBack 22 = .ok (.aload_n 0, 1) := bdX3_bringBack_14.2.2.2.2.1
theorem dX3_bringBack_23 : decode cX3_bringBack 23 = .ok (.getfield 17, 3) := bdX3_bringBack_14.2.2.2.2.2.1
theorem dX3_bringBack_26 : decode cX3_bringBack 26 = .ok (.aaload, 1) := bdX3_bringBack_14.2.2.2.2.2.2.1
theorem dX3_bringBack_27 : decode cX3_bringBack 27 = .ok (.invokevirtual 25, 3) := bdX3_bringBack_14.2.2.2.2.2.2.2
theorem dX3_bringBack_30 : decode cX3_bringBack 30 = .ok (.return_, 1) := by decide +kernel
set_option maxRecDepth 20000 in
set_option maxRecDepth 100000 in
theorem ggX3_become_X2_become : GoodIn wsX3_become wsX2_become := goodIn_hd (goodIn_c ch_X3_become hc_X3_become ([.code yX2_become cX2_become 2 none] : List Cond) [(1, 6)] rfl (by decide +kernel)) (goodIn_app (goodIn_c ch_X3_become hc_X3_become ([.fieldLink RX2 24 "WordFletchers$Moment" "hour" "I", .fieldLink RX2 28 "WordFletchers$Moment" "damp" "I", .fieldLink RX2 31 "WordFletchers$Moment" "strays" "I", .fieldLink RX2 9 "WordFletchers$Moment" "feathers" "[I", .methodLink RX2 47 arraycopyName, .native arraycopyName, .static arraycopyName, .initialized "java/lang/System", .fieldLink RX2 15 "WordFletchers$Moment" "knows" "[I", .fieldLink RX2 18 "WordFletchers$Moment" "straySaying" "[I", .fieldLink RX2 21 "WordFletchers$Moment" "strayPlace" "[I"] : List Cond) [(1, 7), (1, 8), (1, 9), (1, 10), (1, 11), (1, 12), (1, 13), (1, 14), (1, 15), (1, 16), (1, 17)] rfl (by decide +kernel)) (goodIn_sub (fun _ h => (List.mem_cons_of_mem _ (List.mem_append_right _ h))) gwX2))
set_option maxRecDepth 20000 in
theorem gX3_become_X2_become : GoodIn wsX3_become (wsV RX3 25 RX2 yX2_become wsX2_become) := goodIn_app (goodIn_of _ (by decide +kernel)) ggX3_become_X2_become
theorem bdX3_become_0 : decode cX3_become 0 = .ok (.aload_n 0, 1) ∧ decode cX3_become 1 = .ok (.aload_n 1, 1) ∧ decode cX3_become 2 = .ok (.getfield 17, 3) ∧ decode cX3_become 5 = .ok (.putfield 17, 3) ∧ decode cX3_become 8 = .ok (.iconst 0, 1) ∧ decode cX3_become 9 = .ok (.istore_n 2, 1) ∧ decode cX3_become 10 = .ok (.iload_n 2, 1) ∧ decode cX3_become 11 = .ok (.aload_n 0, 1) := by decide +kernel
theorem dX3_become_0 : decode cX3_become 0 = .ok (.aload_n 0, 1) := bdX3_become_0.1
theorem dX3_become_1 : decode cX3_become 1 = .ok (.aload_n 1, 1) := bdX3_become_0.2.1
theorem dX3_become_2 : decode cX3_become 2 = .ok (.getfield 17, 3) := bdX3_become_0.2.2.1
theorem dX3_become_5 : decode cX3_become 5 = .ok (.putfield 17, 3) := bdX3_become_0.2.2.2.1
theorem dX3_become_8 : decode cX3_become 8 = .ok (.iconst 0, 1) := bdX3_become_0.2.2.2.2.1
theorem dX3_become_9 : decode cX3_become 9 = .ok (.istore_n 2, 1) := bdX3_become_0.2.2.2.2.2.1
theorem dX3_become_10 : decode cX3_become 10 = .ok (.iload_n 2, 1) := bdX3_become_0.2.2.2.2.2.2.1
theorem dX3_become_11 : decode cX3_become 11 = .ok (.aload_n 0, 1) := bdX3_become_0.2.2.2.2.2.2.2
theorem bdX3_become_12 : decode cX3_become 12 = .ok (.getfield 17, 3) ∧ decode cX3_become 15 = .ok (.if_icmp .ge 24, 3) ∧ decode cX3_become 18 = .ok (.aload_n 0, 1) ∧ decode cX3_become 19 = .ok (.getfield 11, 3) ∧ decode cX3_become 22 = .ok (.iload_n 2, 1) ∧ decode cX3_become 23 = .ok (.aaload, 1) ∧ decode cX3_become 24 = .ok (.aload_n 1, 1) ∧ decode cX3_become 25 = .ok (.getfield 11, 3) := by decide +kernel
theorem dX3_become_12 : decode cX3_become 12 = .ok (.getfield 17, 3) := bdX3_become_12.1
theorem dX3_become_15 : decode cX3_become 15 = .ok (.if_icmp .ge 24, 3) := bdX3_become_12.2.1
theorem dX3_become_18 : decode cX3_become 18 = .ok (.aload_n 0, 1) := bdX3_become_12.2.2.1
theorem dX3_become_19 : decode cX3_become 19 = .ok (.getfield 11, 3) := bdX3_become_12.2.2.2.1
theorem dX3_become_22 : decode cX3_become 22 = .ok (.iload_n 2, 1) := bdX3_become_12.2.2.2.2.1
theorem dX3_become_23 : decode cX3_become 23 = .ok (.aaload, 1) := bdX3_become_12.2.2.2.2.2.1
theorem dX3_become_24 : decode cX3_become 24 = .ok (.aload_n 1, 1) := bdX3_become_12.2.2.2.2.2.2.1
theorem dX3_become_25 : decode cX3_become 25 = .ok (.getfield 11, 3) := bdX3_become_12.2.2.2.2.2.2.2
theorem bdX3_become_28 : decode cX3_become 28 = .ok (.iload_n 2, 1) ∧ decode cX3_become 29 = .ok (.aaload, 1) ∧ decode cX3_become 30 = .ok (.invokevirtual 25, 3) ∧ decode cX3_become 33 = .ok (.iinc 2 1, 3) ∧ decode cX3_become 36 = .ok (.goto (-26), 3) ∧ decode cX3_become 39 = .ok (.return_, 1) := by decide +kernel
theorem dX3_become_28 : decode cX3_become 28 = .ok (.iload_n 2, 1) := bdX3_become_28.1
theorem dX3_become_29 : decode cX3_become 29 = .ok (.aaload, 1) := bdX3_become_28.2.1
theorem dX3_become_30 : decode cX3_become 30 = .ok (.invokevirtual 25, 3) := bdX3_become_28.2.2.1
theorem dX3_become_33 : decode cX3_become 33 = .ok (.iinc 2 1, 3) := bdX3_become_28.2.2.2.1
theorem dX3_become_36 : decode cX3_become 36 = .ok (.goto (-26), 3) := bdX3_become_28.2.2.2.2.1
theorem dX3_become_39 : decode cX3_become 39 = .ok (.return_, 1) := bdX3_become_28.2.2.2.2.2
theorem bdX3_loseOldest_0 : decode cX3_loseOldest 0 = .ok (.aload_n 0, 1) ∧ decode cX3_loseOldest 1 = .ok (.getfield 11, 3) ∧ decode cX3_loseOldest 4 = .ok (.iconst 0, 1) ∧ decode cX3_loseOldest 5 = .ok (.aaload, 1) ∧ decode cX3_loseOldest 6 = .ok (.astore_n 1, 1) ∧ decode cX3_loseOldest 7 = .ok (.iconst 1, 1) ∧ decode cX3_loseOldest 8 = .ok (.istore_n 2, 1) ∧ decode cX3_loseOldest 9 = .ok (.iload_n 2, 1) := by decide +kernel
theorem dX3_loseOldest_0 : decode cX3_loseOldest 0 = .ok (.aload_n 0, 1) := bdX3_loseOldest_0.1
theorem dX3_loseOldest_1 : decode cX3_loseOldest 1 = .ok (.getfield 11, 3) := bdX3_loseOldest_0.2.1
theorem dX3_loseOldest_4 : decode cX3_loseOldest 4 = .ok (.iconst 0, 1) := bdX3_loseOldest_0.2.2.1
theorem dX3_loseOldest_5 : decode cX3_loseOldest 5 = .ok (.aaload, 1) := bdX3_loseOldest_0.2.2.2.1
theorem dX3_loseOldest_6 : decode cX3_loseOldest 6 = .ok (.astore_n 1, 1) := bdX3_loseOldest_0.2.2.2.2.1
theorem dX3_loseOldest_7 : decode cX3_loseOldest 7 = .ok (.iconst 1, 1) := bdX3_loseOldest_0.2.2.2.2.2.1
theorem dX3_loseOldest_8 : decode cX3_loseOldest 8 = .ok (.istore_n 2, 1) := bdX3_loseOldest_0.2.2.2.2.2.2.1
theorem dX3_loseOldest_9 : decode cX3_loseOldest 9 = .ok (.iload_n 2, 1) := bdX3_loseOldest_0.2.2.2.2.2.2.2
theorem bdX3_loseOldest_10 : decode cX3_loseOldest 10 = .ok (.bipush 10, 2) ∧ decode cX3_loseOldest 12 = .ok (.if_icmp .ge 23, 3) ∧ decode cX3_loseOldest 15 = .ok (.aload_n 0, 1) ∧ decode cX3_loseOldest 16 = .ok (.getfield 11, 3) ∧ decode cX3_loseOldest 19 = .ok (.iload_n 2, 1) ∧ decode cX3_loseOldest 20 = .ok (.iconst 1, 1) ∧ decode cX3_loseOldest 21 = .ok (.isub, 1) ∧ decode cX3_loseOldest 22 = .ok (.aload_n 0, 1) := by decide +kernel
theorem dX3_loseOldest_10 : decode cX3_loseOldest 10 = .ok (.bipush 10, 2) := bdX3_loseOldest_10.1
theorem dX3_loseOldest_12 : decode cX3_loseOldest 12 = .ok (.if_icmp .ge 23, 3) := bdX3_loseOldest_10.2.1
theorem dX3_loseOldest_15 : decode cX3_loseOldest 15 = .ok (.aload_n 0, 1) := bdX3_loseOldest_10.2.2.1
theorem dX3_loseOldest_16 : decode cX3_loseOldest 16 = .ok (.getfield 11, 3) := bdX3_loseOldest_10.2.2.2.1
theorem dX3_loseOldest_19 : decode cX3_loseOldest 19 = .ok (.iload_n 2, 1) := bdX3_loseOldest_10.2.2.2.2.1
theorem dX3_loseOldest_20 : decode cX3_loseOldest 20 = .ok (.iconst 1, 1) := bdX3_loseOldest_10.2.2.2.2.2.1
theorem dX3_loseOldest_21 : decode cX3_loseOldest 21 = .ok (.isub, 1) := bdX3_loseOldest_10.2.2.2.2.2.2.1
theorem dX3_loseOldest_22 : decode cX3_loseOldest 22 = .ok (.aload_n 0, 1) := bdX3_loseOldest_10.2.2.2.2.2.2.2
theorem bdX3_loseOldest_23 : decode cX3_loseOldest 23 = .ok (.getfield 11, 3) ∧ decode cX3_loseOldest 26 = .ok (.iload_n 2, 1) ∧ decode cX3_loseOldest 27 = .ok (.aaload, 1) ∧ decode cX3_loseOldest 28 = .ok (.aastore, 1) ∧ decode cX3_loseOldest 29 = .ok (.iinc 2 1, 3) ∧ decode cX3_loseOldest 32 = .ok (.goto (-23), 3) ∧ decode cX3_loseOldest 35 = .ok (.aload_n 0, 1) ∧ decode cX3_loseOldest 36 = .ok (.getfield 11, 3) := by decide +kernel
theorem dX3_loseOldest_23 : decode cX3_loseOldest 23 = .ok (.getfield 11, 3) := bdX3_loseOldest_23.1
theorem dX3_loseOldest_26 : decode cX3_loseOldest 26 = .ok (.iload_n 2, 1) := bdX3_loseOldest_23.2.1
theorem dX3_loseOldest_27 : decode cX3_loseOldest 27 = .ok (.aaload, 1) := bdX3_loseOldest_23.2.2.1
theorem dX3_loseOldest_28 : decode cX3_loseOldest 28 = .ok (.aastore, 1) := bdX3_loseOldest_23.2.2.2.1
theorem dX3_loseOldest_29 : decode cX3_loseOldest 29 = .ok (.iinc 2 1, 3) := bdX3_loseOldest_23.2.2.2.2.1
theorem dX3_loseOldest_32 : decode cX3_loseOldest 32 = .ok (.goto (-23), 3) := bdX3_loseOldest_23.2.2.2.2.2.1
theorem dX3_loseOldest_35 : decode cX3_loseOldest 35 = .ok (.aload_n 0, 1) := bdX3_loseOldest_23.2.2.2.2.2.2.1
theorem dX3_loseOldest_36 : decode cX3_loseOldest 36 = .ok (.getfield 11, 3) := bdX3_loseOldest_23.2.2.2.2.2.2.2
theorem bdX3_loseOldest_39 : decode cX3_loseOldest 39 = .ok (.bipush 9, 2) ∧ decode cX3_loseOldest 41 = .ok (.aload_n 1, 1) ∧ decode cX3_loseOldest 42 = .ok (.aastore, 1) ∧ decode cX3_loseOldest 43 = .ok (.aload_n 0, 1) ∧ decode cX3_loseOldest 44 = .ok (.dup, 1) ∧ decode cX3_loseOldest 45 = .ok (.getfield 17, 3) ∧ decode cX3_loseOldest 48 = .ok (.iconst 1, 1) ∧ decode cX3_loseOldest 49 = .ok (.isub, 1) := by decide +kernel
theorem dX3_loseOldest_39 : decode cX3_loseOldest 39 = .ok (.bipush 9, 2) := bdX3_loseOldest_39.1
theorem dX3_loseOldest_41 : decode cX3_loseOldest 41 = .ok (.aload_n 1, 1) := bdX3_loseOldest_39.2.1
theorem dX3_loseOldest_42 : decode cX3_loseOldest 42 = .ok (.aastore, 1) := bdX3_loseOldest_39.2.2.1
theorem dX3_loseOldest_43 : decode cX3_loseOldest 43 = .ok (.aload_n 0, 1) := bdX3_loseOldest_39.2.2.2.1
theorem dX3_loseOldest_44 : decode cX3_loseOldest 44 = .ok (.dup, 1) := bdX3_loseOldest_39.2.2.2.2.1
theorem dX3_loseOldest_45 : decode cX3_loseOldest 45 = .ok (.getfield 17, 3) := bdX3_loseOldest_39.2.2.2.2.2.1
theorem dX3_loseOldest_48 : decode cX3_loseOldest 48 = .ok (.iconst 1, 1) := bdX3_loseOldest_39.2.2.2.2.2.2.1
theorem dX3_loseOldest_49 : decode cX3_loseOldest 49 = .ok (.isub, 1) := bdX3_loseOldest_39.2.2.2.2.2.2.2
theorem bdX3_loseOldest_50 : decode cX3_loseOldest 50 = .ok (.putfield 17, 3) ∧ decode cX3_loseOldest 53 = .ok (.return_, 1) := by decide +kernel
theorem dX3_loseOldest_50 : decode cX3_loseOldest 50 = .ok (.putfield 17, 3) := bdX3_loseOldest_50.1
theorem dX3_loseOldest_53 : decode cX3_loseOldest 53 = .ok (.return_, 1) := bdX3_loseOldest_50.2
theorem bdX4_init_0 : decode cX4_init 0 = .ok (.aload_n 0, 1) ∧ decode cX4_init 1 = .ok (.invokespecial 3, 3) ∧ decode cX4_init 4 = .ok (.aload_n 0, 1) ∧ decode cX4_init 5 = .ok (.iconst 4, 1) ∧ decode cX4_init 6 = .ok (.newarray .int, 2) ∧ decode cX4_init 8 = .ok (.putfield 9, 3) ∧ decode cX4_init 11 = .ok (.aload_n 0, 1) ∧ decode cX4_init 12 = .ok (.iconst 4, 1) := by decide +kernel
theorem dX4_init_0 : decode cX4_init 0 = .ok (.aload_n 0, 1) := bdX4_init_0.1
theorem dX4_init_1 : decode cX4_init 1 = .ok (.invokespecial 3, 3) := bdX4_init_0.2.1
theorem dX4_init_4 : decode cX4_init 4 = .ok (.aload_n 0, 1) := bdX4_init_0.2.2.1
theorem dX4_init_5 : decode cX4_init 5 = .ok (.iconst 4, 1) := bdX4_init_0.2.2.2.1
theorem dX4_init_6 : decode cX4_init 6 = .ok (.newarray .int, 2) := bdX4_init_0.2.2.2.2.1
theorem dX4_init_8 : decode cX4_init 8 = .ok (.putfield 9, 3) := bdX4_init_0.2.2.2.2.2.1
theorem dX4_init_11 : decode cX4_init 11 = .ok (.aload_n 0, 1) := bdX4_init_0.2.2.2.2.2.2.1
theorem dX4_init_12 : decode cX4_init 12 = .ok (.iconst 4, 1) := bdX4_init_0.2.2.2.2.2.2.2
theorem bdX4_init_13 : decode cX4_init 13 = .ok (.newarray .int, 2) ∧ decode cX4_init 15 = .ok (.putfield 15, 3) ∧ decode cX4_init 18 = .ok (.aload_n 0, 1) ∧ decode cX4_init 19 = .ok (.iconst 4, 1) ∧ decode cX4_init 20 = .ok (.newarray .int, 2) ∧ decode cX4_init 22 = .ok (.putfield 18, 3) ∧ decode cX4_init 25 = .ok (.aload_n 0, 1) ∧ decode cX4_init 26 = .ok (.iconst 4, 1) := by decide +kernel
theorem dX4_init_13 : decode cX4_init 13 = .ok (.newarray .int, 2) := bdX4_init_13.1
theorem dX4_init_15 : decode cX4_init 15 = .ok (.putfield 15, 3) := bdX4_init_13.2.1
theorem dX4_init_18 : decode cX4_init 18 = .ok (.aload_n 0, 1) := bdX4_init_13.2.2.1
theorem dX4_init_19 : decode cX4_init 19 = .ok (.iconst 4, 1) := bdX4_init_13.2.2.2.1
theorem dX4_init_20 : decode cX4_init 20 = .ok (.newarray .int, 2) := bdX4_init_13.2.2.2.2.1
theorem dX4_init_22 : decode cX4_init 22 = .ok (.putfield 18, 3) := bdX4_init_13.2.2.2.2.2.1
theorem dX4_init_25 : decode cX4_init 25 = .ok (.aload_n 0, 1) := bdX4_init_13.2.2.2.2.2.2.1
theorem dX4_init_26 : decode cX4_init 26 = .ok (.iconst 4, 1) := bdX4_init_13.2.2.2.2.2.2.2
theorem bdX4_init_27 : decode cX4_init 27 = .ok (.newarray .int, 2) ∧ decode cX4_init 29 = .ok (.putfield 21, 3) ∧ decode cX4_init 32 = .ok (.aload_n 0, 1) ∧ decode cX4_init 33 = .ok (.iconst 0, 1) ∧ decode cX4_init 34 = .ok (.putfield 24, 3) ∧ decode cX4_init 37 = .ok (.return_, 1) := by decide +kernel
theorem dX4_init_27 : decode cX4_init 27 = .ok (.newarray .int, 2) := bdX4_init_27.1
theorem dX4_init_29 : decode cX4_init 29 = .ok (.putfield 21, 3) := bdX4_init_27.2.1
theorem dX4_init_32 : decode cX4_init 32 = .ok (.aload_n 0, 1) := bdX4_init_27.2.2.1
theorem dX4_init_33 : decode cX4_init 33 = .ok (.iconst 0, 1) := bdX4_init_27.2.2.2.1
theorem dX4_init_34 : decode cX4_init 34 = .ok (.putfield 24, 3) := bdX4_init_27.2.2.2.2.1
theorem dX4_init_37 : decode cX4_init 37 = .ok (.return_, 1) := bdX4_init_27.2.2.2.2.2
theorem bdX4_add_0 : decode cX4_add 0 = .ok (.aload_n 0, 1) ∧ decode cX4_add 1 = .ok (.getfield 9, 3) ∧ decode cX4_add 4 = .ok (.aload_n 0, 1) ∧ decode cX4_add 5 = .ok (.getfield 24, 3) ∧ decode cX4_add 8 = .ok (.iload_n 1, 1) ∧ decode cX4_add 9 = .ok (.iastore, 1) ∧ decode cX4_add 10 = .ok (.aload_n 0, 1) ∧ decode cX4_add 11 = .ok (.getfield 15, 3) := by decide +kernel
theorem dX4_add_0 : decode cX4_add 0 = .ok (.aload_n 0, 1) := bdX4_add_0.1
theorem dX4_add_1 : decode cX4_add 1 = .ok (.getfield 9, 3) := bdX4_add_0.2.1
theorem dX4_add_4 : decode cX4_add 4 = .ok (.aload_n 0, 1) := bdX4_add_0.2.2.1
theorem dX4_add_5 : decode cX4_add 5 = .ok (.getfield 24, 3) := bdX4_add_0.2.2.2.1
theorem dX4_add_8 : decode cX4_add 8 = .ok (.iload_n 1, 1) := bdX4_add_0.2.2.2.2.1
theorem dX4_add_9 : decode cX4_add 9 = .ok (.iastore, 1) := bdX4_add_0.2.2.2.2.2.1
theorem dX4_add_10 : decode cX4_add 10 = .ok (.aload_n 0, 1) := bdX4_add_0.2.2.2.2.2.2.1
theorem dX4_add_11 : decode cX4_add 11 = .ok (.getfield 15, 3) := bdX4_add_0.2.2.2.2.2.2.2
theorem bdX4_add_14 : decode cX4_add 14 = .ok (.aload_n 0, 1) ∧ decode cX4_add 15 = .ok (.getfield 24, 3) ∧ decode cX4_add 18 = .ok (.iload_n 2, 1) ∧ decode cX4_add 19 = .ok (.iastore, 1) ∧ decode cX4_add 20 = .ok (.aload_n 0, 1) ∧ decode cX4_add 21 = .ok (.getfield 18, 3) ∧ decode cX4_add 24 = .ok (.aload_n 0, 1) ∧ decode cX4_add 25 = .ok (.getfield 24, 3) := by decide +kernel
theorem dX4_add_14 : decode cX4_add 14 = .ok (.aload_n 0, 1) := bdX4_add_14.1
theorem dX4_add_15 : decode cX4_add 15 = .ok (.getfield 24, 3) := bdX4_add_14.2.1
theorem dX4_add_18 : decode cX4_add 18 = .ok (.iload_n 2, 1) := bdX4_add_14.2.2.1
theorem dX4_add_19 : decode cX4_add 19 = .ok (.iastore, 1) := bdX4_add_14.2.2.2.1
theorem dX4_add_20 : decode cX4_add 20 = .ok (.aload_n 0, 1) := bdX4_add_14.2.2.2.2.1
theorem dX4_add_21 : decode cX4_add 21 = .ok (.getfield 18, 3) := bdX4_add_14.2.2.2.2.2.1
theorem dX4_add_24 : decode cX4_add 24 = .ok (.aload_n 0, 1) := bdX4_add_14.2.2.2.2.2.2.1
theorem dX4_add_25 : decode cX4_add 25 = .ok (.getfield 24, 3) := bdX4_add_14.2.2.2.2.2.2.2
theorem bdX4_add_28 : decode cX4_add 28 = .ok (.iload_n 3, 1) ∧ decode cX4_add 29 = .ok (.iastore, 1) ∧ decode cX4_add 30 = .ok (.aload_n 0, 1) ∧ decode cX4_add 31 = .ok (.getfield 21, 3) ∧ decode cX4_add 34 = .ok (.aload_n 0, 1) ∧ decode cX4_add 35 = .ok (.getfield 24, 3) ∧ decode cX4_add 38 = .ok (.iload 4, 2) ∧ decode cX4_add 40 = .ok (.iastore, 1) := by decide +kernel
theorem dX4_add_28 : decode cX4_add 28 = .ok (.iload_n 3, 1) := bdX4_add_28.1
theorem dX4_add_29 : decode cX4_add 29 = .ok (.iastore, 1) := bdX4_add_28.2.1
theorem dX4_add_30 : decode cX4_add 30 = .ok (.aload_n 0, 1) := bdX4_add_28.2.2.1
theorem dX4_add_31 : decode cX4_add 31 = .ok (.getfield 21, 3) := bdX4_add_28.2.2.2.1
theorem dX4_add_34 : decode cX4_add 34 = .ok (.aload_n 0, 1) := bdX4_add_28.2.2.2.2.1
theorem dX4_add_35 : decode cX4_add 35 = .ok (.getfield 24, 3) := bdX4_add_28.2.2.2.2.2.1
theorem dX4_add_38 : decode cX4_add 38 = .ok (.iload 4, 2) := bdX4_add_28.2.2.2.2.2.2.1
theorem dX4_add_40 : decode cX4_add 40 = .ok (.iastore, 1) := bdX4_add_28.2.2.2.2.2.2.2
theorem bdX4_add_41 : decode cX4_add 41 = .ok (.aload_n 0, 1) ∧ decode cX4_add 42 = .ok (.dup, 1) ∧ decode cX4_add 43 = .ok (.getfield 24, 3) ∧ decode cX4_add 46 = .ok (.iconst 1, 1) ∧ decode cX4_add 47 = .ok (.iadd, 1) ∧ decode cX4_add 48 = .ok (.putfield 24, 3) ∧ decode cX4_add 51 = .ok (.return_, 1) := by decide +kernel
theorem dX4_add_41 : decode cX4_add 41 = .ok (.aload_n 0, 1) := bdX4_add_41.1
theorem dX4_add_42 : decode cX4_add 42 = .ok (.dup, 1) := bdX4_add_41.2.1
theorem dX4_add_43 : decode cX4_add 43 = .ok (.getfield 24, 3) := bdX4_add_41.2.2.1
theorem dX4_add_46 : decode cX4_add 46 = .ok (.iconst 1, 1) := bdX4_add_41.2.2.2.1
theorem dX4_add_47 : decode cX4_add 47 = .ok (.iadd, 1) := bdX4_add_41.2.2.2.2.1
theorem dX4_add_48 : decode cX4_add 48 = .ok (.putfield 24, 3) := bdX4_add_41.2.2.2.2.2.1
theorem dX4_add_51 : decode cX4_add 51 = .ok (.return_, 1) := bdX4_add_41.2.2.2.2.2.2
theorem bdX5_init_0 : decode cX5_init 0 = .ok (.aload_n 0, 1) ∧ decode cX5_init 1 = .ok (.invokespecial 3, 3) ∧ decode cX5_init 4 = .ok (.aload_n 0, 1) ∧ decode cX5_init 5 = .ok (.aload_n 1, 1) ∧ decode cX5_init 6 = .ok (.putfield 9, 3) ∧ decode cX5_init 9 = .ok (.return_, 1) := by decide +kernel
theorem dX5_init_0 : decode cX5_init 0 = .ok (.aload_n 0, 1) := bdX5_init_0.1
theorem dX5_init_1 : decode cX5_init 1 = .ok (.invokespecial 3, 3) := bdX5_init_0.2.1
theorem dX5_init_4 : decode cX5_init 4 = .ok (.aload_n 0, 1) := bdX5_init_0.2.2.1
theorem dX5_init_5 : decode cX5_init 5 = .ok (.aload_n 1, 1) := bdX5_init_0.2.2.2.1
theorem dX5_init_6 : decode cX5_init 6 = .ok (.putfield 9, 3) := bdX5_init_0.2.2.2.2.1
theorem dX5_init_9 : decode cX5_init 9 = .ok (.return_, 1) := bdX5_init_0.2.2.2.2.2
set_option maxRecDepth 20000 in
set_option maxRecDepth 100000 in
theorem ggX5_read_X6_tellNothing : GoodIn wsX5_read wsX6_tellNothing := goodIn_hd (goodIn_c ch_X5_read hc_X5_read ([.code yX6_tellNothing cX6_tellNothing 2 none] : List Cond) [(1, 13)] rfl (by decide +kernel)) (goodIn_app (goodIn_c ch_X5_read hc_X5_read ([.fieldLink RX6 36 "WordFletchers$Told" "people" "I", .fieldLink RX6 40 "WordFletchers$Told" "sayings" "I", .fieldLink RX6 43 "WordFletchers$Told" "windsTold" "I", .fieldLink RX6 27 "WordFletchers$Told" "winds" "[I", .fieldLink RX6 30 "WordFletchers$Told" "feathers" "[I"] : List Cond) [(1, 14), (1, 15), (1, 16), (1, 17), (1, 18)] rfl (by decide +kernel)) (goodIn_sub (fun _ h => (List.mem_cons_of_mem _ (List.mem_append_right _ h))) gwX6))
set_option maxRecDepth 20000 in
theorem gX5_read_X6_tellNothing : GoodIn wsX5_read (wsV RX5 28 RX6 yX6_tellNothing wsX6_tellNothing) := goodIn_app (goodIn_of _ (by decide +kernel)) ggX5_read_X6_tellNothing
set_option maxRecDepth 20000 in
set_option maxRecDepth 100000 in
theorem ggX5_read_X5_step : GoodIn wsX5_read wsX5_step := goodIn_hd (goodIn_c ch_X5_read hc_X5_read ([.code yX5_step cX5_step 1 none] : List Cond) [(1, 23)] rfl (by decide +kernel)) (goodIn_app (goodIn_c ch_X5_read hc_X5_read ([.fieldLink RX5 25 "WordFletchers$TextReader" "next" "I", .fieldLink RX5 21 "WordFletchers$TextReader" "length" "I", .fieldLink RX5 9 "WordFletchers$TextReader" "bytes" "[I", .fieldLink RX5 43 "WordFletchers$TextReader" "start" "I", .fieldLink RX5 36 "WordFletchers$TextReader" "sort" "I", .methodLink RX5 98 yX5_sortAt, .instanceMethod yX5_sortAt, .selects RX5 yX5_sortAt yX5_sortAt, .initialized RX5, .code yX5_sortAt cX5_sortAt 3 (some .int), .methodLink RX5 102 yX5_stepOverLetters, .instanceMethod yX5_stepOverLetters, .selects RX5 yX5_stepOverLetters yX5_stepOverLetters, .code yX5_stepOverLetters cX5_stepOverLetters 1 none, .fieldLink RX5 46 "WordFletchers$TextReader" "value" "I", .methodLink RX5 105 yX5_stepOverDigits, .instanceMethod yX5_stepOverDigits, .selects RX5 yX5_stepOverDigits yX5_stepOverDigits, .code yX5_stepOverDigits cX5_stepOverDigits 2 none, .methodLink RX5 15 Lib.Math.min.name, .static Lib.Math.min.name, .initialized "java/lang/Math", .code Lib.Math.min.name Lib.Math.min.code 2 (some .int)] : List Cond) [(1, 6), (1, 5), (1, 0), (1, 8), (1, 7), (2, 0), (2, 1), (2, 2), (1, 22), (2, 3), (2, 4), (2, 5), (2, 6), (2, 7), (2, 8), (2, 9), (2, 10), (2, 11), (2, 12), (1, 1), (1, 2), (1, 3), (1, 4)] rfl (by decide +kernel)) (goodIn_sub (fun _ h => (List.mem_cons_of_mem _ (List.mem_append_left _ (List.mem_append_right _ h)))) gwX5))
set_option maxRecDepth 20000 in
theorem gX5_read_X5_step : GoodIn wsX5_read (wsV RX5 33 RX5 yX5_step wsX5_step) := goodIn_app (goodIn_of _ (by decide +kernel)) ggX5_read_X5_step
set_option maxRecDepth 20000 in
set_option maxRecDepth 100000 in
theorem ggX5_read_X5_readItem : GoodIn wsX5_read wsX5_readItem := goodIn_hd (goodIn_c ch_X5_read hc_X5_read ([.code yX5_readItem cX5_readItem 2 (some .boolean)] : List Cond) [(2, 16)] rfl (by decide +kernel)) (goodIn_app (goodIn_app (goodIn_app (goodIn_c ch_X5_read hc_X5_read wsX5_readItem_r1 [(1, 7), (2, 8), (2, 17), (2, 18), (2, 19), (1, 22), (2, 20), (2, 21), (2, 22), (2, 23), (1, 19), (1, 20), (1, 21), (1, 23), (1, 6), (1, 5), (1, 0), (1, 8), (2, 0), (2, 1), (2, 2), (2, 3), (2, 4), (2, 5)] rfl (by decide +kernel)) (goodIn_app (goodIn_c ch_X5_read hc_X5_read wsX5_readItem_r2 [(2, 6), (2, 7), (2, 9), (2, 10), (2, 11), (2, 12), (1, 1), (1, 2), (1, 3), (1, 4), (3, 0), (3, 1), (3, 2), (3, 3), (3, 4), (3, 5), (3, 6), (3, 7), (3, 8), (3, 9), (3, 10), (3, 11), (3, 12), (3, 13)] rfl (by decide +kernel)) (goodIn_c ch_X5_read hc_X5_read wsX5_readItem_r3 [(3, 14), (3, 15), (3, 16), (3, 17), (3, 18), (3, 19), (3, 20), (3, 21), (3, 22), (3, 23), (4, 0), (4, 1), (4, 2)] rfl (by decide +kernel)))) (goodIn_sub (fun _ h => (List.mem_cons_of_mem _ (List.mem_append_left _ (List.mem_append_right _ h)))) gwX5)) (goodIn_sub (fun _ h => (List.mem_cons_of_mem _ (List.mem_append_right _ h))) gwX6))
set_option maxRecDepth 20000 in
theorem gX5_read_X5_readItem : GoodIn wsX5_read (wsV RX5 39 RX5 yX5_readItem wsX5_readItem) := goodIn_app (goodIn_of _ (by decide +kernel)) ggX5_read_X5_readItem
theorem bdX5_read_0 : decode cX5_read 0 = .ok (.aload_n 0, 1) ∧ decode cX5_read 1 = .ok (.iload_n 1, 1) ∧ decode cX5_read 2 = .ok (.aload_n 0, 1) ∧ decode cX5_read 3 = .ok (.getfield 9, 3) ∧ decode cX5_read 6 = .ok (.arraylength, 1) ∧ decode cX5_read 7 = .ok (.invokestatic 15, 3) ∧ decode cX5_read 10 = .ok (.putfield 21, 3) ∧ decode cX5_read 13 = .ok (.aload_n 0, 1) := by decide +kernel
theorem dX5_read_0 : decode cX5_read 0 = .ok (.aload_n 0, 1) := bdX5_read_0.1
theorem dX5_read_1 : decode cX5_read 1 = .ok (.iload_n 1, 1) := bdX5_read_0.2.1
theorem dX5_read_2 : decode cX5_read 2 = .ok (.aload_n 0, 1) := bdX5_read_0.2.2.1
theorem dX5_read_3 : decode cX5_read 3 = .ok (.getfield 9, 3) := bdX5_read_0.2.2.2.1
theorem dX5_read_6 : decode cX5_read 6 = .ok (.arraylength, 1) := bdX5_read_0.2.2.2.2.1
theorem dX5_read_7 : decode cX5_read 7 = .ok (.invokestatic 15, 3) := bdX5_read_0.2.2.2.2.2.1
theorem dX5_read_10 : decode cX5_read 10 = .ok (.putfield 21, 3) := bdX5_read_0.2.2.2.2.2.2.1
theorem dX5_read_13 : decode cX5_read 13 = .ok (.aload_n 0, 1) := bdX5_read_0.2.2.2.2.2.2.2
theorem bdX5_read_14 : decode cX5_read 14 = .ok (.iconst 0, 1) ∧ decode cX5_read 15 = .ok (.putfield 25, 3) ∧ decode cX5_read 18 = .ok (.aload_n 2, 1) ∧ decode cX5_read 19 = .ok (.invokevirtual 28, 3) ∧ decode cX5_read 22 = .ok (.aload_n 0, 1) ∧ decode cX5_read 23 = .ok (.invokevirtual 33, 3) ∧ decode cX5_read 26 = .ok (.iconst 0, 1) ∧ decode cX5_read 27 = .ok (.istore_n 3, 1) := by decide +kernel
theorem dX5_read_14 : decode cX5_read 14 = .ok (.iconst 0, 1) := bdX5_read_14.1
theorem dX5_read_15 : decode cX5_read 15 = .ok (.putfield 25, 3) := bdX5_read_14.2.1
theorem dX5_read_18 : decode cX5_read 18 = .ok (.aload_n 2, 1) := bdX5_read_14.2.2.1
theorem dX5_read_19 : decode cX5_read 19 = .ok (.invokevirtual 28, 3) := bdX5_read_14.2.2.2.1
theorem dX5_read_22 : decode cX5_read 22 = .ok (.aload_n 0, 1) := bdX5_read_14.2.2.2.2.1
theorem dX5_read_23 : decode cX5_read 23 = .ok (.invokevirtual 33, 3) := bdX5_read_14.2.2.2.2.2.1
theorem dX5_read_26 : decode cX5_read 26 = .ok (.iconst 0, 1) := bdX5_read_14.2.2.2.2.2.2.1
theorem dX5_read_27 : decode cX5_read 27 = .ok (.istore_n 3, 1) := bdX5_read_14.2.2.2.2.2.2.2
theorem bdX5_read_28 : decode cX5_read 28 = .ok (.aload_n 0, 1) ∧ decode cX5_read 29 = .ok (.getfield 36, 3) ∧ decode cX5_read 32 = .ok (.ifCond .eq 31, 3) ∧ decode cX5_read 35 = .ok (.iload_n 3, 1) ∧ decode cX5_read 36 = .ok (.bipush 120, 2) ∧ decode cX5_read 38 = .ok (.if_icmp .ge 25, 3) ∧ decode cX5_read 41 = .ok (.aload_n 0, 1) ∧ decode cX5_read 42 = .ok (.aload_n 2, 1) := by decide +kernel
theorem dX5_read_28 : decode cX5_read 28 = .ok (.aload_n 0, 1) := bdX5_read_28.1
theorem dX5_read_29 : decode cX5_read 29 = .ok (.getfield 36, 3) := bdX5_read_28.2.1
theorem dX5_read_32 : decode cX5_read 32 = .ok (.ifCond .eq 31, 3) := bdX5_read_28.2.2.1
theorem dX5_read_35 : decode cX5_read 35 = .ok (.iload_n 3, 1) := bdX5_read_28.2.2.2.1
theorem dX5_read_36 : decode cX5_read 36 = .ok (.bipush 120, 2) := bdX5_read_28.2.2.2.2.1
theorem dX5_read_38 : decode cX5_read 38 = .ok (.if_icmp .ge 25, 3) := bdX5_read_28.2.2.2.2.2.1
theorem dX5_read_41 : decode cX5_read 41 = .ok (.aload_n 0, 1) := bdX5_read_28.2.2.2.2.2.2.1
theorem dX5_read_42 : decode cX5_read 42 = .ok (.aload_n 2, 1) := bdX5_read_28.2.2.2.2.2.2.2
theorem bdX5_read_43 : decode cX5_read 43 = .ok (.invokevirtual 39, 3) ∧ decode cX5_read 46 = .ok (.ifCond .ne 11, 3) ∧ decode cX5_read 49 = .ok (.bipush (-10), 2) ∧ decode cX5_read 51 = .ok (.aload_n 0, 1) ∧ decode cX5_read 52 = .ok (.getfield 43, 3) ∧ decode cX5_read 55 = .ok (.isub, 1) ∧ decode cX5_read 56 = .ok (.ireturn, 1) ∧ decode cX5_read 57 = .ok (.iinc 3 1, 3) := by decide +kernel
theorem dX5_read_43 : decode cX5_read 43 = .ok (.invokevirtual 39, 3) := bdX5_read_43.1
theorem dX5_read_46 : decode cX5_read 46 = .ok (.ifCond .ne 11, 3) := bdX5_read_43.2.1
theorem dX5_read_49 : decode cX5_read 49 = .ok (.bipush (-10), 2) := bdX5_read_43.2.2.1
theorem dX5_read_51 : decode cX5_read 51 = .ok (.aload_n 0, 1) := bdX5_read_43.2.2.2.1
theorem dX5_read_52 : decode cX5_read 52 = .ok (.getfield 43, 3) := bdX5_read_43.2.2.2.2.1
theorem dX5_read_55 : decode cX5_read 55 = .ok (.isub, 1) := bdX5_read_43.2.2.2.2.2.1
theorem dX5_read_56 : decode cX5_read 56 = .ok (.ireturn, 1) := bdX5_read_43.2.2.2.2.2.2.1
theorem dX5_read_57 : decode cX5_read 57 = .ok (.iinc 3 1, 3) := bdX5_read_43.2.2.2.2.2.2.2
theorem bdX5_read_60 : decode cX5_read 60 = .ok (.goto (-32), 3) ∧ decode cX5_read 63 = .ok (.iload_n 3, 1) ∧ decode cX5_read 64 = .ok (.ireturn, 1) := by decide +kernel
theorem dX5_read_60 : decode cX5_read 60 = .ok (.goto (-32), 3) := bdX5_read_60.1
theorem dX5_read_63 : decode cX5_read 63 = .ok (.iload_n 3, 1) := bdX5_read_60.2.1
theorem dX5_read_64 : decode cX5_read 64 = .ok (.ireturn, 1) := bdX5_read_60.2.2
set_option maxRecDepth 20000 in
set_option maxRecDepth 100000 in
theorem ggX5_readItem_X5_readOne : GoodIn wsX5_readItem wsX5_readOne := goodIn_hd (goodIn_c ch_X5_readItem hc_X5_readItem ([.code yX5_readOne cX5_readOne 4 (some .boolean)] : List Cond) [(1, 6)] rfl (by decide +kernel)) (goodIn_app (goodIn_app (goodIn_app (goodIn_c ch_X5_readItem hc_X5_readItem wsX5_readOne_r1 [(1, 7), (1, 8), (1, 9), (1, 10), (1, 11), (1, 12), (1, 5), (1, 13), (1, 14), (1, 15), (1, 16), (1, 17), (1, 0), (1, 18), (1, 19), (1, 20), (1, 21), (1, 22), (1, 23), (2, 0), (2, 1), (1, 1), (2, 2), (2, 3)] rfl (by decide +kernel)) (goodIn_c ch_X5_readItem hc_X5_readItem wsX5_readOne_r2 [(2, 4), (2, 5), (2, 6), (2, 7), (2, 8), (2, 9), (2, 10), (2, 11), (2, 12), (2, 13), (2, 14), (2, 15), (2, 16), (2, 17)] rfl (by decide +kernel))) (goodIn_sub (fun _ h => (List.mem_cons_of_mem _ (List.mem_append_right _ h))) gwX6)) (goodIn_sub (fun _ h => (List.mem_cons_of_mem _ (List.mem_append_left _ (List.mem_append_right _ h)))) gwX5))
set_option maxRecDepth 20000 in
theorem gX5_readItem_X5_readOne : GoodIn wsX5_readItem (wsV RX5 49 RX5 yX5_readOne wsX5_readOne) := goodIn_app (goodIn_of _ (by decide +kernel)) ggX5_readItem_X5_readOne
set_option maxRecDepth 20000 in
set_option maxRecDepth 100000 in
theorem ggX5_readItem_X5_readSaying : GoodIn wsX5_readItem wsX5_readSaying := goodIn_hd (goodIn_c ch_X5_readItem hc_X5_readItem ([.code yX5_readSaying cX5_readSaying 5 (some .boolean)] : List Cond) [(2, 21)] rfl (by decide +kernel)) (goodIn_app (goodIn_app (goodIn_app (goodIn_c ch_X5_readItem hc_X5_readItem wsX5_readSaying_r1 [(2, 22), (1, 7), (2, 23), (3, 0), (3, 1), (1, 10), (1, 11), (1, 12), (1, 5), (1, 13), (1, 14), (1, 15), (1, 16), (1, 17), (1, 0), (1, 18), (1, 19), (1, 20), (1, 21), (1, 22), (1, 23), (2, 0), (2, 1), (1, 1)] rfl (by decide +kernel)) (goodIn_c ch_X5_readItem hc_X5_readItem wsX5_readSaying_r2 [(2, 2), (2, 3), (2, 4), (2, 5), (2, 6), (2, 7), (2, 8), (2, 9), (2, 10), (2, 11), (2, 12), (2, 13), (2, 14), (2, 15), (2, 16), (2, 17)] rfl (by decide +kernel))) (goodIn_sub (fun _ h => (List.mem_cons_of_mem _ (List.mem_append_right _ h))) gwX6)) (goodIn_sub (fun _ h => (List.mem_cons_of_mem _ (List.mem_append_left _ (List.mem_append_right _ h)))) gwX5))
set_option maxRecDepth 20000 in
theorem gX5_readItem_X5_readSaying : GoodIn wsX5_readItem (wsV RX5 52 RX5 yX5_readSaying wsX5_readSaying) := goodIn_app (goodIn_of _ (by decide +kernel)) ggX5_readItem_X5_readSaying
set_option maxRecDepth 20000 in
set_option maxRecDepth 100000 in
theorem ggX5_readItem_X5_readWinds : GoodIn wsX5_readItem wsX5_readWinds := goodIn_hd (goodIn_c ch_X5_readItem hc_X5_readItem ([.code yX5_readWinds cX5_readWinds 4 (some .boolean)] : List Cond) [(3, 5)] rfl (by decide +kernel)) (goodIn_app (goodIn_app (goodIn_app (goodIn_c ch_X5_readItem hc_X5_readItem wsX5_readWinds_r1 [(3, 6), (1, 0), (3, 7), (1, 10), (1, 11), (1, 12), (1, 5), (1, 13), (1, 14), (1, 15), (1, 16), (1, 17), (1, 18), (1, 19), (1, 20), (1, 21), (1, 22), (1, 23), (2, 0), (2, 1), (1, 1), (2, 2), (2, 3), (2, 4)] rfl (by decide +kernel)) (goodIn_c ch_X5_readItem hc_X5_readItem wsX5_readWinds_r2 [(2, 5), (2, 6), (2, 7), (2, 8), (2, 9), (2, 10), (2, 11), (2, 12), (2, 13), (2, 14), (2, 15), (2, 16), (2, 17)] rfl (by decide +kernel))) (goodIn_sub (fun _ h => (List.mem_cons_of_mem _ (List.mem_append_right _ h))) gwX6)) (goodIn_sub (fun _ h => (List.mem_cons_of_mem _ (List.mem_append_left _ (List.mem_append_right _ h)))) gwX5))
set_option maxRecDepth 20000 in
theorem gX5_readItem_X5_readWinds : GoodIn wsX5_readItem (wsV RX5 55 RX5 yX5_readWinds wsX5_readWinds) := goodIn_app (goodIn_of _ (by decide +kernel)) ggX5_readItem_X5_readWinds
set_option maxRecDepth 20000 in
set_option maxRecDepth 100000 in
theorem ggX5_readItem_X5_readFeathers : GoodIn wsX5_readItem wsX5_readFeathers := goodIn_hd (goodIn_c ch_X5_readItem hc_X5_readItem ([.code yX5_readFeathers cX5_readFeathers 4 (some .boolean)] : List Cond) [(3, 11)] rfl (by decide +kernel)) (goodIn_app (goodIn_app (goodIn_app (goodIn_c ch_X5_readItem hc_X5_readItem wsX5_readFeathers_r1 [(3, 12), (1, 10), (1, 11), (1, 12), (1, 5), (1, 13), (1, 14), (1, 15), (1, 16), (1, 17), (1, 0), (1, 18), (1, 19), (1, 20), (1, 21), (1, 22), (1, 23), (2, 0), (2, 1), (1, 1), (2, 2), (2, 3), (2, 4), (2, 5)] rfl (by decide +kernel)) (goodIn_c ch_X5_readItem hc_X5_readItem wsX5_readFeathers_r2 [(2, 6), (2, 7), (2, 8), (2, 9), (2, 10), (2, 11), (2, 12), (2, 13), (2, 14), (2, 15), (2, 16), (2, 17)] rfl (by decide +kernel))) (goodIn_sub (fun _ h => (List.mem_cons_of_mem _ (List.mem_append_right _ h))) gwX6)) (goodIn_sub (fun _ h => (List.mem_cons_of_mem _ (List.mem_append_left _ (List.mem_append_right _ h)))) gwX5))
set_option maxRecDepth 20000 in
theorem gX5_readItem_X5_readFeathers : GoodIn wsX5_readItem (wsV RX5 58 RX5 yX5_readFeathers wsX5_readFeathers) := goodIn_app (goodIn_of _ (by decide +kernel)) ggX5_readItem_X5_readFeathers
theorem bdX5_readItem_0 : decode cX5_readItem 0 = .ok (.aload_n 0, 1) ∧ decode cX5_readItem 1 = .ok (.getfield 36, 3) ∧ decode cX5_readItem 4 = .ok (.iconst 1, 1) ∧ decode cX5_readItem 5 = .ok (.if_icmp .eq 5, 3) ∧ decode cX5_readItem 8 = .ok (.iconst 0, 1) ∧ decode cX5_readItem 9 = .ok (.ireturn, 1) ∧ decode cX5_readItem 10 = .ok (.aload_n 0, 1) ∧ decode cX5_readItem 11 = .ok (.getfield 46, 3) := by decide +kernel
theorem dX5_readItem_0 : decode cX5_readItem 0 = .ok (.aload_n 0, 1) := bdX5_readItem_0.1
theorem dX5_readItem_1 : decode cX5_readItem 1 = .ok (.getfield 36, 3) := bdX5_readItem_0.2.1
theorem dX5_readItem_4 : decode cX5_readItem 4 = .ok (.iconst 1, 1) := bdX5_readItem_0.2.2.1
theorem dX5_readItem_5 : decode cX5_readItem 5 = .ok (.if_icmp .eq 5, 3) := bdX5_readItem_0.2.2.2.1
theorem dX5_readItem_8 : decode cX5_readItem 8 = .ok (.iconst 0, 1) := bdX5_readItem_0.2.2.2.2.1
theorem dX5_readItem_9 : decode cX5_readItem 9 = .ok (.ireturn, 1) := bdX5_readItem_0.2.2.2.2.2.1
theorem dX5_readItem_10 : decode cX5_readItem 10 = .ok (.aload_n 0, 1) := bdX5_readItem_0.2.2.2.2.2.2.1
theorem dX5_readItem_11 : decode cX5_readItem 11 = .ok (.getfield 46, 3) := bdX5_readItem_0.2.2.2.2.2.2.2
theorem bdX5_readItem_14 : decode cX5_readItem 14 = .ok (.lookupswitch 66 #[(102, 60), (112, 42), (115, 48), (119, 54)], 42) ∧ decode cX5_readItem 56 = .ok (.aload_n 0, 1) ∧ decode cX5_readItem 57 = .ok (.aload_n 1, 1) ∧ decode cX5_readItem 58 = .ok (.invokevirtual 49, 3) ∧ decode cX5_readItem 61 = .ok (.ireturn, 1) ∧ decode cX5_readItem 62 = .ok (.aload_n 0, 1) ∧ decode cX5_readItem 63 = .ok (.aload_n 1, 1) ∧ decode cX5_readItem 64 = .ok (.invokevirtual 52, 3) := by decide +kernel
theorem dX5_readItem_14 : decode cX5_readItem 14 = .ok (.lookupswitch 66 #[(102, 60), (112, 42), (115, 48), (119, 54)], 42) := bdX5_readItem_14.1
theorem dX5_readItem_56 : decode cX5_readItem 56 = .ok (.aload_n 0, 1) := bdX5_readItem_14.2.1
theorem dX5_readItem_57 : decode cX5_readItem 57 = .ok (.aload_n 1, 1) := bdX5_readItem_14.2.2.1
theorem dX5_readItem_58 : decode cX5_readItem 58 = .ok (.invokevirtual 49, 3) := bdX5_readItem_14.2.2.2.1
theorem dX5_readItem_61 : decode cX5_readItem 61 = .ok (.ireturn, 1) := bdX5_readItem_14.2.2.2.2.1
theorem dX5_readItem_62 : decode cX5_readItem 62 = .ok (.aload_n 0, 1) := bdX5_readItem_14.2.2.2.2.2.1
theorem dX5_readItem_63 : decode cX5_readItem 63 = .ok (.aload_n 1, 1) := bdX5_readItem_14.2.2.2.2.2.2.1
theorem dX5_readItem_64 : decode cX5_readItem 64 = .ok (.invokevirtual 52, 3) := bdX5_readItem_14.2.2.2.2.2.2.2
theorem bdX5_readItem_67 : decode cX5_readItem 67 = .ok (.ireturn, 1) ∧ decode cX5_readItem 68 = .ok (.aload_n 0, 1) ∧ decode cX5_readItem 69 = .ok (.aload_n 1, 1) ∧ decode cX5_readItem 70 = .ok (.invokevirtual 55, 3) ∧ decode cX5_readItem 73 = .ok (.ireturn, 1) ∧ decode cX5_readItem 74 = .ok (.aload_n 0, 1) ∧ decode cX5_readItem 75 = .ok (.aload_n 1, 1) ∧ decode cX5_readItem 76 = .ok (.invokevirtual 58, 3) := by decide +kernel
theorem dX5_readItem_67 : decode cX5_readItem 67 = .ok (.ireturn, 1) := bdX5_readItem_67.1
theorem dX5_readItem_68 : decode cX5_readItem 68 = .ok (.aload_n 0, 1) := bdX5_readItem_67.2.1
theorem dX5_readItem_69 : decode cX5_readItem 69 = .ok (.aload_n 1, 1) := bdX5_readItem_67.2.2.1
theorem dX5_readItem_70 : decode cX5_readItem 70 = .ok (.invokevirtual 55, 3) := bdX5_readItem_67.2.2.2.1
theorem dX5_readItem_73 : decode cX5_readItem 73 = .ok (.ireturn, 1) := bdX5_readItem_67.2.2.2.2.1
theorem dX5_readItem_74 : decode cX5_readItem 74 = .ok (.aload_n 0, 1) := bdX5_readItem_67.2.2.2.2.2.1
theorem dX5_readItem_75 : decode cX5_readItem 75 = .ok (.aload_n 1, 1) := bdX5_readItem_67.2.2.2.2.2.2.1
theorem dX5_readItem_76 : decode cX5_readItem 76 = .ok (.invokevirtual 58, 3) := bdX5_readItem_67.2.2.2.2.2.2.2
theorem bdX5_readItem_79 : decode cX5_readItem 79 = .ok (.ireturn, 1) ∧ decode cX5_readItem 80 = .ok (.iconst 0, 1) ∧ decode cX5_readItem 81 = .ok (.ireturn, 1) := by decide +kernel
theorem dX5_readItem_79 : decode cX5_readItem 79 = .ok (.ireturn, 1) := bdX5_readItem_79.1
theorem dX5_readItem_80 : decode cX5_readItem 80 = .ok (.iconst 0, 1) := bdX5_readItem_79.2.1
theorem dX5_readItem_81 : decode cX5_readItem 81 = .ok (.ireturn, 1) := bdX5_readItem_79.2.2
set_option maxRecDepth 20000 in
set_option maxRecDepth 100000 in
theorem ggX5_readOne_X5_step : GoodIn wsX5_readOne wsX5_step := goodIn_hd (goodIn_c ch_X5_readOne hc_X5_readOne ([.code yX5_step cX5_step 1 none] : List Cond) [(1, 7)] rfl (by decide +kernel)) (goodIn_app (goodIn_c ch_X5_readOne hc_X5_readOne ([.fieldLink RX5 25 "WordFletchers$TextReader" "next" "I", .fieldLink RX5 21 "WordFletchers$TextReader" "length" "I", .fieldLink RX5 9 "WordFletchers$TextReader" "bytes" "[I", .fieldLink RX5 43 "WordFletchers$TextReader" "start" "I", .fieldLink RX5 36 "WordFletchers$TextReader" "sort" "I", .methodLink RX5 98 yX5_sortAt, .instanceMethod yX5_sortAt, .selects RX5 yX5_sortAt yX5_sortAt, .initialized RX5, .code yX5_sortAt cX5_sortAt 3 (some .int), .methodLink RX5 102 yX5_stepOverLetters, .instanceMethod yX5_stepOverLetters, .selects RX5 yX5_stepOverLetters yX5_stepOverLetters, .code yX5_stepOverLetters cX5_stepOverLetters 1 none, .fieldLink RX5 46 "WordFletchers$TextReader" "value" "I", .methodLink RX5 105 yX5_stepOverDigits, .instanceMethod yX5_stepOverDigits, .selects RX5 yX5_stepOverDigits yX5_stepOverDigits, .code yX5_stepOverDigits cX5_stepOverDigits 2 none, .methodLink RX5 15 Lib.Math.min.name, .static Lib.Math.min.name, .initialized "java/lang/Math", .code Lib.Math.min.name Lib.Math.min.code 2 (some .int)] : List Cond) [(1, 8), (1, 9), (1, 10), (1, 11), (1, 12), (1, 13), (1, 14), (1, 15), (1, 6), (1, 16), (1, 17), (1, 18), (1, 19), (1, 20), (1, 21), (1, 22), (1, 23), (2, 0), (2, 1), (2, 2), (2, 3), (2, 4), (2, 5)] rfl (by decide +kernel)) (goodIn_sub (fun _ h => (List.mem_cons_of_mem _ (List.mem_append_right _ h))) gwX5))
set_option maxRecDepth 20000 in
theorem gX5_readOne_X5_step : GoodIn wsX5_readOne (wsV RX5 33 RX5 yX5_step wsX5_step) := goodIn_app (goodIn_of _ (by decide +kernel)) ggX5_readOne_X5_step
set_option maxRecDepth 20000 in
set_option maxRecDepth 100000 in
theorem ggX5_readOne_X5_takeNumber : GoodIn wsX5_readOne wsX5_takeNumber := goodIn_hd (goodIn_c ch_X5_readOne hc_X5_readOne ([.code yX5_takeNumber cX5_takeNumber 4 (some .int)] : List Cond) [(2, 9)] rfl (by decide +kernel)) (goodIn_app (goodIn_app (goodIn_c ch_X5_readOne hc_X5_readOne wsX5_takeNumber_r1 [(1, 12), (1, 21), (1, 3), (1, 4), (1, 5), (1, 6), (1, 7), (1, 8), (1, 9), (1, 10), (1, 11), (1, 13), (1, 14), (1, 15), (1, 16), (1, 17), (1, 18), (1, 19), (1, 20), (1, 22), (1, 23), (2, 0), (2, 1), (2, 2)] rfl (by decide +kernel)) (goodIn_c ch_X5_readOne hc_X5_readOne wsX5_takeNumber_r2 [(2, 3), (2, 4), (2, 5)] rfl (by decide +kernel))) (goodIn_sub (fun _ h => (List.mem_cons_of_mem _ (List.mem_append_right _ h))) gwX5))
set_option maxRecDepth 20000 in
theorem gX5_readOne_X5_takeNumber : GoodIn wsX5_readOne (wsV RX5 64 RX5 yX5_takeNumber wsX5_takeNumber) := goodIn_app (goodIn_of _ (by decide +kernel)) ggX5_readOne_X5_takeNumber
set_option maxRecDepth 20000 in
set_option maxRecDepth 100000 in
theorem ggX5_readOne_X5_takeSemicolon : GoodIn wsX5_readOne wsX5_takeSemicolon := goodIn_hd (goodIn_c ch_X5_readOne hc_X5_readOne ([.code yX5_takeSemicolon cX5_takeSemicolon 1 (some .boolean)] : List Cond) [(2, 13)] rfl (by decide +kernel)) (goodIn_app (goodIn_app (goodIn_c ch_X5_readOne hc_X5_readOne wsX5_takeSemicolon_r1 [(1, 12), (1, 3), (1, 4), (1, 5), (1, 6), (1, 7), (1, 8), (1, 9), (1, 10), (1, 11), (1, 13), (1, 14), (1, 15), (1, 16), (1, 17), (1, 18), (1, 19), (1, 20), (1, 21), (1, 22), (1, 23), (2, 0), (2, 1), (2, 2)] rfl (by decide +kernel)) (goodIn_c ch_X5_readOne hc_X5_readOne wsX5_takeSemicolon_r2 [(2, 3), (2, 4), (2, 5)] rfl (by decide +kernel))) (goodIn_sub (fun _ h => (List.mem_cons_of_mem _ (List.mem_append_right _ h))) gwX5))
set_option maxRecDepth 20000 in
theorem gX5_readOne_X5_takeSemicolon : GoodIn wsX5_readOne (wsV RX5 67 RX5 yX5_takeSemicolon wsX5_takeSemicolon) := goodIn_app (goodIn_of _ (by decide +kernel)) ggX5_readOne_X5_takeSemicolon
theorem bdX5_readOne_0 : decode cX5_readOne 0 = .ok (.aload_n 1, 1) ∧ decode cX5_readOne 1 = .ok (.getfield 61, 3) ∧ decode cX5_readOne 4 = .ok (.bipush 6, 2) ∧ decode cX5_readOne 6 = .ok (.if_icmp .lt 5, 3) ∧ decode cX5_readOne 9 = .ok (.iconst 0, 1) ∧ decode cX5_readOne 10 = .ok (.ireturn, 1) ∧ decode cX5_readOne 11 = .ok (.aload_n 0, 1) ∧ decode cX5_readOne 12 = .ok (.invokevirtual 33, 3) := by decide +kernel
theorem dX5_readOne_0 : decode cX5_readOne 0 = .ok (.aload_n 1, 1) := bdX5_readOne_0.1
theorem dX5_readOne_1 : decode cX5_readOne 1 = .ok (.getfield 61, 3) := bdX5_readOne_0.2.1
theorem dX5_readOne_4 : decode cX5_readOne 4 = .ok (.bipush 6, 2) := bdX5_readOne_0.2.2.1
theorem dX5_readOne_6 : decode cX5_readOne 6 = .ok (.if_icmp .lt 5, 3) := bdX5_readOne_0.2.2.2.1
theorem dX5_readOne_9 : decode cX5_readOne 9 = .ok (.iconst 0, 1) := bdX5_readOne_0.2.2.2.2.1
theorem dX5_readOne_10 : decode cX5_readOne 10 = .ok (.ireturn, 1) := bdX5_readOne_0.2.2.2.2.2.1
theorem dX5_readOne_11 : decode cX5_readOne 11 = .ok (.aload_n 0, 1) := bdX5_readOne_0.2.2.2.2.2.2.1
theorem dX5_readOne_12 : decode cX5_readOne 12 = .ok (.invokevirtual 33, 3) := bdX5_readOne_0.2.2.2.2.2.2.2
theorem bdX5_readOne_15 : decode cX5_readOne 15 = .ok (.aload_n 0, 1) ∧ decode cX5_readOne 16 = .ok (.iconst 0, 1) ∧ decode cX5_readOne 17 = .ok (.bipush 30, 2) ∧ decode cX5_readOne 19 = .ok (.invokevirtual 64, 3) ∧ decode cX5_readOne 22 = .ok (.istore_n 2, 1) ∧ decode cX5_readOne 23 = .ok (.iload_n 2, 1) ∧ decode cX5_readOne 24 = .ok (.ifCond .ge 7, 3) ∧ decode cX5_readOne 27 = .ok (.iconst (-1), 1) := by decide +kernel
theorem dX5_readOne_15 : decode cX5_readOne 15 = .ok (.aload_n 0, 1) := bdX5_readOne_15.1
theorem dX5_readOne_16 : decode cX5_readOne 16 = .ok (.iconst 0, 1) := bdX5_readOne_15.2.1
theorem dX5_readOne_17 : decode cX5_readOne 17 = .ok (.bipush 30, 2) := bdX5_readOne_15.2.2.1
theorem dX5_readOne_19 : decode cX5_readOne 19 = .ok (.invokevirtual 64, 3) := bdX5_readOne_15.2.2.2.1
theorem dX5_readOne_22 : decode cX5_readOne 22 = .ok (.istore_n 2, 1) := bdX5_readOne_15.2.2.2.2.1
theorem dX5_readOne_23 : decode cX5_readOne 23 = .ok (.iload_n 2, 1) := bdX5_readOne_15.2.2.2.2.2.1
theorem dX5_readOne_24 : decode cX5_readOne 24 = .ok (.ifCond .ge 7, 3) := bdX5_readOne_15.2.2.2.2.2.2.1
theorem dX5_readOne_27 : decode cX5_readOne 27 = .ok (.iconst (-1), 1) := bdX5_readOne_15.2.2.2.2.2.2.2
theorem bdX5_readOne_28 : decode cX5_readOne 28 = .ok (.goto 9, 3) ∧ decode cX5_readOne 31 = .ok (.aload_n 0, 1) ∧ decode cX5_readOne 32 = .ok (.iconst 0, 1) ∧ decode cX5_readOne 33 = .ok (.iconst 5, 1) ∧ decode cX5_readOne 34 = .ok (.invokevirtual 64, 3) ∧ decode cX5_readOne 37 = .ok (.istore_n 3, 1) ∧ decode cX5_readOne 38 = .ok (.iload_n 3, 1) ∧ decode cX5_readOne 39 = .ok (.ifCond .lt 10, 3) := by decide +kernel
theorem dX5_readOne_28 : decode cX5_readOne 28 = .ok (.goto 9, 3) := bdX5_readOne_28.1
theorem dX5_readOne_31 : decode cX5_readOne 31 = .ok (.aload_n 0, 1) := bdX5_readOne_28.2.1
theorem dX5_readOne_32 : decode cX5_readOne 32 = .ok (.iconst 0, 1) := bdX5_readOne_28.2.2.1
theorem dX5_readOne_33 : decode cX5_readOne 33 = .ok (.iconst 5, 1) := bdX5_readOne_28.2.2.2.1
theorem dX5_readOne_34 : decode cX5_readOne 34 = .ok (.invokevirtual 64, 3) := bdX5_readOne_28.2.2.2.2.1
theorem dX5_readOne_37 : decode cX5_readOne 37 = .ok (.istore_n 3, 1) := bdX5_readOne_28.2.2.2.2.2.1
theorem dX5_readOne_38 : decode cX5_readOne 38 = .ok (.iload_n 3, 1) := bdX5_readOne_28.2.2.2.2.2.2.1
theorem dX5_readOne_39 : decode cX5_readOne 39 = .ok (.ifCond .lt 10, 3) := bdX5_readOne_28.2.2.2.2.2.2.2
theorem bdX5_readOne_42 : decode cX5_readOne 42 = .ok (.aload_n 0, 1) ∧ decode cX5_readOne 43 = .ok (.invokevirtual 67, 3) ∧ decode cX5_readOne 46 = .ok (.ifCond .ne 5, 3) ∧ decode cX5_readOne 49 = .ok (.iconst 0, 1) ∧ decode cX5_readOne 50 = .ok (.ireturn, 1) ∧ decode cX5_readOne 51 = .ok (.aload_n 1, 1) ∧ decode cX5_readOne 52 = .ok (.getfield 71, 3) ∧ decode cX5_readOne 55 = .ok (.aload_n 1, 1) := by decide +kernel
theorem dX5_readOne_42 : decode cX5_readOne 42 = .ok (.aload_n 0, 1) := bdX5_readOne_42.1
theorem dX5_readOne_43 : decode cX5_readOne 43 = .ok (.invokevirtual 67, 3) := bdX5_readOne_42.2.1
theorem dX5_readOne_46 : decode cX5_readOne 46 = .ok (.ifCond .ne 5, 3) := bdX5_readOne_42.2.2.1
theorem dX5_readOne_49 : decode cX5_readOne 49 = .ok (.iconst 0, 1) := bdX5_readOne_42.2.2.2.1
theorem dX5_readOne_50 : decode cX5_readOne 50 = .ok (.ireturn, 1) := bdX5_readOne_42.2.2.2.2.1
theorem dX5_readOne_51 : decode cX5_readOne 51 = .ok (.aload_n 1, 1) := bdX5_readOne_42.2.2.2.2.2.1
theorem dX5_readOne_52 : decode cX5_readOne 52 = .ok (.getfield 71, 3) := bdX5_readOne_42.2.2.2.2.2.2.1
theorem dX5_readOne_55 : decode cX5_readOne 55 = .ok (.aload_n 1, 1) := bdX5_readOne_42.2.2.2.2.2.2.2
theorem bdX5_readOne_56 : decode cX5_readOne 56 = .ok (.getfield 61, 3) ∧ decode cX5_readOne 59 = .ok (.iload_n 2, 1) ∧ decode cX5_readOne 60 = .ok (.iastore, 1) ∧ decode cX5_readOne 61 = .ok (.aload_n 1, 1) ∧ decode cX5_readOne 62 = .ok (.getfield 74, 3) ∧ decode cX5_readOne 65 = .ok (.aload_n 1, 1) ∧ decode cX5_readOne 66 = .ok (.getfield 61, 3) ∧ decode cX5_readOne 69 = .ok (.iload_n 3, 1) := by decide +kernel
theorem dX5_readOne_56 : decode cX5_readOne 56 = .ok (.getfield 61, 3) := bdX5_readOne_56.1
theorem dX5_readOne_59 : decode cX5_readOne 59 = .ok (.iload_n 2, 1) := bdX5_readOne_56.2.1
theorem dX5_readOne_60 : decode cX5_readOne 60 = .ok (.iastore, 1) := bdX5_readOne_56.2.2.1
theorem dX5_readOne_61 : decode cX5_readOne 61 = .ok (.aload_n 1, 1) := bdX5_readOne_56.2.2.2.1
theorem dX5_readOne_62 : decode cX5_readOne 62 = .ok (.getfield 74, 3) := bdX5_readOne_56.2.2.2.2.1
theorem dX5_readOne_65 : decode cX5_readOne 65 = .ok (.aload_n 1, 1) := bdX5_readOne_56.2.2.2.2.2.1
theorem dX5_readOne_66 : decode cX5_readOne 66 = .ok (.getfield 61, 3) := bdX5_readOne_56.2.2.2.2.2.2.1
theorem dX5_readOne_69 : decode cX5_readOne 69 = .ok (.iload_n 3, 1) := bdX5_readOne_56.2.2.2.2.2.2.2
theorem bdX5_readOne_70 : decode cX5_readOne 70 = .ok (.iastore, 1) ∧ decode cX5_readOne 71 = .ok (.aload_n 1, 1) ∧ decode cX5_readOne 72 = .ok (.dup, 1) ∧ decode cX5_readOne 73 = .ok (.getfield 61, 3) ∧ decode cX5_readOne 76 = .ok (.iconst 1, 1) ∧ decode cX5_readOne 77 = .ok (.iadd, 1) ∧ decode cX5_readOne 78 = .ok (.putfield 61, 3) ∧ decode cX5_readOne 81 = .ok (.iconst 1, 1) := by decide +kernel
theorem dX5_readOne_70 : decode cX5_readOne 70 = .ok (.iastore, 1) := bdX5_readOne_70.1
theorem dX5_readOne_71 : decode cX5_readOne 71 = .ok (.aload_n 1, 1) := bdX5_readOne_70.2.1
theorem dX5_readOne_72 : decode cX5_readOne 72 = .ok (.dup, 1) := bdX5_readOne_70.2.2.1
theorem dX5_readOne_73 : decode cX5_readOne 73 = .ok (.getfield 61, 3) := bdX5_readOne_70.2.2.2.1
theorem dX5_readOne_76 : decode cX5_readOne 76 = .ok (.iconst 1, 1) := bdX5_readOne_70.2.2.2.2.1
theorem dX5_readOne_77 : decode cX5_readOne 77 = .ok (.iadd, 1) := bdX5_readOne_70.2.2.2.2.2.1
theorem dX5_readOne_78 : decode cX5_readOne 78 = .ok (.putfield 61, 3) := bdX5_readOne_70.2.2.2.2.2.2.1
theorem dX5_readOne_81 : decode cX5_readOne 81 = .ok (.iconst 1, 1) := bdX5_readOne_70.2.2.2.2.2.2.2
theorem dX5_readOne_82 : decode cX5_readOne 82 = .ok (.ireturn, 1) := by decide +kernel
set_option maxRecDepth 20000 in
set_option maxRecDepth 100000 in
theorem ggX5_readSaying_X5_step : GoodIn wsX5_readSaying wsX5_step := goodIn_hd (goodIn_c ch_X5_readSaying hc_X5_readSaying ([.code yX5_step cX5_step 1 none] : List Cond) [(1, 9)] rfl (by decide +kernel)) (goodIn_app (goodIn_c ch_X5_readSaying hc_X5_readSaying ([.fieldLink RX5 25 "WordFletchers$TextReader" "next" "I", .fieldLink RX5 21 "WordFletchers$TextReader" "length" "I", .fieldLink RX5 9 "WordFletchers$TextReader" "bytes" "[I", .fieldLink RX5 43 "WordFletchers$TextReader" "start" "I", .fieldLink RX5 36 "WordFletchers$TextReader" "sort" "I", .methodLink RX5 98 yX5_sortAt, .instanceMethod yX5_sortAt, .selects RX5 yX5_sortAt yX5_sortAt, .initialized RX5, .code yX5_sortAt cX5_sortAt 3 (some .int), .methodLink RX5 102 yX5_stepOverLetters, .instanceMethod yX5_stepOverLetters, .selects RX5 yX5_stepOverLetters yX5_stepOverLetters, .code yX5_stepOverLetters cX5_stepOverLetters 1 none, .fieldLink RX5 46 "WordFletchers$TextReader" "value" "I", .methodLink RX5 105 yX5_stepOverDigits, .instanceMethod yX5_stepOverDigits, .selects RX5 yX5_stepOverDigits yX5_stepOverDigits, .code yX5_stepOverDigits cX5_stepOverDigits 2 none, .methodLink RX5 15 Lib.Math.min.name, .static Lib.Math.min.name, .initialized "java/lang/Math", .code Lib.Math.min.name Lib.Math.min.code 2 (some .int)] : List Cond) [(1, 10), (1, 11), (1, 12), (1, 13), (1, 14), (1, 15), (1, 16), (1, 17), (1, 8), (1, 18), (1, 19), (1, 20), (1, 21), (1, 22), (1, 23), (2, 0), (2, 1), (2, 2), (2, 3), (2, 4), (2, 5), (2, 6), (2, 7)] rfl (by decide +kernel)) (goodIn_sub (fun _ h => (List.mem_cons_of_mem _ (List.mem_append_right _ h))) gwX5))
set_option maxRecDepth 20000 in
theorem gX5_readSaying_X5_step : GoodIn wsX5_readSaying (wsV RX5 33 RX5 yX5_step wsX5_step) := goodIn_app (goodIn_of _ (by decide +kernel)) ggX5_readSaying_X5_step
set_option maxRecDepth 20000 in
set_option maxRecDepth 100000 in
theorem ggX5_readSaying_X5_takeNumber : GoodIn wsX5_readSaying wsX5_takeNumber := goodIn_hd (goodIn_c ch_X5_readSaying hc_X5_readSaying ([.code yX5_takeNumber cX5_takeNumber 4 (some .int)] : List Cond) [(2, 11)] rfl (by decide +kernel)) (goodIn_app (goodIn_app (goodIn_c ch_X5_readSaying hc_X5_readSaying wsX5_takeNumber_r1 [(1, 14), (1, 23), (1, 5), (1, 6), (1, 7), (1, 8), (1, 9), (1, 10), (1, 11), (1, 12), (1, 13), (1, 15), (1, 16), (1, 17), (1, 18), (1, 19), (1, 20), (1, 21), (1, 22), (2, 0), (2, 1), (2, 2), (2, 3), (2, 4)] rfl (by decide +kernel)) (goodIn_c ch_X5_readSaying hc_X5_readSaying wsX5_takeNumber_r2 [(2, 5), (2, 6), (2, 7)] rfl (by decide +kernel))) (goodIn_sub (fun _ h => (List.mem_cons_of_mem _ (List.mem_append_right _ h))) gwX5))
set_option maxRecDepth 20000 in
theorem gX5_readSaying_X5_takeNumber : GoodIn wsX5_readSaying (wsV RX5 64 RX5 yX5_takeNumber wsX5_takeNumber) := goodIn_app (goodIn_of _ (by decide +kernel)) ggX5_readSaying_X5_takeNumber
set_option maxRecDepth 20000 in
set_option maxRecDepth 100000 in
theorem ggX5_readSaying_X5_takeSemicolon : GoodIn wsX5_readSaying wsX5_takeSemicolon := goodIn_hd (goodIn_c ch_X5_readSaying hc_X5_readSaying ([.code yX5_takeSemicolon cX5_takeSemicolon 1 (some .boolean)] : List Cond) [(2, 15)] rfl (by decide +kernel)) (goodIn_app (goodIn_app (goodIn_c ch_X5_readSaying hc_X5_readSaying wsX5_takeSemicolon_r1 [(1, 14), (1, 5), (1, 6), (1, 7), (1, 8), (1, 9), (1, 10), (1, 11), (1, 12), (1, 13), (1, 15), (1, 16), (1, 17), (1, 18), (1, 19), (1, 20), (1, 21), (1, 22), (1, 23), (2, 0), (2, 1), (2, 2), (2, 3), (2, 4)] rfl (by decide +kernel)) (goodIn_c ch_X5_readSaying hc_X5_readSaying wsX5_takeSemicolon_r2 [(2, 5), (2, 6), (2, 7)] rfl (by decide +kernel))) (goodIn_sub (fun _ h => (List.mem_cons_of_mem _ (List.mem_append_right _ h))) gwX5))
set_option maxRecDepth 20000 in
theorem gX5_readSaying_X5_takeSemicolon : GoodIn wsX5_readSaying (wsV RX5 67 RX5 yX5_takeSemicolon wsX5_takeSemicolon) := goodIn_app (goodIn_of _ (by decide +kernel)) ggX5_readSaying_X5_takeSemicolon
theorem bdX5_readSaying_0 : decode cX5_readSaying 0 = .ok (.aload_n 1, 1) ∧ decode cX5_readSaying 1 = .ok (.getfield 77, 3) ∧ decode cX5_readSaying 4 = .ok (.bipush 6, 2) ∧ decode cX5_readSaying 6 = .ok (.if_icmp .lt 5, 3) ∧ decode cX5_readSaying 9 = .ok (.iconst 0, 1) ∧ decode cX5_readSaying 10 = .ok (.ireturn, 1) ∧ decode cX5_readSaying 11 = .ok (.aload_n 0, 1) ∧ decode cX5_readSaying 12 = .ok (.invokevirtual 33, 3) := by decide +kernel
theorem dX5_readSaying_0 : decode cX5_readSaying 0 = .ok (.aload_n 1, 1) := bdX5_readSaying_0.1
theorem dX5_readSaying_1 : decode cX5_readSaying 1 = .ok (.getfield 77, 3) := bdX5_readSaying_0.2.1
theorem dX5_readSaying_4 : decode cX5_readSaying 4 = .ok (.bipush 6, 2) := bdX5_readSaying_0.2.2.1
theorem dX5_readSaying_6 : decode cX5_readSaying 6 = .ok (.if_icmp .lt 5, 3) := bdX5_readSaying_0.2.2.2.1
theorem dX5_readSaying_9 : decode cX5_readSaying 9 = .ok (.iconst 0, 1) := bdX5_readSaying_0.2.2.2.2.1
theorem dX5_readSaying_10 : decode cX5_readSaying 10 = .ok (.ireturn, 1) := bdX5_readSaying_0.2.2.2.2.2.1
theorem dX5_readSaying_11 : decode cX5_readSaying 11 = .ok (.aload_n 0, 1) := bdX5_readSaying_0.2.2.2.2.2.2.1
theorem dX5_readSaying_12 : decode cX5_readSaying 12 = .ok (.invokevirtual 33, 3) := bdX5_readSaying_0.2.2.2.2.2.2.2
theorem bdX5_readSaying_15 : decode cX5_readSaying 15 = .ok (.aload_n 0, 1) ∧ decode cX5_readSaying 16 = .ok (.iconst 1, 1) ∧ decode cX5_readSaying 17 = .ok (.bipush 9, 2) ∧ decode cX5_readSaying 19 = .ok (.invokevirtual 64, 3) ∧ decode cX5_readSaying 22 = .ok (.istore_n 2, 1) ∧ decode cX5_readSaying 23 = .ok (.iload_n 2, 1) ∧ decode cX5_readSaying 24 = .ok (.ifCond .ge 7, 3) ∧ decode cX5_readSaying 27 = .ok (.iconst (-1), 1) := by decide +kernel
theorem dX5_readSaying_15 : decode cX5_readSaying 15 = .ok (.aload_n 0, 1) := bdX5_readSaying_15.1
theorem dX5_readSaying_16 : decode cX5_readSaying 16 = .ok (.iconst 1, 1) := bdX5_readSaying_15.2.1
theorem dX5_readSaying_17 : decode cX5_readSaying 17 = .ok (.bipush 9, 2) := bdX5_readSaying_15.2.2.1
theorem dX5_readSaying_19 : decode cX5_readSaying 19 = .ok (.invokevirtual 64, 3) := bdX5_readSaying_15.2.2.2.1
theorem dX5_readSaying_22 : decode cX5_readSaying 22 = .ok (.istore_n 2, 1) := bdX5_readSaying_15.2.2.2.2.1
theorem dX5_readSaying_23 : decode cX5_readSaying 23 = .ok (.iload_n 2, 1) := bdX5_readSaying_15.2.2.2.2.2.1
theorem dX5_readSaying_24 : decode cX5_readSaying 24 = .ok (.ifCond .ge 7, 3) := bdX5_readSaying_15.2.2.2.2.2.2.1
theorem dX5_readSaying_27 : decode cX5_readSaying 27 = .ok (.iconst (-1), 1) := bdX5_readSaying_15.2.2.2.2.2.2.2
theorem bdX5_readSaying_28 : decode cX5_readSaying 28 = .ok (.goto 9, 3) ∧ decode cX5_readSaying 31 = .ok (.aload_n 0, 1) ∧ decode cX5_readSaying 32 = .ok (.iconst 0, 1) ∧ decode cX5_readSaying 33 = .ok (.iconst 3, 1) ∧ decode cX5_readSaying 34 = .ok (.invokevirtual 64, 3) ∧ decode cX5_readSaying 37 = .ok (.istore_n 3, 1) ∧ decode cX5_readSaying 38 = .ok (.iload_n 3, 1) ∧ decode cX5_readSaying 39 = .ok (.ifCond .ge 7, 3) := by decide +kernel
theorem dX5_readSaying_28 : decode cX5_readSaying 28 = .ok (.goto 9, 3) := bdX5_readSaying_28.1
theorem dX5_readSaying_31 : decode cX5_readSaying 31 = .ok (.aload_n 0, 1) := bdX5_readSaying_28.2.1
theorem dX5_readSaying_32 : decode cX5_readSaying 32 = .ok (.iconst 0, 1) := bdX5_readSaying_28.2.2.1
theorem dX5_readSaying_33 : decode cX5_readSaying 33 = .ok (.iconst 3, 1) := bdX5_readSaying_28.2.2.2.1
theorem dX5_readSaying_34 : decode cX5_readSaying 34 = .ok (.invokevirtual 64, 3) := bdX5_readSaying_28.2.2.2.2.1
theorem dX5_readSaying_37 : decode cX5_readSaying 37 = .ok (.istore_n 3, 1) := bdX5_readSaying_28.2.2.2.2.2.1
theorem dX5_readSaying_38 : decode cX5_readSaying 38 = .ok (.iload_n 3, 1) := bdX5_readSaying_28.2.2.2.2.2.2.1
theorem dX5_readSaying_39 : decode cX5_readSaying 39 = .ok (.ifCond .ge 7, 3) := bdX5_readSaying_28.2.2.2.2.2.2.2
theorem bdX5_readSaying_42 : decode cX5_readSaying 42 = .ok (.iconst (-1), 1) ∧ decode cX5_readSaying 43 = .ok (.goto 14, 3) ∧ decode cX5_readSaying 46 = .ok (.aload_n 0, 1) ∧ decode cX5_readSaying 47 = .ok (.iconst 0, 1) ∧ decode cX5_readSaying 48 = .ok (.aload_n 1, 1) ∧ decode cX5_readSaying 49 = .ok (.getfield 61, 3) ∧ decode cX5_readSaying 52 = .ok (.iconst 1, 1) ∧ decode cX5_readSaying 53 = .ok (.isub, 1) := by decide +kernel
theorem dX5_readSaying_42 : decode cX5_readSaying 42 = .ok (.iconst (-1), 1) := bdX5_readSaying_42.1
theorem dX5_readSaying_43 : decode cX5_readSaying 43 = .ok (.goto 14, 3) := bdX5_readSaying_42.2.1
theorem dX5_readSaying_46 : decode cX5_readSaying 46 = .ok (.aload_n 0, 1) := bdX5_readSaying_42.2.2.1
theorem dX5_readSaying_47 : decode cX5_readSaying 47 = .ok (.iconst 0, 1) := bdX5_readSaying_42.2.2.2.1
theorem dX5_readSaying_48 : decode cX5_readSaying 48 = .ok (.aload_n 1, 1) := bdX5_readSaying_42.2.2.2.2.1
theorem dX5_readSaying_49 : decode cX5_readSaying 49 = .ok (.getfield 61, 3) := bdX5_readSaying_42.2.2.2.2.2.1
theorem dX5_readSaying_52 : decode cX5_readSaying 52 = .ok (.iconst 1, 1) := bdX5_readSaying_42.2.2.2.2.2.2.1
theorem dX5_readSaying_53 : decode cX5_readSaying 53 = .ok (.isub, 1) := bdX5_readSaying_42.2.2.2.2.2.2.2
theorem bdX5_readSaying_54 : decode cX5_readSaying 54 = .ok (.invokevirtual 64, 3) ∧ decode cX5_readSaying 57 = .ok (.istore 4, 2) ∧ decode cX5_readSaying 59 = .ok (.iload 4, 2) ∧ decode cX5_readSaying 61 = .ok (.ifCond .lt 10, 3) ∧ decode cX5_readSaying 64 = .ok (.aload_n 0, 1) ∧ decode cX5_readSaying 65 = .ok (.invokevirtual 67, 3) ∧ decode cX5_readSaying 68 = .ok (.ifCond .ne 5, 3) ∧ decode cX5_readSaying 71 = .ok (.iconst 0, 1) := by decide +kernel
theorem dX5_readSaying_54 : decode cX5_readSaying 54 = .ok (.invokevirtual 64, 3) := bdX5_readSaying_54.1
theorem dX5_readSaying_57 : decode cX5_readSaying 57 = .ok (.istore 4, 2) := bdX5_readSaying_54.2.1
theorem dX5_readSaying_59 : decode cX5_readSaying 59 = .ok (.iload 4, 2) := bdX5_readSaying_54.2.2.1
theorem dX5_readSaying_61 : decode cX5_readSaying 61 = .ok (.ifCond .lt 10, 3) := bdX5_readSaying_54.2.2.2.1
theorem dX5_readSaying_64 : decode cX5_readSaying 64 = .ok (.aload_n 0, 1) := bdX5_readSaying_54.2.2.2.2.1
theorem dX5_readSaying_65 : decode cX5_readSaying 65 = .ok (.invokevirtual 67, 3) := bdX5_readSaying_54.2.2.2.2.2.1
theorem dX5_readSaying_68 : decode cX5_readSaying 68 = .ok (.ifCond .ne 5, 3) := bdX5_readSaying_54.2.2.2.2.2.2.1
theorem dX5_readSaying_71 : decode cX5_readSaying 71 = .ok (.iconst 0, 1) := bdX5_readSaying_54.2.2.2.2.2.2.2
theorem bdX5_readSaying_72 : decode cX5_readSaying 72 = .ok (.ireturn, 1) ∧ decode cX5_readSaying 73 = .ok (.aload_n 1, 1) ∧ decode cX5_readSaying 74 = .ok (.getfield 80, 3) ∧ decode cX5_readSaying 77 = .ok (.aload_n 1, 1) ∧ decode cX5_readSaying 78 = .ok (.getfield 77, 3) ∧ decode cX5_readSaying 81 = .ok (.iload_n 2, 1) ∧ decode cX5_readSaying 82 = .ok (.iastore, 1) ∧ decode cX5_readSaying 83 = .ok (.aload_n 1, 1) := by decide +kernel
theorem dX5_readSaying_72 : decode cX5_readSaying 72 = .ok (.ireturn, 1) := bdX5_readSaying_72.1
theorem dX5_readSaying_73 : decode cX5_readSaying 73 = .ok (.aload_n 1, 1) := bdX5_readSaying_72.2.1
theorem dX5_readSaying_74 : decode cX5_readSaying 74 = .ok (.getfield 80, 3) := bdX5_readSaying_72.2.2.1
theorem dX5_readSaying_77 : decode cX5_readSaying 77 = .ok (.aload_n 1, 1) := bdX5_readSaying_72.2.2.2.1
theorem dX5_readSaying_78 : decode cX5_readSaying 78 = .ok (.getfield 77, 3) := bdX5_readSaying_72.2.2.2.2.1
theorem dX5_readSaying_81 : decode cX5_readSaying 81 = .ok (.iload_n 2, 1) := bdX5_readSaying_72.2.2.2.2.2.1
theorem dX5_readSaying_82 : decode cX5_readSaying 82 = .ok (.iastore, 1) := bdX5_readSaying_72.2.2.2.2.2.2.1
theorem dX5_readSaying_83 : decode cX5_readSaying 83 = .ok (.aload_n 1, 1) := bdX5_readSaying_72.2.2.2.2.2.2.2
theorem bdX5_readSaying_84 : decode cX5_readSaying 84 = .ok (.getfield 83, 3) ∧ decode cX5_readSaying 87 = .ok (.aload_n 1, 1) ∧ decode cX5_readSaying 88 = .ok (.getfield 77, 3) ∧ decode cX5_readSaying 91 = .ok (.iload_n 3, 1) ∧ decode cX5_readSaying 92 = .ok (.iastore, 1) ∧ decode cX5_readSaying 93 = .ok (.aload_n 1, 1) ∧ decode cX5_readSaying 94 = .ok (.getfield 86, 3) ∧ decode cX5_readSaying 97 = .ok (.aload_n 1, 1) := by decide +kernel
theorem dX5_readSaying_84 : decode cX5_readSaying 84 = .ok (.getfield 83, 3) := bdX5_readSaying_84.1
theorem dX5_readSaying_87 : decode cX5_readSaying 87 = .ok (.aload_n 1, 1) := bdX5_readSaying_84.2.1
theorem dX5_readSaying_88 : decode cX5_readSaying 88 = .ok (.getfield 77, 3) := bdX5_readSaying_84.2.2.1
theorem dX5_readSaying_91 : decode cX5_readSaying 91 = .ok (.iload_n 3, 1) := bdX5_readSaying_84.2.2.2.1
theorem dX5_readSaying_92 : decode cX5_readSaying 92 = .ok (.iastore, 1) := bdX5_readSaying_84.2.2.2.2.1
theorem dX5_readSaying_93 : decode cX5_readSaying 93 = .ok (.aload_n 1, 1) := bdX5_readSaying_84.2.2.2.2.2.1
theorem dX5_readSaying_94 : decode cX5_readSaying 94 = .ok (.getfield 86, 3) := bdX5_readSaying_84.2.2.2.2.2.2.1
theorem dX5_readSaying_97 : decode cX5_readSaying 97 = .ok (.aload_n 1, 1) := bdX5_readSaying_84.2.2.2.2.2.2.2
theorem bdX5_readSaying_98 : decode cX5_readSaying 98 = .ok (.getfield 77, 3) ∧ decode cX5_readSaying 101 = .ok (.iload 4, 2) ∧ decode cX5_readSaying 103 = .ok (.iastore, 1) ∧ decode cX5_readSaying 104 = .ok (.aload_n 1, 1) ∧ decode cX5_readSaying 105 = .ok (.dup, 1) ∧ decode cX5_readSaying 106 = .ok (.getfield 77, 3) ∧ decode cX5_readSaying 109 = .ok (.iconst 1, 1) ∧ decode cX5_readSaying 110 = .ok (.iadd, 1) := by decide +kernel
theorem dX5_readSaying_98 : decode cX5_readSaying 98 = .ok (.getfield 77, 3) := bdX5_readSaying_98.1
theorem dX5_readSaying_101 : decode cX5_readSaying 101 = .ok (.iload 4, 2) := bdX5_readSaying_98.2.1
theorem dX5_readSaying_103 : decode cX5_readSaying 103 = .ok (.iastore, 1) := bdX5_readSaying_98.2.2.1
theorem dX5_readSaying_104 : decode cX5_readSaying 104 = .ok (.aload_n 1, 1) := bdX5_readSaying_98.2.2.2.1
theorem dX5_readSaying_105 : decode cX5_readSaying 105 = .ok (.dup, 1) := bdX5_readSaying_98.2.2.2.2.1
theorem dX5_readSaying_106 : decode cX5_readSaying 106 = .ok (.getfield 77, 3) := bdX5_readSaying_98.2.2.2.2.2.1
theorem dX5_readSaying_109 : decode cX5_readSaying 109 = .ok (.iconst 1, 1) := bdX5_readSaying_98.2.2.2.2.2.2.1
theorem dX5_readSaying_110 : decode cX5_readSaying 110 = .ok (.iadd, 1) := bdX5_readSaying_98.2.2.2.2.2.2.2
theorem bdX5_readSaying_111 : decode cX5_readSaying 111 = .ok (.putfield 77, 3) ∧ decode cX5_readSaying 114 = .ok (.iconst 1, 1) ∧ decode cX5_readSaying 115 = .ok (.ireturn, 1) := by decide +kernel
theorem dX5_readSaying_111 : decode cX5_readSaying 111 = .ok (.putfield 77, 3) := bdX5_readSaying_111.1
theorem dX5_readSaying_114 : decode cX5_readSaying 114 = .ok (.iconst 1, 1) := bdX5_readSaying_111.2.1
theorem dX5_readSaying_115 : decode cX5_readSaying 115 = .ok (.ireturn, 1) := bdX5_readSaying_111.2.2
set_option maxRecDepth 20000 in
set_option maxRecDepth 100000 in
theorem ggX5_readWinds_X5_step : GoodIn wsX5_readWinds wsX5_step := goodIn_hd (goodIn_c ch_X5_readWinds hc_X5_readWinds ([.code yX5_step cX5_step 1 none] : List Cond) [(1, 7)] rfl (by decide +kernel)) (goodIn_app (goodIn_c ch_X5_readWinds hc_X5_readWinds ([.fieldLink RX5 25 "WordFletchers$TextReader" "next" "I", .fieldLink RX5 21 "WordFletchers$TextReader" "length" "I", .fieldLink RX5 9 "WordFletchers$TextReader" "bytes" "[I", .fieldLink RX5 43 "WordFletchers$TextReader" "start" "I", .fieldLink RX5 36 "WordFletchers$TextReader" "sort" "I", .methodLink RX5 98 yX5_sortAt, .instanceMethod yX5_sortAt, .selects RX5 yX5_sortAt yX5_sortAt, .initialized RX5, .code yX5_sortAt cX5_sortAt 3 (some .int), .methodLink RX5 102 yX5_stepOverLetters, .instanceMethod yX5_stepOverLetters, .selects RX5 yX5_stepOverLetters yX5_stepOverLetters, .code yX5_stepOverLetters cX5_stepOverLetters 1 none, .fieldLink RX5 46 "WordFletchers$TextReader" "value" "I", .methodLink RX5 105 yX5_stepOverDigits, .instanceMethod yX5_stepOverDigits, .selects RX5 yX5_stepOverDigits yX5_stepOverDigits, .code yX5_stepOverDigits cX5_stepOverDigits 2 none, .methodLink RX5 15 Lib.Math.min.name, .static Lib.Math.min.name, .initialized "java/lang/Math", .code Lib.Math.min.name Lib.Math.min.code 2 (some .int)] : List Cond) [(1, 8), (1, 9), (1, 10), (1, 11), (1, 1), (1, 12), (1, 13), (1, 14), (1, 6), (1, 15), (1, 16), (1, 17), (1, 18), (1, 19), (1, 20), (1, 21), (1, 22), (1, 23), (2, 0), (2, 1), (2, 2), (2, 3), (2, 4)] rfl (by decide +kernel)) (goodIn_sub (fun _ h => (List.mem_cons_of_mem _ (List.mem_append_right _ h))) gwX5))
set_option maxRecDepth 20000 in
theorem gX5_readWinds_X5_step : GoodIn wsX5_readWinds (wsV RX5 33 RX5 yX5_step wsX5_step) := goodIn_app (goodIn_of _ (by decide +kernel)) ggX5_readWinds_X5_step
set_option maxRecDepth 20000 in
set_option maxRecDepth 100000 in
theorem ggX5_readWinds_X5_takeNumber : GoodIn wsX5_readWinds wsX5_takeNumber := goodIn_hd (goodIn_c ch_X5_readWinds hc_X5_readWinds ([.code yX5_takeNumber cX5_takeNumber 4 (some .int)] : List Cond) [(2, 8)] rfl (by decide +kernel)) (goodIn_app (goodIn_app (goodIn_c ch_X5_readWinds hc_X5_readWinds wsX5_takeNumber_r1 [(1, 1), (1, 20), (1, 3), (1, 4), (1, 5), (1, 6), (1, 7), (1, 8), (1, 9), (1, 10), (1, 11), (1, 12), (1, 13), (1, 14), (1, 15), (1, 16), (1, 17), (1, 18), (1, 19), (1, 21), (1, 22), (1, 23), (2, 0), (2, 1)] rfl (by decide +kernel)) (goodIn_c ch_X5_readWinds hc_X5_readWinds wsX5_takeNumber_r2 [(2, 2), (2, 3), (2, 4)] rfl (by decide +kernel))) (goodIn_sub (fun _ h => (List.mem_cons_of_mem _ (List.mem_append_right _ h))) gwX5))
set_option maxRecDepth 20000 in
theorem gX5_readWinds_X5_takeNumber : GoodIn wsX5_readWinds (wsV RX5 64 RX5 yX5_takeNumber wsX5_takeNumber) := goodIn_app (goodIn_of _ (by decide +kernel)) ggX5_readWinds_X5_takeNumber
set_option maxRecDepth 20000 in
set_option maxRecDepth 100000 in
theorem ggX5_readWinds_X5_takeSemicolon : GoodIn wsX5_readWinds wsX5_takeSemicolon := goodIn_hd (goodIn_c ch_X5_readWinds hc_X5_readWinds ([.code yX5_takeSemicolon cX5_takeSemicolon 1 (some .boolean)] : List Cond) [(2, 12)] rfl (by decide +kernel)) (goodIn_app (goodIn_app (goodIn_c ch_X5_readWinds hc_X5_readWinds wsX5_takeSemicolon_r1 [(1, 1), (1, 3), (1, 4), (1, 5), (1, 6), (1, 7), (1, 8), (1, 9), (1, 10), (1, 11), (1, 12), (1, 13), (1, 14), (1, 15), (1, 16), (1, 17), (1, 18), (1, 19), (1, 20), (1, 21), (1, 22), (1, 23), (2, 0), (2, 1)] rfl (by decide +kernel)) (goodIn_c ch_X5_readWinds hc_X5_readWinds wsX5_takeSemicolon_r2 [(2, 2), (2, 3), (2, 4)] rfl (by decide +kernel))) (goodIn_sub (fun _ h => (List.mem_cons_of_mem _ (List.mem_append_right _ h))) gwX5))
set_option maxRecDepth 20000 in
theorem gX5_readWinds_X5_takeSemicolon : GoodIn wsX5_readWinds (wsV RX5 67 RX5 yX5_takeSemicolon wsX5_takeSemicolon) := goodIn_app (goodIn_of _ (by decide +kernel)) ggX5_readWinds_X5_takeSemicolon
theorem bdX5_readWinds_0 : decode cX5_readWinds 0 = .ok (.aload_n 1, 1) ∧ decode cX5_readWinds 1 = .ok (.getfield 89, 3) ∧ decode cX5_readWinds 4 = .ok (.ifCond .le 5, 3) ∧ decode cX5_readWinds 7 = .ok (.iconst 0, 1) ∧ decode cX5_readWinds 8 = .ok (.ireturn, 1) ∧ decode cX5_readWinds 9 = .ok (.aload_n 0, 1) ∧ decode cX5_readWinds 10 = .ok (.invokevirtual 33, 3) ∧ decode cX5_readWinds 13 = .ok (.iconst 0, 1) := by decide +kernel
theorem dX5_readWinds_0 : decode cX5_readWinds 0 = .ok (.aload_n 1, 1) := bdX5_readWinds_0.1
theorem dX5_readWinds_1 : decode cX5_readWinds 1 = .ok (.getfield 89, 3) := bdX5_readWinds_0.2.1
theorem dX5_readWinds_4 : decode cX5_readWinds 4 = .ok (.ifCond .le 5, 3) := bdX5_readWinds_0.2.2.1
theorem dX5_readWinds_7 : decode cX5_readWinds 7 = .ok (.iconst 0, 1) := bdX5_readWinds_0.2.2.2.1
theorem dX5_readWinds_8 : decode cX5_readWinds 8 = .ok (.ireturn, 1) := bdX5_readWinds_0.2.2.2.2.1
theorem dX5_readWinds_9 : decode cX5_readWinds 9 = .ok (.aload_n 0, 1) := bdX5_readWinds_0.2.2.2.2.2.1
theorem dX5_readWinds_10 : decode cX5_readWinds 10 = .ok (.invokevirtual 33, 3) := bdX5_readWinds_0.2.2.2.2.2.2.1
theorem dX5_readWinds_13 : decode cX5_readWinds 13 = .ok (.iconst 0, 1) := bdX5_readWinds_0.2.2.2.2.2.2.2
theorem bdX5_readWinds_14 : decode cX5_readWinds 14 = .ok (.istore_n 2, 1) ∧ decode cX5_readWinds 15 = .ok (.iload_n 2, 1) ∧ decode cX5_readWinds 16 = .ok (.bipush 6, 2) ∧ decode cX5_readWinds 18 = .ok (.if_icmp .ge 51, 3) ∧ decode cX5_readWinds 21 = .ok (.iload_n 2, 1) ∧ decode cX5_readWinds 22 = .ok (.ifCond .eq 11, 3) ∧ decode cX5_readWinds 25 = .ok (.aload_n 0, 1) ∧ decode cX5_readWinds 26 = .ok (.getfield 36, 3) := by decide +kernel
theorem dX5_readWinds_14 : decode cX5_readWinds 14 = .ok (.istore_n 2, 1) := bdX5_readWinds_14.1
theorem dX5_readWinds_15 : decode cX5_readWinds 15 = .ok (.iload_n 2, 1) := bdX5_readWinds_14.2.1
theorem dX5_readWinds_16 : decode cX5_readWinds 16 = .ok (.bipush 6, 2) := bdX5_readWinds_14.2.2.1
theorem dX5_readWinds_18 : decode cX5_readWinds 18 = .ok (.if_icmp .ge 51, 3) := bdX5_readWinds_14.2.2.2.1
theorem dX5_readWinds_21 : decode cX5_readWinds 21 = .ok (.iload_n 2, 1) := bdX5_readWinds_14.2.2.2.2.1
theorem dX5_readWinds_22 : decode cX5_readWinds 22 = .ok (.ifCond .eq 11, 3) := bdX5_readWinds_14.2.2.2.2.2.1
theorem dX5_readWinds_25 : decode cX5_readWinds 25 = .ok (.aload_n 0, 1) := bdX5_readWinds_14.2.2.2.2.2.2.1
theorem dX5_readWinds_26 : decode cX5_readWinds 26 = .ok (.getfield 36, 3) := bdX5_readWinds_14.2.2.2.2.2.2.2
theorem bdX5_readWinds_29 : decode cX5_readWinds 29 = .ok (.iconst 3, 1) ∧ decode cX5_readWinds 30 = .ok (.if_icmp .eq 39, 3) ∧ decode cX5_readWinds 33 = .ok (.aload_n 0, 1) ∧ decode cX5_readWinds 34 = .ok (.iconst 0, 1) ∧ decode cX5_readWinds 35 = .ok (.bipush 8, 2) ∧ decode cX5_readWinds 37 = .ok (.invokevirtual 64, 3) ∧ decode cX5_readWinds 40 = .ok (.istore_n 3, 1) ∧ decode cX5_readWinds 41 = .ok (.iload_n 3, 1) := by decide +kernel
theorem dX5_readWinds_29 : decode cX5_readWinds 29 = .ok (.iconst 3, 1) := bdX5_readWinds_29.1
theorem dX5_readWinds_30 : decode cX5_readWinds 30 = .ok (.if_icmp .eq 39, 3) := bdX5_readWinds_29.2.1
theorem dX5_readWinds_33 : decode cX5_readWinds 33 = .ok (.aload_n 0, 1) := bdX5_readWinds_29.2.2.1
theorem dX5_readWinds_34 : decode cX5_readWinds 34 = .ok (.iconst 0, 1) := bdX5_readWinds_29.2.2.2.1
theorem dX5_readWinds_35 : decode cX5_readWinds 35 = .ok (.bipush 8, 2) := bdX5_readWinds_29.2.2.2.2.1
theorem dX5_readWinds_37 : decode cX5_readWinds 37 = .ok (.invokevirtual 64, 3) := bdX5_readWinds_29.2.2.2.2.2.1
theorem dX5_readWinds_40 : decode cX5_readWinds 40 = .ok (.istore_n 3, 1) := bdX5_readWinds_29.2.2.2.2.2.2.1
theorem dX5_readWinds_41 : decode cX5_readWinds 41 = .ok (.iload_n 3, 1) := bdX5_readWinds_29.2.2.2.2.2.2.2
theorem bdX5_readWinds_42 : decode cX5_readWinds 42 = .ok (.ifCond .ge 5, 3) ∧ decode cX5_readWinds 45 = .ok (.iconst 0, 1) ∧ decode cX5_readWinds 46 = .ok (.ireturn, 1) ∧ decode cX5_readWinds 47 = .ok (.aload_n 1, 1) ∧ decode cX5_readWinds 48 = .ok (.getfield 92, 3) ∧ decode cX5_readWinds 51 = .ok (.iload_n 2, 1) ∧ decode cX5_readWinds 52 = .ok (.iload_n 3, 1) ∧ decode cX5_readWinds 53 = .ok (.iconst 4, 1) := by decide +kernel
theorem dX5_readWinds_42 : decode cX5_readWinds 42 = .ok (.ifCond .ge 5, 3) := bdX5_readWinds_42.1
theorem dX5_readWinds_45 : decode cX5_readWinds 45 = .ok (.iconst 0, 1) := bdX5_readWinds_42.2.1
theorem dX5_readWinds_46 : decode cX5_readWinds 46 = .ok (.ireturn, 1) := bdX5_readWinds_42.2.2.1
theorem dX5_readWinds_47 : decode cX5_readWinds 47 = .ok (.aload_n 1, 1) := bdX5_readWinds_42.2.2.2.1
theorem dX5_readWinds_48 : decode cX5_readWinds 48 = .ok (.getfield 92, 3) := bdX5_readWinds_42.2.2.2.2.1
theorem dX5_readWinds_51 : decode cX5_readWinds 51 = .ok (.iload_n 2, 1) := bdX5_readWinds_42.2.2.2.2.2.1
theorem dX5_readWinds_52 : decode cX5_readWinds 52 = .ok (.iload_n 3, 1) := bdX5_readWinds_42.2.2.2.2.2.2.1
theorem dX5_readWinds_53 : decode cX5_readWinds 53 = .ok (.iconst 4, 1) := bdX5_readWinds_42.2.2.2.2.2.2.2
theorem bdX5_readWinds_54 : decode cX5_readWinds 54 = .ok (.isub, 1) ∧ decode cX5_readWinds 55 = .ok (.iastore, 1) ∧ decode cX5_readWinds 56 = .ok (.aload_n 1, 1) ∧ decode cX5_readWinds 57 = .ok (.iload_n 2, 1) ∧ decode cX5_readWinds 58 = .ok (.iconst 1, 1) ∧ decode cX5_readWinds 59 = .ok (.iadd, 1) ∧ decode cX5_readWinds 60 = .ok (.putfield 89, 3) ∧ decode cX5_readWinds 63 = .ok (.iinc 2 1, 3) := by decide +kernel
theorem dX5_readWinds_54 : decode cX5_readWinds 54 = .ok (.isub, 1) := bdX5_readWinds_54.1
theorem dX5_readWinds_55 : decode cX5_readWinds 55 = .ok (.iastore, 1) := bdX5_readWinds_54.2.1
theorem dX5_readWinds_56 : decode cX5_readWinds 56 = .ok (.aload_n 1, 1) := bdX5_readWinds_54.2.2.1
theorem dX5_readWinds_57 : decode cX5_readWinds 57 = .ok (.iload_n 2, 1) := bdX5_readWinds_54.2.2.2.1
theorem dX5_readWinds_58 : decode cX5_readWinds 58 = .ok (.iconst 1, 1) := bdX5_readWinds_54.2.2.2.2.1
theorem dX5_readWinds_59 : decode cX5_readWinds 59 = .ok (.iadd, 1) := bdX5_readWinds_54.2.2.2.2.2.1
theorem dX5_readWinds_60 : decode cX5_readWinds 60 = .ok (.putfield 89, 3) := bdX5_readWinds_54.2.2.2.2.2.2.1
theorem dX5_readWinds_63 : decode cX5_readWinds 63 = .ok (.iinc 2 1, 3) := bdX5_readWinds_54.2.2.2.2.2.2.2
theorem bdX5_readWinds_66 : decode cX5_readWinds 66 = .ok (.goto (-51), 3) ∧ decode cX5_readWinds 69 = .ok (.aload_n 0, 1) ∧ decode cX5_readWinds 70 = .ok (.invokevirtual 67, 3) ∧ decode cX5_readWinds 73 = .ok (.ireturn, 1) := by decide +kernel
theorem dX5_readWinds_66 : decode cX5_readWinds 66 = .ok (.goto (-51), 3) := bdX5_readWinds_66.1
theorem dX5_readWinds_69 : decode cX5_readWinds 69 = .ok (.aload_n 0, 1) := bdX5_readWinds_66.2.1
theorem dX5_readWinds_70 : decode cX5_readWinds 70 = .ok (.invokevirtual 67, 3) := bdX5_readWinds_66.2.2.1
theorem dX5_readWinds_73 : decode cX5_readWinds 73 = .ok (.ireturn, 1) := bdX5_readWinds_66.2.2.2
set_option maxRecDepth 20000 in
set_option maxRecDepth 100000 in
theorem ggX5_readFeathers_X5_step : GoodIn wsX5_readFeathers wsX5_step := goodIn_hd (goodIn_c ch_X5_readFeathers hc_X5_readFeathers ([.code yX5_step cX5_step 1 none] : List Cond) [(1, 5)] rfl (by decide +kernel)) (goodIn_app (goodIn_c ch_X5_readFeathers hc_X5_readFeathers ([.fieldLink RX5 25 "WordFletchers$TextReader" "next" "I", .fieldLink RX5 21 "WordFletchers$TextReader" "length" "I", .fieldLink RX5 9 "WordFletchers$TextReader" "bytes" "[I", .fieldLink RX5 43 "WordFletchers$TextReader" "start" "I", .fieldLink RX5 36 "WordFletchers$TextReader" "sort" "I", .methodLink RX5 98 yX5_sortAt, .instanceMethod yX5_sortAt, .selects RX5 yX5_sortAt yX5_sortAt, .initialized RX5, .code yX5_sortAt cX5_sortAt 3 (some .int), .methodLink RX5 102 yX5_stepOverLetters, .instanceMethod yX5_stepOverLetters, .selects RX5 yX5_stepOverLetters yX5_stepOverLetters, .code yX5_stepOverLetters cX5_stepOverLetters 1 none, .fieldLink RX5 46 "WordFletchers$TextReader" "value" "I", .methodLink RX5 105 yX5_stepOverDigits, .instanceMethod yX5_stepOverDigits, .selects RX5 yX5_stepOverDigits yX5_stepOverDigits, .code yX5_stepOverDigits cX5_stepOverDigits 2 none, .methodLink RX5 15 Lib.Math.min.name, .static Lib.Math.min.name, .initialized "java/lang/Math", .code Lib.Math.min.name Lib.Math.min.code 2 (some .int)] : List Cond) [(1, 6), (1, 7), (1, 8), (1, 9), (1, 10), (1, 11), (1, 12), (1, 13), (1, 4), (1, 14), (1, 15), (1, 16), (1, 17), (1, 18), (1, 19), (1, 20), (1, 21), (1, 22), (1, 23), (2, 0), (2, 1), (2, 2), (2, 3)] rfl (by decide +kernel)) (goodIn_sub (fun _ h => (List.mem_cons_of_mem _ (List.mem_append_right _ h))) gwX5))
set_option maxRecDepth 20000 in
theorem gX5_readFeathers_X5_step : GoodIn wsX5_readFeathers (wsV RX5 33 RX5 yX5_step wsX5_step) := goodIn_app (goodIn_of _ (by decide +kernel)) ggX5_readFeathers_X5_step
set_option maxRecDepth 20000 in
set_option maxRecDepth 100000 in
theorem ggX5_readFeathers_X5_takeNumber : GoodIn wsX5_readFeathers wsX5_takeNumber := goodIn_hd (goodIn_c ch_X5_readFeathers hc_X5_readFeathers ([.code yX5_takeNumber cX5_takeNumber 4 (some .int)] : List Cond) [(2, 7)] rfl (by decide +kernel)) (goodIn_app (goodIn_app (goodIn_c ch_X5_readFeathers hc_X5_readFeathers wsX5_takeNumber_r1 [(1, 10), (1, 19), (1, 1), (1, 2), (1, 3), (1, 4), (1, 5), (1, 6), (1, 7), (1, 8), (1, 9), (1, 11), (1, 12), (1, 13), (1, 14), (1, 15), (1, 16), (1, 17), (1, 18), (1, 20), (1, 21), (1, 22), (1, 23), (2, 0)] rfl (by decide +kernel)) (goodIn_c ch_X5_readFeathers hc_X5_readFeathers wsX5_takeNumber_r2 [(2, 1), (2, 2), (2, 3)] rfl (by decide +kernel))) (goodIn_sub (fun _ h => (List.mem_cons_of_mem _ (List.mem_append_right _ h))) gwX5))
set_option maxRecDepth 20000 in
theorem gX5_readFeathers_X5_takeNumber : GoodIn wsX5_readFeathers (wsV RX5 64 RX5 yX5_takeNumber wsX5_takeNumber) := goodIn_app (goodIn_of _ (by decide +kernel)) ggX5_readFeathers_X5_takeNumber
set_option maxRecDepth 20000 in
set_option maxRecDepth 100000 in
theorem ggX5_readFeathers_X5_takeSemicolon : GoodIn wsX5_readFeathers wsX5_takeSemicolon := goodIn_hd (goodIn_c ch_X5_readFeathers hc_X5_readFeathers ([.code yX5_takeSemicolon cX5_takeSemicolon 1 (some .boolean)] : List Cond) [(2, 11)] rfl (by decide +kernel)) (goodIn_app (goodIn_app (goodIn_c ch_X5_readFeathers hc_X5_readFeathers wsX5_takeSemicolon_r1 [(1, 10), (1, 1), (1, 2), (1, 3), (1, 4), (1, 5), (1, 6), (1, 7), (1, 8), (1, 9), (1, 11), (1, 12), (1, 13), (1, 14), (1, 15), (1, 16), (1, 17), (1, 18), (1, 19), (1, 20), (1, 21), (1, 22), (1, 23), (2, 0)] rfl (by decide +kernel)) (goodIn_c ch_X5_readFeathers hc_X5_readFeathers wsX5_takeSemicolon_r2 [(2, 1), (2, 2), (2, 3)] rfl (by decide +kernel))) (goodIn_sub (fun _ h => (List.mem_cons_of_mem _ (List.mem_append_right _ h))) gwX5))
set_option maxRecDepth 20000 in
theorem gX5_readFeathers_X5_takeSemicolon : GoodIn wsX5_readFeathers (wsV RX5 67 RX5 yX5_takeSemicolon wsX5_takeSemicolon) := goodIn_app (goodIn_of _ (by decide +kernel)) ggX5_readFeathers_X5_takeSemicolon
theorem bdX5_readFeathers_0 : decode cX5_readFeathers 0 = .ok (.aload_n 0, 1) ∧ decode cX5_readFeathers 1 = .ok (.invokevirtual 33, 3) ∧ decode cX5_readFeathers 4 = .ok (.aload_n 0, 1) ∧ decode cX5_readFeathers 5 = .ok (.iconst 0, 1) ∧ decode cX5_readFeathers 6 = .ok (.iconst 3, 1) ∧ decode cX5_readFeathers 7 = .ok (.invokevirtual 64, 3) ∧ decode cX5_readFeathers 10 = .ok (.istore_n 2, 1) ∧ decode cX5_readFeathers 11 = .ok (.iload_n 2, 1) := by decide +kernel
theorem dX5_readFeathers_0 : decode cX5_readFeathers 0 = .ok (.aload_n 0, 1) := bdX5_readFeathers_0.1
theorem dX5_readFeathers_1 : decode cX5_readFeathers 1 = .ok (.invokevirtual 33, 3) := bdX5_readFeathers_0.2.1
theorem dX5_readFeathers_4 : decode cX5_readFeathers 4 = .ok (.aload_n 0, 1) := bdX5_readFeathers_0.2.2.1
theorem dX5_readFeathers_5 : decode cX5_readFeathers 5 = .ok (.iconst 0, 1) := bdX5_readFeathers_0.2.2.2.1
theorem dX5_readFeathers_6 : decode cX5_readFeathers 6 = .ok (.iconst 3, 1) := bdX5_readFeathers_0.2.2.2.2.1
theorem dX5_readFeathers_7 : decode cX5_readFeathers 7 = .ok (.invokevirtual 64, 3) := bdX5_readFeathers_0.2.2.2.2.2.1
theorem dX5_readFeathers_10 : decode cX5_readFeathers 10 = .ok (.istore_n 2, 1) := bdX5_readFeathers_0.2.2.2.2.2.2.1
theorem dX5_readFeathers_11 : decode cX5_readFeathers 11 = .ok (.iload_n 2, 1) := bdX5_readFeathers_0.2.2.2.2.2.2.2
theorem bdX5_readFeathers_12 : decode cX5_readFeathers 12 = .ok (.ifCond .ge 7, 3) ∧ decode cX5_readFeathers 15 = .ok (.iconst (-1), 1) ∧ decode cX5_readFeathers 16 = .ok (.goto 10, 3) ∧ decode cX5_readFeathers 19 = .ok (.aload_n 0, 1) ∧ decode cX5_readFeathers 20 = .ok (.iconst 0, 1) ∧ decode cX5_readFeathers 21 = .ok (.bipush 20, 2) ∧ decode cX5_readFeathers 23 = .ok (.invokevirtual 64, 3) ∧ decode cX5_readFeathers 26 = .ok (.istore_n 3, 1) := by decide +kernel
theorem dX5_readFeathers_12 : decode cX5_readFeathers 12 = .ok (.ifCond .ge 7, 3) := bdX5_readFeathers_12.1
theorem dX5_readFeathers_15 : decode cX5_readFeathers 15 = .ok (.iconst (-1), 1) := bdX5_readFeathers_12.2.1
theorem dX5_readFeathers_16 : decode cX5_readFeathers 16 = .ok (.goto 10, 3) := bdX5_readFeathers_12.2.2.1
theorem dX5_readFeathers_19 : decode cX5_readFeathers 19 = .ok (.aload_n 0, 1) := bdX5_readFeathers_12.2.2.2.1
theorem dX5_readFeathers_20 : decode cX5_readFeathers 20 = .ok (.iconst 0, 1) := bdX5_readFeathers_12.2.2.2.2.1
theorem dX5_readFeathers_21 : decode cX5_readFeathers 21 = .ok (.bipush 20, 2) := bdX5_readFeathers_12.2.2.2.2.2.1
theorem dX5_readFeathers_23 : decode cX5_readFeathers 23 = .ok (.invokevirtual 64, 3) := bdX5_readFeathers_12.2.2.2.2.2.2.1
theorem dX5_readFeathers_26 : decode cX5_readFeathers 26 = .ok (.istore_n 3, 1) := bdX5_readFeathers_12.2.2.2.2.2.2.2
theorem bdX5_readFeathers_27 : decode cX5_readFeathers 27 = .ok (.iload_n 3, 1) ∧ decode cX5_readFeathers 28 = .ok (.ifCond .lt 10, 3) ∧ decode cX5_readFeathers 31 = .ok (.aload_n 0, 1) ∧ decode cX5_readFeathers 32 = .ok (.invokevirtual 67, 3) ∧ decode cX5_readFeathers 35 = .ok (.ifCond .ne 5, 3) ∧ decode cX5_readFeathers 38 = .ok (.iconst 0, 1) ∧ decode cX5_readFeathers 39 = .ok (.ireturn, 1) ∧ decode cX5_readFeathers 40 = .ok (.aload_n 1, 1) := by decide +kernel
theorem dX5_readFeathers_27 : decode cX5_readFeathers 27 = .ok (.iload_n 3, 1) := bdX5_readFeathers_27.1
theorem dX5_readFeathers_28 : decode cX5_readFeathers 28 = .ok (.ifCond .lt 10, 3) := bdX5_readFeathers_27.2.1
theorem dX5_readFeathers_31 : decode cX5_readFeathers 31 = .ok (.aload_n 0, 1) := bdX5_readFeathers_27.2.2.1
theorem dX5_readFeathers_32 : decode cX5_readFeathers 32 = .ok (.invokevirtual 67, 3) := bdX5_readFeathers_27.2.2.2.1
theorem dX5_readFeathers_35 : decode cX5_readFeathers 35 = .ok (.ifCond .ne 5, 3) := bdX5_readFeathers_27.2.2.2.2.1
theorem dX5_readFeathers_38 : decode cX5_readFeathers 38 = .ok (.iconst 0, 1) := bdX5_readFeathers_27.2.2.2.2.2.1
theorem dX5_readFeathers_39 : decode cX5_readFeathers 39 = .ok (.ireturn, 1) := bdX5_readFeathers_27.2.2.2.2.2.2.1
theorem dX5_readFeathers_40 : decode cX5_readFeathers 40 = .ok (.aload_n 1, 1) := bdX5_readFeathers_27.2.2.2.2.2.2.2
theorem bdX5_readFeathers_41 : decode cX5_readFeathers 41 = .ok (.getfield 95, 3) ∧ decode cX5_readFeathers 44 = .ok (.iload_n 2, 1) ∧ decode cX5_readFeathers 45 = .ok (.iload_n 3, 1) ∧ decode cX5_readFeathers 46 = .ok (.iastore, 1) ∧ decode cX5_readFeathers 47 = .ok (.iconst 1, 1) ∧ decode cX5_readFeathers 48 = .ok (.ireturn, 1) := by decide +kernel
theorem dX5_readFeathers_41 : decode cX5_readFeathers 41 = .ok (.getfield 95, 3) := bdX5_readFeathers_41.1
theorem dX5_readFeathers_44 : decode cX5_readFeathers 44 = .ok (.iload_n 2, 1) := bdX5_readFeathers_41.2.1
theorem dX5_readFeathers_45 : decode cX5_readFeathers 45 = .ok (.iload_n 3, 1) := bdX5_readFeathers_41.2.2.1
theorem dX5_readFeathers_46 : decode cX5_readFeathers 46 = .ok (.iastore, 1) := bdX5_readFeathers_41.2.2.2.1
theorem dX5_readFeathers_47 : decode cX5_readFeathers 47 = .ok (.iconst 1, 1) := bdX5_readFeathers_41.2.2.2.2.1
theorem dX5_readFeathers_48 : decode cX5_readFeathers 48 = .ok (.ireturn, 1) := bdX5_readFeathers_41.2.2.2.2.2
set_option maxRecDepth 20000 in
set_option maxRecDepth 100000 in
theorem ggX5_takeNumber_X5_step : GoodIn wsX5_takeNumber wsX5_step := goodIn_hd (goodIn_c ch_X5_takeNumber hc_X5_takeNumber ([.code yX5_step cX5_step 1 none] : List Cond) [(1, 6)] rfl (by decide +kernel)) (goodIn_app (goodIn_c ch_X5_takeNumber hc_X5_takeNumber ([.fieldLink RX5 25 "WordFletchers$TextReader" "next" "I", .fieldLink RX5 21 "WordFletchers$TextReader" "length" "I", .fieldLink RX5 9 "WordFletchers$TextReader" "bytes" "[I", .fieldLink RX5 43 "WordFletchers$TextReader" "start" "I", .fieldLink RX5 36 "WordFletchers$TextReader" "sort" "I", .methodLink RX5 98 yX5_sortAt, .instanceMethod yX5_sortAt, .selects RX5 yX5_sortAt yX5_sortAt, .initialized RX5, .code yX5_sortAt cX5_sortAt 3 (some .int), .methodLink RX5 102 yX5_stepOverLetters, .instanceMethod yX5_stepOverLetters, .selects RX5 yX5_stepOverLetters yX5_stepOverLetters, .code yX5_stepOverLetters cX5_stepOverLetters 1 none, .fieldLink RX5 46 "WordFletchers$TextReader" "value" "I", .methodLink RX5 105 yX5_stepOverDigits, .instanceMethod yX5_stepOverDigits, .selects RX5 yX5_stepOverDigits yX5_stepOverDigits, .code yX5_stepOverDigits cX5_stepOverDigits 2 none, .methodLink RX5 15 Lib.Math.min.name, .static Lib.Math.min.name, .initialized "java/lang/Math", .code Lib.Math.min.name Lib.Math.min.code 2 (some .int)] : List Cond) [(1, 7), (1, 8), (1, 9), (1, 10), (1, 0), (1, 11), (1, 12), (1, 13), (1, 5), (1, 14), (1, 15), (1, 16), (1, 17), (1, 18), (1, 1), (1, 19), (1, 20), (1, 21), (1, 22), (1, 23), (2, 0), (2, 1), (2, 2)] rfl (by decide +kernel)) (goodIn_sub (fun _ h => (List.mem_cons_of_mem _ (List.mem_append_right _ h))) gwX5))
set_option maxRecDepth 20000 in
theorem gX5_takeNumber_X5_step : GoodIn wsX5_takeNumber (wsV RX5 33 RX5 yX5_step wsX5_step) := goodIn_app (goodIn_of _ (by decide +kernel)) ggX5_takeNumber_X5_step
theorem bdX5_takeNumber_0 : decode cX5_takeNumber 0 = .ok (.aload_n 0, 1) ∧ decode cX5_takeNumber 1 = .ok (.getfield 36, 3) ∧ decode cX5_takeNumber 4 = .ok (.iconst 2, 1) ∧ decode cX5_takeNumber 5 = .ok (.if_icmp .ne 19, 3) ∧ decode cX5_takeNumber 8 = .ok (.aload_n 0, 1) ∧ decode cX5_takeNumber 9 = .ok (.getfield 46, 3) ∧ decode cX5_takeNumber 12 = .ok (.iload_n 1, 1) ∧ decode cX5_takeNumber 13 = .ok (.if_icmp .lt 11, 3) := by decide +kernel
theorem dX5_takeNumber_0 : decode cX5_takeNumber 0 = .ok (.aload_n 0, 1) := bdX5_takeNumber_0.1
theorem dX5_takeNumber_1 : decode cX5_takeNumber 1 = .ok (.getfield 36, 3) := bdX5_takeNumber_0.2.1
theorem dX5_takeNumber_4 : decode cX5_takeNumber 4 = .ok (.iconst 2, 1) := bdX5_takeNumber_0.2.2.1
theorem dX5_takeNumber_5 : decode cX5_takeNumber 5 = .ok (.if_icmp .ne 19, 3) := bdX5_takeNumber_0.2.2.2.1
theorem dX5_takeNumber_8 : decode cX5_takeNumber 8 = .ok (.aload_n 0, 1) := bdX5_takeNumber_0.2.2.2.2.1
theorem dX5_takeNumber_9 : decode cX5_takeNumber 9 = .ok (.getfield 46, 3) := bdX5_takeNumber_0.2.2.2.2.2.1
theorem dX5_takeNumber_12 : decode cX5_takeNumber 12 = .ok (.iload_n 1, 1) := bdX5_takeNumber_0.2.2.2.2.2.2.1
theorem dX5_takeNumber_13 : decode cX5_takeNumber 13 = .ok (.if_icmp .lt 11, 3) := bdX5_takeNumber_0.2.2.2.2.2.2.2
theorem bdX5_takeNumber_16 : decode cX5_takeNumber 16 = .ok (.aload_n 0, 1) ∧ decode cX5_takeNumber 17 = .ok (.getfield 46, 3) ∧ decode cX5_takeNumber 20 = .ok (.iload_n 2, 1) ∧ decode cX5_takeNumber 21 = .ok (.if_icmp .le 5, 3) ∧ decode cX5_takeNumber 24 = .ok (.iconst (-1), 1) ∧ decode cX5_takeNumber 25 = .ok (.ireturn, 1) ∧ decode cX5_takeNumber 26 = .ok (.aload_n 0, 1) ∧ decode cX5_takeNumber 27 = .ok (.getfield 46, 3) := by decide +kernel
theorem dX5_takeNumber_16 : decode cX5_takeNumber 16 = .ok (.aload_n 0, 1) := bdX5_takeNumber_16.1
theorem dX5_takeNumber_17 : decode cX5_takeNumber 17 = .ok (.getfield 46, 3) := bdX5_takeNumber_16.2.1
theorem dX5_takeNumber_20 : decode cX5_takeNumber 20 = .ok (.iload_n 2, 1) := bdX5_takeNumber_16.2.2.1
theorem dX5_takeNumber_21 : decode cX5_takeNumber 21 = .ok (.if_icmp .le 5, 3) := bdX5_takeNumber_16.2.2.2.1
theorem dX5_takeNumber_24 : decode cX5_takeNumber 24 = .ok (.iconst (-1), 1) := bdX5_takeNumber_16.2.2.2.2.1
theorem dX5_takeNumber_25 : decode cX5_takeNumber 25 = .ok (.ireturn, 1) := bdX5_takeNumber_16.2.2.2.2.2.1
theorem dX5_takeNumber_26 : decode cX5_takeNumber 26 = .ok (.aload_n 0, 1) := bdX5_takeNumber_16.2.2.2.2.2.2.1
theorem dX5_takeNumber_27 : decode cX5_takeNumber 27 = .ok (.getfield 46, 3) := bdX5_takeNumber_16.2.2.2.2.2.2.2
theorem bdX5_takeNumber_30 : decode cX5_takeNumber 30 = .ok (.istore_n 3, 1) ∧ decode cX5_takeNumber 31 = .ok (.aload_n 0, 1) ∧ decode cX5_takeNumber 32 = .ok (.invokevirtual 33, 3) ∧ decode cX5_takeNumber 35 = .ok (.iload_n 3, 1) ∧ decode cX5_takeNumber 36 = .ok (.ireturn, 1) := by decide +kernel
theorem dX5_takeNumber_30 : decode cX5_takeNumber 30 = .ok (.istore_n 3, 1) := bdX5_takeNumber_30.1
theorem dX5_takeNumber_31 : decode cX5_takeNumber 31 = .ok (.aload_n 0, 1) := bdX5_takeNumber_30.2.1
theorem dX5_takeNumber_32 : decode cX5_takeNumber 32 = .ok (.invokevirtual 33, 3) := bdX5_takeNumber_30.2.2.1
theorem dX5_takeNumber_35 : decode cX5_takeNumber 35 = .ok (.iload_n 3, 1) := bdX5_takeNumber_30.2.2.2.1
theorem dX5_takeNumber_36 : decode cX5_takeNumber 36 = .ok (.ireturn, 1) := bdX5_takeNumber_30.2.2.2.2
set_option maxRecDepth 20000 in
set_option maxRecDepth 100000 in
theorem ggX5_takeSemicolon_X5_step : GoodIn wsX5_takeSemicolon wsX5_step := goodIn_hd (goodIn_c ch_X5_takeSemicolon hc_X5_takeSemicolon ([.code yX5_step cX5_step 1 none] : List Cond) [(1, 5)] rfl (by decide +kernel)) (goodIn_app (goodIn_c ch_X5_takeSemicolon hc_X5_takeSemicolon ([.fieldLink RX5 25 "WordFletchers$TextReader" "next" "I", .fieldLink RX5 21 "WordFletchers$TextReader" "length" "I", .fieldLink RX5 9 "WordFletchers$TextReader" "bytes" "[I", .fieldLink RX5 43 "WordFletchers$TextReader" "start" "I", .fieldLink RX5 36 "WordFletchers$TextReader" "sort" "I", .methodLink RX5 98 yX5_sortAt, .instanceMethod yX5_sortAt, .selects RX5 yX5_sortAt yX5_sortAt, .initialized RX5, .code yX5_sortAt cX5_sortAt 3 (some .int), .methodLink RX5 102 yX5_stepOverLetters, .instanceMethod yX5_stepOverLetters, .selects RX5 yX5_stepOverLetters yX5_stepOverLetters, .code yX5_stepOverLetters cX5_stepOverLetters 1 none, .fieldLink RX5 46 "WordFletchers$TextReader" "value" "I", .methodLink RX5 105 yX5_stepOverDigits, .instanceMethod yX5_stepOverDigits, .selects RX5 yX5_stepOverDigits yX5_stepOverDigits, .code yX5_stepOverDigits cX5_stepOverDigits 2 none, .methodLink RX5 15 Lib.Math.min.name, .static Lib.Math.min.name, .initialized "java/lang/Math", .code Lib.Math.min.name Lib.Math.min.code 2 (some .int)] : List Cond) [(1, 6), (1, 7), (1, 8), (1, 9), (1, 0), (1, 10), (1, 11), (1, 12), (1, 4), (1, 13), (1, 14), (1, 15), (1, 16), (1, 17), (1, 18), (1, 19), (1, 20), (1, 21), (1, 22), (1, 23), (2, 0), (2, 1), (2, 2)] rfl (by decide +kernel)) (goodIn_sub (fun _ h => (List.mem_cons_of_mem _ (List.mem_append_right _ h))) gwX5))
set_option maxRecDepth 20000 in
theorem gX5_takeSemicolon_X5_step : GoodIn wsX5_takeSemicolon (wsV RX5 33 RX5 yX5_step wsX5_step) := goodIn_app (goodIn_of _ (by decide +kernel)) ggX5_takeSemicolon_X5_step
theorem bdX5_takeSemicolon_0 : decode cX5_takeSemicolon 0 = .ok (.aload_n 0, 1) ∧ decode cX5_takeSemicolon 1 = .ok (.getfield 36, 3) ∧ decode cX5_takeSemicolon 4 = .ok (.iconst 3, 1) ∧ decode cX5_takeSemicolon 5 = .ok (.if_icmp .eq 5, 3) ∧ decode cX5_takeSemicolon 8 = .ok (.iconst 0, 1) ∧ decode cX5_takeSemicolon 9 = .ok (.ireturn, 1) ∧ decode cX5_takeSemicolon 10 = .ok (.aload_n 0, 1) ∧ decode cX5_takeSemicolon 11 = .ok (.invokevirtual 33, 3) := by decide +kernel
theorem dX5_takeSemicolon_0 : decode cX5_takeSemicolon 0 = .ok (.aload_n 0, 1) := bdX5_takeSemicolon_0.1
theorem dX5_takeSemicolon_1 : decode cX5_takeSemicolon 1 = .ok (.getfield 36, 3) := bdX5_takeSemicolon_0.2.1
theorem dX5_takeSemicolon_4 : decode cX5_takeSemicolon 4 = .ok (.iconst 3, 1) := bdX5_takeSemicolon_0.2.2.1
theorem dX5_takeSemicolon_5 : decode cX5_takeSemicolon 5 = .ok (.if_icmp .eq 5, 3) := bdX5_takeSemicolon_0.2.2.2.1
theorem dX5_takeSemicolon_8 : decode cX5_takeSemicolon 8 = .ok (.iconst 0, 1) := bdX5_takeSemicolon_0.2.2.2.2.1
theorem dX5_takeSemicolon_9 : decode cX5_takeSemicolon 9 = .ok (.ireturn, 1) := bdX5_takeSemicolon_0.2.2.2.2.2.1
theorem dX5_takeSemicolon_10 : decode cX5_takeSemicolon 10 = .ok (.aload_n 0, 1) := bdX5_takeSemicolon_0.2.2.2.2.2.2.1
theorem dX5_takeSemicolon_11 : decode cX5_takeSemicolon 11 = .ok (.invokevirtual 33, 3) := bdX5_takeSemicolon_0.2.2.2.2.2.2.2
theorem bdX5_takeSemicolon_14 : decode cX5_takeSemicolon 14 = .ok (.iconst 1, 1) ∧ decode cX5_takeSemicolon 15 = .ok (.ireturn, 1) := by decide +kernel
theorem dX5_takeSemicolon_14 : decode cX5_takeSemicolon 14 = .ok (.iconst 1, 1) := bdX5_takeSemicolon_14.1
theorem dX5_takeSemicolon_15 : decode cX5_takeSemicolon 15 = .ok (.ireturn, 1) := bdX5_takeSemicolon_14.2
set_option maxRecDepth 20000 in
set_option maxRecDepth 100000 in
theorem ggX5_step_X5_sortAt : GoodIn wsX5_step wsX5_sortAt := goodIn_hd (goodIn_c ch_X5_step hc_X5_step ([.code yX5_sortAt cX5_sortAt 3 (some .int)] : List Cond) [(1, 9)] rfl (by decide +kernel)) (goodIn_app (goodIn_c ch_X5_step hc_X5_step ([.fieldLink RX5 21 "WordFletchers$TextReader" "length" "I", .fieldLink RX5 9 "WordFletchers$TextReader" "bytes" "[I"] : List Cond) [(1, 1), (1, 2)] rfl (by decide +kernel)) (goodIn_sub (fun _ h => (List.mem_cons_of_mem _ (List.mem_append_right _ h))) gwX5))
set_option maxRecDepth 20000 in
theorem gX5_step_X5_sortAt : GoodIn wsX5_step (wsV RX5 98 RX5 yX5_sortAt wsX5_sortAt) := goodIn_app (goodIn_of _ (by decide +kernel)) ggX5_step_X5_sortAt
set_option maxRecDepth 20000 in
set_option maxRecDepth 100000 in
theorem ggX5_step_X5_stepOverLetters : GoodIn wsX5_step wsX5_stepOverLetters := goodIn_hd (goodIn_c ch_X5_step hc_X5_step ([.code yX5_stepOverLetters cX5_stepOverLetters 1 none] : List Cond) [(1, 13)] rfl (by decide +kernel)) (goodIn_app (goodIn_c ch_X5_step hc_X5_step ([.fieldLink RX5 25 "WordFletchers$TextReader" "next" "I", .fieldLink RX5 21 "WordFletchers$TextReader" "length" "I", .fieldLink RX5 43 "WordFletchers$TextReader" "start" "I", .fieldLink RX5 9 "WordFletchers$TextReader" "bytes" "[I", .fieldLink RX5 46 "WordFletchers$TextReader" "value" "I", .methodLink RX5 98 yX5_sortAt, .instanceMethod yX5_sortAt, .selects RX5 yX5_sortAt yX5_sortAt, .initialized RX5, .code yX5_sortAt cX5_sortAt 3 (some .int)] : List Cond) [(1, 0), (1, 1), (1, 3), (1, 2), (1, 14), (1, 5), (1, 6), (1, 7), (1, 8), (1, 9)] rfl (by decide +kernel)) (goodIn_sub (fun _ h => (List.mem_cons_of_mem _ (List.mem_append_right _ h))) gwX5))
set_option maxRecDepth 20000 in
theorem gX5_step_X5_stepOverLetters : GoodIn wsX5_step (wsV RX5 102 RX5 yX5_stepOverLetters wsX5_stepOverLetters) := goodIn_app (goodIn_of _ (by decide +kernel)) ggX5_step_X5_stepOverLetters
set_option maxRecDepth 20000 in
set_option maxRecDepth 100000 in
theorem ggX5_step_X5_stepOverDigits : GoodIn wsX5_step wsX5_stepOverDigits := goodIn_hd (goodIn_c ch_X5_step hc_X5_step ([.code yX5_stepOverDigits cX5_stepOverDigits 2 none] : List Cond) [(1, 18)] rfl (by decide +kernel)) (goodIn_app (goodIn_c ch_X5_step hc_X5_step ([.fieldLink RX5 46 "WordFletchers$TextReader" "value" "I", .fieldLink RX5 25 "WordFletchers$TextReader" "next" "I", .fieldLink RX5 21 "WordFletchers$TextReader" "length" "I", .fieldLink RX5 9 "WordFletchers$TextReader" "bytes" "[I", .methodLink RX5 15 Lib.Math.min.name, .static Lib.Math.min.name, .initialized "java/lang/Math", .code Lib.Math.min.name Lib.Math.min.code 2 (some .int), .fieldLink RX5 43 "WordFletchers$TextReader" "start" "I", .fieldLink RX5 36 "WordFletchers$TextReader" "sort" "I", .methodLink RX5 98 yX5_sortAt, .instanceMethod yX5_sortAt, .selects RX5 yX5_sortAt yX5_sortAt, .initialized RX5, .code yX5_sortAt cX5_sortAt 3 (some .int)] : List Cond) [(1, 14), (1, 0), (1, 1), (1, 2), (1, 19), (1, 20), (1, 21), (1, 22), (1, 3), (1, 4), (1, 5), (1, 6), (1, 7), (1, 8), (1, 9)] rfl (by decide +kernel)) (goodIn_sub (fun _ h => (List.mem_cons_of_mem _ (List.mem_append_right _ h))) gwX5))
set_option maxRecDepth 20000 in
theorem gX5_step_X5_stepOverDigits : GoodIn wsX5_step (wsV RX5 105 RX5 yX5_stepOverDigits wsX5_stepOverDigits) := goodIn_app (goodIn_of _ (by decide +kernel)) ggX5_step_X5_stepOverDigits
theorem bdX5_step_0 : decode cX5_step 0 = .ok (.aload_n 0, 1) ∧ decode cX5_step 1 = .ok (.getfield 25, 3) ∧ decode cX5_step 4 = .ok (.aload_n 0, 1) ∧ decode cX5_step 5 = .ok (.getfield 21, 3) ∧ decode cX5_step 8 = .ok (.if_icmp .ge 30, 3) ∧ decode cX5_step 11 = .ok (.aload_n 0, 1) ∧ decode cX5_step 12 = .ok (.getfield 9, 3) ∧ decode cX5_step 15 = .ok (.aload_n 0, 1) := by decide +kernel
theorem dX5_step_0 : decode cX5_step 0 = .ok (.aload_n 0, 1) := bdX5_step_0.1
theorem dX5_step_1 : decode cX5_step 1 = .ok (.getfield 25, 3) := bdX5_step_0.2.1
theorem dX5_step_4 : decode cX5_step 4 = .ok (.aload_n 0, 1) := bdX5_step_0.2.2.1
theorem dX5_step_5 : decode cX5_step 5 = .ok (.getfield 21, 3) := bdX5_step_0.2.2.2.1
theorem dX5_step_8 : decode cX5_step 8 = .ok (.if_icmp .ge 30, 3) := bdX5_step_0.2.2.2.2.1
theorem dX5_step_11 : decode cX5_step 11 = .ok (.aload_n 0, 1) := bdX5_step_0.2.2.2.2.2.1
theorem dX5_step_12 : decode cX5_step 12 = .ok (.getfield 9, 3) := bdX5_step_0.2.2.2.2.2.2.1
theorem dX5_step_15 : decode cX5_step 15 = .ok (.aload_n 0, 1) := bdX5_step_0.2.2.2.2.2.2.2
theorem bdX5_step_16 : decode cX5_step 16 = .ok (.getfield 25, 3) ∧ decode cX5_step 19 = .ok (.iaload, 1) ∧ decode cX5_step 20 = .ok (.bipush 32, 2) ∧ decode cX5_step 22 = .ok (.if_icmp .ne 16, 3) ∧ decode cX5_step 25 = .ok (.aload_n 0, 1) ∧ decode cX5_step 26 = .ok (.dup, 1) ∧ decode cX5_step 27 = .ok (.getfield 25, 3) ∧ decode cX5_step 30 = .ok (.iconst 1, 1) := by decide +kernel
theorem dX5_step_16 : decode cX5_step 16 = .ok (.getfield 25, 3) := bdX5_step_16.1
theorem dX5_step_19 : decode cX5_step 19 = .ok (.iaload, 1) := bdX5_step_16.2.1
theorem dX5_step_20 : decode cX5_step 20 = .ok (.bipush 32, 2) := bdX5_step_16.2.2.1
theorem dX5_step_22 : decode cX5_step 22 = .ok (.if_icmp .ne 16, 3) := bdX5_step_16.2.2.2.1
theorem dX5_step_25 : decode cX5_step 25 = .ok (.aload_n 0, 1) := bdX5_step_16.2.2.2.2.1
theorem dX5_step_26 : decode cX5_step 26 = .ok (.dup, 1) := bdX5_step_16.2.2.2.2.2.1
theorem dX5_step_27 : decode cX5_step 27 = .ok (.getfield 25, 3) := bdX5_step_16.2.2.2.2.2.2.1
theorem dX5_step_30 : decode cX5_step 30 = .ok (.iconst 1, 1) := bdX5_step_16.2.2.2.2.2.2.2
theorem bdX5_step_31 : decode cX5_step 31 = .ok (.iadd, 1) ∧ decode cX5_step 32 = .ok (.putfield 25, 3) ∧ decode cX5_step 35 = .ok (.goto (-35), 3) ∧ decode cX5_step 38 = .ok (.aload_n 0, 1) ∧ decode cX5_step 39 = .ok (.aload_n 0, 1) ∧ decode cX5_step 40 = .ok (.getfield 25, 3) ∧ decode cX5_step 43 = .ok (.putfield 43, 3) ∧ decode cX5_step 46 = .ok (.aload_n 0, 1) := by decide +kernel
theorem dX5_step_31 : decode cX5_step 31 = .ok (.iadd, 1) := bdX5_step_31.1
theorem dX5_step_32 : decode cX5_step 32 = .ok (.putfield 25, 3) := bdX5_step_31.2.1
theorem dX5_step_35 : decode cX5_step 35 = .ok (.goto (-35), 3) := bdX5_step_31.2.2.1
theorem dX5_step_38 : decode cX5_step 38 = .ok (.aload_n 0, 1) := bdX5_step_31.2.2.2.1
theorem dX5_step_39 : decode cX5_step 39 = .ok (.aload_n 0, 1) := bdX5_step_31.2.2.2.2.1
theorem dX5_step_40 : decode cX5_step 40 = .ok (.getfield 25, 3) := bdX5_step_31.2.2.2.2.2.1
theorem dX5_step_43 : decode cX5_step 43 = .ok (.putfield 43, 3) := bdX5_step_31.2.2.2.2.2.2.1
theorem dX5_step_46 : decode cX5_step 46 = .ok (.aload_n 0, 1) := bdX5_step_31.2.2.2.2.2.2.2
theorem bdX5_step_47 : decode cX5_step 47 = .ok (.aload_n 0, 1) ∧ decode cX5_step 48 = .ok (.aload_n 0, 1) ∧ decode cX5_step 49 = .ok (.getfield 25, 3) ∧ decode cX5_step 52 = .ok (.invokevirtual 98, 3) ∧ decode cX5_step 55 = .ok (.putfield 36, 3) ∧ decode cX5_step 58 = .ok (.aload_n 0, 1) ∧ decode cX5_step 59 = .ok (.getfield 36, 3) ∧ decode cX5_step 62 = .ok (.iconst 1, 1) := by decide +kernel
theorem dX5_step_47 : decode cX5_step 47 = .ok (.aload_n 0, 1) := bdX5_step_47.1
theorem dX5_step_48 : decode cX5_step 48 = .ok (.aload_n 0, 1) := bdX5_step_47.2.1
theorem dX5_step_49 : decode cX5_step 49 = .ok (.getfield 25, 3) := bdX5_step_47.2.2.1
theorem dX5_step_52 : decode cX5_step 52 = .ok (.invokevirtual 98, 3) := bdX5_step_47.2.2.2.1
theorem dX5_step_55 : decode cX5_step 55 = .ok (.putfield 36, 3) := bdX5_step_47.2.2.2.2.1
theorem dX5_step_58 : decode cX5_step 58 = .ok (.aload_n 0, 1) := bdX5_step_47.2.2.2.2.2.1
theorem dX5_step_59 : decode cX5_step 59 = .ok (.getfield 36, 3) := bdX5_step_47.2.2.2.2.2.2.1
theorem dX5_step_62 : decode cX5_step 62 = .ok (.iconst 1, 1) := bdX5_step_47.2.2.2.2.2.2.2
theorem bdX5_step_63 : decode cX5_step 63 = .ok (.if_icmp .ne 10, 3) ∧ decode cX5_step 66 = .ok (.aload_n 0, 1) ∧ decode cX5_step 67 = .ok (.invokevirtual 102, 3) ∧ decode cX5_step 70 = .ok (.goto 35, 3) ∧ decode cX5_step 73 = .ok (.aload_n 0, 1) ∧ decode cX5_step 74 = .ok (.getfield 36, 3) ∧ decode cX5_step 77 = .ok (.iconst 2, 1) ∧ decode cX5_step 78 = .ok (.if_icmp .ne 10, 3) := by decide +kernel
theorem dX5_step_63 : decode cX5_step 63 = .ok (.if_icmp .ne 10, 3) := bdX5_step_63.1
theorem dX5_step_66 : decode cX5_step 66 = .ok (.aload_n 0, 1) := bdX5_step_63.2.1
theorem dX5_step_67 : decode cX5_step 67 = .ok (.invokevirtual 102, 3) := bdX5_step_63.2.2.1
theorem dX5_step_70 : decode cX5_step 70 = .ok (.goto 35, 3) := bdX5_step_63.2.2.2.1
theorem dX5_step_73 : decode cX5_step 73 = .ok (.aload_n 0, 1) := bdX5_step_63.2.2.2.2.1
theorem dX5_step_74 : decode cX5_step 74 = .ok (.getfield 36, 3) := bdX5_step_63.2.2.2.2.2.1
theorem dX5_step_77 : decode cX5_step 77 = .ok (.iconst 2, 1) := bdX5_step_63.2.2.2.2.2.2.1
theorem dX5_step_78 : decode cX5_step 78 = .ok (.if_icmp .ne 10, 3) := bdX5_step_63.2.2.2.2.2.2.2
theorem bdX5_step_81 : decode cX5_step 81 = .ok (.aload_n 0, 1) ∧ decode cX5_step 82 = .ok (.invokevirtual 105, 3) ∧ decode cX5_step 85 = .ok (.goto 20, 3) ∧ decode cX5_step 88 = .ok (.aload_n 0, 1) ∧ decode cX5_step 89 = .ok (.getfield 36, 3) ∧ decode cX5_step 92 = .ok (.ifCond .eq 13, 3) ∧ decode cX5_step 95 = .ok (.aload_n 0, 1) ∧ decode cX5_step 96 = .ok (.dup, 1) := by decide +kernel
theorem dX5_step_81 : decode cX5_step 81 = .ok (.aload_n 0, 1) := bdX5_step_81.1
theorem dX5_step_82 : decode cX5_step 82 = .ok (.invokevirtual 105, 3) := bdX5_step_81.2.1
theorem dX5_step_85 : decode cX5_step 85 = .ok (.goto 20, 3) := bdX5_step_81.2.2.1
theorem dX5_step_88 : decode cX5_step 88 = .ok (.aload_n 0, 1) := bdX5_step_81.2.2.2.1
theorem dX5_step_89 : decode cX5_step 89 = .ok (.getfield 36, 3) := bdX5_step_81.2.2.2.2.1
theorem dX5_step_92 : decode cX5_step 92 = .ok (.ifCond .eq 13, 3) := bdX5_step_81.2.2.2.2.2.1
theorem dX5_step_95 : decode cX5_step 95 = .ok (.aload_n 0, 1) := bdX5_step_81.2.2.2.2.2.2.1
theorem dX5_step_96 : decode cX5_step 96 = .ok (.dup, 1) := bdX5_step_81.2.2.2.2.2.2.2
theorem bdX5_step_97 : decode cX5_step 97 = .ok (.getfield 25, 3) ∧ decode cX5_step 100 = .ok (.iconst 1, 1) ∧ decode cX5_step 101 = .ok (.iadd, 1) ∧ decode cX5_step 102 = .ok (.putfield 25, 3) ∧ decode cX5_step 105 = .ok (.return_, 1) := by decide +kernel
theorem dX5_step_97 : decode cX5_step 97 = .ok (.getfield 25, 3) := bdX5_step_97.1
theorem dX5_step_100 : decode cX5_step 100 = .ok (.iconst 1, 1) := bdX5_step_97.2.1
theorem dX5_step_101 : decode cX5_step 101 = .ok (.iadd, 1) := bdX5_step_97.2.2.1
theorem dX5_step_102 : decode cX5_step 102 = .ok (.putfield 25, 3) := bdX5_step_97.2.2.2.1
theorem dX5_step_105 : decode cX5_step 105 = .ok (.return_, 1) := bdX5_step_97.2.2.2.2
set_option maxRecDepth 20000 in
set_option maxRecDepth 100000 in
theorem ggX5_stepOverLetters_X5_sortAt : GoodIn wsX5_stepOverLetters wsX5_sortAt := goodIn_hd (goodIn_c ch_X5_stepOverLetters hc_X5_stepOverLetters ([.code yX5_sortAt cX5_sortAt 3 (some .int)] : List Cond) [(1, 9)] rfl (by decide +kernel)) (goodIn_app (goodIn_c ch_X5_stepOverLetters hc_X5_stepOverLetters ([.fieldLink RX5 21 "WordFletchers$TextReader" "length" "I", .fieldLink RX5 9 "WordFletchers$TextReader" "bytes" "[I"] : List Cond) [(1, 1), (1, 3)] rfl (by decide +kernel)) (goodIn_sub (fun _ h => (List.mem_cons_of_mem _ (List.mem_append_right _ h))) gwX5))
set_option maxRecDepth 20000 in
theorem gX5_stepOverLetters_X5_sortAt : GoodIn wsX5_stepOverLetters (wsV RX5 98 RX5 yX5_sortAt wsX5_sortAt) := goodIn_app (goodIn_of _ (by decide +kernel)) ggX5_stepOverLetters_X5_sortAt
theorem bdX5_stepOverLetters_0 : decode cX5_stepOverLetters 0 = .ok (.aload_n 0, 1) ∧ decode cX5_stepOverLetters 1 = .ok (.getfield 25, 3) ∧ decode cX5_stepOverLetters 4 = .ok (.aload_n 0, 1) ∧ decode cX5_stepOverLetters 5 = .ok (.getfield 21, 3) ∧ decode cX5_stepOverLetters 8 = .ok (.if_icmp .ge 28, 3) ∧ decode cX5_stepOverLetters 11 = .ok (.aload_n 0, 1) ∧ decode cX5_stepOverLetters 12 = .ok (.aload_n 0, 1) ∧ decode cX5_stepOverLetters 13 = .ok (.getfield 25, 3) := by decide +kernel
theorem dX5_stepOverLetters_0 : decode cX5_stepOverLetters 0 = .ok (.aload_n 0, 1) := bdX5_stepOverLetters_0.1
theorem dX5_stepOverLetters_1 : decode cX5_stepOverLetters 1 = .ok (.getfield 25, 3) := bdX5_stepOverLetters_0.2.1
theorem dX5_stepOverLetters_4 : decode cX5_stepOverLetters 4 = .ok (.aload_n 0, 1) := bdX5_stepOverLetters_0.2.2.1
theorem dX5_stepOverLetters_5 : decode cX5_stepOverLetters 5 = .ok (.getfield 21, 3) := bdX5_stepOverLetters_0.2.2.2.1
theorem dX5_stepOverLetters_8 : decode cX5_stepOverLetters 8 = .ok (.if_icmp .ge 28, 3) := bdX5_stepOverLetters_0.2.2.2.2.1
theorem dX5_stepOverLetters_11 : decode cX5_stepOverLetters 11 = .ok (.aload_n 0, 1) := bdX5_stepOverLetters_0.2.2.2.2.2.1
theorem dX5_stepOverLetters_12 : decode cX5_stepOverLetters 12 = .ok (.aload_n 0, 1) := bdX5_stepOverLetters_0.2.2.2.2.2.2.1
theorem dX5_stepOverLetters_13 : decode cX5_stepOverLetters 13 = .ok (.getfield 25, 3) := bdX5_stepOverLetters_0.2.2.2.2.2.2.2
theorem bdX5_stepOverLetters_16 : decode cX5_stepOverLetters 16 = .ok (.invokevirtual 98, 3) ∧ decode cX5_stepOverLetters 19 = .ok (.iconst 1, 1) ∧ decode cX5_stepOverLetters 20 = .ok (.if_icmp .ne 16, 3) ∧ decode cX5_stepOverLetters 23 = .ok (.aload_n 0, 1) ∧ decode cX5_stepOverLetters 24 = .ok (.dup, 1) ∧ decode cX5_stepOverLetters 25 = .ok (.getfield 25, 3) ∧ decode cX5_stepOverLetters 28 = .ok (.iconst 1, 1) ∧ decode cX5_stepOverLetters 29 = .ok (.iadd, 1) := by decide +kernel
theorem dX5_stepOverLetters_16 : decode cX5_stepOverLetters 16 = .ok (.invokevirtual 98, 3) := bdX5_stepOverLetters_16.1
theorem dX5_stepOverLetters_19 : decode cX5_stepOverLetters 19 = .ok (.iconst 1, 1) := bdX5_stepOverLetters_16.2.1
theorem dX5_stepOverLetters_20 : decode cX5_stepOverLetters 20 = .ok (.if_icmp .ne 16, 3) := bdX5_stepOverLetters_16.2.2.1
theorem dX5_stepOverLetters_23 : decode cX5_stepOverLetters 23 = .ok (.aload_n 0, 1) := bdX5_stepOverLetters_16.2.2.2.1
theorem dX5_stepOverLetters_24 : decode cX5_stepOverLetters 24 = .ok (.dup, 1) := bdX5_stepOverLetters_16.2.2.2.2.1
theorem dX5_stepOverLetters_25 : decode cX5_stepOverLetters 25 = .ok (.getfield 25, 3) := bdX5_stepOverLetters_16.2.2.2.2.2.1
theorem dX5_stepOverLetters_28 : decode cX5_stepOverLetters 28 = .ok (.iconst 1, 1) := bdX5_stepOverLetters_16.2.2.2.2.2.2.1
theorem dX5_stepOverLetters_29 : decode cX5_stepOverLetters 29 = .ok (.iadd, 1) := bdX5_stepOverLetters_16.2.2.2.2.2.2.2
theorem bdX5_stepOverLetters_30 : decode cX5_stepOverLetters 30 = .ok (.putfield 25, 3) ∧ decode cX5_stepOverLetters 33 = .ok (.goto (-33), 3) ∧ decode cX5_stepOverLetters 36 = .ok (.aload_n 0, 1) ∧ decode cX5_stepOverLetters 37 = .ok (.aload_n 0, 1) ∧ decode cX5_stepOverLetters 38 = .ok (.getfield 25, 3) ∧ decode cX5_stepOverLetters 41 = .ok (.aload_n 0, 1) ∧ decode cX5_stepOverLetters 42 = .ok (.getfield 43, 3) ∧ decode cX5_stepOverLetters 45 = .ok (.isub, 1) := by decide +kernel
theorem dX5_stepOverLetters_30 : decode cX5_stepOverLetters 30 = .ok (.putfield 25, 3) := bdX5_stepOverLetters_30.1
theorem dX5_stepOverLetters_33 : decode cX5_stepOverLetters 33 = .ok (.goto (-33), 3) := bdX5_stepOverLetters_30.2.1
theorem dX5_stepOverLetters_36 : decode cX5_stepOverLetters 36 = .ok (.aload_n 0, 1) := bdX5_stepOverLetters_30.2.2.1
theorem dX5_stepOverLetters_37 : decode cX5_stepOverLetters 37 = .ok (.aload_n 0, 1) := bdX5_stepOverLetters_30.2.2.2.1
theorem dX5_stepOverLetters_38 : decode cX5_stepOverLetters 38 = .ok (.getfield 25, 3) := bdX5_stepOverLetters_30.2.2.2.2.1
theorem dX5_stepOverLetters_41 : decode cX5_stepOverLetters 41 = .ok (.aload_n 0, 1) := bdX5_stepOverLetters_30.2.2.2.2.2.1
theorem dX5_stepOverLetters_42 : decode cX5_stepOverLetters 42 = .ok (.getfield 43, 3) := bdX5_stepOverLetters_30.2.2.2.2.2.2.1
theorem dX5_stepOverLetters_45 : decode cX5_stepOverLetters 45 = .ok (.isub, 1) := bdX5_stepOverLetters_30.2.2.2.2.2.2.2
theorem bdX5_stepOverLetters_46 : decode cX5_stepOverLetters 46 = .ok (.iconst 1, 1) ∧ decode cX5_stepOverLetters 47 = .ok (.if_icmp .ne 15, 3) ∧ decode cX5_stepOverLetters 50 = .ok (.aload_n 0, 1) ∧ decode cX5_stepOverLetters 51 = .ok (.getfield 9, 3) ∧ decode cX5_stepOverLetters 54 = .ok (.aload_n 0, 1) ∧ decode cX5_stepOverLetters 55 = .ok (.getfield 43, 3) ∧ decode cX5_stepOverLetters 58 = .ok (.iaload, 1) ∧ decode cX5_stepOverLetters 59 = .ok (.goto 4, 3) := by decide +kernel
theorem dX5_stepOverLetters_46 : decode cX5_stepOverLetters 46 = .ok (.iconst 1, 1) := bdX5_stepOverLetters_46.1
theorem dX5_stepOverLetters_47 : decode cX5_stepOverLetters 47 = .ok (.if_icmp .ne 15, 3) := bdX5_stepOverLetters_46.2.1
theorem dX5_stepOverLetters_50 : decode cX5_stepOverLetters 50 = .ok (.aload_n 0, 1) := bdX5_stepOverLetters_46.2.2.1
theorem dX5_stepOverLetters_51 : decode cX5_stepOverLetters 51 = .ok (.getfield 9, 3) := bdX5_stepOverLetters_46.2.2.2.1
theorem dX5_stepOverLetters_54 : decode cX5_stepOverLetters 54 = .ok (.aload_n 0, 1) := bdX5_stepOverLetters_46.2.2.2.2.1
theorem dX5_stepOverLetters_55 : decode cX5_stepOverLetters 55 = .ok (.getfield 43, 3) := bdX5_stepOverLetters_46.2.2.2.2.2.1
theorem dX5_stepOverLetters_58 : decode cX5_stepOverLetters 58 = .ok (.iaload, 1) := bdX5_stepOverLetters_46.2.2.2.2.2.2.1
theorem dX5_stepOverLetters_59 : decode cX5_stepOverLetters 59 = .ok (.goto 4, 3) := bdX5_stepOverLetters_46.2.2.2.2.2.2.2
theorem bdX5_stepOverLetters_62 : decode cX5_stepOverLetters 62 = .ok (.iconst 0, 1) ∧ decode cX5_stepOverLetters 63 = .ok (.putfield 46, 3) ∧ decode cX5_stepOverLetters 66 = .ok (.return_, 1) := by decide +kernel
theorem dX5_stepOverLetters_62 : decode cX5_stepOverLetters 62 = .ok (.iconst 0, 1) := bdX5_stepOverLetters_62.1
theorem dX5_stepOverLetters_63 : decode cX5_stepOverLetters 63 = .ok (.putfield 46, 3) := bdX5_stepOverLetters_62.2.1
theorem dX5_stepOverLetters_66 : decode cX5_stepOverLetters 66 = .ok (.return_, 1) := bdX5_stepOverLetters_62.2.2
set_option maxRecDepth 20000 in
set_option maxRecDepth 100000 in
theorem ggX5_stepOverDigits_X5_sortAt : GoodIn wsX5_stepOverDigits wsX5_sortAt := goodIn_hd (goodIn_c ch_X5_stepOverDigits hc_X5_stepOverDigits ([.code yX5_sortAt cX5_sortAt 3 (some .int)] : List Cond) [(1, 14)] rfl (by decide +kernel)) (goodIn_app (goodIn_c ch_X5_stepOverDigits hc_X5_stepOverDigits ([.fieldLink RX5 21 "WordFletchers$TextReader" "length" "I", .fieldLink RX5 9 "WordFletchers$TextReader" "bytes" "[I"] : List Cond) [(1, 2), (1, 3)] rfl (by decide +kernel)) (goodIn_sub (fun _ h => (List.mem_cons_of_mem _ (List.mem_append_right _ h))) gwX5))
set_option maxRecDepth 20000 in
theorem gX5_stepOverDigits_X5_sortAt : GoodIn wsX5_stepOverDigits (wsV RX5 98 RX5 yX5_sortAt wsX5_sortAt) := goodIn_app (goodIn_of _ (by decide +kernel)) ggX5_stepOverDigits_X5_sortAt
theorem bdX5_stepOverDigits_0 : decode cX5_stepOverDigits 0 = .ok (.aload_n 0, 1) ∧ decode cX5_stepOverDigits 1 = .ok (.iconst 0, 1) ∧ decode cX5_stepOverDigits 2 = .ok (.putfield 46, 3) ∧ decode cX5_stepOverDigits 5 = .ok (.aload_n 0, 1) ∧ decode cX5_stepOverDigits 6 = .ok (.getfield 25, 3) ∧ decode cX5_stepOverDigits 9 = .ok (.aload_n 0, 1) ∧ decode cX5_stepOverDigits 10 = .ok (.getfield 21, 3) ∧ decode cX5_stepOverDigits 13 = .ok (.if_icmp .ge 57, 3) := by decide +kernel
theorem dX5_stepOverDigits_0 : decode cX5_stepOverDigits 0 = .ok (.aload_n 0, 1) := bdX5_stepOverDigits_0.1
theorem dX5_stepOverDigits_1 : decode cX5_stepOverDigits 1 = .ok (.iconst 0, 1) := bdX5_stepOverDigits_0.2.1
theorem dX5_stepOverDigits_2 : decode cX5_stepOverDigits 2 = .ok (.putfield 46, 3) := bdX5_stepOverDigits_0.2.2.1
theorem dX5_stepOverDigits_5 : decode cX5_stepOverDigits 5 = .ok (.aload_n 0, 1) := bdX5_stepOverDigits_0.2.2.2.1
theorem dX5_stepOverDigits_6 : decode cX5_stepOverDigits 6 = .ok (.getfield 25, 3) := bdX5_stepOverDigits_0.2.2.2.2.1
theorem dX5_stepOverDigits_9 : decode cX5_stepOverDigits 9 = .ok (.aload_n 0, 1) := bdX5_stepOverDigits_0.2.2.2.2.2.1
theorem dX5_stepOverDigits_10 : decode cX5_stepOverDigits 10 = .ok (.getfield 21, 3) := bdX5_stepOverDigits_0.2.2.2.2.2.2.1
theorem dX5_stepOverDigits_13 : decode cX5_stepOverDigits 13 = .ok (.if_icmp .ge 57, 3) := bdX5_stepOverDigits_0.2.2.2.2.2.2.2
theorem bdX5_stepOverDigits_16 : decode cX5_stepOverDigits 16 = .ok (.aload_n 0, 1) ∧ decode cX5_stepOverDigits 17 = .ok (.aload_n 0, 1) ∧ decode cX5_stepOverDigits 18 = .ok (.getfield 25, 3) ∧ decode cX5_stepOverDigits 21 = .ok (.invokevirtual 98, 3) ∧ decode cX5_stepOverDigits 24 = .ok (.iconst 2, 1) ∧ decode cX5_stepOverDigits 25 = .ok (.if_icmp .ne 45, 3) ∧ decode cX5_stepOverDigits 28 = .ok (.aload_n 0, 1) ∧ decode cX5_stepOverDigits 29 = .ok (.bipush 100, 2) := by decide +kernel
theorem dX5_stepOverDigits_16 : decode cX5_stepOverDigits 16 = .ok (.aload_n 0, 1) := bdX5_stepOverDigits_16.1
theorem dX5_stepOverDigits_17 : decode cX5_stepOverDigits 17 = .ok (.aload_n 0, 1) := bdX5_stepOverDigits_16.2.1
theorem dX5_stepOverDigits_18 : decode cX5_stepOverDigits 18 = .ok (.getfield 25, 3) := bdX5_stepOverDigits_16.2.2.1
theorem dX5_stepOverDigits_21 : decode cX5_stepOverDigits 21 = .ok (.invokevirtual 98, 3) := bdX5_stepOverDigits_16.2.2.2.1
theorem dX5_stepOverDigits_24 : decode cX5_stepOverDigits 24 = .ok (.iconst 2, 1) := bdX5_stepOverDigits_16.2.2.2.2.1
theorem dX5_stepOverDigits_25 : decode cX5_stepOverDigits 25 = .ok (.if_icmp .ne 45, 3) := bdX5_stepOverDigits_16.2.2.2.2.2.1
theorem dX5_stepOverDigits_28 : decode cX5_stepOverDigits 28 = .ok (.aload_n 0, 1) := bdX5_stepOverDigits_16.2.2.2.2.2.2.1
theorem dX5_stepOverDigits_29 : decode cX5_stepOverDigits 29 = .ok (.bipush 100, 2) := bdX5_stepOverDigits_16.2.2.2.2.2.2.2
theorem bdX5_stepOverDigits_31 : decode cX5_stepOverDigits 31 = .ok (.aload_n 0, 1) ∧ decode cX5_stepOverDigits 32 = .ok (.getfield 46, 3) ∧ decode cX5_stepOverDigits 35 = .ok (.bipush 10, 2) ∧ decode cX5_stepOverDigits 37 = .ok (.imul, 1) ∧ decode cX5_stepOverDigits 38 = .ok (.aload_n 0, 1) ∧ decode cX5_stepOverDigits 39 = .ok (.getfield 9, 3) ∧ decode cX5_stepOverDigits 42 = .ok (.aload_n 0, 1) ∧ decode cX5_stepOverDigits 43 = .ok (.getfield 25, 3) := by decide +kernel
theorem dX5_stepOverDigits_31 : decode cX5_stepOverDigits 31 = .ok (.aload_n 0, 1) := bdX5_stepOverDigits_31.1
theorem dX5_stepOverDigits_32 : decode cX5_stepOverDigits 32 = .ok (.getfield 46, 3) := bdX5_stepOverDigits_31.2.1
theorem dX5_stepOverDigits_35 : decode cX5_stepOverDigits 35 = .ok (.bipush 10, 2) := bdX5_stepOverDigits_31.2.2.1
theorem dX5_stepOverDigits_37 : decode cX5_stepOverDigits 37 = .ok (.imul, 1) := bdX5_stepOverDigits_31.2.2.2.1
theorem dX5_stepOverDigits_38 : decode cX5_stepOverDigits 38 = .ok (.aload_n 0, 1) := bdX5_stepOverDigits_31.2.2.2.2.1
theorem dX5_stepOverDigits_39 : decode cX5_stepOverDigits 39 = .ok (.getfield 9, 3) := bdX5_stepOverDigits_31.2.2.2.2.2.1
theorem dX5_stepOverDigits_42 : decode cX5_stepOverDigits 42 = .ok (.aload_n 0, 1) := bdX5_stepOverDigits_31.2.2.2.2.2.2.1
theorem dX5_stepOverDigits_43 : decode cX5_stepOverDigits 43 = .ok (.getfield 25, 3) := bdX5_stepOverDigits_31.2.2.2.2.2.2.2
theorem bdX5_stepOverDigits_46 : decode cX5_stepOverDigits 46 = .ok (.iaload, 1) ∧ decode cX5_stepOverDigits 47 = .ok (.iadd, 1) ∧ decode cX5_stepOverDigits 48 = .ok (.bipush 48, 2) ∧ decode cX5_stepOverDigits 50 = .ok (.isub, 1) ∧ decode cX5_stepOverDigits 51 = .ok (.invokestatic 15, 3) ∧ decode cX5_stepOverDigits 54 = .ok (.putfield 46, 3) ∧ decode cX5_stepOverDigits 57 = .ok (.aload_n 0, 1) ∧ decode cX5_stepOverDigits 58 = .ok (.dup, 1) := by decide +kernel
theorem dX5_stepOverDigits_46 : decode cX5_stepOverDigits 46 = .ok (.iaload, 1) := bdX5_stepOverDigits_46.1
theorem dX5_stepOverDigits_47 : decode cX5_stepOverDigits 47 = .ok (.iadd, 1) := bdX5_stepOverDigits_46.2.1
theorem dX5_stepOverDigits_48 : decode cX5_stepOverDigits 48 = .ok (.bipush 48, 2) := bdX5_stepOverDigits_46.2.2.1
theorem dX5_stepOverDigits_50 : decode cX5_stepOverDigits 50 = .ok (.isub, 1) := bdX5_stepOverDigits_46.2.2.2.1
theorem dX5_stepOverDigits_51 : decode cX5_stepOverDigits 51 = .ok (.invokestatic 15, 3) := bdX5_stepOverDigits_46.2.2.2.2.1
theorem dX5_stepOverDigits_54 : decode cX5_stepOverDigits 54 = .ok (.putfield 46, 3) := bdX5_stepOverDigits_46.2.2.2.2.2.1
theorem dX5_stepOverDigits_57 : decode cX5_stepOverDigits 57 = .ok (.aload_n 0, 1) := bdX5_stepOverDigits_46.2.2.2.2.2.2.1
theorem dX5_stepOverDigits_58 : decode cX5_stepOverDigits 58 = .ok (.dup, 1) := bdX5_stepOverDigits_46.2.2.2.2.2.2.2
theorem bdX5_stepOverDigits_59 : decode cX5_stepOverDigits 59 = .ok (.getfield 25, 3) ∧ decode cX5_stepOverDigits 62 = .ok (.iconst 1, 1) ∧ decode cX5_stepOverDigits 63 = .ok (.iadd, 1) ∧ decode cX5_stepOverDigits 64 = .ok (.putfield 25, 3) ∧ decode cX5_stepOverDigits 67 = .ok (.goto (-62), 3) ∧ decode cX5_stepOverDigits 70 = .ok (.aload_n 0, 1) ∧ decode cX5_stepOverDigits 71 = .ok (.getfield 9, 3) ∧ decode cX5_stepOverDigits 74 = .ok (.aload_n 0, 1) := by decide +kernel
theorem dX5_stepOverDigits_59 : decode cX5_stepOverDigits 59 = .ok (.getfield 25, 3) := bdX5_stepOverDigits_59.1
theorem dX5_stepOverDigits_62 : decode cX5_stepOverDigits 62 = .ok (.iconst 1, 1) := bdX5_stepOverDigits_59.2.1
theorem dX5_stepOverDigits_63 : decode cX5_stepOverDigits 63 = .ok (.iadd, 1) := bdX5_stepOverDigits_59.2.2.1
theorem dX5_stepOverDigits_64 : decode cX5_stepOverDigits 64 = .ok (.putfield 25, 3) := bdX5_stepOverDigits_59.2.2.2.1
theorem dX5_stepOverDigits_67 : decode cX5_stepOverDigits 67 = .ok (.goto (-62), 3) := bdX5_stepOverDigits_59.2.2.2.2.1
theorem dX5_stepOverDigits_70 : decode cX5_stepOverDigits 70 = .ok (.aload_n 0, 1) := bdX5_stepOverDigits_59.2.2.2.2.2.1
theorem dX5_stepOverDigits_71 : decode cX5_stepOverDigits 71 = .ok (.getfield 9, 3) := bdX5_stepOverDigits_59.2.2.2.2.2.2.1
theorem dX5_stepOverDigits_74 : decode cX5_stepOverDigits 74 = .ok (.aload_n 0, 1) := bdX5_stepOverDigits_59.2.2.2.2.2.2.2
theorem bdX5_stepOverDigits_75 : decode cX5_stepOverDigits 75 = .ok (.getfield 43, 3) ∧ decode cX5_stepOverDigits 78 = .ok (.iaload, 1) ∧ decode cX5_stepOverDigits 79 = .ok (.bipush 48, 2) ∧ decode cX5_stepOverDigits 81 = .ok (.if_icmp .ne 20, 3) ∧ decode cX5_stepOverDigits 84 = .ok (.aload_n 0, 1) ∧ decode cX5_stepOverDigits 85 = .ok (.getfield 25, 3) ∧ decode cX5_stepOverDigits 88 = .ok (.aload_n 0, 1) ∧ decode cX5_stepOverDigits 89 = .ok (.getfield 43, 3) := by decide +kernel
theorem dX5_stepOverDigits_75 : decode cX5_stepOverDigits 75 = .ok (.getfield 43, 3) := bdX5_stepOverDigits_75.1
theorem dX5_stepOverDigits_78 : decode cX5_stepOverDigits 78 = .ok (.iaload, 1) := bdX5_stepOverDigits_75.2.1
theorem dX5_stepOverDigits_79 : decode cX5_stepOverDigits 79 = .ok (.bipush 48, 2) := bdX5_stepOverDigits_75.2.2.1
theorem dX5_stepOverDigits_81 : decode cX5_stepOverDigits 81 = .ok (.if_icmp .ne 20, 3) := bdX5_stepOverDigits_75.2.2.2.1
theorem dX5_stepOverDigits_84 : decode cX5_stepOverDigits 84 = .ok (.aload_n 0, 1) := bdX5_stepOverDigits_75.2.2.2.2.1
theorem dX5_stepOverDigits_85 : decode cX5_stepOverDigits 85 = .ok (.getfield 25, 3) := bdX5_stepOverDigits_75.2.2.2.2.2.1
theorem dX5_stepOverDigits_88 : decode cX5_stepOverDigits 88 = .ok (.aload_n 0, 1) := bdX5_stepOverDigits_75.2.2.2.2.2.2.1
theorem dX5_stepOverDigits_89 : decode cX5_stepOverDigits 89 = .ok (.getfield 43, 3) := bdX5_stepOverDigits_75.2.2.2.2.2.2.2
theorem bdX5_stepOverDigits_92 : decode cX5_stepOverDigits 92 = .ok (.isub, 1) ∧ decode cX5_stepOverDigits 93 = .ok (.iconst 1, 1) ∧ decode cX5_stepOverDigits 94 = .ok (.if_icmp .le 7, 3) ∧ decode cX5_stepOverDigits 97 = .ok (.iconst 1, 1) ∧ decode cX5_stepOverDigits 98 = .ok (.goto 4, 3) ∧ decode cX5_stepOverDigits 101 = .ok (.iconst 0, 1) ∧ decode cX5_stepOverDigits 102 = .ok (.istore_n 1, 1) ∧ decode cX5_stepOverDigits 103 = .ok (.aload_n 0, 1) := by decide +kernel
theorem dX5_stepOverDigits_92 : decode cX5_stepOverDigits 92 = .ok (.isub, 1) := bdX5_stepOverDigits_92.1
theorem dX5_stepOverDigits_93 : decode cX5_stepOverDigits 93 = .ok (.iconst 1, 1) := bdX5_stepOverDigits_92.2.1
theorem dX5_stepOverDigits_94 : decode cX5_stepOverDigits 94 = .ok (.if_icmp .le 7, 3) := bdX5_stepOverDigits_92.2.2.1
theorem dX5_stepOverDigits_97 : decode cX5_stepOverDigits 97 = .ok (.iconst 1, 1) := bdX5_stepOverDigits_92.2.2.2.1
theorem dX5_stepOverDigits_98 : decode cX5_stepOverDigits 98 = .ok (.goto 4, 3) := bdX5_stepOverDigits_92.2.2.2.2.1
theorem dX5_stepOverDigits_101 : decode cX5_stepOverDigits 101 = .ok (.iconst 0, 1) := bdX5_stepOverDigits_92.2.2.2.2.2.1
theorem dX5_stepOverDigits_102 : decode cX5_stepOverDigits 102 = .ok (.istore_n 1, 1) := bdX5_stepOverDigits_92.2.2.2.2.2.2.1
theorem dX5_stepOverDigits_103 : decode cX5_stepOverDigits 103 = .ok (.aload_n 0, 1) := bdX5_stepOverDigits_92.2.2.2.2.2.2.2
theorem bdX5_stepOverDigits_104 : decode cX5_stepOverDigits 104 = .ok (.getfield 46, 3) ∧ decode cX5_stepOverDigits 107 = .ok (.bipush 99, 2) ∧ decode cX5_stepOverDigits 109 = .ok (.if_icmp .gt 7, 3) ∧ decode cX5_stepOverDigits 112 = .ok (.iload_n 1, 1) ∧ decode cX5_stepOverDigits 113 = .ok (.ifCond .eq 8, 3) ∧ decode cX5_stepOverDigits 116 = .ok (.aload_n 0, 1) ∧ decode cX5_stepOverDigits 117 = .ok (.iconst 4, 1) ∧ decode cX5_stepOverDigits 118 = .ok (.putfield 36, 3) := by decide +kernel
theorem dX5_stepOverDigits_104 : decode cX5_stepOverDigits 104 = .ok (.getfield 46, 3) := bdX5_stepOverDigits_104.1
theorem dX5_stepOverDigits_107 : decode cX5_stepOverDigits 107 = .ok (.bipush 99, 2) := bdX5_stepOverDigits_104.2.1
theorem dX5_stepOverDigits_109 : decode cX5_stepOverDigits 109 = .ok (.if_icmp .gt 7, 3) := bdX5_stepOverDigits_104.2.2.1
theorem dX5_stepOverDigits_112 : decode cX5_stepOverDigits 112 = .ok (.iload_n 1, 1) := bdX5_stepOverDigits_104.2.2.2.1
theorem dX5_stepOverDigits_113 : decode cX5_stepOverDigits 113 = .ok (.ifCond .eq 8, 3) := bdX5_stepOverDigits_104.2.2.2.2.1
theorem dX5_stepOverDigits_116 : decode cX5_stepOverDigits 116 = .ok (.aload_n 0, 1) := bdX5_stepOverDigits_104.2.2.2.2.2.1
theorem dX5_stepOverDigits_117 : decode cX5_stepOverDigits 117 = .ok (.iconst 4, 1) := bdX5_stepOverDigits_104.2.2.2.2.2.2.1
theorem dX5_stepOverDigits_118 : decode cX5_stepOverDigits 118 = .ok (.putfield 36, 3) := bdX5_stepOverDigits_104.2.2.2.2.2.2.2
theorem dX5_stepOverDigits_121 : decode cX5_stepOverDigits 121 = .ok (.return_, 1) := by decide +kernel
theorem bdX5_sortAt_0 : decode cX5_sortAt 0 = .ok (.iload_n 1, 1) ∧ decode cX5_sortAt 1 = .ok (.aload_n 0, 1) ∧ decode cX5_sortAt 2 = .ok (.getfield 21, 3) ∧ decode cX5_sortAt 5 = .ok (.if_icmp .lt 5, 3) ∧ decode cX5_sortAt 8 = .ok (.iconst 0, 1) ∧ decode cX5_sortAt 9 = .ok (.ireturn, 1) ∧ decode cX5_sortAt 10 = .ok (.aload_n 0, 1) ∧ decode cX5_sortAt 11 = .ok (.getfield 9, 3) := by decide +kernel
theorem dX5_sortAt_0 : decode cX5_sortAt 0 = .ok (.iload_n 1, 1) := bdX5_sortAt_0.1
theorem dX5_sortAt_1 : decode cX5_sortAt 1 = .ok (.aload_n 0, 1) := bdX5_sortAt_0.2.1
theorem dX5_sortAt_2 : decode cX5_sortAt 2 = .ok (.getfield 21, 3) := bdX5_sortAt_0.2.2.1
theorem dX5_sortAt_5 : decode cX5_sortAt 5 = .ok (.if_icmp .lt 5, 3) := bdX5_sortAt_0.2.2.2.1
theorem dX5_sortAt_8 : decode cX5_sortAt 8 = .ok (.iconst 0, 1) := bdX5_sortAt_0.2.2.2.2.1
theorem dX5_sortAt_9 : decode cX5_sortAt 9 = .ok (.ireturn, 1) := bdX5_sortAt_0.2.2.2.2.2.1
theorem dX5_sortAt_10 : decode cX5_sortAt 10 = .ok (.aload_n 0, 1) := bdX5_sortAt_0.2.2.2.2.2.2.1
theorem dX5_sortAt_11 : decode cX5_sortAt 11 = .ok (.getfield 9, 3) := bdX5_sortAt_0.2.2.2.2.2.2.2
theorem bdX5_sortAt_14 : decode cX5_sortAt 14 = .ok (.iload_n 1, 1) ∧ decode cX5_sortAt 15 = .ok (.iaload, 1) ∧ decode cX5_sortAt 16 = .ok (.istore_n 2, 1) ∧ decode cX5_sortAt 17 = .ok (.iload_n 2, 1) ∧ decode cX5_sortAt 18 = .ok (.bipush 97, 2) ∧ decode cX5_sortAt 20 = .ok (.if_icmp .lt 11, 3) ∧ decode cX5_sortAt 23 = .ok (.iload_n 2, 1) ∧ decode cX5_sortAt 24 = .ok (.bipush 122, 2) := by decide +kernel
theorem dX5_sortAt_14 : decode cX5_sortAt 14 = .ok (.iload_n 1, 1) := bdX5_sortAt_14.1
theorem dX5_sortAt_15 : decode cX5_sortAt 15 = .ok (.iaload, 1) := bdX5_sortAt_14.2.1
theorem dX5_sortAt_16 : decode cX5_sortAt 16 = .ok (.istore_n 2, 1) := bdX5_sortAt_14.2.2.1
theorem dX5_sortAt_17 : decode cX5_sortAt 17 = .ok (.iload_n 2, 1) := bdX5_sortAt_14.2.2.2.1
theorem dX5_sortAt_18 : decode cX5_sortAt 18 = .ok (.bipush 97, 2) := bdX5_sortAt_14.2.2.2.2.1
theorem dX5_sortAt_20 : decode cX5_sortAt 20 = .ok (.if_icmp .lt 11, 3) := bdX5_sortAt_14.2.2.2.2.2.1
theorem dX5_sortAt_23 : decode cX5_sortAt 23 = .ok (.iload_n 2, 1) := bdX5_sortAt_14.2.2.2.2.2.2.1
theorem dX5_sortAt_24 : decode cX5_sortAt 24 = .ok (.bipush 122, 2) := bdX5_sortAt_14.2.2.2.2.2.2.2
theorem bdX5_sortAt_26 : decode cX5_sortAt 26 = .ok (.if_icmp .gt 5, 3) ∧ decode cX5_sortAt 29 = .ok (.iconst 1, 1) ∧ decode cX5_sortAt 30 = .ok (.ireturn, 1) ∧ decode cX5_sortAt 31 = .ok (.iload_n 2, 1) ∧ decode cX5_sortAt 32 = .ok (.bipush 48, 2) ∧ decode cX5_sortAt 34 = .ok (.if_icmp .lt 11, 3) ∧ decode cX5_sortAt 37 = .ok (.iload_n 2, 1) ∧ decode cX5_sortAt 38 = .ok (.bipush 57, 2) := by decide +kernel
theorem dX5_sortAt_26 : decode cX5_sortAt 26 = .ok (.if_icmp .gt 5, 3) := bdX5_sortAt_26.1
theorem dX5_sortAt_29 : decode cX5_sortAt 29 = .ok (.iconst 1, 1) := bdX5_sortAt_26.2.1
theorem dX5_sortAt_30 : decode cX5_sortAt 30 = .ok (.ireturn, 1) := bdX5_sortAt_26.2.2.1
theorem dX5_sortAt_31 : decode cX5_sortAt 31 = .ok (.iload_n 2, 1) := bdX5_sortAt_26.2.2.2.1
theorem dX5_sortAt_32 : decode cX5_sortAt 32 = .ok (.bipush 48, 2) := bdX5_sortAt_26.2.2.2.2.1
theorem dX5_sortAt_34 : decode cX5_sortAt 34 = .ok (.if_icmp .lt 11, 3) := bdX5_sortAt_26.2.2.2.2.2.1
theorem dX5_sortAt_37 : decode cX5_sortAt 37 = .ok (.iload_n 2, 1) := bdX5_sortAt_26.2.2.2.2.2.2.1
theorem dX5_sortAt_38 : decode cX5_sortAt 38 = .ok (.bipush 57, 2) := bdX5_sortAt_26.2.2.2.2.2.2.2
theorem bdX5_sortAt_40 : decode cX5_sortAt 40 = .ok (.if_icmp .gt 5, 3) ∧ decode cX5_sortAt 43 = .ok (.iconst 2, 1) ∧ decode cX5_sortAt 44 = .ok (.ireturn, 1) ∧ decode cX5_sortAt 45 = .ok (.iload_n 2, 1) ∧ decode cX5_sortAt 46 = .ok (.bipush 59, 2) ∧ decode cX5_sortAt 48 = .ok (.if_icmp .ne 7, 3) ∧ decode cX5_sortAt 51 = .ok (.iconst 3, 1) ∧ decode cX5_sortAt 52 = .ok (.goto 4, 3) := by decide +kernel
theorem dX5_sortAt_40 : decode cX5_sortAt 40 = .ok (.if_icmp .gt 5, 3) := bdX5_sortAt_40.1
theorem dX5_sortAt_43 : decode cX5_sortAt 43 = .ok (.iconst 2, 1) := bdX5_sortAt_40.2.1
theorem dX5_sortAt_44 : decode cX5_sortAt 44 = .ok (.ireturn, 1) := bdX5_sortAt_40.2.2.1
theorem dX5_sortAt_45 : decode cX5_sortAt 45 = .ok (.iload_n 2, 1) := bdX5_sortAt_40.2.2.2.1
theorem dX5_sortAt_46 : decode cX5_sortAt 46 = .ok (.bipush 59, 2) := bdX5_sortAt_40.2.2.2.2.1
theorem dX5_sortAt_48 : decode cX5_sortAt 48 = .ok (.if_icmp .ne 7, 3) := bdX5_sortAt_40.2.2.2.2.2.1
theorem dX5_sortAt_51 : decode cX5_sortAt 51 = .ok (.iconst 3, 1) := bdX5_sortAt_40.2.2.2.2.2.2.1
theorem dX5_sortAt_52 : decode cX5_sortAt 52 = .ok (.goto 4, 3) := bdX5_sortAt_40.2.2.2.2.2.2.2
theorem bdX5_sortAt_55 : decode cX5_sortAt 55 = .ok (.iconst 4, 1) ∧ decode cX5_sortAt 56 = .ok (.ireturn, 1) := by decide +kernel
theorem dX5_sortAt_55 : decode cX5_sortAt 55 = .ok (.iconst 4, 1) := bdX5_sortAt_55.1
theorem dX5_sortAt_56 : decode cX5_sortAt 56 = .ok (.ireturn, 1) := bdX5_sortAt_55.2
set_option maxRecDepth 20000 in
set_option maxRecDepth 100000 in
theorem ggX6_init_X6_tellNothing : GoodIn wsX6_init wsX6_tellNothing := goodIn_hd (goodIn_c ch_X6_init hc_X6_init ([.code yX6_tellNothing cX6_tellNothing 2 none] : List Cond) [(1, 15)] rfl (by decide +kernel)) (goodIn_app (goodIn_c ch_X6_init hc_X6_init ([.fieldLink RX6 36 "WordFletchers$Told" "people" "I", .fieldLink RX6 40 "WordFletchers$Told" "sayings" "I", .fieldLink RX6 43 "WordFletchers$Told" "windsTold" "I", .fieldLink RX6 27 "WordFletchers$Told" "winds" "[I", .fieldLink RX6 30 "WordFletchers$Told" "feathers" "[I"] : List Cond) [(1, 16), (1, 17), (1, 18), (1, 9), (1, 10)] rfl (by decide +kernel)) (goodIn_sub (fun _ h => (List.mem_cons_of_mem _ (List.mem_append_right _ h))) gwX6))
set_option maxRecDepth 20000 in
theorem gX6_init_X6_tellNothing : GoodIn wsX6_init (wsV RX6 33 RX6 yX6_tellNothing wsX6_tellNothing) := goodIn_app (goodIn_of _ (by decide +kernel)) ggX6_init_X6_tellNothing
theorem bdX6_init_0 : decode cX6_init 0 = .ok (.aload_n 0, 1) ∧ decode cX6_init 1 = .ok (.invokespecial 3, 3) ∧ decode cX6_init 4 = .ok (.aload_n 0, 1) ∧ decode cX6_init 5 = .ok (.bipush 6, 2) ∧ decode cX6_init 7 = .ok (.newarray .int, 2) ∧ decode cX6_init 9 = .ok (.putfield 9, 3) ∧ decode cX6_init 12 = .ok (.aload_n 0, 1) ∧ decode cX6_init 13 = .ok (.bipush 6, 2) := by decide +kernel
theorem dX6_init_0 : decode cX6_init 0 = .ok (.aload_n 0, 1) := bdX6_init_0.1
theorem dX6_init_1 : decode cX6_init 1 = .ok (.invokespecial 3, 3) := bdX6_init_0.2.1
theorem dX6_init_4 : decode cX6_init 4 = .ok (.aload_n 0, 1) := bdX6_init_0.2.2.1
theorem dX6_init_5 : decode cX6_init 5 = .ok (.bipush 6, 2) := bdX6_init_0.2.2.2.1
theorem dX6_init_7 : decode cX6_init 7 = .ok (.newarray .int, 2) := bdX6_init_0.2.2.2.2.1
theorem dX6_init_9 : decode cX6_init 9 = .ok (.putfield 9, 3) := bdX6_init_0.2.2.2.2.2.1
theorem dX6_init_12 : decode cX6_init 12 = .ok (.aload_n 0, 1) := bdX6_init_0.2.2.2.2.2.2.1
theorem dX6_init_13 : decode cX6_init 13 = .ok (.bipush 6, 2) := bdX6_init_0.2.2.2.2.2.2.2
theorem bdX6_init_15 : decode cX6_init 15 = .ok (.newarray .int, 2) ∧ decode cX6_init 17 = .ok (.putfield 15, 3) ∧ decode cX6_init 20 = .ok (.aload_n 0, 1) ∧ decode cX6_init 21 = .ok (.bipush 6, 2) ∧ decode cX6_init 23 = .ok (.newarray .int, 2) ∧ decode cX6_init 25 = .ok (.putfield 18, 3) ∧ decode cX6_init 28 = .ok (.aload_n 0, 1) ∧ decode cX6_init 29 = .ok (.bipush 6, 2) := by decide +kernel
theorem dX6_init_15 : decode cX6_init 15 = .ok (.newarray .int, 2) := bdX6_init_15.1
theorem dX6_init_17 : decode cX6_init 17 = .ok (.putfield 15, 3) := bdX6_init_15.2.1
theorem dX6_init_20 : decode cX6_init 20 = .ok (.aload_n 0, 1) := bdX6_init_15.2.2.1
theorem dX6_init_21 : decode cX6_init 21 = .ok (.bipush 6, 2) := bdX6_init_15.2.2.2.1
theorem dX6_init_23 : decode cX6_init 23 = .ok (.newarray .int, 2) := bdX6_init_15.2.2.2.2.1
theorem dX6_init_25 : decode cX6_init 25 = .ok (.putfield 18, 3) := bdX6_init_15.2.2.2.2.2.1
theorem dX6_init_28 : decode cX6_init 28 = .ok (.aload_n 0, 1) := bdX6_init_15.2.2.2.2.2.2.1
theorem dX6_init_29 : decode cX6_init 29 = .ok (.bipush 6, 2) := bdX6_init_15.2.2.2.2.2.2.2
theorem bdX6_init_31 : decode cX6_init 31 = .ok (.newarray .int, 2) ∧ decode cX6_init 33 = .ok (.putfield 21, 3) ∧ decode cX6_init 36 = .ok (.aload_n 0, 1) ∧ decode cX6_init 37 = .ok (.bipush 6, 2) ∧ decode cX6_init 39 = .ok (.newarray .int, 2) ∧ decode cX6_init 41 = .ok (.putfield 24, 3) ∧ decode cX6_init 44 = .ok (.aload_n 0, 1) ∧ decode cX6_init 45 = .ok (.bipush 6, 2) := by decide +kernel
theorem dX6_init_31 : decode cX6_init 31 = .ok (.newarray .int, 2) := bdX6_init_31.1
theorem dX6_init_33 : decode cX6_init 33 = .ok (.putfield 21, 3) := bdX6_init_31.2.1
theorem dX6_init_36 : decode cX6_init 36 = .ok (.aload_n 0, 1) := bdX6_init_31.2.2.1
theorem dX6_init_37 : decode cX6_init 37 = .ok (.bipush 6, 2) := bdX6_init_31.2.2.2.1
theorem dX6_init_39 : decode cX6_init 39 = .ok (.newarray .int, 2) := bdX6_init_31.2.2.2.2.1
theorem dX6_init_41 : decode cX6_init 41 = .ok (.putfield 24, 3) := bdX6_init_31.2.2.2.2.2.1
theorem dX6_init_44 : decode cX6_init 44 = .ok (.aload_n 0, 1) := bdX6_init_31.2.2.2.2.2.2.1
theorem dX6_init_45 : decode cX6_init 45 = .ok (.bipush 6, 2) := bdX6_init_31.2.2.2.2.2.2.2
theorem bdX6_init_47 : decode cX6_init 47 = .ok (.newarray .int, 2) ∧ decode cX6_init 49 = .ok (.putfield 27, 3) ∧ decode cX6_init 52 = .ok (.aload_n 0, 1) ∧ decode cX6_init 53 = .ok (.iconst 4, 1) ∧ decode cX6_init 54 = .ok (.newarray .int, 2) ∧ decode cX6_init 56 = .ok (.putfield 30, 3) ∧ decode cX6_init 59 = .ok (.aload_n 0, 1) ∧ decode cX6_init 60 = .ok (.invokevirtual 33, 3) := by decide +kernel
theorem dX6_init_47 : decode cX6_init 47 = .ok (.newarray .int, 2) := bdX6_init_47.1
theorem dX6_init_49 : decode cX6_init 49 = .ok (.putfield 27, 3) := bdX6_init_47.2.1
theorem dX6_init_52 : decode cX6_init 52 = .ok (.aload_n 0, 1) := bdX6_init_47.2.2.1
theorem dX6_init_53 : decode cX6_init 53 = .ok (.iconst 4, 1) := bdX6_init_47.2.2.2.1
theorem dX6_init_54 : decode cX6_init 54 = .ok (.newarray .int, 2) := bdX6_init_47.2.2.2.2.1
theorem dX6_init_56 : decode cX6_init 56 = .ok (.putfield 30, 3) := bdX6_init_47.2.2.2.2.2.1
theorem dX6_init_59 : decode cX6_init 59 = .ok (.aload_n 0, 1) := bdX6_init_47.2.2.2.2.2.2.1
theorem dX6_init_60 : decode cX6_init 60 = .ok (.invokevirtual 33, 3) := bdX6_init_47.2.2.2.2.2.2.2
theorem dX6_init_63 : decode cX6_init 63 = .ok (.return_, 1) := by decide +kernel
theorem bdX6_tellNothing_0 : decode cX6_tellNothing 0 = .ok (.aload_n 0, 1) ∧ decode cX6_tellNothing 1 = .ok (.iconst 0, 1) ∧ decode cX6_tellNothing 2 = .ok (.putfield 36, 3) ∧ decode cX6_tellNothing 5 = .ok (.aload_n 0, 1) ∧ decode cX6_tellNothing 6 = .ok (.iconst 0, 1) ∧ decode cX6_tellNothing 7 = .ok (.putfield 40, 3) ∧ decode cX6_tellNothing 10 = .ok (.aload_n 0, 1) ∧ decode cX6_tellNothing 11 = .ok (.iconst 0, 1) := by decide +kernel
theorem dX6_tellNothing_0 : decode cX6_tellNothing 0 = .ok (.aload_n 0, 1) := bdX6_tellNothing_0.1
theorem dX6_tellNothing_1 : decode cX6_tellNothing 1 = .ok (.iconst 0, 1) := bdX6_tellNothing_0.2.1
theorem dX6_tellNothing_2 : decode cX6_tellNothing 2 = .ok (.putfield 36, 3) := bdX6_tellNothing_0.2.2.1
theorem dX6_tellNothing_5 : decode cX6_tellNothing 5 = .ok (.aload_n 0, 1) := bdX6_tellNothing_0.2.2.2.1
theorem dX6_tellNothing_6 : decode cX6_tellNothing 6 = .ok (.iconst 0, 1) := bdX6_tellNothing_0.2.2.2.2.1
theorem dX6_tellNothing_7 : decode cX6_tellNothing 7 = .ok (.putfield 40, 3) := bdX6_tellNothing_0.2.2.2.2.2.1
theorem dX6_tellNothing_10 : decode cX6_tellNothing 10 = .ok (.aload_n 0, 1) := bdX6_tellNothing_0.2.2.2.2.2.2.1
theorem dX6_tellNothing_11 : decode cX6_tellNothing 11 = .ok (.iconst 0, 1) := bdX6_tellNothing_0.2.2.2.2.2.2.2
theorem bdX6_tellNothing_12 : decode cX6_tellNothing 12 = .ok (.putfield 43, 3) ∧ decode cX6_tellNothing 15 = .ok (.aload_n 0, 1) ∧ decode cX6_tellNothing 16 = .ok (.getfield 27, 3) ∧ decode cX6_tellNothing 19 = .ok (.iconst 0, 1) ∧ decode cX6_tellNothing 20 = .ok (.iconst 0, 1) ∧ decode cX6_tellNothing 21 = .ok (.iastore, 1) ∧ decode cX6_tellNothing 22 = .ok (.iconst 0, 1) ∧ decode cX6_tellNothing 23 = .ok (.istore_n 1, 1) := by decide +kernel
theorem dX6_tellNothing_12 : decode cX6_tellNothing 12 = .ok (.putfield 43, 3) := bdX6_tellNothing_12.1
theorem dX6_tellNothing_15 : decode cX6_tellNothing 15 = .ok (.aload_n 0, 1) := bdX6_tellNothing_12.2.1
theorem dX6_tellNothing_16 : decode cX6_tellNothing 16 = .ok (.getfield 27, 3) := bdX6_tellNothing_12.2.2.1
theorem dX6_tellNothing_19 : decode cX6_tellNothing 19 = .ok (.iconst 0, 1) := bdX6_tellNothing_12.2.2.2.1
theorem dX6_tellNothing_20 : decode cX6_tellNothing 20 = .ok (.iconst 0, 1) := bdX6_tellNothing_12.2.2.2.2.1
theorem dX6_tellNothing_21 : decode cX6_tellNothing 21 = .ok (.iastore, 1) := bdX6_tellNothing_12.2.2.2.2.2.1
theorem dX6_tellNothing_22 : decode cX6_tellNothing 22 = .ok (.iconst 0, 1) := bdX6_tellNothing_12.2.2.2.2.2.2.1
theorem dX6_tellNothing_23 : decode cX6_tellNothing 23 = .ok (.istore_n 1, 1) := bdX6_tellNothing_12.2.2.2.2.2.2.2
theorem bdX6_tellNothing_24 : decode cX6_tellNothing 24 = .ok (.iload_n 1, 1) ∧ decode cX6_tellNothing 25 = .ok (.iconst 4, 1) ∧ decode cX6_tellNothing 26 = .ok (.if_icmp .ge 17, 3) ∧ decode cX6_tellNothing 29 = .ok (.aload_n 0, 1) ∧ decode cX6_tellNothing 30 = .ok (.getfield 30, 3) ∧ decode cX6_tellNothing 33 = .ok (.iload_n 1, 1) ∧ decode cX6_tellNothing 34 = .ok (.bipush 9, 2) ∧ decode cX6_tellNothing 36 = .ok (.iastore, 1) := by decide +kernel
theorem dX6_tellNothing_24 : decode cX6_tellNothing 24 = .ok (.iload_n 1, 1) := bdX6_tellNothing_24.1
theorem dX6_tellNothing_25 : decode cX6_tellNothing 25 = .ok (.iconst 4, 1) := bdX6_tellNothing_24.2.1
theorem dX6_tellNothing_26 : decode cX6_tellNothing 26 = .ok (.if_icmp .ge 17, 3) := bdX6_tellNothing_24.2.2.1
theorem dX6_tellNothing_29 : decode cX6_tellNothing 29 = .ok (.aload_n 0, 1) := bdX6_tellNothing_24.2.2.2.1
theorem dX6_tellNothing_30 : decode cX6_tellNothing 30 = .ok (.getfield 30, 3) := bdX6_tellNothing_24.2.2.2.2.1
theorem dX6_tellNothing_33 : decode cX6_tellNothing 33 = .ok (.iload_n 1, 1) := bdX6_tellNothing_24.2.2.2.2.2.1
theorem dX6_tellNothing_34 : decode cX6_tellNothing 34 = .ok (.bipush 9, 2) := bdX6_tellNothing_24.2.2.2.2.2.2.1
theorem dX6_tellNothing_36 : decode cX6_tellNothing 36 = .ok (.iastore, 1) := bdX6_tellNothing_24.2.2.2.2.2.2.2
theorem bdX6_tellNothing_37 : decode cX6_tellNothing 37 = .ok (.iinc 1 1, 3) ∧ decode cX6_tellNothing 40 = .ok (.goto (-16), 3) ∧ decode cX6_tellNothing 43 = .ok (.return_, 1) := by decide +kernel
theorem dX6_tellNothing_37 : decode cX6_tellNothing 37 = .ok (.iinc 1 1, 3) := bdX6_tellNothing_37.1
theorem dX6_tellNothing_40 : decode cX6_tellNothing 40 = .ok (.goto (-16), 3) := bdX6_tellNothing_37.2.1
theorem dX6_tellNothing_43 : decode cX6_tellNothing 43 = .ok (.return_, 1) := bdX6_tellNothing_37.2.2
theorem bdX6_hasOne_0 : decode cX6_hasOne 0 = .ok (.iload_n 1, 1) ∧ decode cX6_hasOne 1 = .ok (.ifCond .lt 15, 3) ∧ decode cX6_hasOne 4 = .ok (.iload_n 1, 1) ∧ decode cX6_hasOne 5 = .ok (.aload_n 0, 1) ∧ decode cX6_hasOne 6 = .ok (.getfield 36, 3) ∧ decode cX6_hasOne 9 = .ok (.if_icmp .ge 7, 3) ∧ decode cX6_hasOne 12 = .ok (.iconst 1, 1) ∧ decode cX6_hasOne 13 = .ok (.goto 4, 3) := by decide +kernel
theorem dX6_hasOne_0 : decode cX6_hasOne 0 = .ok (.iload_n 1, 1) := bdX6_hasOne_0.1
theorem dX6_hasOne_1 : decode cX6_hasOne 1 = .ok (.ifCond .lt 15, 3) := bdX6_hasOne_0.2.1
theorem dX6_hasOne_4 : decode cX6_hasOne 4 = .ok (.iload_n 1, 1) := bdX6_hasOne_0.2.2.1
theorem dX6_hasOne_5 : decode cX6_hasOne 5 = .ok (.aload_n 0, 1) := bdX6_hasOne_0.2.2.2.1
theorem dX6_hasOne_6 : decode cX6_hasOne 6 = .ok (.getfield 36, 3) := bdX6_hasOne_0.2.2.2.2.1
theorem dX6_hasOne_9 : decode cX6_hasOne 9 = .ok (.if_icmp .ge 7, 3) := bdX6_hasOne_0.2.2.2.2.2.1
theorem dX6_hasOne_12 : decode cX6_hasOne 12 = .ok (.iconst 1, 1) := bdX6_hasOne_0.2.2.2.2.2.2.1
theorem dX6_hasOne_13 : decode cX6_hasOne 13 = .ok (.goto 4, 3) := bdX6_hasOne_0.2.2.2.2.2.2.2
theorem bdX6_hasOne_16 : decode cX6_hasOne 16 = .ok (.iconst 0, 1) ∧ decode cX6_hasOne 17 = .ok (.ireturn, 1) := by decide +kernel
theorem dX6_hasOne_16 : decode cX6_hasOne 16 = .ok (.iconst 0, 1) := bdX6_hasOne_16.1
theorem dX6_hasOne_17 : decode cX6_hasOne 17 = .ok (.ireturn, 1) := bdX6_hasOne_16.2
theorem bdX6_hasSaying_0 : decode cX6_hasSaying 0 = .ok (.iload_n 1, 1) ∧ decode cX6_hasSaying 1 = .ok (.ifCond .lt 15, 3) ∧ decode cX6_hasSaying 4 = .ok (.iload_n 1, 1) ∧ decode cX6_hasSaying 5 = .ok (.aload_n 0, 1) ∧ decode cX6_hasSaying 6 = .ok (.getfield 40, 3) ∧ decode cX6_hasSaying 9 = .ok (.if_icmp .ge 7, 3) ∧ decode cX6_hasSaying 12 = .ok (.iconst 1, 1) ∧ decode cX6_hasSaying 13 = .ok (.goto 4, 3) := by decide +kernel
theorem dX6_hasSaying_0 : decode cX6_hasSaying 0 = .ok (.iload_n 1, 1) := bdX6_hasSaying_0.1
theorem dX6_hasSaying_1 : decode cX6_hasSaying 1 = .ok (.ifCond .lt 15, 3) := bdX6_hasSaying_0.2.1
theorem dX6_hasSaying_4 : decode cX6_hasSaying 4 = .ok (.iload_n 1, 1) := bdX6_hasSaying_0.2.2.1
theorem dX6_hasSaying_5 : decode cX6_hasSaying 5 = .ok (.aload_n 0, 1) := bdX6_hasSaying_0.2.2.2.1
theorem dX6_hasSaying_6 : decode cX6_hasSaying 6 = .ok (.getfield 40, 3) := bdX6_hasSaying_0.2.2.2.2.1
theorem dX6_hasSaying_9 : decode cX6_hasSaying 9 = .ok (.if_icmp .ge 7, 3) := bdX6_hasSaying_0.2.2.2.2.2.1
theorem dX6_hasSaying_12 : decode cX6_hasSaying 12 = .ok (.iconst 1, 1) := bdX6_hasSaying_0.2.2.2.2.2.2.1
theorem dX6_hasSaying_13 : decode cX6_hasSaying 13 = .ok (.goto 4, 3) := bdX6_hasSaying_0.2.2.2.2.2.2.2
theorem bdX6_hasSaying_16 : decode cX6_hasSaying 16 = .ok (.iconst 0, 1) ∧ decode cX6_hasSaying 17 = .ok (.ireturn, 1) := by decide +kernel
theorem dX6_hasSaying_16 : decode cX6_hasSaying 16 = .ok (.iconst 0, 1) := bdX6_hasSaying_16.1
theorem dX6_hasSaying_17 : decode cX6_hasSaying 17 = .ok (.ireturn, 1) := bdX6_hasSaying_16.2
theorem bdX6_isSetOfSayings_0 : decode cX6_isSetOfSayings 0 = .ok (.iload_n 1, 1) ∧ decode cX6_isSetOfSayings 1 = .ok (.ifCond .le 17, 3) ∧ decode cX6_isSetOfSayings 4 = .ok (.iload_n 1, 1) ∧ decode cX6_isSetOfSayings 5 = .ok (.iconst 1, 1) ∧ decode cX6_isSetOfSayings 6 = .ok (.aload_n 0, 1) ∧ decode cX6_isSetOfSayings 7 = .ok (.getfield 40, 3) ∧ decode cX6_isSetOfSayings 10 = .ok (.ishl, 1) ∧ decode cX6_isSetOfSayings 11 = .ok (.if_icmp .ge 7, 3) := by decide +kernel
theorem dX6_isSetOfSayings_0 : decode cX6_isSetOfSayings 0 = .ok (.iload_n 1, 1) := bdX6_isSetOfSayings_0.1
theorem dX6_isSetOfSayings_1 : decode cX6_isSetOfSayings 1 = .ok (.ifCond .le 17, 3) := bdX6_isSetOfSayings_0.2.1
theorem dX6_isSetOfSayings_4 : decode cX6_isSetOfSayings 4 = .ok (.iload_n 1, 1) := bdX6_isSetOfSayings_0.2.2.1
theorem dX6_isSetOfSayings_5 : decode cX6_isSetOfSayings 5 = .ok (.iconst 1, 1) := bdX6_isSetOfSayings_0.2.2.2.1
theorem dX6_isSetOfSayings_6 : decode cX6_isSetOfSayings 6 = .ok (.aload_n 0, 1) := bdX6_isSetOfSayings_0.2.2.2.2.1
theorem dX6_isSetOfSayings_7 : decode cX6_isSetOfSayings 7 = .ok (.getfield 40, 3) := bdX6_isSetOfSayings_0.2.2.2.2.2.1
theorem dX6_isSetOfSayings_10 : decode cX6_isSetOfSayings 10 = .ok (.ishl, 1) := bdX6_isSetOfSayings_0.2.2.2.2.2.2.1
theorem dX6_isSetOfSayings_11 : decode cX6_isSetOfSayings 11 = .ok (.if_icmp .ge 7, 3) := bdX6_isSetOfSayings_0.2.2.2.2.2.2.2
theorem bdX6_isSetOfSayings_14 : decode cX6_isSetOfSayings 14 = .ok (.iconst 1, 1) ∧ decode cX6_isSetOfSayings 15 = .ok (.goto 4, 3) ∧ decode cX6_isSetOfSayings 18 = .ok (.iconst 0, 1) ∧ decode cX6_isSetOfSayings 19 = .ok (.ireturn, 1) := by decide +kernel
theorem dX6_isSetOfSayings_14 : decode cX6_isSetOfSayings 14 = .ok (.iconst 1, 1) := bdX6_isSetOfSayings_14.1
theorem dX6_isSetOfSayings_15 : decode cX6_isSetOfSayings 15 = .ok (.goto 4, 3) := bdX6_isSetOfSayings_14.2.1
theorem dX6_isSetOfSayings_18 : decode cX6_isSetOfSayings 18 = .ok (.iconst 0, 1) := bdX6_isSetOfSayings_14.2.2.1
theorem dX6_isSetOfSayings_19 : decode cX6_isSetOfSayings 19 = .ok (.ireturn, 1) := bdX6_isSetOfSayings_14.2.2.2
theorem bdX6_windCount_0 : decode cX6_windCount 0 = .ok (.iconst 1, 1) ∧ decode cX6_windCount 1 = .ok (.aload_n 0, 1) ∧ decode cX6_windCount 2 = .ok (.getfield 43, 3) ∧ decode cX6_windCount 5 = .ok (.invokestatic 46, 3) ∧ decode cX6_windCount 8 = .ok (.ireturn, 1) := by decide +kernel
theorem dX6_windCount_0 : decode cX6_windCount 0 = .ok (.iconst 1, 1) := bdX6_windCount_0.1
theorem dX6_windCount_1 : decode cX6_windCount 1 = .ok (.aload_n 0, 1) := bdX6_windCount_0.2.1
theorem dX6_windCount_2 : decode cX6_windCount 2 = .ok (.getfield 43, 3) := bdX6_windCount_0.2.2.1
theorem dX6_windCount_5 : decode cX6_windCount 5 = .ok (.invokestatic 46, 3) := bdX6_windCount_0.2.2.2.1
theorem dX6_windCount_8 : decode cX6_windCount 8 = .ok (.ireturn, 1) := bdX6_windCount_0.2.2.2.2
set_option maxRecDepth 20000 in
set_option maxRecDepth 100000 in
theorem ggX6_windOf_X6_windCount : GoodIn wsX6_windOf wsX6_windCount := goodIn_hd (goodIn_c ch_X6_windOf hc_X6_windOf ([.code yX6_windCount cX6_windCount 1 (some .int)] : List Cond) [(1, 9)] rfl (by decide +kernel)) (goodIn_app (goodIn_c ch_X6_windOf hc_X6_windOf ([.fieldLink RX6 43 "WordFletchers$Told" "windsTold" "I", .methodLink RX6 46 Lib.Math.max.name, .static Lib.Math.max.name, .initialized "java/lang/Math", .code Lib.Math.max.name Lib.Math.max.code 2 (some .int)] : List Cond) [(1, 10), (1, 1), (1, 2), (1, 3), (1, 4)] rfl (by decide +kernel)) (goodIn_sub (fun _ h => (List.mem_cons_of_mem _ (List.mem_append_right _ h))) gwX6))
set_option maxRecDepth 20000 in
theorem gX6_windOf_X6_windCount : GoodIn wsX6_windOf (wsV RX6 52 RX6 yX6_windCount wsX6_windCount) := goodIn_app (goodIn_of _ (by decide +kernel)) ggX6_windOf_X6_windCount
theorem bdX6_windOf_0 : decode cX6_windOf 0 = .ok (.aload_n 0, 1) ∧ decode cX6_windOf 1 = .ok (.getfield 27, 3) ∧ decode cX6_windOf 4 = .ok (.iconst 0, 1) ∧ decode cX6_windOf 5 = .ok (.iload_n 1, 1) ∧ decode cX6_windOf 6 = .ok (.invokestatic 46, 3) ∧ decode cX6_windOf 9 = .ok (.aload_n 0, 1) ∧ decode cX6_windOf 10 = .ok (.invokevirtual 52, 3) ∧ decode cX6_windOf 13 = .ok (.irem, 1) := by decide +kernel
theorem dX6_windOf_0 : decode cX6_windOf 0 = .ok (.aload_n 0, 1) := bdX6_windOf_0.1
theorem dX6_windOf_1 : decode cX6_windOf 1 = .ok (.getfield 27, 3) := bdX6_windOf_0.2.1
theorem dX6_windOf_4 : decode cX6_windOf 4 = .ok (.iconst 0, 1) := bdX6_windOf_0.2.2.1
theorem dX6_windOf_5 : decode cX6_windOf 5 = .ok (.iload_n 1, 1) := bdX6_windOf_0.2.2.2.1
theorem dX6_windOf_6 : decode cX6_windOf 6 = .ok (.invokestatic 46, 3) := bdX6_windOf_0.2.2.2.2.1
theorem dX6_windOf_9 : decode cX6_windOf 9 = .ok (.aload_n 0, 1) := bdX6_windOf_0.2.2.2.2.2.1
theorem dX6_windOf_10 : decode cX6_windOf 10 = .ok (.invokevirtual 52, 3) := bdX6_windOf_0.2.2.2.2.2.2.1
theorem dX6_windOf_13 : decode cX6_windOf 13 = .ok (.irem, 1) := bdX6_windOf_0.2.2.2.2.2.2.2
theorem bdX6_windOf_14 : decode cX6_windOf 14 = .ok (.iaload, 1) ∧ decode cX6_windOf 15 = .ok (.ireturn, 1) := by decide +kernel
theorem dX6_windOf_14 : decode cX6_windOf 14 = .ok (.iaload, 1) := bdX6_windOf_14.1
theorem dX6_windOf_15 : decode cX6_windOf 15 = .ok (.ireturn, 1) := bdX6_windOf_14.2
theorem bdX6_flight_0 : decode cX6_flight 0 = .ok (.iload_n 3, 1) ∧ decode cX6_flight 1 = .ok (.ifCond .ne 10, 3) ∧ decode cX6_flight 4 = .ok (.aload_n 0, 1) ∧ decode cX6_flight 5 = .ok (.getfield 21, 3) ∧ decode cX6_flight 8 = .ok (.iload_n 1, 1) ∧ decode cX6_flight 9 = .ok (.iaload, 1) ∧ decode cX6_flight 10 = .ok (.ireturn, 1) ∧ decode cX6_flight 11 = .ok (.iload_n 2, 1) := by decide +kernel
theorem dX6_flight_0 : decode cX6_flight 0 = .ok (.iload_n 3, 1) := bdX6_flight_0.1
theorem dX6_flight_1 : decode cX6_flight 1 = .ok (.ifCond .ne 10, 3) := bdX6_flight_0.2.1
theorem dX6_flight_4 : decode cX6_flight 4 = .ok (.aload_n 0, 1) := bdX6_flight_0.2.2.1
theorem dX6_flight_5 : decode cX6_flight 5 = .ok (.getfield 21, 3) := bdX6_flight_0.2.2.2.1
theorem dX6_flight_8 : decode cX6_flight 8 = .ok (.iload_n 1, 1) := bdX6_flight_0.2.2.2.2.1
theorem dX6_flight_9 : decode cX6_flight 9 = .ok (.iaload, 1) := bdX6_flight_0.2.2.2.2.2.1
theorem dX6_flight_10 : decode cX6_flight 10 = .ok (.ireturn, 1) := bdX6_flight_0.2.2.2.2.2.2.1
theorem dX6_flight_11 : decode cX6_flight 11 = .ok (.iload_n 2, 1) := bdX6_flight_0.2.2.2.2.2.2.2
theorem bdX6_flight_12 : decode cX6_flight 12 = .ok (.iconst 2, 1) ∧ decode cX6_flight 13 = .ok (.if_icmp .ne 7, 3) ∧ decode cX6_flight 16 = .ok (.iconst 0, 1) ∧ decode cX6_flight 17 = .ok (.goto 5, 3) ∧ decode cX6_flight 20 = .ok (.iload 4, 2) ∧ decode cX6_flight 22 = .ok (.istore 5, 2) ∧ decode cX6_flight 24 = .ok (.iconst 0, 1) ∧ decode cX6_flight 25 = .ok (.iload_n 3, 1) := by decide +kernel
theorem dX6_flight_12 : decode cX6_flight 12 = .ok (.iconst 2, 1) := bdX6_flight_12.1
theorem dX6_flight_13 : decode cX6_flight 13 = .ok (.if_icmp .ne 7, 3) := bdX6_flight_12.2.1
theorem dX6_flight_16 : decode cX6_flight 16 = .ok (.iconst 0, 1) := bdX6_flight_12.2.2.1
theorem dX6_flight_17 : decode cX6_flight 17 = .ok (.goto 5, 3) := bdX6_flight_12.2.2.2.1
theorem dX6_flight_20 : decode cX6_flight 20 = .ok (.iload 4, 2) := bdX6_flight_12.2.2.2.2.1
theorem dX6_flight_22 : decode cX6_flight 22 = .ok (.istore 5, 2) := bdX6_flight_12.2.2.2.2.2.1
theorem dX6_flight_24 : decode cX6_flight 24 = .ok (.iconst 0, 1) := bdX6_flight_12.2.2.2.2.2.2.1
theorem dX6_flight_25 : decode cX6_flight 25 = .ok (.iload_n 3, 1) := bdX6_flight_12.2.2.2.2.2.2.2
theorem bdX6_flight_26 : decode cX6_flight 26 = .ok (.getstatic 56, 3) ∧ decode cX6_flight 29 = .ok (.iload_n 2, 1) ∧ decode cX6_flight 30 = .ok (.iaload, 1) ∧ decode cX6_flight 31 = .ok (.imul, 1) ∧ decode cX6_flight 32 = .ok (.aload_n 0, 1) ∧ decode cX6_flight 33 = .ok (.getfield 21, 3) ∧ decode cX6_flight 36 = .ok (.iload_n 1, 1) ∧ decode cX6_flight 37 = .ok (.iaload, 1) := by decide +kernel
theorem dX6_flight_26 : decode cX6_flight 26 = .ok (.getstatic 56, 3) := bdX6_flight_26.1
theorem dX6_flight_29 : decode cX6_flight 29 = .ok (.iload_n 2, 1) := bdX6_flight_26.2.1
theorem dX6_flight_30 : decode cX6_flight 30 = .ok (.iaload, 1) := bdX6_flight_26.2.2.1
theorem dX6_flight_31 : decode cX6_flight 31 = .ok (.imul, 1) := bdX6_flight_26.2.2.2.1
theorem dX6_flight_32 : decode cX6_flight 32 = .ok (.aload_n 0, 1) := bdX6_flight_26.2.2.2.2.1
theorem dX6_flight_33 : decode cX6_flight 33 = .ok (.getfield 21, 3) := bdX6_flight_26.2.2.2.2.2.1
theorem dX6_flight_36 : decode cX6_flight 36 = .ok (.iload_n 1, 1) := bdX6_flight_26.2.2.2.2.2.2.1
theorem dX6_flight_37 : decode cX6_flight 37 = .ok (.iaload, 1) := bdX6_flight_26.2.2.2.2.2.2.2
theorem bdX6_flight_38 : decode cX6_flight 38 = .ok (.iadd, 1) ∧ decode cX6_flight 39 = .ok (.aload_n 0, 1) ∧ decode cX6_flight 40 = .ok (.getfield 18, 3) ∧ decode cX6_flight 43 = .ok (.iload_n 1, 1) ∧ decode cX6_flight 44 = .ok (.iaload, 1) ∧ decode cX6_flight 45 = .ok (.isub, 1) ∧ decode cX6_flight 46 = .ok (.iload 5, 2) ∧ decode cX6_flight 48 = .ok (.isub, 1) := by decide +kernel
theorem dX6_flight_38 : decode cX6_flight 38 = .ok (.iadd, 1) := bdX6_flight_38.1
theorem dX6_flight_39 : decode cX6_flight 39 = .ok (.aload_n 0, 1) := bdX6_flight_38.2.1
theorem dX6_flight_40 : decode cX6_flight 40 = .ok (.getfield 18, 3) := bdX6_flight_38.2.2.1
theorem dX6_flight_43 : decode cX6_flight 43 = .ok (.iload_n 1, 1) := bdX6_flight_38.2.2.2.1
theorem dX6_flight_44 : decode cX6_flight 44 = .ok (.iaload, 1) := bdX6_flight_38.2.2.2.2.1
theorem dX6_flight_45 : decode cX6_flight 45 = .ok (.isub, 1) := bdX6_flight_38.2.2.2.2.2.1
theorem dX6_flight_46 : decode cX6_flight 46 = .ok (.iload 5, 2) := bdX6_flight_38.2.2.2.2.2.2.1
theorem dX6_flight_48 : decode cX6_flight 48 = .ok (.isub, 1) := bdX6_flight_38.2.2.2.2.2.2.2
theorem bdX6_flight_49 : decode cX6_flight 49 = .ok (.invokestatic 46, 3) ∧ decode cX6_flight 52 = .ok (.ireturn, 1) := by decide +kernel
theorem dX6_flight_49 : decode cX6_flight 49 = .ok (.invokestatic 46, 3) := bdX6_flight_49.1
theorem dX6_flight_52 : decode cX6_flight 52 = .ok (.ireturn, 1) := bdX6_flight_49.2
set_option maxRecDepth 20000 in
set_option maxRecDepth 100000 in
theorem ggX6_landing_X6_flight : GoodIn wsX6_landing wsX6_flight := goodIn_hd (goodIn_c ch_X6_landing hc_X6_landing ([.code yX6_flight cX6_flight 6 (some .int)] : List Cond) [(1, 5)] rfl (by decide +kernel)) (goodIn_app (goodIn_c ch_X6_landing hc_X6_landing ([.fieldLink RX6 21 "WordFletchers$Told" "twist" "[I", .fieldLink RX6 18 "WordFletchers$Told" "weight" "[I", .methodLink RX6 46 Lib.Math.max.name, .static Lib.Math.max.name, .initialized "java/lang/Math", .code Lib.Math.max.name Lib.Math.max.code 2 (some .int)] : List Cond) [(1, 6), (1, 7), (1, 8), (1, 9), (1, 10), (1, 11)] rfl (by decide +kernel)) (goodIn_sub (fun _ h => (List.mem_cons_of_mem _ (List.mem_append_right _ h))) gwX6))
set_option maxRecDepth 20000 in
theorem gX6_landing_X6_flight : GoodIn wsX6_landing (wsV RX6 59 RX6 yX6_flight wsX6_flight) := goodIn_app (goodIn_of _ (by decide +kernel)) ggX6_landing_X6_flight
theorem bdX6_landing_0 : decode cX6_landing 0 = .ok (.iload_n 3, 1) ∧ decode cX6_landing 1 = .ok (.bipush 100, 2) ∧ decode cX6_landing 3 = .ok (.idiv, 1) ∧ decode cX6_landing 4 = .ok (.istore 6, 2) ∧ decode cX6_landing 6 = .ok (.iload_n 3, 1) ∧ decode cX6_landing 7 = .ok (.bipush 10, 2) ∧ decode cX6_landing 9 = .ok (.idiv, 1) ∧ decode cX6_landing 10 = .ok (.bipush 10, 2) := by decide +kernel
theorem dX6_landing_0 : decode cX6_landing 0 = .ok (.iload_n 3, 1) := bdX6_landing_0.1
theorem dX6_landing_1 : decode cX6_landing 1 = .ok (.bipush 100, 2) := bdX6_landing_0.2.1
theorem dX6_landing_3 : decode cX6_landing 3 = .ok (.idiv, 1) := bdX6_landing_0.2.2.1
theorem dX6_landing_4 : decode cX6_landing 4 = .ok (.istore 6, 2) := bdX6_landing_0.2.2.2.1
theorem dX6_landing_6 : decode cX6_landing 6 = .ok (.iload_n 3, 1) := bdX6_landing_0.2.2.2.2.1
theorem dX6_landing_7 : decode cX6_landing 7 = .ok (.bipush 10, 2) := bdX6_landing_0.2.2.2.2.2.1
theorem dX6_landing_9 : decode cX6_landing 9 = .ok (.idiv, 1) := bdX6_landing_0.2.2.2.2.2.2.1
theorem dX6_landing_10 : decode cX6_landing 10 = .ok (.bipush 10, 2) := bdX6_landing_0.2.2.2.2.2.2.2
theorem bdX6_landing_12 : decode cX6_landing 12 = .ok (.irem, 1) ∧ decode cX6_landing 13 = .ok (.istore 7, 2) ∧ decode cX6_landing 15 = .ok (.iload 7, 2) ∧ decode cX6_landing 17 = .ok (.ifCond .ne 7, 3) ∧ decode cX6_landing 20 = .ok (.iconst 1, 1) ∧ decode cX6_landing 21 = .ok (.goto 4, 3) ∧ decode cX6_landing 24 = .ok (.iconst 0, 1) ∧ decode cX6_landing 25 = .ok (.istore 8, 2) := by decide +kernel
theorem dX6_landing_12 : decode cX6_landing 12 = .ok (.irem, 1) := bdX6_landing_12.1
theorem dX6_landing_13 : decode cX6_landing 13 = .ok (.istore 7, 2) := bdX6_landing_12.2.1
theorem dX6_landing_15 : decode cX6_landing 15 = .ok (.iload 7, 2) := bdX6_landing_12.2.2.1
theorem dX6_landing_17 : decode cX6_landing 17 = .ok (.ifCond .ne 7, 3) := bdX6_landing_12.2.2.2.1
theorem dX6_landing_20 : decode cX6_landing 20 = .ok (.iconst 1, 1) := bdX6_landing_12.2.2.2.2.1
theorem dX6_landing_21 : decode cX6_landing 21 = .ok (.goto 4, 3) := bdX6_landing_12.2.2.2.2.2.1
theorem dX6_landing_24 : decode cX6_landing 24 = .ok (.iconst 0, 1) := bdX6_landing_12.2.2.2.2.2.2.1
theorem dX6_landing_25 : decode cX6_landing 25 = .ok (.istore 8, 2) := bdX6_landing_12.2.2.2.2.2.2.2
theorem bdX6_landing_27 : decode cX6_landing 27 = .ok (.iload_n 3, 1) ∧ decode cX6_landing 28 = .ok (.bipush 10, 2) ∧ decode cX6_landing 30 = .ok (.irem, 1) ∧ decode cX6_landing 31 = .ok (.iload 8, 2) ∧ decode cX6_landing 33 = .ok (.ifCond .eq 7, 3) ∧ decode cX6_landing 36 = .ok (.iconst 0, 1) ∧ decode cX6_landing 37 = .ok (.goto 4, 3) ∧ decode cX6_landing 40 = .ok (.iconst 1, 1) := by decide +kernel
theorem dX6_landing_27 : decode cX6_landing 27 = .ok (.iload_n 3, 1) := bdX6_landing_27.1
theorem dX6_landing_28 : decode cX6_landing 28 = .ok (.bipush 10, 2) := bdX6_landing_27.2.1
theorem dX6_landing_30 : decode cX6_landing 30 = .ok (.irem, 1) := bdX6_landing_27.2.2.1
theorem dX6_landing_31 : decode cX6_landing 31 = .ok (.iload 8, 2) := bdX6_landing_27.2.2.2.1
theorem dX6_landing_33 : decode cX6_landing 33 = .ok (.ifCond .eq 7, 3) := bdX6_landing_27.2.2.2.2.1
theorem dX6_landing_36 : decode cX6_landing 36 = .ok (.iconst 0, 1) := bdX6_landing_27.2.2.2.2.2.1
theorem dX6_landing_37 : decode cX6_landing 37 = .ok (.goto 4, 3) := bdX6_landing_27.2.2.2.2.2.2.1
theorem dX6_landing_40 : decode cX6_landing 40 = .ok (.iconst 1, 1) := bdX6_landing_27.2.2.2.2.2.2.2
theorem bdX6_landing_41 : decode cX6_landing 41 = .ok (.if_icmp .ne 7, 3) ∧ decode cX6_landing 44 = .ok (.iconst 1, 1) ∧ decode cX6_landing 45 = .ok (.goto 4, 3) ∧ decode cX6_landing 48 = .ok (.iconst 0, 1) ∧ decode cX6_landing 49 = .ok (.istore 9, 2) ∧ decode cX6_landing 51 = .ok (.aload_n 0, 1) ∧ decode cX6_landing 52 = .ok (.iload_n 2, 1) ∧ decode cX6_landing 53 = .ok (.iload 6, 2) := by decide +kernel
theorem dX6_landing_41 : decode cX6_landing 41 = .ok (.if_icmp .ne 7, 3) := bdX6_landing_41.1
theorem dX6_landing_44 : decode cX6_landing 44 = .ok (.iconst 1, 1) := bdX6_landing_41.2.1
theorem dX6_landing_45 : decode cX6_landing 45 = .ok (.goto 4, 3) := bdX6_landing_41.2.2.1
theorem dX6_landing_48 : decode cX6_landing 48 = .ok (.iconst 0, 1) := bdX6_landing_41.2.2.2.1
theorem dX6_landing_49 : decode cX6_landing 49 = .ok (.istore 9, 2) := bdX6_landing_41.2.2.2.2.1
theorem dX6_landing_51 : decode cX6_landing 51 = .ok (.aload_n 0, 1) := bdX6_landing_41.2.2.2.2.2.1
theorem dX6_landing_52 : decode cX6_landing 52 = .ok (.iload_n 2, 1) := bdX6_landing_41.2.2.2.2.2.2.1
theorem dX6_landing_53 : decode cX6_landing 53 = .ok (.iload 6, 2) := bdX6_landing_41.2.2.2.2.2.2.2
theorem bdX6_landing_55 : decode cX6_landing 55 = .ok (.iload 7, 2) ∧ decode cX6_landing 57 = .ok (.iload 5, 2) ∧ decode cX6_landing 59 = .ok (.invokevirtual 59, 3) ∧ decode cX6_landing 62 = .ok (.istore 10, 2) ∧ decode cX6_landing 64 = .ok (.iload 10, 2) ∧ decode cX6_landing 66 = .ok (.ifCond .le 18, 3) ∧ decode cX6_landing 69 = .ok (.iload 8, 2) ∧ decode cX6_landing 71 = .ok (.ifCond .ne 9, 3) := by decide +kernel
theorem dX6_landing_55 : decode cX6_landing 55 = .ok (.iload 7, 2) := bdX6_landing_55.1
theorem dX6_landing_57 : decode cX6_landing 57 = .ok (.iload 5, 2) := bdX6_landing_55.2.1
theorem dX6_landing_59 : decode cX6_landing 59 = .ok (.invokevirtual 59, 3) := bdX6_landing_55.2.2.1
theorem dX6_landing_62 : decode cX6_landing 62 = .ok (.istore 10, 2) := bdX6_landing_55.2.2.2.1
theorem dX6_landing_64 : decode cX6_landing 64 = .ok (.iload 10, 2) := bdX6_landing_55.2.2.2.2.1
theorem dX6_landing_66 : decode cX6_landing 66 = .ok (.ifCond .le 18, 3) := bdX6_landing_55.2.2.2.2.2.1
theorem dX6_landing_69 : decode cX6_landing 69 = .ok (.iload 8, 2) := bdX6_landing_55.2.2.2.2.2.2.1
theorem dX6_landing_71 : decode cX6_landing 71 = .ok (.ifCond .ne 9, 3) := bdX6_landing_55.2.2.2.2.2.2.2
theorem bdX6_landing_74 : decode cX6_landing 74 = .ok (.iload 6, 2) ∧ decode cX6_landing 76 = .ok (.iconst 3, 1) ∧ decode cX6_landing 77 = .ok (.if_icmp .eq 7, 3) ∧ decode cX6_landing 80 = .ok (.iconst 1, 1) ∧ decode cX6_landing 81 = .ok (.goto 4, 3) ∧ decode cX6_landing 84 = .ok (.iconst 0, 1) ∧ decode cX6_landing 85 = .ok (.istore 11, 2) ∧ decode cX6_landing 87 = .ok (.aload_n 0, 1) := by decide +kernel
theorem dX6_landing_74 : decode cX6_landing 74 = .ok (.iload 6, 2) := bdX6_landing_74.1
theorem dX6_landing_76 : decode cX6_landing 76 = .ok (.iconst 3, 1) := bdX6_landing_74.2.1
theorem dX6_landing_77 : decode cX6_landing 77 = .ok (.if_icmp .eq 7, 3) := bdX6_landing_74.2.2.1
theorem dX6_landing_80 : decode cX6_landing 80 = .ok (.iconst 1, 1) := bdX6_landing_74.2.2.2.1
theorem dX6_landing_81 : decode cX6_landing 81 = .ok (.goto 4, 3) := bdX6_landing_74.2.2.2.2.1
theorem dX6_landing_84 : decode cX6_landing 84 = .ok (.iconst 0, 1) := bdX6_landing_74.2.2.2.2.2.1
theorem dX6_landing_85 : decode cX6_landing 85 = .ok (.istore 11, 2) := bdX6_landing_74.2.2.2.2.2.2.1
theorem dX6_landing_87 : decode cX6_landing 87 = .ok (.aload_n 0, 1) := bdX6_landing_74.2.2.2.2.2.2.2
theorem bdX6_landing_88 : decode cX6_landing 88 = .ok (.getfield 9, 3) ∧ decode cX6_landing 91 = .ok (.iload_n 1, 1) ∧ decode cX6_landing 92 = .ok (.iaload, 1) ∧ decode cX6_landing 93 = .ok (.iload 9, 2) ∧ decode cX6_landing 95 = .ok (.ifCond .eq 8, 3) ∧ decode cX6_landing 98 = .ok (.iload 10, 2) ∧ decode cX6_landing 100 = .ok (.goto 6, 3) ∧ decode cX6_landing 103 = .ok (.iload 10, 2) := by decide +kernel
theorem dX6_landing_88 : decode cX6_landing 88 = .ok (.getfield 9, 3) := bdX6_landing_88.1
theorem dX6_landing_91 : decode cX6_landing 91 = .ok (.iload_n 1, 1) := bdX6_landing_88.2.1
theorem dX6_landing_92 : decode cX6_landing 92 = .ok (.iaload, 1) := bdX6_landing_88.2.2.1
theorem dX6_landing_93 : decode cX6_landing 93 = .ok (.iload 9, 2) := bdX6_landing_88.2.2.2.1
theorem dX6_landing_95 : decode cX6_landing 95 = .ok (.ifCond .eq 8, 3) := bdX6_landing_88.2.2.2.2.1
theorem dX6_landing_98 : decode cX6_landing 98 = .ok (.iload 10, 2) := bdX6_landing_88.2.2.2.2.2.1
theorem dX6_landing_100 : decode cX6_landing 100 = .ok (.goto 6, 3) := bdX6_landing_88.2.2.2.2.2.2.1
theorem dX6_landing_103 : decode cX6_landing 103 = .ok (.iload 10, 2) := bdX6_landing_88.2.2.2.2.2.2.2
theorem bdX6_landing_105 : decode cX6_landing 105 = .ok (.ineg, 1) ∧ decode cX6_landing 106 = .ok (.iadd, 1) ∧ decode cX6_landing 107 = .ok (.iload 11, 2) ∧ decode cX6_landing 109 = .ok (.ifCond .eq 8, 3) ∧ decode cX6_landing 112 = .ok (.iload 4, 2) ∧ decode cX6_landing 114 = .ok (.goto 4, 3) ∧ decode cX6_landing 117 = .ok (.iconst 0, 1) ∧ decode cX6_landing 118 = .ok (.iadd, 1) := by decide +kernel
theorem dX6_landing_105 : decode cX6_landing 105 = .ok (.ineg, 1) := bdX6_landing_105.1
theorem dX6_landing_106 : decode cX6_landing 106 = .ok (.iadd, 1) := bdX6_landing_105.2.1
theorem dX6_landing_107 : decode cX6_landing 107 = .ok (.iload 11, 2) := bdX6_landing_105.2.2.1
theorem dX6_landing_109 : decode cX6_landing 109 = .ok (.ifCond .eq 8, 3) := bdX6_landing_105.2.2.2.1
theorem dX6_landing_112 : decode cX6_landing 112 = .ok (.iload 4, 2) := bdX6_landing_105.2.2.2.2.1
theorem dX6_landing_114 : decode cX6_landing 114 = .ok (.goto 4, 3) := bdX6_landing_105.2.2.2.2.2.1
theorem dX6_landing_117 : decode cX6_landing 117 = .ok (.iconst 0, 1) := bdX6_landing_105.2.2.2.2.2.2.1
theorem dX6_landing_118 : decode cX6_landing 118 = .ok (.iadd, 1) := bdX6_landing_105.2.2.2.2.2.2.2
theorem bdX6_landing_119 : decode cX6_landing 119 = .ok (.istore 12, 2) ∧ decode cX6_landing 121 = .ok (.iload 12, 2) ∧ decode cX6_landing 123 = .ok (.ifCond .lt 10, 3) ∧ decode cX6_landing 126 = .ok (.iload 12, 2) ∧ decode cX6_landing 128 = .ok (.bipush 30, 2) ∧ decode cX6_landing 130 = .ok (.if_icmp .le 8, 3) ∧ decode cX6_landing 133 = .ok (.bipush (-9), 2) ∧ decode cX6_landing 135 = .ok (.goto 5, 3) := by decide +kernel
theorem dX6_landing_119 : decode cX6_landing 119 = .ok (.istore 12, 2) := bdX6_landing_119.1
theorem dX6_landing_121 : decode cX6_landing 121 = .ok (.iload 12, 2) := bdX6_landing_119.2.1
theorem dX6_landing_123 : decode cX6_landing 123 = .ok (.ifCond .lt 10, 3) := bdX6_landing_119.2.2.1
theorem dX6_landing_126 : decode cX6_landing 126 = .ok (.iload 12, 2) := bdX6_landing_119.2.2.2.1
theorem dX6_landing_128 : decode cX6_landing 128 = .ok (.bipush 30, 2) := bdX6_landing_119.2.2.2.2.1
theorem dX6_landing_130 : decode cX6_landing 130 = .ok (.if_icmp .le 8, 3) := bdX6_landing_119.2.2.2.2.2.1
theorem dX6_landing_133 : decode cX6_landing 133 = .ok (.bipush (-9), 2) := bdX6_landing_119.2.2.2.2.2.2.1
theorem dX6_landing_135 : decode cX6_landing 135 = .ok (.goto 5, 3) := bdX6_landing_119.2.2.2.2.2.2.2
theorem bdX6_landing_138 : decode cX6_landing 138 = .ok (.iload 12, 2) ∧ decode cX6_landing 140 = .ok (.ireturn, 1) := by decide +kernel
theorem dX6_landing_138 : decode cX6_landing 138 = .ok (.iload 12, 2) := bdX6_landing_138.1
theorem dX6_landing_140 : decode cX6_landing 140 = .ok (.ireturn, 1) := bdX6_landing_138.2
set_option maxRecDepth 20000 in
set_option maxRecDepth 100000 in
theorem ggX6_landings_X6_landing : GoodIn wsX6_landings wsX6_landing := goodIn_hd (goodIn_c ch_X6_landings hc_X6_landings ([.code yX6_landing cX6_landing 13 (some .int)] : List Cond) [(1, 4)] rfl (by decide +kernel)) (goodIn_app (goodIn_c ch_X6_landings hc_X6_landings ([.fieldLink RX6 9 "WordFletchers$Told" "place" "[I", .methodLink RX6 59 yX6_flight, .instanceMethod yX6_flight, .selects RX6 yX6_flight yX6_flight, .initialized RX6, .code yX6_flight cX6_flight 6 (some .int), .fieldLink RX6 21 "WordFletchers$Told" "twist" "[I", .fieldLink RX6 18 "WordFletchers$Told" "weight" "[I", .methodLink RX6 46 Lib.Math.max.name, .static Lib.Math.max.name, .initialized "java/lang/Math", .code Lib.Math.max.name Lib.Math.max.code 2 (some .int)] : List Cond) [(1, 5), (1, 6), (1, 7), (1, 8), (1, 3), (1, 9), (1, 10), (1, 11), (1, 12), (1, 13), (1, 14), (1, 15)] rfl (by decide +kernel)) (goodIn_sub (fun _ h => (List.mem_cons_of_mem _ (List.mem_append_right _ h))) gwX6))
set_option maxRecDepth 20000 in
theorem gX6_landings_X6_landing : GoodIn wsX6_landings (wsV RX6 66 RX6 yX6_landing wsX6_landing) := goodIn_app (goodIn_of _ (by decide +kernel)) ggX6_landings_X6_landing
theorem bdX6_landings_0 : decode cX6_landings 0 = .ok (.iconst 0, 1) ∧ decode cX6_landings 1 = .ok (.istore 5, 2) ∧ decode cX6_landings 3 = .ok (.getstatic 63, 3) ∧ decode cX6_landings 6 = .ok (.astore 6, 2) ∧ decode cX6_landings 8 = .ok (.aload 6, 2) ∧ decode cX6_landings 10 = .ok (.arraylength, 1) ∧ decode cX6_landings 11 = .ok (.istore 7, 2) ∧ decode cX6_landings 13 = .ok (.iconst 0, 1) := by decide +kernel
theorem dX6_landings_0 : decode cX6_landings 0 = .ok (.iconst 0, 1) := bdX6_landings_0.1
theorem dX6_landings_1 : decode cX6_landings 1 = .ok (.istore 5, 2) := bdX6_landings_0.2.1
theorem dX6_landings_3 : decode cX6_landings 3 = .ok (.getstatic 63, 3) := bdX6_landings_0.2.2.1
theorem dX6_landings_6 : decode cX6_landings 6 = .ok (.astore 6, 2) := bdX6_landings_0.2.2.2.1
theorem dX6_landings_8 : decode cX6_landings 8 = .ok (.aload 6, 2) := bdX6_landings_0.2.2.2.2.1
theorem dX6_landings_10 : decode cX6_landings 10 = .ok (.arraylength, 1) := bdX6_landings_0.2.2.2.2.2.1
theorem dX6_landings_11 : decode cX6_landings 11 = .ok (.istore 7, 2) := bdX6_landings_0.2.2.2.2.2.2.1
theorem dX6_landings_13 : decode cX6_landings 13 = .ok (.iconst 0, 1) := bdX6_landings_0.2.2.2.2.2.2.2
theorem bdX6_landings_14 : decode cX6_landings 14 = .ok (.istore 8, 2) ∧ decode cX6_landings 16 = .ok (.iload 8, 2) ∧ decode cX6_landings 18 = .ok (.iload 7, 2) ∧ decode cX6_landings 20 = .ok (.if_icmp .ge 45, 3) ∧ decode cX6_landings 23 = .ok (.aload 6, 2) ∧ decode cX6_landings 25 = .ok (.iload 8, 2) ∧ decode cX6_landings 27 = .ok (.iaload, 1) ∧ decode cX6_landings 28 = .ok (.istore 9, 2) := by decide +kernel
theorem dX6_landings_14 : decode cX6_landings 14 = .ok (.istore 8, 2) := bdX6_landings_14.1
theorem dX6_landings_16 : decode cX6_landings 16 = .ok (.iload 8, 2) := bdX6_landings_14.2.1
theorem dX6_landings_18 : decode cX6_landings 18 = .ok (.iload 7, 2) := bdX6_landings_14.2.2.1
theorem dX6_landings_20 : decode cX6_landings 20 = .ok (.if_icmp .ge 45, 3) := bdX6_landings_14.2.2.2.1
theorem dX6_landings_23 : decode cX6_landings 23 = .ok (.aload 6, 2) := bdX6_landings_14.2.2.2.2.1
theorem dX6_landings_25 : decode cX6_landings 25 = .ok (.iload 8, 2) := bdX6_landings_14.2.2.2.2.2.1
theorem dX6_landings_27 : decode cX6_landings 27 = .ok (.iaload, 1) := bdX6_landings_14.2.2.2.2.2.2.1
theorem dX6_landings_28 : decode cX6_landings 28 = .ok (.istore 9, 2) := bdX6_landings_14.2.2.2.2.2.2.2
theorem bdX6_landings_30 : decode cX6_landings 30 = .ok (.aload_n 0, 1) ∧ decode cX6_landings 31 = .ok (.iload_n 1, 1) ∧ decode cX6_landings 32 = .ok (.iload_n 2, 1) ∧ decode cX6_landings 33 = .ok (.iload 9, 2) ∧ decode cX6_landings 35 = .ok (.iload_n 3, 1) ∧ decode cX6_landings 36 = .ok (.iload 4, 2) ∧ decode cX6_landings 38 = .ok (.invokevirtual 66, 3) ∧ decode cX6_landings 41 = .ok (.istore 10, 2) := by decide +kernel
theorem dX6_landings_30 : decode cX6_landings 30 = .ok (.aload_n 0, 1) := bdX6_landings_30.1
theorem dX6_landings_31 : decode cX6_landings 31 = .ok (.iload_n 1, 1) := bdX6_landings_30.2.1
theorem dX6_landings_32 : decode cX6_landings 32 = .ok (.iload_n 2, 1) := bdX6_landings_30.2.2.1
theorem dX6_landings_33 : decode cX6_landings 33 = .ok (.iload 9, 2) := bdX6_landings_30.2.2.2.1
theorem dX6_landings_35 : decode cX6_landings 35 = .ok (.iload_n 3, 1) := bdX6_landings_30.2.2.2.2.1
theorem dX6_landings_36 : decode cX6_landings 36 = .ok (.iload 4, 2) := bdX6_landings_30.2.2.2.2.2.1
theorem dX6_landings_38 : decode cX6_landings 38 = .ok (.invokevirtual 66, 3) := bdX6_landings_30.2.2.2.2.2.2.1
theorem dX6_landings_41 : decode cX6_landings 41 = .ok (.istore 10, 2) := bdX6_landings_30.2.2.2.2.2.2.2
theorem bdX6_landings_43 : decode cX6_landings 43 = .ok (.iload 10, 2) ∧ decode cX6_landings 45 = .ok (.bipush (-9), 2) ∧ decode cX6_landings 47 = .ok (.if_icmp .eq 12, 3) ∧ decode cX6_landings 50 = .ok (.iload 5, 2) ∧ decode cX6_landings 52 = .ok (.iconst 1, 1) ∧ decode cX6_landings 53 = .ok (.iload 10, 2) ∧ decode cX6_landings 55 = .ok (.ishl, 1) ∧ decode cX6_landings 56 = .ok (.ior, 1) := by decide +kernel
theorem dX6_landings_43 : decode cX6_landings 43 = .ok (.iload 10, 2) := bdX6_landings_43.1
theorem dX6_landings_45 : decode cX6_landings 45 = .ok (.bipush (-9), 2) := bdX6_landings_43.2.1
theorem dX6_landings_47 : decode cX6_landings 47 = .ok (.if_icmp .eq 12, 3) := bdX6_landings_43.2.2.1
theorem dX6_landings_50 : decode cX6_landings 50 = .ok (.iload 5, 2) := bdX6_landings_43.2.2.2.1
theorem dX6_landings_52 : decode cX6_landings 52 = .ok (.iconst 1, 1) := bdX6_landings_43.2.2.2.2.1
theorem dX6_landings_53 : decode cX6_landings 53 = .ok (.iload 10, 2) := bdX6_landings_43.2.2.2.2.2.1
theorem dX6_landings_55 : decode cX6_landings 55 = .ok (.ishl, 1) := bdX6_landings_43.2.2.2.2.2.2.1
theorem dX6_landings_56 : decode cX6_landings 56 = .ok (.ior, 1) := bdX6_landings_43.2.2.2.2.2.2.2
theorem bdX6_landings_57 : decode cX6_landings 57 = .ok (.istore 5, 2) ∧ decode cX6_landings 59 = .ok (.iinc 8 1, 3) ∧ decode cX6_landings 62 = .ok (.goto (-46), 3) ∧ decode cX6_landings 65 = .ok (.iload 5, 2) ∧ decode cX6_landings 67 = .ok (.ireturn, 1) := by decide +kernel
theorem dX6_landings_57 : decode cX6_landings 57 = .ok (.istore 5, 2) := bdX6_landings_57.1
theorem dX6_landings_59 : decode cX6_landings 59 = .ok (.iinc 8 1, 3) := bdX6_landings_57.2.1
theorem dX6_landings_62 : decode cX6_landings 62 = .ok (.goto (-46), 3) := bdX6_landings_57.2.2.1
theorem dX6_landings_65 : decode cX6_landings 65 = .ok (.iload 5, 2) := bdX6_landings_57.2.2.2.1
theorem dX6_landings_67 : decode cX6_landings 67 = .ok (.ireturn, 1) := bdX6_landings_57.2.2.2.2
theorem bdX6_hears_0 : decode cX6_hears 0 = .ok (.iload_n 2, 1) ∧ decode cX6_hears 1 = .ok (.bipush (-9), 2) ∧ decode cX6_hears 3 = .ok (.if_icmp .eq 27, 3) ∧ decode cX6_hears 6 = .ok (.aload_n 0, 1) ∧ decode cX6_hears 7 = .ok (.getfield 9, 3) ∧ decode cX6_hears 10 = .ok (.iload_n 1, 1) ∧ decode cX6_hears 11 = .ok (.iaload, 1) ∧ decode cX6_hears 12 = .ok (.iload_n 2, 1) := by decide +kernel
theorem dX6_hears_0 : decode cX6_hears 0 = .ok (.iload_n 2, 1) := bdX6_hears_0.1
theorem dX6_hears_1 : decode cX6_hears 1 = .ok (.bipush (-9), 2) := bdX6_hears_0.2.1
theorem dX6_hears_3 : decode cX6_hears 3 = .ok (.if_icmp .eq 27, 3) := bdX6_hears_0.2.2.1
theorem dX6_hears_6 : decode cX6_hears 6 = .ok (.aload_n 0, 1) := bdX6_hears_0.2.2.2.1
theorem dX6_hears_7 : decode cX6_hears 7 = .ok (.getfield 9, 3) := bdX6_hears_0.2.2.2.2.1
theorem dX6_hears_10 : decode cX6_hears 10 = .ok (.iload_n 1, 1) := bdX6_hears_0.2.2.2.2.2.1
theorem dX6_hears_11 : decode cX6_hears 11 = .ok (.iaload, 1) := bdX6_hears_0.2.2.2.2.2.2.1
theorem dX6_hears_12 : decode cX6_hears 12 = .ok (.iload_n 2, 1) := bdX6_hears_0.2.2.2.2.2.2.2
theorem bdX6_hears_13 : decode cX6_hears 13 = .ok (.isub, 1) ∧ decode cX6_hears 14 = .ok (.invokestatic 70, 3) ∧ decode cX6_hears 17 = .ok (.aload_n 0, 1) ∧ decode cX6_hears 18 = .ok (.getfield 15, 3) ∧ decode cX6_hears 21 = .ok (.iload_n 1, 1) ∧ decode cX6_hears 22 = .ok (.iaload, 1) ∧ decode cX6_hears 23 = .ok (.if_icmp .gt 7, 3) ∧ decode cX6_hears 26 = .ok (.iconst 1, 1) := by decide +kernel
theorem dX6_hears_13 : decode cX6_hears 13 = .ok (.isub, 1) := bdX6_hears_13.1
theorem dX6_hears_14 : decode cX6_hears 14 = .ok (.invokestatic 70, 3) := bdX6_hears_13.2.1
theorem dX6_hears_17 : decode cX6_hears 17 = .ok (.aload_n 0, 1) := bdX6_hears_13.2.2.1
theorem dX6_hears_18 : decode cX6_hears 18 = .ok (.getfield 15, 3) := bdX6_hears_13.2.2.2.1
theorem dX6_hears_21 : decode cX6_hears 21 = .ok (.iload_n 1, 1) := bdX6_hears_13.2.2.2.2.1
theorem dX6_hears_22 : decode cX6_hears 22 = .ok (.iaload, 1) := bdX6_hears_13.2.2.2.2.2.1
theorem dX6_hears_23 : decode cX6_hears 23 = .ok (.if_icmp .gt 7, 3) := bdX6_hears_13.2.2.2.2.2.2.1
theorem dX6_hears_26 : decode cX6_hears 26 = .ok (.iconst 1, 1) := bdX6_hears_13.2.2.2.2.2.2.2
theorem bdX6_hears_27 : decode cX6_hears 27 = .ok (.goto 4, 3) ∧ decode cX6_hears 30 = .ok (.iconst 0, 1) ∧ decode cX6_hears 31 = .ok (.ireturn, 1) := by decide +kernel
theorem dX6_hears_27 : decode cX6_hears 27 = .ok (.goto 4, 3) := bdX6_hears_27.1
theorem dX6_hears_30 : decode cX6_hears 30 = .ok (.iconst 0, 1) := bdX6_hears_27.2.1
theorem dX6_hears_31 : decode cX6_hears 31 = .ok (.ireturn, 1) := bdX6_hears_27.2.2
set_option maxRecDepth 20000 in
set_option maxRecDepth 100000 in
theorem ggX6_hearers_X6_hears : GoodIn wsX6_hearers wsX6_hears := goodIn_hd (goodIn_c ch_X6_hearers hc_X6_hearers ([.code yX6_hears cX6_hears 3 (some .boolean)] : List Cond) [(1, 5)] rfl (by decide +kernel)) (goodIn_app (goodIn_c ch_X6_hearers hc_X6_hearers ([.fieldLink RX6 9 "WordFletchers$Told" "place" "[I", .methodLink RX6 70 Lib.Math.abs.name, .static Lib.Math.abs.name, .initialized "java/lang/Math", .code Lib.Math.abs.name Lib.Math.abs.code 1 (some .int), .fieldLink RX6 15 "WordFletchers$Told" "ear" "[I"] : List Cond) [(1, 6), (1, 7), (1, 8), (1, 9), (1, 10), (1, 11)] rfl (by decide +kernel)) (goodIn_sub (fun _ h => (List.mem_cons_of_mem _ (List.mem_append_right _ h))) gwX6))
set_option maxRecDepth 20000 in
theorem gX6_hearers_X6_hears : GoodIn wsX6_hearers (wsV RX6 74 RX6 yX6_hears wsX6_hears) := goodIn_app (goodIn_of _ (by decide +kernel)) ggX6_hearers_X6_hears
theorem bdX6_hearers_0 : decode cX6_hearers 0 = .ok (.iconst 0, 1) ∧ decode cX6_hearers 1 = .ok (.istore_n 3, 1) ∧ decode cX6_hearers 2 = .ok (.iconst 0, 1) ∧ decode cX6_hearers 3 = .ok (.istore 4, 2) ∧ decode cX6_hearers 5 = .ok (.iload 4, 2) ∧ decode cX6_hearers 7 = .ok (.aload_n 0, 1) ∧ decode cX6_hearers 8 = .ok (.getfield 36, 3) ∧ decode cX6_hearers 11 = .ok (.if_icmp .ge 32, 3) := by decide +kernel
theorem dX6_hearers_0 : decode cX6_hearers 0 = .ok (.iconst 0, 1) := bdX6_hearers_0.1
theorem dX6_hearers_1 : decode cX6_hearers 1 = .ok (.istore_n 3, 1) := bdX6_hearers_0.2.1
theorem dX6_hearers_2 : decode cX6_hearers 2 = .ok (.iconst 0, 1) := bdX6_hearers_0.2.2.1
theorem dX6_hearers_3 : decode cX6_hearers 3 = .ok (.istore 4, 2) := bdX6_hearers_0.2.2.2.1
theorem dX6_hearers_5 : decode cX6_hearers 5 = .ok (.iload 4, 2) := bdX6_hearers_0.2.2.2.2.1
theorem dX6_hearers_7 : decode cX6_hearers 7 = .ok (.aload_n 0, 1) := bdX6_hearers_0.2.2.2.2.2.1
theorem dX6_hearers_8 : decode cX6_hearers 8 = .ok (.getfield 36, 3) := bdX6_hearers_0.2.2.2.2.2.2.1
theorem dX6_hearers_11 : decode cX6_hearers 11 = .ok (.if_icmp .ge 32, 3) := bdX6_hearers_0.2.2.2.2.2.2.2
theorem bdX6_hearers_14 : decode cX6_hearers 14 = .ok (.iload 4, 2) ∧ decode cX6_hearers 16 = .ok (.iload_n 1, 1) ∧ decode cX6_hearers 17 = .ok (.if_icmp .eq 20, 3) ∧ decode cX6_hearers 20 = .ok (.aload_n 0, 1) ∧ decode cX6_hearers 21 = .ok (.iload 4, 2) ∧ decode cX6_hearers 23 = .ok (.iload_n 2, 1) ∧ decode cX6_hearers 24 = .ok (.invokevirtual 74, 3) ∧ decode cX6_hearers 27 = .ok (.ifCond .eq 10, 3) := by decide +kernel
theorem dX6_hearers_14 : decode cX6_hearers 14 = .ok (.iload 4, 2) := bdX6_hearers_14.1
theorem dX6_hearers_16 : decode cX6_hearers 16 = .ok (.iload_n 1, 1) := bdX6_hearers_14.2.1
theorem dX6_hearers_17 : decode cX6_hearers 17 = .ok (.if_icmp .eq 20, 3) := bdX6_hearers_14.2.2.1
theorem dX6_hearers_20 : decode cX6_hearers 20 = .ok (.aload_n 0, 1) := bdX6_hearers_14.2.2.2.1
theorem dX6_hearers_21 : decode cX6_hearers 21 = .ok (.iload 4, 2) := bdX6_hearers_14.2.2.2.2.1
theorem dX6_hearers_23 : decode cX6_hearers 23 = .ok (.iload_n 2, 1) := bdX6_hearers_14.2.2.2.2.2.1
theorem dX6_hearers_24 : decode cX6_hearers 24 = .ok (.invokevirtual 74, 3) := bdX6_hearers_14.2.2.2.2.2.2.1
theorem dX6_hearers_27 : decode cX6_hearers 27 = .ok (.ifCond .eq 10, 3) := bdX6_hearers_14.2.2.2.2.2.2.2
theorem bdX6_hearers_30 : decode cX6_hearers 30 = .ok (.iload_n 3, 1) ∧ decode cX6_hearers 31 = .ok (.iconst 1, 1) ∧ decode cX6_hearers 32 = .ok (.iload 4, 2) ∧ decode cX6_hearers 34 = .ok (.ishl, 1) ∧ decode cX6_hearers 35 = .ok (.ior, 1) ∧ decode cX6_hearers 36 = .ok (.istore_n 3, 1) ∧ decode cX6_hearers 37 = .ok (.iinc 4 1, 3) ∧ decode cX6_hearers 40 = .ok (.goto (-35), 3) := by decide +kernel
theorem dX6_hearers_30 : decode cX6_hearers 30 = .ok (.iload_n 3, 1) := bdX6_hearers_30.1
theorem dX6_hearers_31 : decode cX6_hearers 31 = .ok (.iconst 1, 1) := bdX6_hearers_30.2.1
theorem dX6_hearers_32 : decode cX6_hearers 32 = .ok (.iload 4, 2) := bdX6_hearers_30.2.2.1
theorem dX6_hearers_34 : decode cX6_hearers 34 = .ok (.ishl, 1) := bdX6_hearers_30.2.2.2.1
theorem dX6_hearers_35 : decode cX6_hearers 35 = .ok (.ior, 1) := bdX6_hearers_30.2.2.2.2.1
theorem dX6_hearers_36 : decode cX6_hearers 36 = .ok (.istore_n 3, 1) := bdX6_hearers_30.2.2.2.2.2.1
theorem dX6_hearers_37 : decode cX6_hearers 37 = .ok (.iinc 4 1, 3) := bdX6_hearers_30.2.2.2.2.2.2.1
theorem dX6_hearers_40 : decode cX6_hearers 40 = .ok (.goto (-35), 3) := bdX6_hearers_30.2.2.2.2.2.2.2
theorem bdX6_hearers_43 : decode cX6_hearers 43 = .ok (.iload_n 3, 1) ∧ decode cX6_hearers 44 = .ok (.ireturn, 1) := by decide +kernel
theorem dX6_hearers_43 : decode cX6_hearers 43 = .ok (.iload_n 3, 1) := bdX6_hearers_43.1
theorem dX6_hearers_44 : decode cX6_hearers 44 = .ok (.ireturn, 1) := bdX6_hearers_43.2
set_option maxRecDepth 20000 in
set_option maxRecDepth 100000 in
theorem ggX7_init_X5_init : GoodIn wsX7_init wsX5_init := goodIn_hd (goodIn_c ch_X7_init hc_X7_init ([.code yX5_init cX5_init 2 none] : List Cond) [(2, 16)] rfl (by decide +kernel)) (goodIn_app (goodIn_c ch_X7_init hc_X7_init ([.methodLink RX5 3 objectInit, .instanceMethod objectInit, .code objectInit ⟨#[0xb1]⟩ 1 none, .fieldLink RX5 9 "WordFletchers$TextReader" "bytes" "[I"] : List Cond) [(2, 17), (1, 1), (1, 2), (2, 18)] rfl (by decide +kernel)) (goodIn_sub (fun _ h => (List.mem_cons_of_mem _ (List.mem_append_left _ (List.mem_append_left _ (List.mem_append_left _ (List.mem_append_left _ (List.mem_append_left _ (List.mem_append_left _ (List.mem_append_right _ h))))))))) gwX5))
set_option maxRecDepth 20000 in
theorem gX7_init_X5_init : GoodIn wsX7_init (wsX5_init) := ggX7_init_X5_init
set_option maxRecDepth 20000 in
set_option maxRecDepth 100000 in
theorem ggX7_init_X6_init : GoodIn wsX7_init wsX6_init := goodIn_hd (goodIn_c ch_X7_init hc_X7_init ([.code yX6_init cX6_init 1 none] : List Cond) [(2, 21)] rfl (by decide +kernel)) (goodIn_app (goodIn_c ch_X7_init hc_X7_init ([.methodLink RX6 3 objectInit, .instanceMethod objectInit, .code objectInit ⟨#[0xb1]⟩ 1 none, .arrayClass .int, .fieldLink RX6 9 "WordFletchers$Told" "place" "[I", .fieldLink RX6 15 "WordFletchers$Told" "ear" "[I", .fieldLink RX6 18 "WordFletchers$Told" "weight" "[I", .fieldLink RX6 21 "WordFletchers$Told" "twist" "[I", .fieldLink RX6 24 "WordFletchers$Told" "first" "[I", .fieldLink RX6 27 "WordFletchers$Told" "winds" "[I", .fieldLink RX6 30 "WordFletchers$Told" "feathers" "[I", .methodLink RX6 33 yX6_tellNothing, .instanceMethod yX6_tellNothing, .selects RX6 yX6_tellNothing yX6_tellNothing, .initialized RX6, .code yX6_tellNothing cX6_tellNothing 2 none, .fieldLink RX6 36 "WordFletchers$Told" "people" "I", .fieldLink RX6 40 "WordFletchers$Told" "sayings" "I", .fieldLink RX6 43 "WordFletchers$Told" "windsTold" "I"] : List Cond) [(2, 22), (1, 1), (1, 2), (1, 3), (2, 23), (3, 0), (3, 1), (3, 2), (3, 3), (3, 4), (3, 5), (3, 6), (3, 7), (3, 8), (1, 12), (3, 9), (3, 10), (3, 11), (3, 12)] rfl (by decide +kernel)) (goodIn_sub (fun _ h => (List.mem_cons_of_mem _ (List.mem_append_left _ (List.mem_append_left _ (List.mem_append_left _ (List.mem_append_left _ (List.mem_append_left _ (List.mem_append_right _ h)))))))) gwX6))
set_option maxRecDepth 20000 in
theorem gX7_init_X6_init : GoodIn wsX7_init (wsX6_init) := ggX7_init_X6_init
set_option maxRecDepth 20000 in
set_option maxRecDepth 100000 in
theorem ggX7_init_X2_init : GoodIn wsX7_init wsX2_init := goodIn_hd (goodIn_c ch_X7_init hc_X7_init ([.code yX2_init cX2_init 1 none] : List Cond) [(3, 14)] rfl (by decide +kernel)) (goodIn_app (goodIn_c ch_X7_init hc_X7_init ([.methodLink RX2 3 objectInit, .instanceMethod objectInit, .code objectInit ⟨#[0xb1]⟩ 1 none, .arrayClass .int, .fieldLink RX2 9 "WordFletchers$Moment" "feathers" "[I", .fieldLink RX2 15 "WordFletchers$Moment" "knows" "[I", .fieldLink RX2 18 "WordFletchers$Moment" "straySaying" "[I", .fieldLink RX2 21 "WordFletchers$Moment" "strayPlace" "[I"] : List Cond) [(3, 15), (1, 1), (1, 2), (1, 3), (3, 16), (3, 17), (3, 18), (3, 19)] rfl (by decide +kernel)) (goodIn_sub (fun _ h => (List.mem_cons_of_mem _ (List.mem_append_left _ (List.mem_append_left _ (List.mem_append_left _ (List.mem_append_left _ (List.mem_append_right _ h))))))) gwX2))
set_option maxRecDepth 20000 in
theorem gX7_init_X2_init_n38 : GoodIn wsX7_init (wsX2_init) := ggX7_init_X2_init
set_option maxRecDepth 20000 in
set_option maxRecDepth 100000 in
theorem ggX7_init_X3_init : GoodIn wsX7_init wsX3_init := goodIn_hd (goodIn_c ch_X7_init hc_X7_init ([.code yX3_init cX3_init 2 none] : List Cond) [(3, 22)] rfl (by decide +kernel)) (goodIn_app (goodIn_app (goodIn_c ch_X7_init hc_X7_init ([.methodLink RX3 3 objectInit, .instanceMethod objectInit, .code objectInit ⟨#[0xb1]⟩ 1 none, .classLink RX3 9 RX2, .fieldLink RX3 11 "WordFletchers$Past" "moments" "[LWordFletchers$Moment;", .fieldLink RX3 17 "WordFletchers$Past" "known" "I", .instantiable RX2 7, .initialized RX2, .instanceMethod yX2_init, .code yX2_init cX2_init 1 none, .methodLink RX2 3 objectInit, .arrayClass .int, .fieldLink RX2 9 "WordFletchers$Moment" "feathers" "[I", .fieldLink RX2 15 "WordFletchers$Moment" "knows" "[I", .fieldLink RX2 18 "WordFletchers$Moment" "straySaying" "[I", .fieldLink RX2 21 "WordFletchers$Moment" "strayPlace" "[I"] : List Cond) [(3, 23), (1, 1), (1, 2), (4, 0), (4, 1), (4, 2), (1, 16), (1, 17), (3, 13), (3, 14), (3, 15), (1, 3), (3, 16), (3, 17), (3, 18), (3, 19)] rfl (by decide +kernel)) (goodIn_sub (fun _ h => (List.mem_cons_of_mem _ (List.mem_append_left _ (List.mem_append_left _ (List.mem_append_left _ (List.mem_append_right _ h)))))) gwX3)) (goodIn_sub (fun _ h => (List.mem_cons_of_mem _ (List.mem_append_left _ (List.mem_append_left _ (List.mem_append_left _ (List.mem_append_left _ (List.mem_append_right _ h))))))) gwX2))
set_option maxRecDepth 20000 in
theorem gX7_init_X3_init : GoodIn wsX7_init (wsX3_init) := ggX7_init_X3_init
set_option maxRecDepth 20000 in
set_option maxRecDepth 100000 in
theorem ggX7_init_X4_init : GoodIn wsX7_init wsX4_init := goodIn_hd (goodIn_c ch_X7_init hc_X7_init ([.code yX4_init cX4_init 1 none] : List Cond) [(4, 4)] rfl (by decide +kernel)) (goodIn_app (goodIn_c ch_X7_init hc_X7_init ([.methodLink RX4 3 objectInit, .instanceMethod objectInit, .code objectInit ⟨#[0xb1]⟩ 1 none, .arrayClass .int, .fieldLink RX4 9 "WordFletchers$Sightings" "saying" "[I", .fieldLink RX4 15 "WordFletchers$Sightings" "place" "[I", .fieldLink RX4 18 "WordFletchers$Sightings" "wind" "[I", .fieldLink RX4 21 "WordFletchers$Sightings" "damp" "[I", .fieldLink RX4 24 "WordFletchers$Sightings" "size" "I"] : List Cond) [(4, 5), (1, 1), (1, 2), (1, 3), (4, 6), (4, 7), (4, 8), (4, 9), (4, 10)] rfl (by decide +kernel)) (goodIn_sub (fun _ h => (List.mem_cons_of_mem _ (List.mem_append_left _ (List.mem_append_left _ (List.mem_append_right _ h))))) gwX4))
set_option maxRecDepth 20000 in
theorem gX7_init_X4_init_n58 : GoodIn wsX7_init (wsX4_init) := ggX7_init_X4_init
set_option maxRecDepth 20000 in
set_option maxRecDepth 100000 in
theorem ggX7_init_X0_init : GoodIn wsX7_init wsX0_init := goodIn_hd (goodIn_c ch_X7_init hc_X7_init ([.code yX0_init cX0_init 1 none] : List Cond) [(4, 12)] rfl (by decide +kernel)) (goodIn_app (goodIn_c ch_X7_init hc_X7_init ([.methodLink RX0 3 objectInit, .instanceMethod objectInit, .code objectInit ⟨#[0xb1]⟩ 1 none, .arrayClass .int, .fieldLink RX0 9 "WordFletchers$Allotment" "saying" "[I", .fieldLink RX0 15 "WordFletchers$Allotment" "fewest" "[I", .fieldLink RX0 18 "WordFletchers$Allotment" "used" "[I", .fieldLink RX0 21 "WordFletchers$Allotment" "members" "I"] : List Cond) [(4, 13), (1, 1), (1, 2), (1, 3), (4, 14), (4, 15), (4, 16), (4, 17)] rfl (by decide +kernel)) (goodIn_sub (fun _ h => (List.mem_cons_of_mem _ (List.mem_append_left _ (List.mem_append_right _ h)))) gwX0))
set_option maxRecDepth 20000 in
theorem gX7_init_X0_init_n65 : GoodIn wsX7_init (wsX0_init) := ggX7_init_X0_init
set_option maxRecDepth 20000 in
set_option maxRecDepth 100000 in
theorem ggX7_init_X1_init : GoodIn wsX7_init wsX1_init := goodIn_hd (goodIn_c ch_X7_init hc_X7_init ([.code yX1_init cX1_init 1 none] : List Cond) [(4, 19)] rfl (by decide +kernel)) (goodIn_app (goodIn_app (goodIn_app (goodIn_app (goodIn_c ch_X7_init hc_X7_init wsX1_init_r1 [(4, 20), (1, 1), (1, 2), (4, 21), (1, 16), (1, 17), (4, 22), (4, 23), (1, 20), (1, 21), (5, 0), (5, 1), (3, 13), (3, 14), (3, 15), (1, 3), (3, 16), (3, 17), (3, 18), (3, 19), (5, 2), (3, 21), (3, 22), (3, 23)] rfl (by decide +kernel)) (goodIn_c ch_X7_init hc_X7_init wsX1_init_r2 [(4, 0), (4, 1), (4, 2)] rfl (by decide +kernel))) (goodIn_sub (fun _ h => (List.mem_cons_of_mem _ (List.mem_append_left _ (List.mem_append_left _ (List.mem_append_left _ (List.mem_append_left _ (List.mem_append_right _ h))))))) gwX2)) (goodIn_sub (fun _ h => (List.mem_cons_of_mem _ (List.mem_append_right _ h))) gwX1)) (goodIn_sub (fun _ h => (List.mem_cons_of_mem _ (List.mem_append_left _ (List.mem_append_left _ (List.mem_append_left _ (List.mem_append_right _ h)))))) gwX3))
set_option maxRecDepth 20000 in
theorem gX7_init_X1_init_n80 : GoodIn wsX7_init (wsX1_init) := ggX7_init_X1_init
set_option maxRecDepth 20000 in
set_option maxRecDepth 100000 in
theorem ggX7_init_X2_begin : GoodIn wsX7_init wsX2_begin := goodIn_hd (goodIn_c ch_X7_init hc_X7_init ([.code yX2_begin cX2_begin 3 none] : List Cond) [(5, 6)] rfl (by decide +kernel)) (goodIn_app (goodIn_app (goodIn_c ch_X7_init hc_X7_init ([.fieldLink RX2 24 "WordFletchers$Moment" "hour" "I", .fieldLink RX2 28 "WordFletchers$Moment" "damp" "I", .fieldLink RX2 31 "WordFletchers$Moment" "strays" "I", .fieldLink RX2 9 "WordFletchers$Moment" "feathers" "[I", .fieldLink RX2 34 "WordFletchers$Told" "feathers" "[I", .fieldLink RX2 15 "WordFletchers$Moment" "knows" "[I", .fieldLink RX2 37 "WordFletchers$Told" "sayings" "I", .fieldLink RX2 40 "WordFletchers$Told" "first" "[I", .methodLink RX2 43 yX2_tell, .instanceMethod yX2_tell, .selects RX2 yX2_tell yX2_tell, .initialized RX2, .code yX2_tell cX2_tell 4 none, .static yX7_isIn, .initialized RX7, .code yX7_isIn cX7_isIn 2 (some .boolean)] : List Cond) [(5, 7), (5, 8), (5, 9), (3, 16), (5, 10), (3, 17), (5, 11), (5, 12), (5, 13), (5, 14), (5, 15), (1, 17), (5, 16), (5, 17), (5, 18), (5, 19)] rfl (by decide +kernel)) (goodIn_sub (fun _ h => (List.mem_cons_of_mem _ (List.mem_append_left _ (List.mem_append_left _ (List.mem_append_left _ (List.mem_append_left _ (List.mem_append_right _ h))))))) gwX2)) (goodIn_sub (fun _ h => (List.mem_cons_of_mem _ (List.mem_append_left _ (List.mem_append_left _ (List.mem_append_left _ (List.mem_append_left _ (List.mem_append_left _ (List.mem_append_right _ h)))))))) gwX6))
set_option maxRecDepth 20000 in
theorem gX7_init_X2_begin : GoodIn wsX7_init (wsV RX7 81 RX2 yX2_begin wsX2_begin) := goodIn_app (goodIn_of _ (by decide +kernel)) ggX7_init_X2_begin
theorem bdX7_init_0 : decode cX7_init 0 = .ok (.aload_n 0, 1) ∧ decode cX7_init 1 = .ok (.invokespecial 1, 3) ∧ decode cX7_init 4 = .ok (.aload_n 0, 1) ∧ decode cX7_init 5 = .ok (.bipush 120, 2) ∧ decode cX7_init 7 = .ok (.newarray .int, 2) ∧ decode cX7_init 9 = .ok (.putfield 9, 3) ∧ decode cX7_init 12 = .ok (.aload_n 0, 1) ∧ decode cX7_init 13 = .ok (.iconst 0, 1) := by decide +kernel
theorem dX7_init_0 : decode cX7_init 0 = .ok (.aload_n 0, 1) := bdX7_init_0.1
theorem dX7_init_1 : decode cX7_init 1 = .ok (.invokespecial 1, 3) := bdX7_init_0.2.1
theorem dX7_init_4 : decode cX7_init 4 = .ok (.aload_n 0, 1) := bdX7_init_0.2.2.1
theorem dX7_init_5 : decode cX7_init 5 = .ok (.bipush 120, 2) := bdX7_init_0.2.2.2.1
theorem dX7_init_7 : decode cX7_init 7 = .ok (.newarray .int, 2) := bdX7_init_0.2.2.2.2.1
theorem dX7_init_9 : decode cX7_init 9 = .ok (.putfield 9, 3) := bdX7_init_0.2.2.2.2.2.1
theorem dX7_init_12 : decode cX7_init 12 = .ok (.aload_n 0, 1) := bdX7_init_0.2.2.2.2.2.2.1
theorem dX7_init_13 : decode cX7_init 13 = .ok (.iconst 0, 1) := bdX7_init_0.2.2.2.2.2.2.2
theorem bdX7_init_14 : decode cX7_init 14 = .ok (.putfield 13, 3) ∧ decode cX7_init 17 = .ok (.aload_n 0, 1) ∧ decode cX7_init 18 = .ok (.new 17, 3) ∧ decode cX7_init 21 = .ok (.dup, 1) ∧ decode cX7_init 22 = .ok (.aload_n 0, 1) ∧ decode cX7_init 23 = .ok (.getfield 9, 3) ∧ decode cX7_init 26 = .ok (.invokespecial 19, 3) ∧ decode cX7_init 29 = .ok (.putfield 22, 3) := by decide +kernel
theorem dX7_init_14 : decode cX7_init 14 = .ok (.putfield 13, 3) := bdX7_init_14.1
theorem dX7_init_17 : decode cX7_init 17 = .ok (.aload_n 0, 1) := bdX7_init_14.2.1
theorem dX7_init_18 : decode cX7_init 18 = .ok (.new 17, 3) := bdX7_init_14.2.2.1
theorem dX7_init_21 : decode cX7_init 21 = .ok (.dup, 1) := bdX7_init_14.2.2.2.1
theorem dX7_init_22 : decode cX7_init 22 = .ok (.aload_n 0, 1) := bdX7_init_14.2.2.2.2.1
theorem dX7_init_23 : decode cX7_init 23 = .ok (.getfield 9, 3) := bdX7_init_14.2.2.2.2.2.1
theorem dX7_init_26 : decode cX7_init 26 = .ok (.invokespecial 19, 3) := bdX7_init_14.2.2.2.2.2.2.1
theorem dX7_init_29 : decode cX7_init 29 = .ok (.putfield 22, 3) := bdX7_init_14.2.2.2.2.2.2.2
theorem bdX7_init_32 : decode cX7_init 32 = .ok (.aload_n 0, 1) ∧ decode cX7_init 33 = .ok (.new 26, 3) ∧ decode cX7_init 36 = .ok (.dup, 1) ∧ decode cX7_init 37 = .ok (.invokespecial 28, 3) ∧ decode cX7_init 40 = .ok (.putfield 29, 3) ∧ decode cX7_init 43 = .ok (.aload_n 0, 1) ∧ decode cX7_init 44 = .ok (.new 26, 3) ∧ decode cX7_init 47 = .ok (.dup, 1) := by decide +kernel
theorem dX7_init_32 : decode cX7_init 32 = .ok (.aload_n 0, 1) := bdX7_init_32.1
theorem dX7_init_33 : decode cX7_init 33 = .ok (.new 26, 3) := bdX7_init_32.2.1
theorem dX7_init_36 : decode cX7_init 36 = .ok (.dup, 1) := bdX7_init_32.2.2.1
theorem dX7_init_37 : decode cX7_init 37 = .ok (.invokespecial 28, 3) := bdX7_init_32.2.2.2.1
theorem dX7_init_40 : decode cX7_init 40 = .ok (.putfield 29, 3) := bdX7_init_32.2.2.2.2.1
theorem dX7_init_43 : decode cX7_init 43 = .ok (.aload_n 0, 1) := bdX7_init_32.2.2.2.2.2.1
theorem dX7_init_44 : decode cX7_init 44 = .ok (.new 26, 3) := bdX7_init_32.2.2.2.2.2.2.1
theorem dX7_init_47 : decode cX7_init 47 = .ok (.dup, 1) := bdX7_init_32.2.2.2.2.2.2.2
theorem bdX7_init_48 : decode cX7_init 48 = .ok (.invokespecial 28, 3) ∧ decode cX7_init 51 = .ok (.putfield 33, 3) ∧ decode cX7_init 54 = .ok (.aload_n 0, 1) ∧ decode cX7_init 55 = .ok (.new 36, 3) ∧ decode cX7_init 58 = .ok (.dup, 1) ∧ decode cX7_init 59 = .ok (.invokespecial 38, 3) ∧ decode cX7_init 62 = .ok (.putfield 39, 3) ∧ decode cX7_init 65 = .ok (.aload_n 0, 1) := by decide +kernel
theorem dX7_init_48 : decode cX7_init 48 = .ok (.invokespecial 28, 3) := bdX7_init_48.1
theorem dX7_init_51 : decode cX7_init 51 = .ok (.putfield 33, 3) := bdX7_init_48.2.1
theorem dX7_init_54 : decode cX7_init 54 = .ok (.aload_n 0, 1) := bdX7_init_48.2.2.1
theorem dX7_init_55 : decode cX7_init 55 = .ok (.new 36, 3) := bdX7_init_48.2.2.2.1
theorem dX7_init_58 : decode cX7_init 58 = .ok (.dup, 1) := bdX7_init_48.2.2.2.2.1
theorem dX7_init_59 : decode cX7_init 59 = .ok (.invokespecial 38, 3) := bdX7_init_48.2.2.2.2.2.1
theorem dX7_init_62 : decode cX7_init 62 = .ok (.putfield 39, 3) := bdX7_init_48.2.2.2.2.2.2.1
theorem dX7_init_65 : decode cX7_init 65 = .ok (.aload_n 0, 1) := bdX7_init_48.2.2.2.2.2.2.2
theorem bdX7_init_66 : decode cX7_init 66 = .ok (.new 43, 3) ∧ decode cX7_init 69 = .ok (.dup, 1) ∧ decode cX7_init 70 = .ok (.invokespecial 45, 3) ∧ decode cX7_init 73 = .ok (.putfield 46, 3) ∧ decode cX7_init 76 = .ok (.aload_n 0, 1) ∧ decode cX7_init 77 = .ok (.iconst 2, 1) ∧ decode cX7_init 78 = .ok (.anewarray 50, 3) ∧ decode cX7_init 81 = .ok (.putfield 52, 3) := by decide +kernel
theorem dX7_init_66 : decode cX7_init 66 = .ok (.new 43, 3) := bdX7_init_66.1
theorem dX7_init_69 : decode cX7_init 69 = .ok (.dup, 1) := bdX7_init_66.2.1
theorem dX7_init_70 : decode cX7_init 70 = .ok (.invokespecial 45, 3) := bdX7_init_66.2.2.1
theorem dX7_init_73 : decode cX7_init 73 = .ok (.putfield 46, 3) := bdX7_init_66.2.2.2.1
theorem dX7_init_76 : decode cX7_init 76 = .ok (.aload_n 0, 1) := bdX7_init_66.2.2.2.2.1
theorem dX7_init_77 : decode cX7_init 77 = .ok (.iconst 2, 1) := bdX7_init_66.2.2.2.2.2.1
theorem dX7_init_78 : decode cX7_init 78 = .ok (.anewarray 50, 3) := bdX7_init_66.2.2.2.2.2.2.1
theorem dX7_init_81 : decode cX7_init 81 = .ok (.putfield 52, 3) := bdX7_init_66.2.2.2.2.2.2.2
theorem bdX7_init_84 : decode cX7_init 84 = .ok (.aload_n 0, 1) ∧ decode cX7_init 85 = .ok (.new 56, 3) ∧ decode cX7_init 88 = .ok (.dup, 1) ∧ decode cX7_init 89 = .ok (.invokespecial 58, 3) ∧ decode cX7_init 92 = .ok (.putfield 59, 3) ∧ decode cX7_init 95 = .ok (.aload_n 0, 1) ∧ decode cX7_init 96 = .ok (.new 63, 3) ∧ decode cX7_init 99 = .ok (.dup, 1) := by decide +kernel
theorem dX7_init_84 : decode cX7_init 84 = .ok (.aload_n 0, 1) := bdX7_init_84.1
theorem dX7_init_85 : decode cX7_init 85 = .ok (.new 56, 3) := bdX7_init_84.2.1
theorem dX7_init_88 : decode cX7_init 88 = .ok (.dup, 1) := bdX7_init_84.2.2.1
theorem dX7_init_89 : decode cX7_init 89 = .ok (.invokespecial 58, 3) := bdX7_init_84.2.2.2.1
theorem dX7_init_92 : decode cX7_init 92 = .ok (.putfield 59, 3) := bdX7_init_84.2.2.2.2.1
theorem dX7_init_95 : decode cX7_init 95 = .ok (.aload_n 0, 1) := bdX7_init_84.2.2.2.2.2.1
theorem dX7_init_96 : decode cX7_init 96 = .ok (.new 63, 3) := bdX7_init_84.2.2.2.2.2.2.1
theorem dX7_init_99 : decode cX7_init 99 = .ok (.dup, 1) := bdX7_init_84.2.2.2.2.2.2.2
theorem bdX7_init_100 : decode cX7_init 100 = .ok (.invokespecial 65, 3) ∧ decode cX7_init 103 = .ok (.putfield 66, 3) ∧ decode cX7_init 106 = .ok (.aload_n 0, 1) ∧ decode cX7_init 107 = .ok (.bipush 6, 2) ∧ decode cX7_init 109 = .ok (.newarray .int, 2) ∧ decode cX7_init 111 = .ok (.putfield 70, 3) ∧ decode cX7_init 114 = .ok (.aload_n 0, 1) ∧ decode cX7_init 115 = .ok (.bipush 6, 2) := by decide +kernel
theorem dX7_init_100 : decode cX7_init 100 = .ok (.invokespecial 65, 3) := bdX7_init_100.1
theorem dX7_init_103 : decode cX7_init 103 = .ok (.putfield 66, 3) := bdX7_init_100.2.1
theorem dX7_init_106 : decode cX7_init 106 = .ok (.aload_n 0, 1) := bdX7_init_100.2.2.1
theorem dX7_init_107 : decode cX7_init 107 = .ok (.bipush 6, 2) := bdX7_init_100.2.2.2.1
theorem dX7_init_109 : decode cX7_init 109 = .ok (.newarray .int, 2) := bdX7_init_100.2.2.2.2.1
theorem dX7_init_111 : decode cX7_init 111 = .ok (.putfield 70, 3) := bdX7_init_100.2.2.2.2.2.1
theorem dX7_init_114 : decode cX7_init 114 = .ok (.aload_n 0, 1) := bdX7_init_100.2.2.2.2.2.2.1
theorem dX7_init_115 : decode cX7_init 115 = .ok (.bipush 6, 2) := bdX7_init_100.2.2.2.2.2.2.2
theorem bdX7_init_117 : decode cX7_init 117 = .ok (.newarray .int, 2) ∧ decode cX7_init 119 = .ok (.putfield 73, 3) ∧ decode cX7_init 122 = .ok (.aload_n 0, 1) ∧ decode cX7_init 123 = .ok (.lconst 0, 1) ∧ decode cX7_init 124 = .ok (.putfield 76, 3) ∧ decode cX7_init 127 = .ok (.iconst 0, 1) ∧ decode cX7_init 128 = .ok (.istore_n 1, 1) ∧ decode cX7_init 129 = .ok (.iload_n 1, 1) := by decide +kernel
theorem dX7_init_117 : decode cX7_init 117 = .ok (.newarray .int, 2) := bdX7_init_117.1
theorem dX7_init_119 : decode cX7_init 119 = .ok (.putfield 73, 3) := bdX7_init_117.2.1
theorem dX7_init_122 : decode cX7_init 122 = .ok (.aload_n 0, 1) := bdX7_init_117.2.2.1
theorem dX7_init_123 : decode cX7_init 123 = .ok (.lconst 0, 1) := bdX7_init_117.2.2.2.1
theorem dX7_init_124 : decode cX7_init 124 = .ok (.putfield 76, 3) := bdX7_init_117.2.2.2.2.1
theorem dX7_init_127 : decode cX7_init 127 = .ok (.iconst 0, 1) := bdX7_init_117.2.2.2.2.2.1
theorem dX7_init_128 : decode cX7_init 128 = .ok (.istore_n 1, 1) := bdX7_init_117.2.2.2.2.2.2.1
theorem dX7_init_129 : decode cX7_init 129 = .ok (.iload_n 1, 1) := bdX7_init_117.2.2.2.2.2.2.2
theorem bdX7_init_130 : decode cX7_init 130 = .ok (.iconst 2, 1) ∧ decode cX7_init 131 = .ok (.if_icmp .ge 22, 3) ∧ decode cX7_init 134 = .ok (.aload_n 0, 1) ∧ decode cX7_init 135 = .ok (.getfield 52, 3) ∧ decode cX7_init 138 = .ok (.iload_n 1, 1) ∧ decode cX7_init 139 = .ok (.new 50, 3) ∧ decode cX7_init 142 = .ok (.dup, 1) ∧ decode cX7_init 143 = .ok (.invokespecial 80, 3) := by decide +kernel
theorem dX7_init_130 : decode cX7_init 130 = .ok (.iconst 2, 1) := bdX7_init_130.1
theorem dX7_init_131 : decode cX7_init 131 = .ok (.if_icmp .ge 22, 3) := bdX7_init_130.2.1
theorem dX7_init_134 : decode cX7_init 134 = .ok (.aload_n 0, 1) := bdX7_init_130.2.2.1
theorem dX7_init_135 : decode cX7_init 135 = .ok (.getfield 52, 3) := bdX7_init_130.2.2.2.1
theorem dX7_init_138 : decode cX7_init 138 = .ok (.iload_n 1, 1) := bdX7_init_130.2.2.2.2.1
theorem dX7_init_139 : decode cX7_init 139 = .ok (.new 50, 3) := bdX7_init_130.2.2.2.2.2.1
theorem dX7_init_142 : decode cX7_init 142 = .ok (.dup, 1) := bdX7_init_130.2.2.2.2.2.2.1
theorem dX7_init_143 : decode cX7_init 143 = .ok (.invokespecial 80, 3) := bdX7_init_130.2.2.2.2.2.2.2
theorem bdX7_init_146 : decode cX7_init 146 = .ok (.aastore, 1) ∧ decode cX7_init 147 = .ok (.iinc 1 1, 3) ∧ decode cX7_init 150 = .ok (.goto (-21), 3) ∧ decode cX7_init 153 = .ok (.aload_n 0, 1) ∧ decode cX7_init 154 = .ok (.getfield 39, 3) ∧ decode cX7_init 157 = .ok (.aload_n 0, 1) ∧ decode cX7_init 158 = .ok (.getfield 29, 3) ∧ decode cX7_init 161 = .ok (.invokevirtual 81, 3) := by decide +kernel
theorem dX7_init_146 : decode cX7_init 146 = .ok (.aastore, 1) := bdX7_init_146.1
theorem dX7_init_147 : decode cX7_init 147 = .ok (.iinc 1 1, 3) := bdX7_init_146.2.1
theorem dX7_init_150 : decode cX7_init 150 = .ok (.goto (-21), 3) := bdX7_init_146.2.2.1
theorem dX7_init_153 : decode cX7_init 153 = .ok (.aload_n 0, 1) := bdX7_init_146.2.2.2.1
theorem dX7_init_154 : decode cX7_init 154 = .ok (.getfield 39, 3) := bdX7_init_146.2.2.2.2.1
theorem dX7_init_157 : decode cX7_init 157 = .ok (.aload_n 0, 1) := bdX7_init_146.2.2.2.2.2.1
theorem dX7_init_158 : decode cX7_init 158 = .ok (.getfield 29, 3) := bdX7_init_146.2.2.2.2.2.2.1
theorem dX7_init_161 : decode cX7_init 161 = .ok (.invokevirtual 81, 3) := bdX7_init_146.2.2.2.2.2.2.2
theorem dX7_init_164 : decode cX7_init 164 = .ok (.return_, 1) := by decide +kernel
theorem bdX7_type_0 : decode cX7_type 0 = .ok (.iload_n 1, 1) ∧ decode cX7_type 1 = .ok (.ifCond .lt 10, 3) ∧ decode cX7_type 4 = .ok (.iload_n 1, 1) ∧ decode cX7_type 5 = .ok (.sipush 255, 3) ∧ decode cX7_type 8 = .ok (.if_icmp .le 5, 3) ∧ decode cX7_type 11 = .ok (.iconst (-1), 1) ∧ decode cX7_type 12 = .ok (.ireturn, 1) ∧ decode cX7_type 13 = .ok (.aload_n 0, 1) := by decide +kernel
theorem dX7_type_0 : decode cX7_type 0 = .ok (.iload_n 1, 1) := bdX7_type_0.1
theorem dX7_type_1 : decode cX7_type 1 = .ok (.ifCond .lt 10, 3) := bdX7_type_0.2.1
theorem dX7_type_4 : decode cX7_type 4 = .ok (.iload_n 1, 1) := bdX7_type_0.2.2.1
theorem dX7_type_5 : decode cX7_type 5 = .ok (.sipush 255, 3) := bdX7_type_0.2.2.2.1
theorem dX7_type_8 : decode cX7_type 8 = .ok (.if_icmp .le 5, 3) := bdX7_type_0.2.2.2.2.1
theorem dX7_type_11 : decode cX7_type 11 = .ok (.iconst (-1), 1) := bdX7_type_0.2.2.2.2.2.1
theorem dX7_type_12 : decode cX7_type 12 = .ok (.ireturn, 1) := bdX7_type_0.2.2.2.2.2.2.1
theorem dX7_type_13 : decode cX7_type 13 = .ok (.aload_n 0, 1) := bdX7_type_0.2.2.2.2.2.2.2
theorem bdX7_type_14 : decode cX7_type 14 = .ok (.getfield 13, 3) ∧ decode cX7_type 17 = .ok (.bipush 120, 2) ∧ decode cX7_type 19 = .ok (.if_icmp .lt 6, 3) ∧ decode cX7_type 22 = .ok (.bipush (-3), 2) ∧ decode cX7_type 24 = .ok (.ireturn, 1) ∧ decode cX7_type 25 = .ok (.aload_n 0, 1) ∧ decode cX7_type 26 = .ok (.getfield 9, 3) ∧ decode cX7_type 29 = .ok (.aload_n 0, 1) := by decide +kernel
theorem dX7_type_14 : decode cX7_type 14 = .ok (.getfield 13, 3) := bdX7_type_14.1
theorem dX7_type_17 : decode cX7_type 17 = .ok (.bipush 120, 2) := bdX7_type_14.2.1
theorem dX7_type_19 : decode cX7_type 19 = .ok (.if_icmp .lt 6, 3) := bdX7_type_14.2.2.1
theorem dX7_type_22 : decode cX7_type 22 = .ok (.bipush (-3), 2) := bdX7_type_14.2.2.2.1
theorem dX7_type_24 : decode cX7_type 24 = .ok (.ireturn, 1) := bdX7_type_14.2.2.2.2.1
theorem dX7_type_25 : decode cX7_type 25 = .ok (.aload_n 0, 1) := bdX7_type_14.2.2.2.2.2.1
theorem dX7_type_26 : decode cX7_type 26 = .ok (.getfield 9, 3) := bdX7_type_14.2.2.2.2.2.2.1
theorem dX7_type_29 : decode cX7_type 29 = .ok (.aload_n 0, 1) := bdX7_type_14.2.2.2.2.2.2.2
theorem bdX7_type_30 : decode cX7_type 30 = .ok (.getfield 13, 3) ∧ decode cX7_type 33 = .ok (.iload_n 1, 1) ∧ decode cX7_type 34 = .ok (.iastore, 1) ∧ decode cX7_type 35 = .ok (.aload_n 0, 1) ∧ decode cX7_type 36 = .ok (.dup, 1) ∧ decode cX7_type 37 = .ok (.getfield 13, 3) ∧ decode cX7_type 40 = .ok (.iconst 1, 1) ∧ decode cX7_type 41 = .ok (.iadd, 1) := by decide +kernel
theorem dX7_type_30 : decode cX7_type 30 = .ok (.getfield 13, 3) := bdX7_type_30.1
theorem dX7_type_33 : decode cX7_type 33 = .ok (.iload_n 1, 1) := bdX7_type_30.2.1
theorem dX7_type_34 : decode cX7_type 34 = .ok (.iastore, 1) := bdX7_type_30.2.2.1
theorem dX7_type_35 : decode cX7_type 35 = .ok (.aload_n 0, 1) := bdX7_type_30.2.2.2.1
theorem dX7_type_36 : decode cX7_type 36 = .ok (.dup, 1) := bdX7_type_30.2.2.2.2.1
theorem dX7_type_37 : decode cX7_type 37 = .ok (.getfield 13, 3) := bdX7_type_30.2.2.2.2.2.1
theorem dX7_type_40 : decode cX7_type 40 = .ok (.iconst 1, 1) := bdX7_type_30.2.2.2.2.2.2.1
theorem dX7_type_41 : decode cX7_type 41 = .ok (.iadd, 1) := bdX7_type_30.2.2.2.2.2.2.2
theorem bdX7_type_42 : decode cX7_type 42 = .ok (.putfield 13, 3) ∧ decode cX7_type 45 = .ok (.aload_n 0, 1) ∧ decode cX7_type 46 = .ok (.getfield 13, 3) ∧ decode cX7_type 49 = .ok (.ireturn, 1) := by decide +kernel
theorem dX7_type_42 : decode cX7_type 42 = .ok (.putfield 13, 3) := bdX7_type_42.1
theorem dX7_type_45 : decode cX7_type 45 = .ok (.aload_n 0, 1) := bdX7_type_42.2.1
theorem dX7_type_46 : decode cX7_type 46 = .ok (.getfield 13, 3) := bdX7_type_42.2.2.1
theorem dX7_type_49 : decode cX7_type 49 = .ok (.ireturn, 1) := bdX7_type_42.2.2.2
theorem bdX7_clear_0 : decode cX7_clear 0 = .ok (.aload_n 0, 1) ∧ decode cX7_clear 1 = .ok (.getfield 13, 3) ∧ decode cX7_clear 4 = .ok (.istore_n 1, 1) ∧ decode cX7_clear 5 = .ok (.aload_n 0, 1) ∧ decode cX7_clear 6 = .ok (.iconst 0, 1) ∧ decode cX7_clear 7 = .ok (.putfield 13, 3) ∧ decode cX7_clear 10 = .ok (.iload_n 1, 1) ∧ decode cX7_clear 11 = .ok (.ireturn, 1) := by decide +kernel
theorem dX7_clear_0 : decode cX7_clear 0 = .ok (.aload_n 0, 1) := bdX7_clear_0.1
theorem dX7_clear_1 : decode cX7_clear 1 = .ok (.getfield 13, 3) := bdX7_clear_0.2.1
theorem dX7_clear_4 : decode cX7_clear 4 = .ok (.istore_n 1, 1) := bdX7_clear_0.2.2.1
theorem dX7_clear_5 : decode cX7_clear 5 = .ok (.aload_n 0, 1) := bdX7_clear_0.2.2.2.1
theorem dX7_clear_6 : decode cX7_clear 6 = .ok (.iconst 0, 1) := bdX7_clear_0.2.2.2.2.1
theorem dX7_clear_7 : decode cX7_clear 7 = .ok (.putfield 13, 3) := bdX7_clear_0.2.2.2.2.2.1
theorem dX7_clear_10 : decode cX7_clear 10 = .ok (.iload_n 1, 1) := bdX7_clear_0.2.2.2.2.2.2.1
theorem dX7_clear_11 : decode cX7_clear 11 = .ok (.ireturn, 1) := bdX7_clear_0.2.2.2.2.2.2.2
set_option maxRecDepth 20000 in
set_option maxRecDepth 100000 in
theorem ggX7_uplands_X5_read : GoodIn wsX7_uplands wsX5_read := goodIn_hd (goodIn_c ch_X7_uplands hc_X7_uplands ([.code yX5_read cX5_read 4 (some .int)] : List Cond) [(1, 8)] rfl (by decide +kernel)) (goodIn_app (goodIn_app (goodIn_app (goodIn_c ch_X7_uplands hc_X7_uplands wsX5_read_r1 [(1, 9), (1, 10), (1, 11), (1, 12), (1, 13), (1, 14), (1, 15), (1, 16), (1, 17), (1, 18), (1, 19), (1, 20), (1, 21), (1, 22), (1, 23), (2, 0), (2, 1), (2, 2), (2, 3), (2, 4), (2, 5), (2, 6), (1, 7), (2, 7)] rfl (by decide +kernel)) (goodIn_app (goodIn_c ch_X7_uplands hc_X7_uplands wsX5_read_r2 [(2, 8), (2, 9), (2, 10), (2, 11), (2, 12), (2, 13), (2, 14), (2, 15), (2, 16), (2, 17), (2, 18), (2, 19), (2, 20), (2, 21), (2, 22), (2, 23), (3, 0), (3, 1), (3, 2), (3, 3), (3, 4), (3, 5), (3, 6), (3, 7)] rfl (by decide +kernel)) (goodIn_app (goodIn_c ch_X7_uplands hc_X7_uplands wsX5_read_r3 [(3, 8), (3, 9), (3, 10), (3, 11), (3, 12), (3, 13), (3, 14), (3, 15), (3, 16), (3, 17), (3, 18), (3, 19), (3, 20), (3, 21), (3, 22), (3, 23), (4, 0), (4, 1), (4, 2), (4, 3), (4, 4), (4, 5), (4, 6), (4, 7)] rfl (by decide +kernel)) (goodIn_c ch_X7_uplands hc_X7_uplands wsX5_read_r4 [(4, 8), (4, 9), (4, 10)] rfl (by decide +kernel))))) (goodIn_sub (fun _ h => (List.mem_cons_of_mem _ (List.mem_append_left _ (List.mem_append_left _ (List.mem_append_left _ (List.mem_append_left _ (List.mem_append_left _ (List.mem_append_right _ h)))))))) gwX5)) (goodIn_sub (fun _ h => (List.mem_cons_of_mem _ (List.mem_append_left _ (List.mem_append_left _ (List.mem_append_left _ (List.mem_append_left _ (List.mem_append_right _ h))))))) gwX6))
set_option maxRecDepth 20000 in
theorem gX7_uplands_X5_read : GoodIn wsX7_uplands (wsV RX7 85 RX5 yX5_read wsX5_read) := goodIn_app (goodIn_of _ (by decide +kernel)) ggX7_uplands_X5_read
set_option maxRecDepth 20000 in
set_option maxRecDepth 100000 in
theorem ggX7_uplands_X7_beginAnew : GoodIn wsX7_uplands wsX7_beginAnew := goodIn_hd (goodIn_c ch_X7_uplands hc_X7_uplands ([.code yX7_beginAnew cX7_beginAnew 2 none] : List Cond) [(4, 15)] rfl (by decide +kernel)) (goodIn_app (goodIn_app (goodIn_app (goodIn_app (goodIn_app (goodIn_app (goodIn_app (goodIn_c ch_X7_uplands hc_X7_uplands wsX7_beginAnew_r1 [(4, 16), (1, 3), (4, 17), (4, 18), (4, 19), (4, 20), (4, 21), (4, 22), (4, 23), (5, 0), (5, 1), (5, 2), (5, 3), (5, 4), (5, 5), (5, 6), (5, 7), (5, 8), (5, 9), (5, 10), (5, 11), (5, 12), (5, 13), (5, 14)] rfl (by decide +kernel)) (goodIn_c ch_X7_uplands hc_X7_uplands wsX7_beginAnew_r2 [(5, 15), (5, 16), (4, 14), (5, 17)] rfl (by decide +kernel))) (goodIn_sub (fun _ h => (List.mem_cons_of_mem _ (List.mem_append_left _ (List.mem_append_left _ (List.mem_append_left _ (List.mem_append_left _ (List.mem_append_left _ (List.mem_append_left _ (List.mem_append_right _ h))))))))) gwX7)) (goodIn_sub (fun _ h => (List.mem_cons_of_mem _ (List.mem_append_left _ (List.mem_append_left _ (List.mem_append_left _ (List.mem_append_right _ h)))))) gwX3)) (goodIn_sub (fun _ h => (List.mem_cons_of_mem _ (List.mem_append_left _ (List.mem_append_left _ (List.mem_append_right _ h))))) gwX4)) (goodIn_sub (fun _ h => (List.mem_cons_of_mem _ (List.mem_append_left _ (List.mem_append_right _ h)))) gwX1)) (goodIn_sub (fun _ h => (List.mem_cons_of_mem _ (List.mem_append_right _ h))) gwX2)) (goodIn_sub (fun _ h => (List.mem_cons_of_mem _ (List.mem_append_left _ (List.mem_append_left _ (List.mem_append_left _ (List.mem_append_left _ (List.mem_append_right _ h))))))) gwX6))
set_option maxRecDepth 20000 in
theorem gX7_uplands_X7_beginAnew : GoodIn wsX7_uplands (wsV RX7 89 RX7 yX7_beginAnew wsX7_beginAnew) := goodIn_app (goodIn_of _ (by decide +kernel)) ggX7_uplands_X7_beginAnew
theorem bdX7_uplands_0 : decode cX7_uplands 0 = .ok (.aload_n 0, 1) ∧ decode cX7_uplands 1 = .ok (.getfield 22, 3) ∧ decode cX7_uplands 4 = .ok (.aload_n 0, 1) ∧ decode cX7_uplands 5 = .ok (.getfield 13, 3) ∧ decode cX7_uplands 8 = .ok (.aload_n 0, 1) ∧ decode cX7_uplands 9 = .ok (.getfield 33, 3) ∧ decode cX7_uplands 12 = .ok (.invokevirtual 85, 3) ∧ decode cX7_uplands 15 = .ok (.istore_n 1, 1) := by decide +kernel
theorem dX7_uplands_0 : decode cX7_uplands 0 = .ok (.aload_n 0, 1) := bdX7_uplands_0.1
theorem dX7_uplands_1 : decode cX7_uplands 1 = .ok (.getfield 22, 3) := bdX7_uplands_0.2.1
theorem dX7_uplands_4 : decode cX7_uplands 4 = .ok (.aload_n 0, 1) := bdX7_uplands_0.2.2.1
theorem dX7_uplands_5 : decode cX7_uplands 5 = .ok (.getfield 13, 3) := bdX7_uplands_0.2.2.2.1
theorem dX7_uplands_8 : decode cX7_uplands 8 = .ok (.aload_n 0, 1) := bdX7_uplands_0.2.2.2.2.1
theorem dX7_uplands_9 : decode cX7_uplands 9 = .ok (.getfield 33, 3) := bdX7_uplands_0.2.2.2.2.2.1
theorem dX7_uplands_12 : decode cX7_uplands 12 = .ok (.invokevirtual 85, 3) := bdX7_uplands_0.2.2.2.2.2.2.1
theorem dX7_uplands_15 : decode cX7_uplands 15 = .ok (.istore_n 1, 1) := bdX7_uplands_0.2.2.2.2.2.2.2
theorem bdX7_uplands_16 : decode cX7_uplands 16 = .ok (.iload_n 1, 1) ∧ decode cX7_uplands 17 = .ok (.ifCond .ge 5, 3) ∧ decode cX7_uplands 20 = .ok (.iload_n 1, 1) ∧ decode cX7_uplands 21 = .ok (.ireturn, 1) ∧ decode cX7_uplands 22 = .ok (.aload_n 0, 1) ∧ decode cX7_uplands 23 = .ok (.getfield 29, 3) ∧ decode cX7_uplands 26 = .ok (.astore_n 2, 1) ∧ decode cX7_uplands 27 = .ok (.aload_n 0, 1) := by decide +kernel
theorem dX7_uplands_16 : decode cX7_uplands 16 = .ok (.iload_n 1, 1) := bdX7_uplands_16.1
theorem dX7_uplands_17 : decode cX7_uplands 17 = .ok (.ifCond .ge 5, 3) := bdX7_uplands_16.2.1
theorem dX7_uplands_20 : decode cX7_uplands 20 = .ok (.iload_n 1, 1) := bdX7_uplands_16.2.2.1
theorem dX7_uplands_21 : decode cX7_uplands 21 = .ok (.ireturn, 1) := bdX7_uplands_16.2.2.2.1
theorem dX7_uplands_22 : decode cX7_uplands 22 = .ok (.aload_n 0, 1) := bdX7_uplands_16.2.2.2.2.1
theorem dX7_uplands_23 : decode cX7_uplands 23 = .ok (.getfield 29, 3) := bdX7_uplands_16.2.2.2.2.2.1
theorem dX7_uplands_26 : decode cX7_uplands 26 = .ok (.astore_n 2, 1) := bdX7_uplands_16.2.2.2.2.2.2.1
theorem dX7_uplands_27 : decode cX7_uplands 27 = .ok (.aload_n 0, 1) := bdX7_uplands_16.2.2.2.2.2.2.2
theorem bdX7_uplands_28 : decode cX7_uplands 28 = .ok (.aload_n 0, 1) ∧ decode cX7_uplands 29 = .ok (.getfield 33, 3) ∧ decode cX7_uplands 32 = .ok (.putfield 29, 3) ∧ decode cX7_uplands 35 = .ok (.aload_n 0, 1) ∧ decode cX7_uplands 36 = .ok (.aload_n 2, 1) ∧ decode cX7_uplands 37 = .ok (.putfield 33, 3) ∧ decode cX7_uplands 40 = .ok (.aload_n 0, 1) ∧ decode cX7_uplands 41 = .ok (.iconst 0, 1) := by decide +kernel
theorem dX7_uplands_28 : decode cX7_uplands 28 = .ok (.aload_n 0, 1) := bdX7_uplands_28.1
theorem dX7_uplands_29 : decode cX7_uplands 29 = .ok (.getfield 33, 3) := bdX7_uplands_28.2.1
theorem dX7_uplands_32 : decode cX7_uplands 32 = .ok (.putfield 29, 3) := bdX7_uplands_28.2.2.1
theorem dX7_uplands_35 : decode cX7_uplands 35 = .ok (.aload_n 0, 1) := bdX7_uplands_28.2.2.2.1
theorem dX7_uplands_36 : decode cX7_uplands 36 = .ok (.aload_n 2, 1) := bdX7_uplands_28.2.2.2.2.1
theorem dX7_uplands_37 : decode cX7_uplands 37 = .ok (.putfield 33, 3) := bdX7_uplands_28.2.2.2.2.2.1
theorem dX7_uplands_40 : decode cX7_uplands 40 = .ok (.aload_n 0, 1) := bdX7_uplands_28.2.2.2.2.2.2.1
theorem dX7_uplands_41 : decode cX7_uplands 41 = .ok (.iconst 0, 1) := bdX7_uplands_28.2.2.2.2.2.2.2
theorem bdX7_uplands_42 : decode cX7_uplands 42 = .ok (.putfield 13, 3) ∧ decode cX7_uplands 45 = .ok (.aload_n 0, 1) ∧ decode cX7_uplands 46 = .ok (.invokevirtual 89, 3) ∧ decode cX7_uplands 49 = .ok (.iload_n 1, 1) ∧ decode cX7_uplands 50 = .ok (.ireturn, 1) := by decide +kernel
theorem dX7_uplands_42 : decode cX7_uplands 42 = .ok (.putfield 13, 3) := bdX7_uplands_42.1
theorem dX7_uplands_45 : decode cX7_uplands 45 = .ok (.aload_n 0, 1) := bdX7_uplands_42.2.1
theorem dX7_uplands_46 : decode cX7_uplands 46 = .ok (.invokevirtual 89, 3) := bdX7_uplands_42.2.2.1
theorem dX7_uplands_49 : decode cX7_uplands 49 = .ok (.iload_n 1, 1) := bdX7_uplands_42.2.2.2.1
theorem dX7_uplands_50 : decode cX7_uplands 50 = .ok (.ireturn, 1) := bdX7_uplands_42.2.2.2.2
set_option maxRecDepth 20000 in
set_option maxRecDepth 100000 in
theorem ggX7_one_X6_hasOne : GoodIn wsX7_one wsX6_hasOne := goodIn_hd (goodIn_c ch_X7_one hc_X7_one ([.code yX6_hasOne cX6_hasOne 2 (some .boolean)] : List Cond) [(1, 9)] rfl (by decide +kernel)) (goodIn_app (goodIn_c ch_X7_one hc_X7_one ([.fieldLink RX6 36 "WordFletchers$Told" "people" "I"] : List Cond) [(1, 10)] rfl (by decide +kernel)) (goodIn_sub (fun _ h => (List.mem_cons_of_mem _ (List.mem_append_left _ (List.mem_append_right _ h)))) gwX6))
set_option maxRecDepth 20000 in
theorem gX7_one_X6_hasOne : GoodIn wsX7_one (wsV RX7 92 RX6 yX6_hasOne wsX6_hasOne) := goodIn_app (goodIn_of _ (by decide +kernel)) ggX7_one_X6_hasOne
theorem bdX7_one_0 : decode cX7_one 0 = .ok (.aload_n 0, 1) ∧ decode cX7_one 1 = .ok (.getfield 29, 3) ∧ decode cX7_one 4 = .ok (.iload_n 1, 1) ∧ decode cX7_one 5 = .ok (.invokevirtual 92, 3) ∧ decode cX7_one 8 = .ok (.ifCond .ne 5, 3) ∧ decode cX7_one 11 = .ok (.iconst (-1), 1) ∧ decode cX7_one 12 = .ok (.ireturn, 1) ∧ decode cX7_one 13 = .ok (.iload_n 2, 1) := by decide +kernel
theorem dX7_one_0 : decode cX7_one 0 = .ok (.aload_n 0, 1) := bdX7_one_0.1
theorem dX7_one_1 : decode cX7_one 1 = .ok (.getfield 29, 3) := bdX7_one_0.2.1
theorem dX7_one_4 : decode cX7_one 4 = .ok (.iload_n 1, 1) := bdX7_one_0.2.2.1
theorem dX7_one_5 : decode cX7_one 5 = .ok (.invokevirtual 92, 3) := bdX7_one_0.2.2.2.1
theorem dX7_one_8 : decode cX7_one 8 = .ok (.ifCond .ne 5, 3) := bdX7_one_0.2.2.2.2.1
theorem dX7_one_11 : decode cX7_one 11 = .ok (.iconst (-1), 1) := bdX7_one_0.2.2.2.2.2.1
theorem dX7_one_12 : decode cX7_one 12 = .ok (.ireturn, 1) := bdX7_one_0.2.2.2.2.2.2.1
theorem dX7_one_13 : decode cX7_one 13 = .ok (.iload_n 2, 1) := bdX7_one_0.2.2.2.2.2.2.2
theorem bdX7_one_14 : decode cX7_one 14 = .ok (.tableswitch 56 0 2 #[26, 36, 46], 26) ∧ decode cX7_one 40 = .ok (.aload_n 0, 1) ∧ decode cX7_one 41 = .ok (.getfield 29, 3) ∧ decode cX7_one 44 = .ok (.getfield 96, 3) ∧ decode cX7_one 47 = .ok (.iload_n 1, 1) ∧ decode cX7_one 48 = .ok (.iaload, 1) ∧ decode cX7_one 49 = .ok (.ireturn, 1) ∧ decode cX7_one 50 = .ok (.aload_n 0, 1) := by decide +kernel
theorem dX7_one_14 : decode cX7_one 14 = .ok (.tableswitch 56 0 2 #[26, 36, 46], 26) := bdX7_one_14.1
theorem dX7_one_40 : decode cX7_one 40 = .ok (.aload_n 0, 1) := bdX7_one_14.2.1
theorem dX7_one_41 : decode cX7_one 41 = .ok (.getfield 29, 3) := bdX7_one_14.2.2.1
theorem dX7_one_44 : decode cX7_one 44 = .ok (.getfield 96, 3) := bdX7_one_14.2.2.2.1
theorem dX7_one_47 : decode cX7_one 47 = .ok (.iload_n 1, 1) := bdX7_one_14.2.2.2.2.1
theorem dX7_one_48 : decode cX7_one 48 = .ok (.iaload, 1) := bdX7_one_14.2.2.2.2.2.1
theorem dX7_one_49 : decode cX7_one 49 = .ok (.ireturn, 1) := bdX7_one_14.2.2.2.2.2.2.1
theorem dX7_one_50 : decode cX7_one 50 = .ok (.aload_n 0, 1) := bdX7_one_14.2.2.2.2.2.2.2
theorem bdX7_one_51 : decode cX7_one 51 = .ok (.getfield 29, 3) ∧ decode cX7_one 54 = .ok (.getfield 99, 3) ∧ decode cX7_one 57 = .ok (.iload_n 1, 1) ∧ decode cX7_one 58 = .ok (.iaload, 1) ∧ decode cX7_one 59 = .ok (.ireturn, 1) ∧ decode cX7_one 60 = .ok (.aload_n 0, 1) ∧ decode cX7_one 61 = .ok (.getfield 39, 3) ∧ decode cX7_one 64 = .ok (.getfield 102, 3) := by decide +kernel
theorem dX7_one_51 : decode cX7_one 51 = .ok (.getfield 29, 3) := bdX7_one_51.1
theorem dX7_one_54 : decode cX7_one 54 = .ok (.getfield 99, 3) := bdX7_one_51.2.1
theorem dX7_one_57 : decode cX7_one 57 = .ok (.iload_n 1, 1) := bdX7_one_51.2.2.1
theorem dX7_one_58 : decode cX7_one 58 = .ok (.iaload, 1) := bdX7_one_51.2.2.2.1
theorem dX7_one_59 : decode cX7_one 59 = .ok (.ireturn, 1) := bdX7_one_51.2.2.2.2.1
theorem dX7_one_60 : decode cX7_one 60 = .ok (.aload_n 0, 1) := bdX7_one_51.2.2.2.2.2.1
theorem dX7_one_61 : decode cX7_one 61 = .ok (.getfield 39, 3) := bdX7_one_51.2.2.2.2.2.2.1
theorem dX7_one_64 : decode cX7_one 64 = .ok (.getfield 102, 3) := bdX7_one_51.2.2.2.2.2.2.2
theorem bdX7_one_67 : decode cX7_one 67 = .ok (.iload_n 1, 1) ∧ decode cX7_one 68 = .ok (.iaload, 1) ∧ decode cX7_one 69 = .ok (.ireturn, 1) ∧ decode cX7_one 70 = .ok (.iconst (-1), 1) ∧ decode cX7_one 71 = .ok (.ireturn, 1) := by decide +kernel
theorem dX7_one_67 : decode cX7_one 67 = .ok (.iload_n 1, 1) := bdX7_one_67.1
theorem dX7_one_68 : decode cX7_one 68 = .ok (.iaload, 1) := bdX7_one_67.2.1
theorem dX7_one_69 : decode cX7_one 69 = .ok (.ireturn, 1) := bdX7_one_67.2.2.1
theorem dX7_one_70 : decode cX7_one 70 = .ok (.iconst (-1), 1) := bdX7_one_67.2.2.2.1
theorem dX7_one_71 : decode cX7_one 71 = .ok (.ireturn, 1) := bdX7_one_67.2.2.2.2
set_option maxRecDepth 20000 in
set_option maxRecDepth 100000 in
theorem ggX7_saying_X6_hasSaying : GoodIn wsX7_saying wsX6_hasSaying := goodIn_hd (goodIn_c ch_X7_saying hc_X7_saying ([.code yX6_hasSaying cX6_hasSaying 2 (some .boolean)] : List Cond) [(1, 9)] rfl (by decide +kernel)) (goodIn_app (goodIn_c ch_X7_saying hc_X7_saying ([.fieldLink RX6 40 "WordFletchers$Told" "sayings" "I"] : List Cond) [(1, 10)] rfl (by decide +kernel)) (goodIn_sub (fun _ h => (List.mem_cons_of_mem _ (List.mem_append_left _ (List.mem_append_right _ h)))) gwX6))
set_option maxRecDepth 20000 in
theorem gX7_saying_X6_hasSaying : GoodIn wsX7_saying (wsV RX7 105 RX6 yX6_hasSaying wsX6_hasSaying) := goodIn_app (goodIn_of _ (by decide +kernel)) ggX7_saying_X6_hasSaying
set_option maxRecDepth 20000 in
set_option maxRecDepth 100000 in
theorem ggX7_saying_X2_whoKnows : GoodIn wsX7_saying wsX2_whoKnows := goodIn_hd (goodIn_c ch_X7_saying hc_X7_saying ([.code yX2_whoKnows cX2_whoKnows 4 (some .int)] : List Cond) [(1, 15)] rfl (by decide +kernel)) (goodIn_app (goodIn_c ch_X7_saying hc_X7_saying ([.methodLink RX2 57 yX2_isKnown, .instanceMethod yX2_isKnown, .selects RX2 yX2_isKnown yX2_isKnown, .initialized RX2, .code yX2_isKnown cX2_isKnown 3 (some .boolean), .fieldLink RX2 15 "WordFletchers$Moment" "knows" "[I", .static yX7_isIn, .initialized RX7, .code yX7_isIn cX7_isIn 2 (some .boolean)] : List Cond) [(1, 16), (1, 17), (1, 18), (1, 14), (1, 19), (1, 20), (1, 21), (1, 22), (1, 23)] rfl (by decide +kernel)) (goodIn_sub (fun _ h => (List.mem_cons_of_mem _ (List.mem_append_right _ h))) gwX2))
set_option maxRecDepth 20000 in
theorem gX7_saying_X2_whoKnows : GoodIn wsX7_saying (wsV RX7 117 RX2 yX2_whoKnows wsX2_whoKnows) := goodIn_app (goodIn_of _ (by decide +kernel)) ggX7_saying_X2_whoKnows
theorem bdX7_saying_0 : decode cX7_saying 0 = .ok (.aload_n 0, 1) ∧ decode cX7_saying 1 = .ok (.getfield 29, 3) ∧ decode cX7_saying 4 = .ok (.iload_n 1, 1) ∧ decode cX7_saying 5 = .ok (.invokevirtual 105, 3) ∧ decode cX7_saying 8 = .ok (.ifCond .ne 5, 3) ∧ decode cX7_saying 11 = .ok (.iconst (-1), 1) ∧ decode cX7_saying 12 = .ok (.ireturn, 1) ∧ decode cX7_saying 13 = .ok (.iload_n 2, 1) := by decide +kernel
theorem dX7_saying_0 : decode cX7_saying 0 = .ok (.aload_n 0, 1) := bdX7_saying_0.1
theorem dX7_saying_1 : decode cX7_saying 1 = .ok (.getfield 29, 3) := bdX7_saying_0.2.1
theorem dX7_saying_4 : decode cX7_saying 4 = .ok (.iload_n 1, 1) := bdX7_saying_0.2.2.1
theorem dX7_saying_5 : decode cX7_saying 5 = .ok (.invokevirtual 105, 3) := bdX7_saying_0.2.2.2.1
theorem dX7_saying_8 : decode cX7_saying 8 = .ok (.ifCond .ne 5, 3) := bdX7_saying_0.2.2.2.2.1
theorem dX7_saying_11 : decode cX7_saying 11 = .ok (.iconst (-1), 1) := bdX7_saying_0.2.2.2.2.2.1
theorem dX7_saying_12 : decode cX7_saying 12 = .ok (.ireturn, 1) := bdX7_saying_0.2.2.2.2.2.2.1
theorem dX7_saying_13 : decode cX7_saying 13 = .ok (.iload_n 2, 1) := bdX7_saying_0.2.2.2.2.2.2.2
theorem bdX7_saying_14 : decode cX7_saying 14 = .ok (.tableswitch 69 0 3 #[30, 40, 50, 60], 30) ∧ decode cX7_saying 44 = .ok (.aload_n 0, 1) ∧ decode cX7_saying 45 = .ok (.getfield 29, 3) ∧ decode cX7_saying 48 = .ok (.getfield 108, 3) ∧ decode cX7_saying 51 = .ok (.iload_n 1, 1) ∧ decode cX7_saying 52 = .ok (.iaload, 1) ∧ decode cX7_saying 53 = .ok (.ireturn, 1) ∧ decode cX7_saying 54 = .ok (.aload_n 0, 1) := by decide +kernel
theorem dX7_saying_14 : decode cX7_saying 14 = .ok (.tableswitch 69 0 3 #[30, 40, 50, 60], 30) := bdX7_saying_14.1
theorem dX7_saying_44 : decode cX7_saying 44 = .ok (.aload_n 0, 1) := bdX7_saying_14.2.1
theorem dX7_saying_45 : decode cX7_saying 45 = .ok (.getfield 29, 3) := bdX7_saying_14.2.2.1
theorem dX7_saying_48 : decode cX7_saying 48 = .ok (.getfield 108, 3) := bdX7_saying_14.2.2.2.1
theorem dX7_saying_51 : decode cX7_saying 51 = .ok (.iload_n 1, 1) := bdX7_saying_14.2.2.2.2.1
theorem dX7_saying_52 : decode cX7_saying 52 = .ok (.iaload, 1) := bdX7_saying_14.2.2.2.2.2.1
theorem dX7_saying_53 : decode cX7_saying 53 = .ok (.ireturn, 1) := bdX7_saying_14.2.2.2.2.2.2.1
theorem dX7_saying_54 : decode cX7_saying 54 = .ok (.aload_n 0, 1) := bdX7_saying_14.2.2.2.2.2.2.2
theorem bdX7_saying_55 : decode cX7_saying 55 = .ok (.getfield 29, 3) ∧ decode cX7_saying 58 = .ok (.getfield 111, 3) ∧ decode cX7_saying 61 = .ok (.iload_n 1, 1) ∧ decode cX7_saying 62 = .ok (.iaload, 1) ∧ decode cX7_saying 63 = .ok (.ireturn, 1) ∧ decode cX7_saying 64 = .ok (.aload_n 0, 1) ∧ decode cX7_saying 65 = .ok (.getfield 29, 3) ∧ decode cX7_saying 68 = .ok (.getfield 114, 3) := by decide +kernel
theorem dX7_saying_55 : decode cX7_saying 55 = .ok (.getfield 29, 3) := bdX7_saying_55.1
theorem dX7_saying_58 : decode cX7_saying 58 = .ok (.getfield 111, 3) := bdX7_saying_55.2.1
theorem dX7_saying_61 : decode cX7_saying 61 = .ok (.iload_n 1, 1) := bdX7_saying_55.2.2.1
theorem dX7_saying_62 : decode cX7_saying 62 = .ok (.iaload, 1) := bdX7_saying_55.2.2.2.1
theorem dX7_saying_63 : decode cX7_saying 63 = .ok (.ireturn, 1) := bdX7_saying_55.2.2.2.2.1
theorem dX7_saying_64 : decode cX7_saying 64 = .ok (.aload_n 0, 1) := bdX7_saying_55.2.2.2.2.2.1
theorem dX7_saying_65 : decode cX7_saying 65 = .ok (.getfield 29, 3) := bdX7_saying_55.2.2.2.2.2.2.1
theorem dX7_saying_68 : decode cX7_saying 68 = .ok (.getfield 114, 3) := bdX7_saying_55.2.2.2.2.2.2.2
theorem bdX7_saying_71 : decode cX7_saying 71 = .ok (.iload_n 1, 1) ∧ decode cX7_saying 72 = .ok (.iaload, 1) ∧ decode cX7_saying 73 = .ok (.ireturn, 1) ∧ decode cX7_saying 74 = .ok (.aload_n 0, 1) ∧ decode cX7_saying 75 = .ok (.getfield 39, 3) ∧ decode cX7_saying 78 = .ok (.iload_n 1, 1) ∧ decode cX7_saying 79 = .ok (.invokevirtual 117, 3) ∧ decode cX7_saying 82 = .ok (.ireturn, 1) := by decide +kernel
theorem dX7_saying_71 : decode cX7_saying 71 = .ok (.iload_n 1, 1) := bdX7_saying_71.1
theorem dX7_saying_72 : decode cX7_saying 72 = .ok (.iaload, 1) := bdX7_saying_71.2.1
theorem dX7_saying_73 : decode cX7_saying 73 = .ok (.ireturn, 1) := bdX7_saying_71.2.2.1
theorem dX7_saying_74 : decode cX7_saying 74 = .ok (.aload_n 0, 1) := bdX7_saying_71.2.2.2.1
theorem dX7_saying_75 : decode cX7_saying 75 = .ok (.getfield 39, 3) := bdX7_saying_71.2.2.2.2.1
theorem dX7_saying_78 : decode cX7_saying 78 = .ok (.iload_n 1, 1) := bdX7_saying_71.2.2.2.2.2.1
theorem dX7_saying_79 : decode cX7_saying 79 = .ok (.invokevirtual 117, 3) := bdX7_saying_71.2.2.2.2.2.2.1
theorem dX7_saying_82 : decode cX7_saying 82 = .ok (.ireturn, 1) := bdX7_saying_71.2.2.2.2.2.2.2
theorem bdX7_saying_83 : decode cX7_saying 83 = .ok (.iconst (-1), 1) ∧ decode cX7_saying 84 = .ok (.ireturn, 1) := by decide +kernel
theorem dX7_saying_83 : decode cX7_saying 83 = .ok (.iconst (-1), 1) := bdX7_saying_83.1
theorem dX7_saying_84 : decode cX7_saying 84 = .ok (.ireturn, 1) := bdX7_saying_83.2
set_option maxRecDepth 20000 in
set_option maxRecDepth 100000 in
theorem ggX7_wind_X7_windIn : GoodIn wsX7_wind wsX7_windIn := goodIn_hd (goodIn_c ch_X7_wind hc_X7_wind ([.code yX7_windIn cX7_windIn 2 (some .int)] : List Cond) [(1, 5)] rfl (by decide +kernel)) (goodIn_app (goodIn_app (goodIn_app (goodIn_c ch_X7_wind hc_X7_wind ([.fieldLink RX7 29 "WordFletchers" "told" "LWordFletchers$Told;", .fieldLink RX7 39 "WordFletchers" "moment" "LWordFletchers$Moment;", .fieldLink RX7 174 "WordFletchers$Moment" "hour" "I", .methodLink RX7 301 yX6_windOf, .instanceMethod yX6_windOf, .selects RX6 yX6_windOf yX6_windOf, .initialized RX6, .code yX6_windOf cX6_windOf 2 (some .int), .fieldLink RX6 27 "WordFletchers$Told" "winds" "[I", .methodLink RX6 46 Lib.Math.max.name, .static Lib.Math.max.name, .initialized "java/lang/Math", .code Lib.Math.max.name Lib.Math.max.code 2 (some .int), .methodLink RX6 52 yX6_windCount, .instanceMethod yX6_windCount, .selects RX6 yX6_windCount yX6_windCount, .code yX6_windCount cX6_windCount 1 (some .int), .fieldLink RX6 43 "WordFletchers$Told" "windsTold" "I"] : List Cond) [(1, 6), (1, 7), (1, 8), (1, 9), (1, 10), (1, 11), (1, 12), (1, 13), (1, 14), (1, 15), (1, 16), (1, 17), (1, 18), (1, 19), (1, 20), (1, 21), (1, 22), (1, 23)] rfl (by decide +kernel)) (goodIn_sub (fun _ h => (List.mem_cons_of_mem _ (List.mem_append_left _ (List.mem_append_left _ (List.mem_append_right _ h))))) gwX7)) (goodIn_sub (fun _ h => (List.mem_cons_of_mem _ (List.mem_append_left _ (List.mem_append_right _ h)))) gwX2)) (goodIn_sub (fun _ h => (List.mem_cons_of_mem _ (List.mem_append_right _ h))) gwX6))
set_option maxRecDepth 20000 in
theorem gX7_wind_X7_windIn : GoodIn wsX7_wind (wsV RX7 122 RX7 yX7_windIn wsX7_windIn) := goodIn_app (goodIn_of _ (by decide +kernel)) ggX7_wind_X7_windIn
theorem bdX7_wind_0 : decode cX7_wind 0 = .ok (.iload_n 1, 1) ∧ decode cX7_wind 1 = .ok (.ifCond .lt 9, 3) ∧ decode cX7_wind 4 = .ok (.iload_n 1, 1) ∧ decode cX7_wind 5 = .ok (.bipush 99, 2) ∧ decode cX7_wind 7 = .ok (.if_icmp .le 6, 3) ∧ decode cX7_wind 10 = .ok (.ldc 121, 2) ∧ decode cX7_wind 12 = .ok (.ireturn, 1) ∧ decode cX7_wind 13 = .ok (.aload_n 0, 1) := by decide +kernel
theorem dX7_wind_0 : decode cX7_wind 0 = .ok (.iload_n 1, 1) := bdX7_wind_0.1
theorem dX7_wind_1 : decode cX7_wind 1 = .ok (.ifCond .lt 9, 3) := bdX7_wind_0.2.1
theorem dX7_wind_4 : decode cX7_wind 4 = .ok (.iload_n 1, 1) := bdX7_wind_0.2.2.1
theorem dX7_wind_5 : decode cX7_wind 5 = .ok (.bipush 99, 2) := bdX7_wind_0.2.2.2.1
theorem dX7_wind_7 : decode cX7_wind 7 = .ok (.if_icmp .le 6, 3) := bdX7_wind_0.2.2.2.2.1
theorem dX7_wind_10 : decode cX7_wind 10 = .ok (.ldc 121, 2) := bdX7_wind_0.2.2.2.2.2.1
theorem dX7_wind_12 : decode cX7_wind 12 = .ok (.ireturn, 1) := bdX7_wind_0.2.2.2.2.2.2.1
theorem dX7_wind_13 : decode cX7_wind 13 = .ok (.aload_n 0, 1) := bdX7_wind_0.2.2.2.2.2.2.2
theorem bdX7_wind_14 : decode cX7_wind 14 = .ok (.iload_n 1, 1) ∧ decode cX7_wind 15 = .ok (.invokevirtual 122, 3) ∧ decode cX7_wind 18 = .ok (.ireturn, 1) := by decide +kernel
theorem dX7_wind_14 : decode cX7_wind 14 = .ok (.iload_n 1, 1) := bdX7_wind_14.1
theorem dX7_wind_15 : decode cX7_wind 15 = .ok (.invokevirtual 122, 3) := bdX7_wind_14.2.1
theorem dX7_wind_18 : decode cX7_wind 18 = .ok (.ireturn, 1) := bdX7_wind_14.2.2
theorem bdX7_stray_0 : decode cX7_stray 0 = .ok (.iload_n 1, 1) ∧ decode cX7_stray 1 = .ok (.ifCond .lt 18, 3) ∧ decode cX7_stray 4 = .ok (.iload_n 1, 1) ∧ decode cX7_stray 5 = .ok (.bipush 8, 2) ∧ decode cX7_stray 7 = .ok (.if_icmp .ge 12, 3) ∧ decode cX7_stray 10 = .ok (.iload_n 2, 1) ∧ decode cX7_stray 11 = .ok (.ifCond .lt 8, 3) ∧ decode cX7_stray 14 = .ok (.iload_n 2, 1) := by decide +kernel
theorem dX7_stray_0 : decode cX7_stray 0 = .ok (.iload_n 1, 1) := bdX7_stray_0.1
theorem dX7_stray_1 : decode cX7_stray 1 = .ok (.ifCond .lt 18, 3) := bdX7_stray_0.2.1
theorem dX7_stray_4 : decode cX7_stray 4 = .ok (.iload_n 1, 1) := bdX7_stray_0.2.2.1
theorem dX7_stray_5 : decode cX7_stray 5 = .ok (.bipush 8, 2) := bdX7_stray_0.2.2.2.1
theorem dX7_stray_7 : decode cX7_stray 7 = .ok (.if_icmp .ge 12, 3) := bdX7_stray_0.2.2.2.2.1
theorem dX7_stray_10 : decode cX7_stray 10 = .ok (.iload_n 2, 1) := bdX7_stray_0.2.2.2.2.2.1
theorem dX7_stray_11 : decode cX7_stray 11 = .ok (.ifCond .lt 8, 3) := bdX7_stray_0.2.2.2.2.2.2.1
theorem dX7_stray_14 : decode cX7_stray 14 = .ok (.iload_n 2, 1) := bdX7_stray_0.2.2.2.2.2.2.2
theorem bdX7_stray_15 : decode cX7_stray 15 = .ok (.iconst 1, 1) ∧ decode cX7_stray 16 = .ok (.if_icmp .le 5, 3) ∧ decode cX7_stray 19 = .ok (.iconst (-1), 1) ∧ decode cX7_stray 20 = .ok (.ireturn, 1) ∧ decode cX7_stray 21 = .ok (.iload_n 1, 1) ∧ decode cX7_stray 22 = .ok (.aload_n 0, 1) ∧ decode cX7_stray 23 = .ok (.getfield 39, 3) ∧ decode cX7_stray 26 = .ok (.getfield 125, 3) := by decide +kernel
theorem dX7_stray_15 : decode cX7_stray 15 = .ok (.iconst 1, 1) := bdX7_stray_15.1
theorem dX7_stray_16 : decode cX7_stray 16 = .ok (.if_icmp .le 5, 3) := bdX7_stray_15.2.1
theorem dX7_stray_19 : decode cX7_stray 19 = .ok (.iconst (-1), 1) := bdX7_stray_15.2.2.1
theorem dX7_stray_20 : decode cX7_stray 20 = .ok (.ireturn, 1) := bdX7_stray_15.2.2.2.1
theorem dX7_stray_21 : decode cX7_stray 21 = .ok (.iload_n 1, 1) := bdX7_stray_15.2.2.2.2.1
theorem dX7_stray_22 : decode cX7_stray 22 = .ok (.aload_n 0, 1) := bdX7_stray_15.2.2.2.2.2.1
theorem dX7_stray_23 : decode cX7_stray 23 = .ok (.getfield 39, 3) := bdX7_stray_15.2.2.2.2.2.2.1
theorem dX7_stray_26 : decode cX7_stray 26 = .ok (.getfield 125, 3) := bdX7_stray_15.2.2.2.2.2.2.2
theorem bdX7_stray_29 : decode cX7_stray 29 = .ok (.if_icmp .lt 6, 3) ∧ decode cX7_stray 32 = .ok (.bipush (-9), 2) ∧ decode cX7_stray 34 = .ok (.ireturn, 1) ∧ decode cX7_stray 35 = .ok (.iload_n 2, 1) ∧ decode cX7_stray 36 = .ok (.ifCond .ne 15, 3) ∧ decode cX7_stray 39 = .ok (.aload_n 0, 1) ∧ decode cX7_stray 40 = .ok (.getfield 39, 3) ∧ decode cX7_stray 43 = .ok (.getfield 128, 3) := by decide +kernel
theorem dX7_stray_29 : decode cX7_stray 29 = .ok (.if_icmp .lt 6, 3) := bdX7_stray_29.1
theorem dX7_stray_32 : decode cX7_stray 32 = .ok (.bipush (-9), 2) := bdX7_stray_29.2.1
theorem dX7_stray_34 : decode cX7_stray 34 = .ok (.ireturn, 1) := bdX7_stray_29.2.2.1
theorem dX7_stray_35 : decode cX7_stray 35 = .ok (.iload_n 2, 1) := bdX7_stray_29.2.2.2.1
theorem dX7_stray_36 : decode cX7_stray 36 = .ok (.ifCond .ne 15, 3) := bdX7_stray_29.2.2.2.2.1
theorem dX7_stray_39 : decode cX7_stray 39 = .ok (.aload_n 0, 1) := bdX7_stray_29.2.2.2.2.2.1
theorem dX7_stray_40 : decode cX7_stray 40 = .ok (.getfield 39, 3) := bdX7_stray_29.2.2.2.2.2.2.1
theorem dX7_stray_43 : decode cX7_stray 43 = .ok (.getfield 128, 3) := bdX7_stray_29.2.2.2.2.2.2.2
theorem bdX7_stray_46 : decode cX7_stray 46 = .ok (.iload_n 1, 1) ∧ decode cX7_stray 47 = .ok (.iaload, 1) ∧ decode cX7_stray 48 = .ok (.goto 12, 3) ∧ decode cX7_stray 51 = .ok (.aload_n 0, 1) ∧ decode cX7_stray 52 = .ok (.getfield 39, 3) ∧ decode cX7_stray 55 = .ok (.getfield 131, 3) ∧ decode cX7_stray 58 = .ok (.iload_n 1, 1) ∧ decode cX7_stray 59 = .ok (.iaload, 1) := by decide +kernel
theorem dX7_stray_46 : decode cX7_stray 46 = .ok (.iload_n 1, 1) := bdX7_stray_46.1
theorem dX7_stray_47 : decode cX7_stray 47 = .ok (.iaload, 1) := bdX7_stray_46.2.1
theorem dX7_stray_48 : decode cX7_stray 48 = .ok (.goto 12, 3) := bdX7_stray_46.2.2.1
theorem dX7_stray_51 : decode cX7_stray 51 = .ok (.aload_n 0, 1) := bdX7_stray_46.2.2.2.1
theorem dX7_stray_52 : decode cX7_stray 52 = .ok (.getfield 39, 3) := bdX7_stray_46.2.2.2.2.1
theorem dX7_stray_55 : decode cX7_stray 55 = .ok (.getfield 131, 3) := bdX7_stray_46.2.2.2.2.2.1
theorem dX7_stray_58 : decode cX7_stray 58 = .ok (.iload_n 1, 1) := bdX7_stray_46.2.2.2.2.2.2.1
theorem dX7_stray_59 : decode cX7_stray 59 = .ok (.iaload, 1) := bdX7_stray_46.2.2.2.2.2.2.2
theorem dX7_stray_60 : decode cX7_stray 60 = .ok (.ireturn, 1) := by decide +kernel
set_option maxRecDepth 20000 in
set_option maxRecDepth 100000 in
theorem ggX7_lets_X7_isLetOff : GoodIn wsX7_lets wsX7_isLetOff := goodIn_hd (goodIn_c ch_X7_lets hc_X7_lets ([.code yX7_isLetOff cX7_isLetOff 6 (some .boolean)] : List Cond) [(1, 8)] rfl (by decide +kernel)) (goodIn_app (goodIn_app (goodIn_c ch_X7_lets hc_X7_lets ([.fieldLink RX7 29 "WordFletchers" "told" "LWordFletchers$Told;", .methodLink RX7 92 yX6_hasOne, .instanceMethod yX6_hasOne, .selects RX6 yX6_hasOne yX6_hasOne, .initialized RX6, .code yX6_hasOne cX6_hasOne 2 (some .boolean), .fieldLink RX6 36 "WordFletchers$Told" "people" "I", .methodLink RX7 105 yX6_hasSaying, .instanceMethod yX6_hasSaying, .selects RX6 yX6_hasSaying yX6_hasSaying, .code yX6_hasSaying cX6_hasSaying 2 (some .boolean), .fieldLink RX6 40 "WordFletchers$Told" "sayings" "I"] : List Cond) [(1, 2), (1, 9), (1, 10), (1, 11), (1, 12), (1, 13), (1, 14), (1, 15), (1, 16), (1, 17), (1, 18), (1, 19)] rfl (by decide +kernel)) (goodIn_sub (fun _ h => (List.mem_cons_of_mem _ (List.mem_append_left _ (List.mem_append_left _ (List.mem_append_left _ (List.mem_append_right _ h)))))) gwX7)) (goodIn_sub (fun _ h => (List.mem_cons_of_mem _ (List.mem_append_left _ (List.mem_append_right _ h)))) gwX6))
set_option maxRecDepth 20000 in
theorem gX7_lets_X7_isLetOff : GoodIn wsX7_lets (wsV RX7 134 RX7 yX7_isLetOff wsX7_isLetOff) := goodIn_app (goodIn_of _ (by decide +kernel)) ggX7_lets_X7_isLetOff
set_option maxRecDepth 20000 in
set_option maxRecDepth 100000 in
theorem ggX7_lets_X2_isKnown : GoodIn wsX7_lets wsX2_isKnown := goodIn_hd (goodIn_c ch_X7_lets hc_X7_lets ([.code yX2_isKnown cX2_isKnown 3 (some .boolean)] : List Cond) [(2, 0)] rfl (by decide +kernel)) (goodIn_app (goodIn_c ch_X7_lets hc_X7_lets ([.fieldLink RX2 15 "WordFletchers$Moment" "knows" "[I", .static yX7_isIn, .initialized RX7, .code yX7_isIn cX7_isIn 2 (some .boolean)] : List Cond) [(2, 1), (2, 2), (1, 7), (2, 3)] rfl (by decide +kernel)) (goodIn_sub (fun _ h => (List.mem_cons_of_mem _ (List.mem_append_left _ (List.mem_append_left _ (List.mem_append_right _ h))))) gwX2))
set_option maxRecDepth 20000 in
theorem gX7_lets_X2_isKnown : GoodIn wsX7_lets (wsV RX7 138 RX2 yX2_isKnown wsX2_isKnown) := goodIn_app (goodIn_of _ (by decide +kernel)) ggX7_lets_X2_isKnown
set_option maxRecDepth 20000 in
set_option maxRecDepth 100000 in
theorem ggX7_lets_X7_shotOf : GoodIn wsX7_lets wsX7_shotOf := goodIn_hd (goodIn_c ch_X7_lets hc_X7_lets ([.code yX7_shotOf cX7_shotOf 3 (some .int)] : List Cond) [(2, 6)] rfl (by decide +kernel)) (goodIn_c ch_X7_lets hc_X7_lets ([] : List Cond) [] rfl (by decide +kernel))
set_option maxRecDepth 20000 in
theorem gX7_lets_X7_shotOf : GoodIn wsX7_lets (va_wsS RX7 145 yX7_shotOf wsX7_shotOf) := goodIn_app (goodIn_of _ (by decide +kernel)) ggX7_lets_X7_shotOf
set_option maxRecDepth 20000 in
set_option maxRecDepth 100000 in
theorem ggX7_lets_X7_landingNow : GoodIn wsX7_lets wsX7_landingNow := goodIn_hd (goodIn_c ch_X7_lets hc_X7_lets ([.code yX7_landingNow cX7_landingNow 4 (some .int)] : List Cond) [(2, 10)] rfl (by decide +kernel)) (goodIn_app (goodIn_app (goodIn_app (goodIn_app (goodIn_c ch_X7_lets hc_X7_lets wsX7_landingNow_r1 [(1, 2), (1, 0), (2, 11), (2, 12), (2, 13), (2, 14), (1, 7), (2, 15), (2, 16), (2, 17), (2, 18), (2, 19), (1, 12), (2, 20), (2, 21), (2, 22), (2, 23), (3, 0), (3, 1), (3, 2), (3, 3), (3, 4), (3, 5), (3, 6)] rfl (by decide +kernel)) (goodIn_c ch_X7_lets hc_X7_lets wsX7_landingNow_r2 [(3, 7), (3, 8), (3, 9), (3, 10), (3, 11), (3, 12), (3, 13), (3, 14), (3, 15), (3, 16), (3, 17)] rfl (by decide +kernel))) (goodIn_sub (fun _ h => (List.mem_cons_of_mem _ (List.mem_append_left _ (List.mem_append_left _ (List.mem_append_left _ (List.mem_append_right _ h)))))) gwX7)) (goodIn_sub (fun _ h => (List.mem_cons_of_mem _ (List.mem_append_left _ (List.mem_append_left _ (List.mem_append_right _ h))))) gwX2)) (goodIn_sub (fun _ h => (List.mem_cons_of_mem _ (List.mem_append_left _ (List.mem_append_right _ h)))) gwX6))
set_option maxRecDepth 20000 in
theorem gX7_lets_X7_landingNow : GoodIn wsX7_lets (wsV RX7 149 RX7 yX7_landingNow wsX7_landingNow) := goodIn_app (goodIn_of _ (by decide +kernel)) ggX7_lets_X7_landingNow
set_option maxRecDepth 20000 in
set_option maxRecDepth 100000 in
theorem ggX7_lets_X6_hearers : GoodIn wsX7_lets wsX6_hearers := goodIn_hd (goodIn_c ch_X7_lets hc_X7_lets ([.code yX6_hearers cX6_hearers 5 (some .int)] : List Cond) [(3, 21)] rfl (by decide +kernel)) (goodIn_app (goodIn_c ch_X7_lets hc_X7_lets ([.fieldLink RX6 36 "WordFletchers$Told" "people" "I", .methodLink RX6 74 yX6_hears, .instanceMethod yX6_hears, .selects RX6 yX6_hears yX6_hears, .initialized RX6, .code yX6_hears cX6_hears 3 (some .boolean), .fieldLink RX6 9 "WordFletchers$Told" "place" "[I", .methodLink RX6 70 Lib.Math.abs.name, .static Lib.Math.abs.name, .initialized "java/lang/Math", .code Lib.Math.abs.name Lib.Math.abs.code 1 (some .int), .fieldLink RX6 15 "WordFletchers$Told" "ear" "[I"] : List Cond) [(1, 14), (3, 22), (3, 23), (4, 0), (1, 12), (4, 1), (3, 11), (4, 2), (4, 3), (3, 0), (4, 4), (4, 5)] rfl (by decide +kernel)) (goodIn_sub (fun _ h => (List.mem_cons_of_mem _ (List.mem_append_left _ (List.mem_append_right _ h)))) gwX6))
set_option maxRecDepth 20000 in
theorem gX7_lets_X6_hearers : GoodIn wsX7_lets (wsV RX7 152 RX6 yX6_hearers wsX6_hearers) := goodIn_app (goodIn_of _ (by decide +kernel)) ggX7_lets_X6_hearers
set_option maxRecDepth 20000 in
set_option maxRecDepth 100000 in
theorem ggX7_lets_X3_remember : GoodIn wsX7_lets wsX3_remember := goodIn_hd (goodIn_c ch_X7_lets hc_X7_lets ([.code yX3_remember cX3_remember 2 none] : List Cond) [(4, 10)] rfl (by decide +kernel)) (goodIn_app (goodIn_app (goodIn_c ch_X7_lets hc_X7_lets ([.fieldLink RX3 17 "WordFletchers$Past" "known" "I", .fieldLink RX3 11 "WordFletchers$Past" "moments" "[LWordFletchers$Moment;", .methodLink RX3 22 yX3_loseOldest, .instanceMethod yX3_loseOldest, .selects RX3 yX3_loseOldest yX3_loseOldest, .initialized RX3, .code yX3_loseOldest cX3_loseOldest 3 none, .methodLink RX3 25 yX2_become, .instanceMethod yX2_become, .selects RX2 yX2_become yX2_become, .initialized RX2, .code yX2_become cX2_become 2 none, .fieldLink RX2 24 "WordFletchers$Moment" "hour" "I", .fieldLink RX2 28 "WordFletchers$Moment" "damp" "I", .fieldLink RX2 31 "WordFletchers$Moment" "strays" "I", .fieldLink RX2 9 "WordFletchers$Moment" "feathers" "[I", .methodLink RX2 47 arraycopyName, .native arraycopyName, .static arraycopyName, .initialized "java/lang/System", .fieldLink RX2 15 "WordFletchers$Moment" "knows" "[I", .fieldLink RX2 18 "WordFletchers$Moment" "straySaying" "[I", .fieldLink RX2 21 "WordFletchers$Moment" "strayPlace" "[I"] : List Cond) [(4, 11), (4, 12), (4, 13), (4, 14), (4, 15), (4, 9), (4, 16), (4, 17), (4, 18), (4, 19), (1, 23), (4, 20), (4, 21), (4, 22), (4, 23), (5, 0), (5, 1), (5, 2), (5, 3), (5, 4), (2, 1), (5, 5), (5, 6)] rfl (by decide +kernel)) (goodIn_sub (fun _ h => (List.mem_cons_of_mem _ (List.mem_append_right _ h))) gwX3)) (goodIn_sub (fun _ h => (List.mem_cons_of_mem _ (List.mem_append_left _ (List.mem_append_left _ (List.mem_append_right _ h))))) gwX2))
set_option maxRecDepth 20000 in
theorem gX7_lets_X3_remember : GoodIn wsX7_lets (wsV RX7 156 RX3 yX3_remember wsX3_remember) := goodIn_app (goodIn_of _ (by decide +kernel)) ggX7_lets_X3_remember
set_option maxRecDepth 20000 in
set_option maxRecDepth 100000 in
theorem ggX7_lets_X2_tell : GoodIn wsX7_lets wsX2_tell := goodIn_hd (goodIn_c ch_X7_lets hc_X7_lets ([.code yX2_tell cX2_tell 4 none] : List Cond) [(5, 10)] rfl (by decide +kernel)) (goodIn_app (goodIn_c ch_X7_lets hc_X7_lets ([.fieldLink RX2 15 "WordFletchers$Moment" "knows" "[I", .static yX7_isIn, .initialized RX7, .code yX7_isIn cX7_isIn 2 (some .boolean)] : List Cond) [(2, 1), (2, 2), (1, 7), (2, 3)] rfl (by decide +kernel)) (goodIn_sub (fun _ h => (List.mem_cons_of_mem _ (List.mem_append_left _ (List.mem_append_left _ (List.mem_append_right _ h))))) gwX2))
set_option maxRecDepth 20000 in
theorem gX7_lets_X2_tell : GoodIn wsX7_lets (wsV RX7 160 RX2 yX2_tell wsX2_tell) := goodIn_app (goodIn_of _ (by decide +kernel)) ggX7_lets_X2_tell
set_option maxRecDepth 20000 in
set_option maxRecDepth 100000 in
theorem ggX7_lets_X2_addStray : GoodIn wsX7_lets wsX2_addStray := goodIn_hd (goodIn_c ch_X7_lets hc_X7_lets ([.code yX2_addStray cX2_addStray 3 none] : List Cond) [(5, 14)] rfl (by decide +kernel)) (goodIn_app (goodIn_c ch_X7_lets hc_X7_lets ([.fieldLink RX2 31 "WordFletchers$Moment" "strays" "I", .fieldLink RX2 18 "WordFletchers$Moment" "straySaying" "[I", .fieldLink RX2 21 "WordFletchers$Moment" "strayPlace" "[I", .methodLink RX2 60 yX2_removeStray, .instanceMethod yX2_removeStray, .selects RX2 yX2_removeStray yX2_removeStray, .initialized RX2, .code yX2_removeStray cX2_removeStray 3 none] : List Cond) [(4, 23), (5, 5), (5, 6), (5, 15), (5, 16), (5, 17), (1, 23), (5, 18)] rfl (by decide +kernel)) (goodIn_sub (fun _ h => (List.mem_cons_of_mem _ (List.mem_append_left _ (List.mem_append_left _ (List.mem_append_right _ h))))) gwX2))
set_option maxRecDepth 20000 in
theorem gX7_lets_X2_addStray : GoodIn wsX7_lets (wsV RX7 164 RX2 yX2_addStray wsX2_addStray) := goodIn_app (goodIn_of _ (by decide +kernel)) ggX7_lets_X2_addStray
theorem bdX7_lets_0 : decode cX7_lets 0 = .ok (.aload_n 0, 1) ∧ decode cX7_lets 1 = .ok (.iload_n 1, 1) ∧ decode cX7_lets 2 = .ok (.iload_n 2, 1) ∧ decode cX7_lets 3 = .ok (.iload_n 3, 1) ∧ decode cX7_lets 4 = .ok (.iload 4, 2) ∧ decode cX7_lets 6 = .ok (.iload 5, 2) ∧ decode cX7_lets 8 = .ok (.invokevirtual 134, 3) ∧ decode cX7_lets 11 = .ok (.ifCond .ne 5, 3) := by decide +kernel
theorem dX7_lets_0 : decode cX7_lets 0 = .ok (.aload_n 0, 1) := bdX7_lets_0.1
theorem dX7_lets_1 : decode cX7_lets 1 = .ok (.iload_n 1, 1) := bdX7_lets_0.2.1
theorem dX7_lets_2 : decode cX7_lets 2 = .ok (.iload_n 2, 1) := bdX7_lets_0.2.2.1
theorem dX7_lets_3 : decode cX7_lets 3 = .ok (.iload_n 3, 1) := bdX7_lets_0.2.2.2.1
theorem dX7_lets_4 : decode cX7_lets 4 = .ok (.iload 4, 2) := bdX7_lets_0.2.2.2.2.1
theorem dX7_lets_6 : decode cX7_lets 6 = .ok (.iload 5, 2) := bdX7_lets_0.2.2.2.2.2.1
theorem dX7_lets_8 : decode cX7_lets 8 = .ok (.invokevirtual 134, 3) := bdX7_lets_0.2.2.2.2.2.2.1
theorem dX7_lets_11 : decode cX7_lets 11 = .ok (.ifCond .ne 5, 3) := bdX7_lets_0.2.2.2.2.2.2.2
theorem bdX7_lets_14 : decode cX7_lets 14 = .ok (.iconst (-1), 1) ∧ decode cX7_lets 15 = .ok (.ireturn, 1) ∧ decode cX7_lets 16 = .ok (.aload_n 0, 1) ∧ decode cX7_lets 17 = .ok (.getfield 39, 3) ∧ decode cX7_lets 20 = .ok (.iload_n 1, 1) ∧ decode cX7_lets 21 = .ok (.iload_n 2, 1) ∧ decode cX7_lets 22 = .ok (.invokevirtual 138, 3) ∧ decode cX7_lets 25 = .ok (.ifCond .eq 17, 3) := by decide +kernel
theorem dX7_lets_14 : decode cX7_lets 14 = .ok (.iconst (-1), 1) := bdX7_lets_14.1
theorem dX7_lets_15 : decode cX7_lets 15 = .ok (.ireturn, 1) := bdX7_lets_14.2.1
theorem dX7_lets_16 : decode cX7_lets 16 = .ok (.aload_n 0, 1) := bdX7_lets_14.2.2.1
theorem dX7_lets_17 : decode cX7_lets 17 = .ok (.getfield 39, 3) := bdX7_lets_14.2.2.2.1
theorem dX7_lets_20 : decode cX7_lets 20 = .ok (.iload_n 1, 1) := bdX7_lets_14.2.2.2.2.1
theorem dX7_lets_21 : decode cX7_lets 21 = .ok (.iload_n 2, 1) := bdX7_lets_14.2.2.2.2.2.1
theorem dX7_lets_22 : decode cX7_lets 22 = .ok (.invokevirtual 138, 3) := bdX7_lets_14.2.2.2.2.2.2.1
theorem dX7_lets_25 : decode cX7_lets 25 = .ok (.ifCond .eq 17, 3) := bdX7_lets_14.2.2.2.2.2.2.2
theorem bdX7_lets_28 : decode cX7_lets 28 = .ok (.aload_n 0, 1) ∧ decode cX7_lets 29 = .ok (.getfield 39, 3) ∧ decode cX7_lets 32 = .ok (.getfield 142, 3) ∧ decode cX7_lets 35 = .ok (.iload_n 3, 1) ∧ decode cX7_lets 36 = .ok (.iaload, 1) ∧ decode cX7_lets 37 = .ok (.iload 4, 2) ∧ decode cX7_lets 39 = .ok (.if_icmp .ge 6, 3) ∧ decode cX7_lets 42 = .ok (.bipush (-2), 2) := by decide +kernel
theorem dX7_lets_28 : decode cX7_lets 28 = .ok (.aload_n 0, 1) := bdX7_lets_28.1
theorem dX7_lets_29 : decode cX7_lets 29 = .ok (.getfield 39, 3) := bdX7_lets_28.2.1
theorem dX7_lets_32 : decode cX7_lets 32 = .ok (.getfield 142, 3) := bdX7_lets_28.2.2.1
theorem dX7_lets_35 : decode cX7_lets 35 = .ok (.iload_n 3, 1) := bdX7_lets_28.2.2.2.1
theorem dX7_lets_36 : decode cX7_lets 36 = .ok (.iaload, 1) := bdX7_lets_28.2.2.2.2.1
theorem dX7_lets_37 : decode cX7_lets 37 = .ok (.iload 4, 2) := bdX7_lets_28.2.2.2.2.2.1
theorem dX7_lets_39 : decode cX7_lets 39 = .ok (.if_icmp .ge 6, 3) := bdX7_lets_28.2.2.2.2.2.2.1
theorem dX7_lets_42 : decode cX7_lets 42 = .ok (.bipush (-2), 2) := bdX7_lets_28.2.2.2.2.2.2.2
theorem bdX7_lets_44 : decode cX7_lets 44 = .ok (.ireturn, 1) ∧ decode cX7_lets 45 = .ok (.aload_n 0, 1) ∧ decode cX7_lets 46 = .ok (.iload_n 1, 1) ∧ decode cX7_lets 47 = .ok (.iload_n 2, 1) ∧ decode cX7_lets 48 = .ok (.iload_n 3, 1) ∧ decode cX7_lets 49 = .ok (.iload 4, 2) ∧ decode cX7_lets 51 = .ok (.iload 5, 2) ∧ decode cX7_lets 53 = .ok (.invokestatic 145, 3) := by decide +kernel
theorem dX7_lets_44 : decode cX7_lets 44 = .ok (.ireturn, 1) := bdX7_lets_44.1
theorem dX7_lets_45 : decode cX7_lets 45 = .ok (.aload_n 0, 1) := bdX7_lets_44.2.1
theorem dX7_lets_46 : decode cX7_lets 46 = .ok (.iload_n 1, 1) := bdX7_lets_44.2.2.1
theorem dX7_lets_47 : decode cX7_lets 47 = .ok (.iload_n 2, 1) := bdX7_lets_44.2.2.2.1
theorem dX7_lets_48 : decode cX7_lets 48 = .ok (.iload_n 3, 1) := bdX7_lets_44.2.2.2.2.1
theorem dX7_lets_49 : decode cX7_lets 49 = .ok (.iload 4, 2) := bdX7_lets_44.2.2.2.2.2.1
theorem dX7_lets_51 : decode cX7_lets 51 = .ok (.iload 5, 2) := bdX7_lets_44.2.2.2.2.2.2.1
theorem dX7_lets_53 : decode cX7_lets 53 = .ok (.invokestatic 145, 3) := bdX7_lets_44.2.2.2.2.2.2.2
theorem bdX7_lets_56 : decode cX7_lets 56 = .ok (.invokevirtual 149, 3) ∧ decode cX7_lets 59 = .ok (.istore 6, 2) ∧ decode cX7_lets 61 = .ok (.aload_n 0, 1) ∧ decode cX7_lets 62 = .ok (.getfield 29, 3) ∧ decode cX7_lets 65 = .ok (.iload_n 1, 1) ∧ decode cX7_lets 66 = .ok (.iload 6, 2) ∧ decode cX7_lets 68 = .ok (.invokevirtual 152, 3) ∧ decode cX7_lets 71 = .ok (.istore 7, 2) := by decide +kernel
theorem dX7_lets_56 : decode cX7_lets 56 = .ok (.invokevirtual 149, 3) := bdX7_lets_56.1
theorem dX7_lets_59 : decode cX7_lets 59 = .ok (.istore 6, 2) := bdX7_lets_56.2.1
theorem dX7_lets_61 : decode cX7_lets 61 = .ok (.aload_n 0, 1) := bdX7_lets_56.2.2.1
theorem dX7_lets_62 : decode cX7_lets 62 = .ok (.getfield 29, 3) := bdX7_lets_56.2.2.2.1
theorem dX7_lets_65 : decode cX7_lets 65 = .ok (.iload_n 1, 1) := bdX7_lets_56.2.2.2.2.1
theorem dX7_lets_66 : decode cX7_lets 66 = .ok (.iload 6, 2) := bdX7_lets_56.2.2.2.2.2.1
theorem dX7_lets_68 : decode cX7_lets 68 = .ok (.invokevirtual 152, 3) := bdX7_lets_56.2.2.2.2.2.2.1
theorem dX7_lets_71 : decode cX7_lets 71 = .ok (.istore 7, 2) := bdX7_lets_56.2.2.2.2.2.2.2
theorem bdX7_lets_73 : decode cX7_lets 73 = .ok (.aload_n 0, 1) ∧ decode cX7_lets 74 = .ok (.getfield 46, 3) ∧ decode cX7_lets 77 = .ok (.aload_n 0, 1) ∧ decode cX7_lets 78 = .ok (.getfield 39, 3) ∧ decode cX7_lets 81 = .ok (.invokevirtual 156, 3) ∧ decode cX7_lets 84 = .ok (.aload_n 0, 1) ∧ decode cX7_lets 85 = .ok (.getfield 39, 3) ∧ decode cX7_lets 88 = .ok (.getfield 142, 3) := by decide +kernel
theorem dX7_lets_73 : decode cX7_lets 73 = .ok (.aload_n 0, 1) := bdX7_lets_73.1
theorem dX7_lets_74 : decode cX7_lets 74 = .ok (.getfield 46, 3) := bdX7_lets_73.2.1
theorem dX7_lets_77 : decode cX7_lets 77 = .ok (.aload_n 0, 1) := bdX7_lets_73.2.2.1
theorem dX7_lets_78 : decode cX7_lets 78 = .ok (.getfield 39, 3) := bdX7_lets_73.2.2.2.1
theorem dX7_lets_81 : decode cX7_lets 81 = .ok (.invokevirtual 156, 3) := bdX7_lets_73.2.2.2.2.1
theorem dX7_lets_84 : decode cX7_lets 84 = .ok (.aload_n 0, 1) := bdX7_lets_73.2.2.2.2.2.1
theorem dX7_lets_85 : decode cX7_lets 85 = .ok (.getfield 39, 3) := bdX7_lets_73.2.2.2.2.2.2.1
theorem dX7_lets_88 : decode cX7_lets 88 = .ok (.getfield 142, 3) := bdX7_lets_73.2.2.2.2.2.2.2
theorem bdX7_lets_91 : decode cX7_lets 91 = .ok (.iload_n 3, 1) ∧ decode cX7_lets 92 = .ok (.dup2, 1) ∧ decode cX7_lets 93 = .ok (.iaload, 1) ∧ decode cX7_lets 94 = .ok (.iload 4, 2) ∧ decode cX7_lets 96 = .ok (.isub, 1) ∧ decode cX7_lets 97 = .ok (.iastore, 1) ∧ decode cX7_lets 98 = .ok (.aload_n 0, 1) ∧ decode cX7_lets 99 = .ok (.getfield 39, 3) := by decide +kernel
theorem dX7_lets_91 : decode cX7_lets 91 = .ok (.iload_n 3, 1) := bdX7_lets_91.1
theorem dX7_lets_92 : decode cX7_lets 92 = .ok (.dup2, 1) := bdX7_lets_91.2.1
theorem dX7_lets_93 : decode cX7_lets 93 = .ok (.iaload, 1) := bdX7_lets_91.2.2.1
theorem dX7_lets_94 : decode cX7_lets 94 = .ok (.iload 4, 2) := bdX7_lets_91.2.2.2.1
theorem dX7_lets_96 : decode cX7_lets 96 = .ok (.isub, 1) := bdX7_lets_91.2.2.2.2.1
theorem dX7_lets_97 : decode cX7_lets 97 = .ok (.iastore, 1) := bdX7_lets_91.2.2.2.2.2.1
theorem dX7_lets_98 : decode cX7_lets 98 = .ok (.aload_n 0, 1) := bdX7_lets_91.2.2.2.2.2.2.1
theorem dX7_lets_99 : decode cX7_lets 99 = .ok (.getfield 39, 3) := bdX7_lets_91.2.2.2.2.2.2.2
theorem bdX7_lets_102 : decode cX7_lets 102 = .ok (.iload 7, 2) ∧ decode cX7_lets 104 = .ok (.iload_n 2, 1) ∧ decode cX7_lets 105 = .ok (.invokevirtual 160, 3) ∧ decode cX7_lets 108 = .ok (.iload 7, 2) ∧ decode cX7_lets 110 = .ok (.ifCond .ne 20, 3) ∧ decode cX7_lets 113 = .ok (.iload 6, 2) ∧ decode cX7_lets 115 = .ok (.bipush (-9), 2) ∧ decode cX7_lets 117 = .ok (.if_icmp .eq 13, 3) := by decide +kernel
theorem dX7_lets_102 : decode cX7_lets 102 = .ok (.iload 7, 2) := bdX7_lets_102.1
theorem dX7_lets_104 : decode cX7_lets 104 = .ok (.iload_n 2, 1) := bdX7_lets_102.2.1
theorem dX7_lets_105 : decode cX7_lets 105 = .ok (.invokevirtual 160, 3) := bdX7_lets_102.2.2.1
theorem dX7_lets_108 : decode cX7_lets 108 = .ok (.iload 7, 2) := bdX7_lets_102.2.2.2.1
theorem dX7_lets_110 : decode cX7_lets 110 = .ok (.ifCond .ne 20, 3) := bdX7_lets_102.2.2.2.2.1
theorem dX7_lets_113 : decode cX7_lets 113 = .ok (.iload 6, 2) := bdX7_lets_102.2.2.2.2.2.1
theorem dX7_lets_115 : decode cX7_lets 115 = .ok (.bipush (-9), 2) := bdX7_lets_102.2.2.2.2.2.2.1
theorem dX7_lets_117 : decode cX7_lets 117 = .ok (.if_icmp .eq 13, 3) := bdX7_lets_102.2.2.2.2.2.2.2
theorem bdX7_lets_120 : decode cX7_lets 120 = .ok (.aload_n 0, 1) ∧ decode cX7_lets 121 = .ok (.getfield 39, 3) ∧ decode cX7_lets 124 = .ok (.iload_n 2, 1) ∧ decode cX7_lets 125 = .ok (.iload 6, 2) ∧ decode cX7_lets 127 = .ok (.invokevirtual 164, 3) ∧ decode cX7_lets 130 = .ok (.iload 7, 2) ∧ decode cX7_lets 132 = .ok (.ireturn, 1) := by decide +kernel
theorem dX7_lets_120 : decode cX7_lets 120 = .ok (.aload_n 0, 1) := bdX7_lets_120.1
theorem dX7_lets_121 : decode cX7_lets 121 = .ok (.getfield 39, 3) := bdX7_lets_120.2.1
theorem dX7_lets_124 : decode cX7_lets 124 = .ok (.iload_n 2, 1) := bdX7_lets_120.2.2.1
theorem dX7_lets_125 : decode cX7_lets 125 = .ok (.iload 6, 2) := bdX7_lets_120.2.2.2.1
theorem dX7_lets_127 : decode cX7_lets 127 = .ok (.invokevirtual 164, 3) := bdX7_lets_120.2.2.2.2.1
theorem dX7_lets_130 : decode cX7_lets 130 = .ok (.iload 7, 2) := bdX7_lets_120.2.2.2.2.2.1
theorem dX7_lets_132 : decode cX7_lets 132 = .ok (.ireturn, 1) := bdX7_lets_120.2.2.2.2.2.2
set_option maxRecDepth 20000 in
set_option maxRecDepth 100000 in
theorem ggX7_picks_X6_hasOne : GoodIn wsX7_picks wsX6_hasOne := goodIn_hd (goodIn_c ch_X7_picks hc_X7_picks ([.code yX6_hasOne cX6_hasOne 2 (some .boolean)] : List Cond) [(1, 9)] rfl (by decide +kernel)) (goodIn_app (goodIn_c ch_X7_picks hc_X7_picks ([.fieldLink RX6 36 "WordFletchers$Told" "people" "I"] : List Cond) [(1, 10)] rfl (by decide +kernel)) (goodIn_sub (fun _ h => (List.mem_cons_of_mem _ (List.mem_append_left _ (List.mem_append_left _ (List.mem_append_right _ h))))) gwX6))
set_option maxRecDepth 20000 in
theorem gX7_picks_X6_hasOne : GoodIn wsX7_picks (wsV RX7 92 RX6 yX6_hasOne wsX6_hasOne) := goodIn_app (goodIn_of _ (by decide +kernel)) ggX7_picks_X6_hasOne
set_option maxRecDepth 20000 in
set_option maxRecDepth 100000 in
theorem ggX7_picks_X2_longestStrayAt : GoodIn wsX7_picks wsX2_longestStrayAt := goodIn_hd (goodIn_c ch_X7_picks hc_X7_picks ([.code yX2_longestStrayAt cX2_longestStrayAt 3 (some .int)] : List Cond) [(1, 15)] rfl (by decide +kernel)) (goodIn_app (goodIn_c ch_X7_picks hc_X7_picks ([.fieldLink RX2 31 "WordFletchers$Moment" "strays" "I", .fieldLink RX2 21 "WordFletchers$Moment" "strayPlace" "[I"] : List Cond) [(1, 16), (1, 17)] rfl (by decide +kernel)) (goodIn_sub (fun _ h => (List.mem_cons_of_mem _ (List.mem_append_left _ (List.mem_append_right _ h)))) gwX2))
set_option maxRecDepth 20000 in
theorem gX7_picks_X2_longestStrayAt : GoodIn wsX7_picks (wsV RX7 167 RX2 yX2_longestStrayAt wsX2_longestStrayAt) := goodIn_app (goodIn_of _ (by decide +kernel)) ggX7_picks_X2_longestStrayAt
set_option maxRecDepth 20000 in
set_option maxRecDepth 100000 in
theorem ggX7_picks_X3_remember : GoodIn wsX7_picks wsX3_remember := goodIn_hd (goodIn_c ch_X7_picks hc_X7_picks ([.code yX3_remember cX3_remember 2 none] : List Cond) [(1, 22)] rfl (by decide +kernel)) (goodIn_app (goodIn_app (goodIn_c ch_X7_picks hc_X7_picks ([.fieldLink RX3 17 "WordFletchers$Past" "known" "I", .fieldLink RX3 11 "WordFletchers$Past" "moments" "[LWordFletchers$Moment;", .methodLink RX3 22 yX3_loseOldest, .instanceMethod yX3_loseOldest, .selects RX3 yX3_loseOldest yX3_loseOldest, .initialized RX3, .code yX3_loseOldest cX3_loseOldest 3 none, .methodLink RX3 25 yX2_become, .instanceMethod yX2_become, .selects RX2 yX2_become yX2_become, .initialized RX2, .code yX2_become cX2_become 2 none, .fieldLink RX2 24 "WordFletchers$Moment" "hour" "I", .fieldLink RX2 28 "WordFletchers$Moment" "damp" "I", .fieldLink RX2 31 "WordFletchers$Moment" "strays" "I", .fieldLink RX2 9 "WordFletchers$Moment" "feathers" "[I", .methodLink RX2 47 arraycopyName, .native arraycopyName, .static arraycopyName, .initialized "java/lang/System", .fieldLink RX2 15 "WordFletchers$Moment" "knows" "[I", .fieldLink RX2 18 "WordFletchers$Moment" "straySaying" "[I", .fieldLink RX2 21 "WordFletchers$Moment" "strayPlace" "[I"] : List Cond) [(1, 23), (2, 0), (2, 1), (2, 2), (2, 3), (1, 21), (2, 4), (2, 5), (2, 6), (2, 7), (1, 14), (2, 8), (2, 9), (2, 10), (1, 16), (2, 11), (2, 12), (2, 13), (2, 14), (2, 15), (2, 16), (2, 17), (1, 17)] rfl (by decide +kernel)) (goodIn_sub (fun _ h => (List.mem_cons_of_mem _ (List.mem_append_right _ h))) gwX3)) (goodIn_sub (fun _ h => (List.mem_cons_of_mem _ (List.mem_append_left _ (List.mem_append_right _ h)))) gwX2))
set_option maxRecDepth 20000 in
theorem gX7_picks_X3_remember : GoodIn wsX7_picks (wsV RX7 156 RX3 yX3_remember wsX3_remember) := goodIn_app (goodIn_of _ (by decide +kernel)) ggX7_picks_X3_remember
set_option maxRecDepth 20000 in
set_option maxRecDepth 100000 in
theorem ggX7_picks_X2_removeStray : GoodIn wsX7_picks wsX2_removeStray := goodIn_hd (goodIn_c ch_X7_picks hc_X7_picks ([.code yX2_removeStray cX2_removeStray 3 none] : List Cond) [(2, 21)] rfl (by decide +kernel)) (goodIn_app (goodIn_c ch_X7_picks hc_X7_picks ([.fieldLink RX2 31 "WordFletchers$Moment" "strays" "I", .fieldLink RX2 18 "WordFletchers$Moment" "straySaying" "[I", .fieldLink RX2 21 "WordFletchers$Moment" "strayPlace" "[I"] : List Cond) [(1, 16), (2, 17), (1, 17)] rfl (by decide +kernel)) (goodIn_sub (fun _ h => (List.mem_cons_of_mem _ (List.mem_append_left _ (List.mem_append_right _ h)))) gwX2))
set_option maxRecDepth 20000 in
theorem gX7_picks_X2_removeStray : GoodIn wsX7_picks (wsV RX7 170 RX2 yX2_removeStray wsX2_removeStray) := goodIn_app (goodIn_of _ (by decide +kernel)) ggX7_picks_X2_removeStray
set_option maxRecDepth 20000 in
set_option maxRecDepth 100000 in
theorem ggX7_picks_X2_tell : GoodIn wsX7_picks wsX2_tell := goodIn_hd (goodIn_c ch_X7_picks hc_X7_picks ([.code yX2_tell cX2_tell 4 none] : List Cond) [(3, 1)] rfl (by decide +kernel)) (goodIn_app (goodIn_c ch_X7_picks hc_X7_picks ([.fieldLink RX2 15 "WordFletchers$Moment" "knows" "[I", .static yX7_isIn, .initialized RX7, .code yX7_isIn cX7_isIn 2 (some .boolean)] : List Cond) [(2, 16), (3, 2), (3, 3), (3, 4)] rfl (by decide +kernel)) (goodIn_sub (fun _ h => (List.mem_cons_of_mem _ (List.mem_append_left _ (List.mem_append_right _ h)))) gwX2))
set_option maxRecDepth 20000 in
theorem gX7_picks_X2_tell : GoodIn wsX7_picks (wsV RX7 160 RX2 yX2_tell wsX2_tell) := goodIn_app (goodIn_of _ (by decide +kernel)) ggX7_picks_X2_tell
theorem bdX7_picks_0 : decode cX7_picks 0 = .ok (.aload_n 0, 1) ∧ decode cX7_picks 1 = .ok (.getfield 29, 3) ∧ decode cX7_picks 4 = .ok (.iload_n 1, 1) ∧ decode cX7_picks 5 = .ok (.invokevirtual 92, 3) ∧ decode cX7_picks 8 = .ok (.ifCond .ne 5, 3) ∧ decode cX7_picks 11 = .ok (.iconst (-1), 1) ∧ decode cX7_picks 12 = .ok (.ireturn, 1) ∧ decode cX7_picks 13 = .ok (.aload_n 0, 1) := by decide +kernel
theorem dX7_picks_0 : decode cX7_picks 0 = .ok (.aload_n 0, 1) := bdX7_picks_0.1
theorem dX7_picks_1 : decode cX7_picks 1 = .ok (.getfield 29, 3) := bdX7_picks_0.2.1
theorem dX7_picks_4 : decode cX7_picks 4 = .ok (.iload_n 1, 1) := bdX7_picks_0.2.2.1
theorem dX7_picks_5 : decode cX7_picks 5 = .ok (.invokevirtual 92, 3) := bdX7_picks_0.2.2.2.1
theorem dX7_picks_8 : decode cX7_picks 8 = .ok (.ifCond .ne 5, 3) := bdX7_picks_0.2.2.2.2.1
theorem dX7_picks_11 : decode cX7_picks 11 = .ok (.iconst (-1), 1) := bdX7_picks_0.2.2.2.2.2.1
theorem dX7_picks_12 : decode cX7_picks 12 = .ok (.ireturn, 1) := bdX7_picks_0.2.2.2.2.2.2.1
theorem dX7_picks_13 : decode cX7_picks 13 = .ok (.aload_n 0, 1) := bdX7_picks_0.2.2.2.2.2.2.2
theorem bdX7_picks_14 : decode cX7_picks 14 = .ok (.getfield 39, 3) ∧ decode cX7_picks 17 = .ok (.aload_n 0, 1) ∧ decode cX7_picks 18 = .ok (.getfield 29, 3) ∧ decode cX7_picks 21 = .ok (.getfield 96, 3) ∧ decode cX7_picks 24 = .ok (.iload_n 1, 1) ∧ decode cX7_picks 25 = .ok (.iaload, 1) ∧ decode cX7_picks 26 = .ok (.invokevirtual 167, 3) ∧ decode cX7_picks 29 = .ok (.istore_n 2, 1) := by decide +kernel
theorem dX7_picks_14 : decode cX7_picks 14 = .ok (.getfield 39, 3) := bdX7_picks_14.1
theorem dX7_picks_17 : decode cX7_picks 17 = .ok (.aload_n 0, 1) := bdX7_picks_14.2.1
theorem dX7_picks_18 : decode cX7_picks 18 = .ok (.getfield 29, 3) := bdX7_picks_14.2.2.1
theorem dX7_picks_21 : decode cX7_picks 21 = .ok (.getfield 96, 3) := bdX7_picks_14.2.2.2.1
theorem dX7_picks_24 : decode cX7_picks 24 = .ok (.iload_n 1, 1) := bdX7_picks_14.2.2.2.2.1
theorem dX7_picks_25 : decode cX7_picks 25 = .ok (.iaload, 1) := bdX7_picks_14.2.2.2.2.2.1
theorem dX7_picks_26 : decode cX7_picks 26 = .ok (.invokevirtual 167, 3) := bdX7_picks_14.2.2.2.2.2.2.1
theorem dX7_picks_29 : decode cX7_picks 29 = .ok (.istore_n 2, 1) := bdX7_picks_14.2.2.2.2.2.2.2
theorem bdX7_picks_30 : decode cX7_picks 30 = .ok (.iload_n 2, 1) ∧ decode cX7_picks 31 = .ok (.ifCond .ge 6, 3) ∧ decode cX7_picks 34 = .ok (.bipush (-2), 2) ∧ decode cX7_picks 36 = .ok (.ireturn, 1) ∧ decode cX7_picks 37 = .ok (.aload_n 0, 1) ∧ decode cX7_picks 38 = .ok (.getfield 46, 3) ∧ decode cX7_picks 41 = .ok (.aload_n 0, 1) ∧ decode cX7_picks 42 = .ok (.getfield 39, 3) := by decide +kernel
theorem dX7_picks_30 : decode cX7_picks 30 = .ok (.iload_n 2, 1) := bdX7_picks_30.1
theorem dX7_picks_31 : decode cX7_picks 31 = .ok (.ifCond .ge 6, 3) := bdX7_picks_30.2.1
theorem dX7_picks_34 : decode cX7_picks 34 = .ok (.bipush (-2), 2) := bdX7_picks_30.2.2.1
theorem dX7_picks_36 : decode cX7_picks 36 = .ok (.ireturn, 1) := bdX7_picks_30.2.2.2.1
theorem dX7_picks_37 : decode cX7_picks 37 = .ok (.aload_n 0, 1) := bdX7_picks_30.2.2.2.2.1
theorem dX7_picks_38 : decode cX7_picks 38 = .ok (.getfield 46, 3) := bdX7_picks_30.2.2.2.2.2.1
theorem dX7_picks_41 : decode cX7_picks 41 = .ok (.aload_n 0, 1) := bdX7_picks_30.2.2.2.2.2.2.1
theorem dX7_picks_42 : decode cX7_picks 42 = .ok (.getfield 39, 3) := bdX7_picks_30.2.2.2.2.2.2.2
theorem bdX7_picks_45 : decode cX7_picks 45 = .ok (.invokevirtual 156, 3) ∧ decode cX7_picks 48 = .ok (.aload_n 0, 1) ∧ decode cX7_picks 49 = .ok (.getfield 39, 3) ∧ decode cX7_picks 52 = .ok (.getfield 128, 3) ∧ decode cX7_picks 55 = .ok (.iload_n 2, 1) ∧ decode cX7_picks 56 = .ok (.iaload, 1) ∧ decode cX7_picks 57 = .ok (.istore_n 3, 1) ∧ decode cX7_picks 58 = .ok (.aload_n 0, 1) := by decide +kernel
theorem dX7_picks_45 : decode cX7_picks 45 = .ok (.invokevirtual 156, 3) := bdX7_picks_45.1
theorem dX7_picks_48 : decode cX7_picks 48 = .ok (.aload_n 0, 1) := bdX7_picks_45.2.1
theorem dX7_picks_49 : decode cX7_picks 49 = .ok (.getfield 39, 3) := bdX7_picks_45.2.2.1
theorem dX7_picks_52 : decode cX7_picks 52 = .ok (.getfield 128, 3) := bdX7_picks_45.2.2.2.1
theorem dX7_picks_55 : decode cX7_picks 55 = .ok (.iload_n 2, 1) := bdX7_picks_45.2.2.2.2.1
theorem dX7_picks_56 : decode cX7_picks 56 = .ok (.iaload, 1) := bdX7_picks_45.2.2.2.2.2.1
theorem dX7_picks_57 : decode cX7_picks 57 = .ok (.istore_n 3, 1) := bdX7_picks_45.2.2.2.2.2.2.1
theorem dX7_picks_58 : decode cX7_picks 58 = .ok (.aload_n 0, 1) := bdX7_picks_45.2.2.2.2.2.2.2
theorem bdX7_picks_59 : decode cX7_picks 59 = .ok (.getfield 39, 3) ∧ decode cX7_picks 62 = .ok (.iload_n 2, 1) ∧ decode cX7_picks 63 = .ok (.invokevirtual 170, 3) ∧ decode cX7_picks 66 = .ok (.aload_n 0, 1) ∧ decode cX7_picks 67 = .ok (.getfield 39, 3) ∧ decode cX7_picks 70 = .ok (.iconst 1, 1) ∧ decode cX7_picks 71 = .ok (.iload_n 1, 1) ∧ decode cX7_picks 72 = .ok (.ishl, 1) := by decide +kernel
theorem dX7_picks_59 : decode cX7_picks 59 = .ok (.getfield 39, 3) := bdX7_picks_59.1
theorem dX7_picks_62 : decode cX7_picks 62 = .ok (.iload_n 2, 1) := bdX7_picks_59.2.1
theorem dX7_picks_63 : decode cX7_picks 63 = .ok (.invokevirtual 170, 3) := bdX7_picks_59.2.2.1
theorem dX7_picks_66 : decode cX7_picks 66 = .ok (.aload_n 0, 1) := bdX7_picks_59.2.2.2.1
theorem dX7_picks_67 : decode cX7_picks 67 = .ok (.getfield 39, 3) := bdX7_picks_59.2.2.2.2.1
theorem dX7_picks_70 : decode cX7_picks 70 = .ok (.iconst 1, 1) := bdX7_picks_59.2.2.2.2.2.1
theorem dX7_picks_71 : decode cX7_picks 71 = .ok (.iload_n 1, 1) := bdX7_picks_59.2.2.2.2.2.2.1
theorem dX7_picks_72 : decode cX7_picks 72 = .ok (.ishl, 1) := bdX7_picks_59.2.2.2.2.2.2.2
theorem bdX7_picks_73 : decode cX7_picks 73 = .ok (.iload_n 3, 1) ∧ decode cX7_picks 74 = .ok (.invokevirtual 160, 3) ∧ decode cX7_picks 77 = .ok (.iload_n 3, 1) ∧ decode cX7_picks 78 = .ok (.ireturn, 1) := by decide +kernel
theorem dX7_picks_73 : decode cX7_picks 73 = .ok (.iload_n 3, 1) := bdX7_picks_73.1
theorem dX7_picks_74 : decode cX7_picks 74 = .ok (.invokevirtual 160, 3) := bdX7_picks_73.2.1
theorem dX7_picks_77 : decode cX7_picks 77 = .ok (.iload_n 3, 1) := bdX7_picks_73.2.2.1
theorem dX7_picks_78 : decode cX7_picks 78 = .ok (.ireturn, 1) := bdX7_picks_73.2.2.2
set_option maxRecDepth 20000 in
set_option maxRecDepth 100000 in
theorem ggX7_hours_X3_remember : GoodIn wsX7_hours wsX3_remember := goodIn_hd (goodIn_c ch_X7_hours hc_X7_hours ([.code yX3_remember cX3_remember 2 none] : List Cond) [(1, 7)] rfl (by decide +kernel)) (goodIn_app (goodIn_app (goodIn_c ch_X7_hours hc_X7_hours ([.fieldLink RX3 17 "WordFletchers$Past" "known" "I", .fieldLink RX3 11 "WordFletchers$Past" "moments" "[LWordFletchers$Moment;", .methodLink RX3 22 yX3_loseOldest, .instanceMethod yX3_loseOldest, .selects RX3 yX3_loseOldest yX3_loseOldest, .initialized RX3, .code yX3_loseOldest cX3_loseOldest 3 none, .methodLink RX3 25 yX2_become, .instanceMethod yX2_become, .selects RX2 yX2_become yX2_become, .initialized RX2, .code yX2_become cX2_become 2 none, .fieldLink RX2 24 "WordFletchers$Moment" "hour" "I", .fieldLink RX2 28 "WordFletchers$Moment" "damp" "I", .fieldLink RX2 31 "WordFletchers$Moment" "strays" "I", .fieldLink RX2 9 "WordFletchers$Moment" "feathers" "[I", .methodLink RX2 47 arraycopyName, .native arraycopyName, .static arraycopyName, .initialized "java/lang/System", .fieldLink RX2 15 "WordFletchers$Moment" "knows" "[I", .fieldLink RX2 18 "WordFletchers$Moment" "straySaying" "[I", .fieldLink RX2 21 "WordFletchers$Moment" "strayPlace" "[I"] : List Cond) [(1, 8), (1, 9), (1, 10), (1, 11), (1, 12), (1, 6), (1, 13), (1, 14), (1, 15), (1, 16), (1, 17), (1, 18), (1, 19), (1, 20), (1, 21), (1, 22), (1, 23), (2, 0), (2, 1), (2, 2), (2, 3), (2, 4), (2, 5)] rfl (by decide +kernel)) (goodIn_sub (fun _ h => (List.mem_cons_of_mem _ (List.mem_append_right _ h))) gwX3)) (goodIn_sub (fun _ h => (List.mem_cons_of_mem _ (List.mem_append_left _ (List.mem_append_right _ h)))) gwX2))
set_option maxRecDepth 20000 in
theorem gX7_hours_X3_remember : GoodIn wsX7_hours (wsV RX7 156 RX3 yX3_remember wsX3_remember) := goodIn_app (goodIn_of _ (by decide +kernel)) ggX7_hours_X3_remember
theorem bdX7_hours_0 : decode cX7_hours 0 = .ok (.iload_n 1, 1) ∧ decode cX7_hours 1 = .ok (.iconst 1, 1) ∧ decode cX7_hours 2 = .ok (.if_icmp .lt 9, 3) ∧ decode cX7_hours 5 = .ok (.iload_n 1, 1) ∧ decode cX7_hours 6 = .ok (.bipush 9, 2) ∧ decode cX7_hours 8 = .ok (.if_icmp .le 5, 3) ∧ decode cX7_hours 11 = .ok (.iconst (-1), 1) ∧ decode cX7_hours 12 = .ok (.ireturn, 1) := by decide +kernel
theorem dX7_hours_0 : decode cX7_hours 0 = .ok (.iload_n 1, 1) := bdX7_hours_0.1
theorem dX7_hours_1 : decode cX7_hours 1 = .ok (.iconst 1, 1) := bdX7_hours_0.2.1
theorem dX7_hours_2 : decode cX7_hours 2 = .ok (.if_icmp .lt 9, 3) := bdX7_hours_0.2.2.1
theorem dX7_hours_5 : decode cX7_hours 5 = .ok (.iload_n 1, 1) := bdX7_hours_0.2.2.2.1
theorem dX7_hours_6 : decode cX7_hours 6 = .ok (.bipush 9, 2) := bdX7_hours_0.2.2.2.2.1
theorem dX7_hours_8 : decode cX7_hours 8 = .ok (.if_icmp .le 5, 3) := bdX7_hours_0.2.2.2.2.2.1
theorem dX7_hours_11 : decode cX7_hours 11 = .ok (.iconst (-1), 1) := bdX7_hours_0.2.2.2.2.2.2.1
theorem dX7_hours_12 : decode cX7_hours 12 = .ok (.ireturn, 1) := bdX7_hours_0.2.2.2.2.2.2.2
theorem bdX7_hours_13 : decode cX7_hours 13 = .ok (.aload_n 0, 1) ∧ decode cX7_hours 14 = .ok (.getfield 39, 3) ∧ decode cX7_hours 17 = .ok (.getfield 174, 3) ∧ decode cX7_hours 20 = .ok (.iload_n 1, 1) ∧ decode cX7_hours 21 = .ok (.iadd, 1) ∧ decode cX7_hours 22 = .ok (.sipush 999, 3) ∧ decode cX7_hours 25 = .ok (.if_icmp .le 6, 3) ∧ decode cX7_hours 28 = .ok (.bipush (-2), 2) := by decide +kernel
theorem dX7_hours_13 : decode cX7_hours 13 = .ok (.aload_n 0, 1) := bdX7_hours_13.1
theorem dX7_hours_14 : decode cX7_hours 14 = .ok (.getfield 39, 3) := bdX7_hours_13.2.1
theorem dX7_hours_17 : decode cX7_hours 17 = .ok (.getfield 174, 3) := bdX7_hours_13.2.2.1
theorem dX7_hours_20 : decode cX7_hours 20 = .ok (.iload_n 1, 1) := bdX7_hours_13.2.2.2.1
theorem dX7_hours_21 : decode cX7_hours 21 = .ok (.iadd, 1) := bdX7_hours_13.2.2.2.2.1
theorem dX7_hours_22 : decode cX7_hours 22 = .ok (.sipush 999, 3) := bdX7_hours_13.2.2.2.2.2.1
theorem dX7_hours_25 : decode cX7_hours 25 = .ok (.if_icmp .le 6, 3) := bdX7_hours_13.2.2.2.2.2.2.1
theorem dX7_hours_28 : decode cX7_hours 28 = .ok (.bipush (-2), 2) := bdX7_hours_13.2.2.2.2.2.2.2
theorem bdX7_hours_30 : decode cX7_hours 30 = .ok (.ireturn, 1) ∧ decode cX7_hours 31 = .ok (.aload_n 0, 1) ∧ decode cX7_hours 32 = .ok (.getfield 46, 3) ∧ decode cX7_hours 35 = .ok (.aload_n 0, 1) ∧ decode cX7_hours 36 = .ok (.getfield 39, 3) ∧ decode cX7_hours 39 = .ok (.invokevirtual 156, 3) ∧ decode cX7_hours 42 = .ok (.aload_n 0, 1) ∧ decode cX7_hours 43 = .ok (.getfield 39, 3) := by decide +kernel
theorem dX7_hours_30 : decode cX7_hours 30 = .ok (.ireturn, 1) := bdX7_hours_30.1
theorem dX7_hours_31 : decode cX7_hours 31 = .ok (.aload_n 0, 1) := bdX7_hours_30.2.1
theorem dX7_hours_32 : decode cX7_hours 32 = .ok (.getfield 46, 3) := bdX7_hours_30.2.2.1
theorem dX7_hours_35 : decode cX7_hours 35 = .ok (.aload_n 0, 1) := bdX7_hours_30.2.2.2.1
theorem dX7_hours_36 : decode cX7_hours 36 = .ok (.getfield 39, 3) := bdX7_hours_30.2.2.2.2.1
theorem dX7_hours_39 : decode cX7_hours 39 = .ok (.invokevirtual 156, 3) := bdX7_hours_30.2.2.2.2.2.1
theorem dX7_hours_42 : decode cX7_hours 42 = .ok (.aload_n 0, 1) := bdX7_hours_30.2.2.2.2.2.2.1
theorem dX7_hours_43 : decode cX7_hours 43 = .ok (.getfield 39, 3) := bdX7_hours_30.2.2.2.2.2.2.2
theorem bdX7_hours_46 : decode cX7_hours 46 = .ok (.dup, 1) ∧ decode cX7_hours 47 = .ok (.getfield 174, 3) ∧ decode cX7_hours 50 = .ok (.iload_n 1, 1) ∧ decode cX7_hours 51 = .ok (.iadd, 1) ∧ decode cX7_hours 52 = .ok (.putfield 174, 3) ∧ decode cX7_hours 55 = .ok (.aload_n 0, 1) ∧ decode cX7_hours 56 = .ok (.getfield 39, 3) ∧ decode cX7_hours 59 = .ok (.getfield 174, 3) := by decide +kernel
theorem dX7_hours_46 : decode cX7_hours 46 = .ok (.dup, 1) := bdX7_hours_46.1
theorem dX7_hours_47 : decode cX7_hours 47 = .ok (.getfield 174, 3) := bdX7_hours_46.2.1
theorem dX7_hours_50 : decode cX7_hours 50 = .ok (.iload_n 1, 1) := bdX7_hours_46.2.2.1
theorem dX7_hours_51 : decode cX7_hours 51 = .ok (.iadd, 1) := bdX7_hours_46.2.2.2.1
theorem dX7_hours_52 : decode cX7_hours 52 = .ok (.putfield 174, 3) := bdX7_hours_46.2.2.2.2.1
theorem dX7_hours_55 : decode cX7_hours 55 = .ok (.aload_n 0, 1) := bdX7_hours_46.2.2.2.2.2.1
theorem dX7_hours_56 : decode cX7_hours 56 = .ok (.getfield 39, 3) := bdX7_hours_46.2.2.2.2.2.2.1
theorem dX7_hours_59 : decode cX7_hours 59 = .ok (.getfield 174, 3) := bdX7_hours_46.2.2.2.2.2.2.2
theorem dX7_hours_62 : decode cX7_hours 62 = .ok (.ireturn, 1) := by decide +kernel
set_option maxRecDepth 20000 in
set_option maxRecDepth 100000 in
theorem ggX7_damps_X3_remember : GoodIn wsX7_damps wsX3_remember := goodIn_hd (goodIn_c ch_X7_damps hc_X7_damps ([.code yX3_remember cX3_remember 2 none] : List Cond) [(1, 7)] rfl (by decide +kernel)) (goodIn_app (goodIn_app (goodIn_c ch_X7_damps hc_X7_damps ([.fieldLink RX3 17 "WordFletchers$Past" "known" "I", .fieldLink RX3 11 "WordFletchers$Past" "moments" "[LWordFletchers$Moment;", .methodLink RX3 22 yX3_loseOldest, .instanceMethod yX3_loseOldest, .selects RX3 yX3_loseOldest yX3_loseOldest, .initialized RX3, .code yX3_loseOldest cX3_loseOldest 3 none, .methodLink RX3 25 yX2_become, .instanceMethod yX2_become, .selects RX2 yX2_become yX2_become, .initialized RX2, .code yX2_become cX2_become 2 none, .fieldLink RX2 24 "WordFletchers$Moment" "hour" "I", .fieldLink RX2 28 "WordFletchers$Moment" "damp" "I", .fieldLink RX2 31 "WordFletchers$Moment" "strays" "I", .fieldLink RX2 9 "WordFletchers$Moment" "feathers" "[I", .methodLink RX2 47 arraycopyName, .native arraycopyName, .static arraycopyName, .initialized "java/lang/System", .fieldLink RX2 15 "WordFletchers$Moment" "knows" "[I", .fieldLink RX2 18 "WordFletchers$Moment" "straySaying" "[I", .fieldLink RX2 21 "WordFletchers$Moment" "strayPlace" "[I"] : List Cond) [(1, 8), (1, 9), (1, 10), (1, 11), (1, 12), (1, 6), (1, 13), (1, 14), (1, 15), (1, 16), (1, 17), (1, 18), (1, 19), (1, 20), (1, 21), (1, 22), (1, 23), (2, 0), (2, 1), (2, 2), (2, 3), (2, 4), (2, 5)] rfl (by decide +kernel)) (goodIn_sub (fun _ h => (List.mem_cons_of_mem _ (List.mem_append_right _ h))) gwX3)) (goodIn_sub (fun _ h => (List.mem_cons_of_mem _ (List.mem_append_left _ (List.mem_append_right _ h)))) gwX2))
set_option maxRecDepth 20000 in
theorem gX7_damps_X3_remember : GoodIn wsX7_damps (wsV RX7 156 RX3 yX3_remember wsX3_remember) := goodIn_app (goodIn_of _ (by decide +kernel)) ggX7_damps_X3_remember
theorem bdX7_damps_0 : decode cX7_damps 0 = .ok (.iload_n 1, 1) ∧ decode cX7_damps 1 = .ok (.ifCond .lt 8, 3) ∧ decode cX7_damps 4 = .ok (.iload_n 1, 1) ∧ decode cX7_damps 5 = .ok (.iconst 5, 1) ∧ decode cX7_damps 6 = .ok (.if_icmp .le 5, 3) ∧ decode cX7_damps 9 = .ok (.iconst (-1), 1) ∧ decode cX7_damps 10 = .ok (.ireturn, 1) ∧ decode cX7_damps 11 = .ok (.iload_n 1, 1) := by decide +kernel
theorem dX7_damps_0 : decode cX7_damps 0 = .ok (.iload_n 1, 1) := bdX7_damps_0.1
theorem dX7_damps_1 : decode cX7_damps 1 = .ok (.ifCond .lt 8, 3) := bdX7_damps_0.2.1
theorem dX7_damps_4 : decode cX7_damps 4 = .ok (.iload_n 1, 1) := bdX7_damps_0.2.2.1
theorem dX7_damps_5 : decode cX7_damps 5 = .ok (.iconst 5, 1) := bdX7_damps_0.2.2.2.1
theorem dX7_damps_6 : decode cX7_damps 6 = .ok (.if_icmp .le 5, 3) := bdX7_damps_0.2.2.2.2.1
theorem dX7_damps_9 : decode cX7_damps 9 = .ok (.iconst (-1), 1) := bdX7_damps_0.2.2.2.2.2.1
theorem dX7_damps_10 : decode cX7_damps 10 = .ok (.ireturn, 1) := bdX7_damps_0.2.2.2.2.2.2.1
theorem dX7_damps_11 : decode cX7_damps 11 = .ok (.iload_n 1, 1) := bdX7_damps_0.2.2.2.2.2.2.2
theorem bdX7_damps_12 : decode cX7_damps 12 = .ok (.aload_n 0, 1) ∧ decode cX7_damps 13 = .ok (.getfield 39, 3) ∧ decode cX7_damps 16 = .ok (.getfield 177, 3) ∧ decode cX7_damps 19 = .ok (.if_icmp .ne 6, 3) ∧ decode cX7_damps 22 = .ok (.bipush (-2), 2) ∧ decode cX7_damps 24 = .ok (.ireturn, 1) ∧ decode cX7_damps 25 = .ok (.aload_n 0, 1) ∧ decode cX7_damps 26 = .ok (.getfield 46, 3) := by decide +kernel
theorem dX7_damps_12 : decode cX7_damps 12 = .ok (.aload_n 0, 1) := bdX7_damps_12.1
theorem dX7_damps_13 : decode cX7_damps 13 = .ok (.getfield 39, 3) := bdX7_damps_12.2.1
theorem dX7_damps_16 : decode cX7_damps 16 = .ok (.getfield 177, 3) := bdX7_damps_12.2.2.1
theorem dX7_damps_19 : decode cX7_damps 19 = .ok (.if_icmp .ne 6, 3) := bdX7_damps_12.2.2.2.1
theorem dX7_damps_22 : decode cX7_damps 22 = .ok (.bipush (-2), 2) := bdX7_damps_12.2.2.2.2.1
theorem dX7_damps_24 : decode cX7_damps 24 = .ok (.ireturn, 1) := bdX7_damps_12.2.2.2.2.2.1
theorem dX7_damps_25 : decode cX7_damps 25 = .ok (.aload_n 0, 1) := bdX7_damps_12.2.2.2.2.2.2.1
theorem dX7_damps_26 : decode cX7_damps 26 = .ok (.getfield 46, 3) := bdX7_damps_12.2.2.2.2.2.2.2
theorem bdX7_damps_29 : decode cX7_damps 29 = .ok (.aload_n 0, 1) ∧ decode cX7_damps 30 = .ok (.getfield 39, 3) ∧ decode cX7_damps 33 = .ok (.invokevirtual 156, 3) ∧ decode cX7_damps 36 = .ok (.aload_n 0, 1) ∧ decode cX7_damps 37 = .ok (.getfield 39, 3) ∧ decode cX7_damps 40 = .ok (.getfield 177, 3) ∧ decode cX7_damps 43 = .ok (.istore_n 2, 1) ∧ decode cX7_damps 44 = .ok (.aload_n 0, 1) := by decide +kernel
theorem dX7_damps_29 : decode cX7_damps 29 = .ok (.aload_n 0, 1) := bdX7_damps_29.1
theorem dX7_damps_30 : decode cX7_damps 30 = .ok (.getfield 39, 3) := bdX7_damps_29.2.1
theorem dX7_damps_33 : decode cX7_damps 33 = .ok (.invokevirtual 156, 3) := bdX7_damps_29.2.2.1
theorem dX7_damps_36 : decode cX7_damps 36 = .ok (.aload_n 0, 1) := bdX7_damps_29.2.2.2.1
theorem dX7_damps_37 : decode cX7_damps 37 = .ok (.getfield 39, 3) := bdX7_damps_29.2.2.2.2.1
theorem dX7_damps_40 : decode cX7_damps 40 = .ok (.getfield 177, 3) := bdX7_damps_29.2.2.2.2.2.1
theorem dX7_damps_43 : decode cX7_damps 43 = .ok (.istore_n 2, 1) := bdX7_damps_29.2.2.2.2.2.2.1
theorem dX7_damps_44 : decode cX7_damps 44 = .ok (.aload_n 0, 1) := bdX7_damps_29.2.2.2.2.2.2.2
theorem bdX7_damps_45 : decode cX7_damps 45 = .ok (.getfield 39, 3) ∧ decode cX7_damps 48 = .ok (.iload_n 1, 1) ∧ decode cX7_damps 49 = .ok (.putfield 177, 3) ∧ decode cX7_damps 52 = .ok (.iload_n 2, 1) ∧ decode cX7_damps 53 = .ok (.ireturn, 1) := by decide +kernel
theorem dX7_damps_45 : decode cX7_damps 45 = .ok (.getfield 39, 3) := bdX7_damps_45.1
theorem dX7_damps_48 : decode cX7_damps 48 = .ok (.iload_n 1, 1) := bdX7_damps_45.2.1
theorem dX7_damps_49 : decode cX7_damps 49 = .ok (.putfield 177, 3) := bdX7_damps_45.2.2.1
theorem dX7_damps_52 : decode cX7_damps 52 = .ok (.iload_n 2, 1) := bdX7_damps_45.2.2.2.1
theorem dX7_damps_53 : decode cX7_damps 53 = .ok (.ireturn, 1) := bdX7_damps_45.2.2.2.2
set_option maxRecDepth 20000 in
set_option maxRecDepth 100000 in
theorem ggX7_plucks_X3_remember : GoodIn wsX7_plucks wsX3_remember := goodIn_hd (goodIn_c ch_X7_plucks hc_X7_plucks ([.code yX3_remember cX3_remember 2 none] : List Cond) [(1, 11)] rfl (by decide +kernel)) (goodIn_app (goodIn_app (goodIn_c ch_X7_plucks hc_X7_plucks ([.fieldLink RX3 17 "WordFletchers$Past" "known" "I", .fieldLink RX3 11 "WordFletchers$Past" "moments" "[LWordFletchers$Moment;", .methodLink RX3 22 yX3_loseOldest, .instanceMethod yX3_loseOldest, .selects RX3 yX3_loseOldest yX3_loseOldest, .initialized RX3, .code yX3_loseOldest cX3_loseOldest 3 none, .methodLink RX3 25 yX2_become, .instanceMethod yX2_become, .selects RX2 yX2_become yX2_become, .initialized RX2, .code yX2_become cX2_become 2 none, .fieldLink RX2 24 "WordFletchers$Moment" "hour" "I", .fieldLink RX2 28 "WordFletchers$Moment" "damp" "I", .fieldLink RX2 31 "WordFletchers$Moment" "strays" "I", .fieldLink RX2 9 "WordFletchers$Moment" "feathers" "[I", .methodLink RX2 47 arraycopyName, .native arraycopyName, .static arraycopyName, .initialized "java/lang/System", .fieldLink RX2 15 "WordFletchers$Moment" "knows" "[I", .fieldLink RX2 18 "WordFletchers$Moment" "straySaying" "[I", .fieldLink RX2 21 "WordFletchers$Moment" "strayPlace" "[I"] : List Cond) [(1, 12), (1, 13), (1, 14), (1, 15), (1, 16), (1, 10), (1, 17), (1, 18), (1, 19), (1, 20), (1, 21), (1, 22), (1, 23), (2, 0), (2, 1), (2, 2), (2, 3), (2, 4), (2, 5), (2, 6), (2, 7), (2, 8), (2, 9)] rfl (by decide +kernel)) (goodIn_sub (fun _ h => (List.mem_cons_of_mem _ (List.mem_append_right _ h))) gwX3)) (goodIn_sub (fun _ h => (List.mem_cons_of_mem _ (List.mem_append_left _ (List.mem_append_right _ h)))) gwX2))
set_option maxRecDepth 20000 in
theorem gX7_plucks_X3_remember : GoodIn wsX7_plucks (wsV RX7 156 RX3 yX3_remember wsX3_remember) := goodIn_app (goodIn_of _ (by decide +kernel)) ggX7_plucks_X3_remember
theorem bdX7_plucks_0 : decode cX7_plucks 0 = .ok (.iload_n 1, 1) ∧ decode cX7_plucks 1 = .ok (.ifCond .lt 19, 3) ∧ decode cX7_plucks 4 = .ok (.iload_n 1, 1) ∧ decode cX7_plucks 5 = .ok (.iconst 4, 1) ∧ decode cX7_plucks 6 = .ok (.if_icmp .ge 14, 3) ∧ decode cX7_plucks 9 = .ok (.iload_n 2, 1) ∧ decode cX7_plucks 10 = .ok (.iconst 1, 1) ∧ decode cX7_plucks 11 = .ok (.if_icmp .lt 9, 3) := by decide +kernel
theorem dX7_plucks_0 : decode cX7_plucks 0 = .ok (.iload_n 1, 1) := bdX7_plucks_0.1
theorem dX7_plucks_1 : decode cX7_plucks 1 = .ok (.ifCond .lt 19, 3) := bdX7_plucks_0.2.1
theorem dX7_plucks_4 : decode cX7_plucks 4 = .ok (.iload_n 1, 1) := bdX7_plucks_0.2.2.1
theorem dX7_plucks_5 : decode cX7_plucks 5 = .ok (.iconst 4, 1) := bdX7_plucks_0.2.2.2.1
theorem dX7_plucks_6 : decode cX7_plucks 6 = .ok (.if_icmp .ge 14, 3) := bdX7_plucks_0.2.2.2.2.1
theorem dX7_plucks_9 : decode cX7_plucks 9 = .ok (.iload_n 2, 1) := bdX7_plucks_0.2.2.2.2.2.1
theorem dX7_plucks_10 : decode cX7_plucks 10 = .ok (.iconst 1, 1) := bdX7_plucks_0.2.2.2.2.2.2.1
theorem dX7_plucks_11 : decode cX7_plucks 11 = .ok (.if_icmp .lt 9, 3) := bdX7_plucks_0.2.2.2.2.2.2.2
theorem bdX7_plucks_14 : decode cX7_plucks 14 = .ok (.iload_n 2, 1) ∧ decode cX7_plucks 15 = .ok (.bipush 9, 2) ∧ decode cX7_plucks 17 = .ok (.if_icmp .le 5, 3) ∧ decode cX7_plucks 20 = .ok (.iconst (-1), 1) ∧ decode cX7_plucks 21 = .ok (.ireturn, 1) ∧ decode cX7_plucks 22 = .ok (.aload_n 0, 1) ∧ decode cX7_plucks 23 = .ok (.getfield 39, 3) ∧ decode cX7_plucks 26 = .ok (.getfield 142, 3) := by decide +kernel
theorem dX7_plucks_14 : decode cX7_plucks 14 = .ok (.iload_n 2, 1) := bdX7_plucks_14.1
theorem dX7_plucks_15 : decode cX7_plucks 15 = .ok (.bipush 9, 2) := bdX7_plucks_14.2.1
theorem dX7_plucks_17 : decode cX7_plucks 17 = .ok (.if_icmp .le 5, 3) := bdX7_plucks_14.2.2.1
theorem dX7_plucks_20 : decode cX7_plucks 20 = .ok (.iconst (-1), 1) := bdX7_plucks_14.2.2.2.1
theorem dX7_plucks_21 : decode cX7_plucks 21 = .ok (.ireturn, 1) := bdX7_plucks_14.2.2.2.2.1
theorem dX7_plucks_22 : decode cX7_plucks 22 = .ok (.aload_n 0, 1) := bdX7_plucks_14.2.2.2.2.2.1
theorem dX7_plucks_23 : decode cX7_plucks 23 = .ok (.getfield 39, 3) := bdX7_plucks_14.2.2.2.2.2.2.1
theorem dX7_plucks_26 : decode cX7_plucks 26 = .ok (.getfield 142, 3) := bdX7_plucks_14.2.2.2.2.2.2.2
theorem bdX7_plucks_29 : decode cX7_plucks 29 = .ok (.iload_n 1, 1) ∧ decode cX7_plucks 30 = .ok (.iaload, 1) ∧ decode cX7_plucks 31 = .ok (.bipush 20, 2) ∧ decode cX7_plucks 33 = .ok (.if_icmp .lt 6, 3) ∧ decode cX7_plucks 36 = .ok (.bipush (-2), 2) ∧ decode cX7_plucks 38 = .ok (.ireturn, 1) ∧ decode cX7_plucks 39 = .ok (.aload_n 0, 1) ∧ decode cX7_plucks 40 = .ok (.getfield 46, 3) := by decide +kernel
theorem dX7_plucks_29 : decode cX7_plucks 29 = .ok (.iload_n 1, 1) := bdX7_plucks_29.1
theorem dX7_plucks_30 : decode cX7_plucks 30 = .ok (.iaload, 1) := bdX7_plucks_29.2.1
theorem dX7_plucks_31 : decode cX7_plucks 31 = .ok (.bipush 20, 2) := bdX7_plucks_29.2.2.1
theorem dX7_plucks_33 : decode cX7_plucks 33 = .ok (.if_icmp .lt 6, 3) := bdX7_plucks_29.2.2.2.1
theorem dX7_plucks_36 : decode cX7_plucks 36 = .ok (.bipush (-2), 2) := bdX7_plucks_29.2.2.2.2.1
theorem dX7_plucks_38 : decode cX7_plucks 38 = .ok (.ireturn, 1) := bdX7_plucks_29.2.2.2.2.2.1
theorem dX7_plucks_39 : decode cX7_plucks 39 = .ok (.aload_n 0, 1) := bdX7_plucks_29.2.2.2.2.2.2.1
theorem dX7_plucks_40 : decode cX7_plucks 40 = .ok (.getfield 46, 3) := bdX7_plucks_29.2.2.2.2.2.2.2
theorem bdX7_plucks_43 : decode cX7_plucks 43 = .ok (.aload_n 0, 1) ∧ decode cX7_plucks 44 = .ok (.getfield 39, 3) ∧ decode cX7_plucks 47 = .ok (.invokevirtual 156, 3) ∧ decode cX7_plucks 50 = .ok (.aload_n 0, 1) ∧ decode cX7_plucks 51 = .ok (.getfield 39, 3) ∧ decode cX7_plucks 54 = .ok (.getfield 142, 3) ∧ decode cX7_plucks 57 = .ok (.iload_n 1, 1) ∧ decode cX7_plucks 58 = .ok (.bipush 20, 2) := by decide +kernel
theorem dX7_plucks_43 : decode cX7_plucks 43 = .ok (.aload_n 0, 1) := bdX7_plucks_43.1
theorem dX7_plucks_44 : decode cX7_plucks 44 = .ok (.getfield 39, 3) := bdX7_plucks_43.2.1
theorem dX7_plucks_47 : decode cX7_plucks 47 = .ok (.invokevirtual 156, 3) := bdX7_plucks_43.2.2.1
theorem dX7_plucks_50 : decode cX7_plucks 50 = .ok (.aload_n 0, 1) := bdX7_plucks_43.2.2.2.1
theorem dX7_plucks_51 : decode cX7_plucks 51 = .ok (.getfield 39, 3) := bdX7_plucks_43.2.2.2.2.1
theorem dX7_plucks_54 : decode cX7_plucks 54 = .ok (.getfield 142, 3) := bdX7_plucks_43.2.2.2.2.2.1
theorem dX7_plucks_57 : decode cX7_plucks 57 = .ok (.iload_n 1, 1) := bdX7_plucks_43.2.2.2.2.2.2.1
theorem dX7_plucks_58 : decode cX7_plucks 58 = .ok (.bipush 20, 2) := bdX7_plucks_43.2.2.2.2.2.2.2
theorem bdX7_plucks_60 : decode cX7_plucks 60 = .ok (.aload_n 0, 1) ∧ decode cX7_plucks 61 = .ok (.getfield 39, 3) ∧ decode cX7_plucks 64 = .ok (.getfield 142, 3) ∧ decode cX7_plucks 67 = .ok (.iload_n 1, 1) ∧ decode cX7_plucks 68 = .ok (.iaload, 1) ∧ decode cX7_plucks 69 = .ok (.iload_n 2, 1) ∧ decode cX7_plucks 70 = .ok (.iadd, 1) ∧ decode cX7_plucks 71 = .ok (.invokestatic 180, 3) := by decide +kernel
theorem dX7_plucks_60 : decode cX7_plucks 60 = .ok (.aload_n 0, 1) := bdX7_plucks_60.1
theorem dX7_plucks_61 : decode cX7_plucks 61 = .ok (.getfield 39, 3) := bdX7_plucks_60.2.1
theorem dX7_plucks_64 : decode cX7_plucks 64 = .ok (.getfield 142, 3) := bdX7_plucks_60.2.2.1
theorem dX7_plucks_67 : decode cX7_plucks 67 = .ok (.iload_n 1, 1) := bdX7_plucks_60.2.2.2.1
theorem dX7_plucks_68 : decode cX7_plucks 68 = .ok (.iaload, 1) := bdX7_plucks_60.2.2.2.2.1
theorem dX7_plucks_69 : decode cX7_plucks 69 = .ok (.iload_n 2, 1) := bdX7_plucks_60.2.2.2.2.2.1
theorem dX7_plucks_70 : decode cX7_plucks 70 = .ok (.iadd, 1) := bdX7_plucks_60.2.2.2.2.2.2.1
theorem dX7_plucks_71 : decode cX7_plucks 71 = .ok (.invokestatic 180, 3) := bdX7_plucks_60.2.2.2.2.2.2.2
theorem bdX7_plucks_74 : decode cX7_plucks 74 = .ok (.iastore, 1) ∧ decode cX7_plucks 75 = .ok (.aload_n 0, 1) ∧ decode cX7_plucks 76 = .ok (.getfield 39, 3) ∧ decode cX7_plucks 79 = .ok (.getfield 142, 3) ∧ decode cX7_plucks 82 = .ok (.iload_n 1, 1) ∧ decode cX7_plucks 83 = .ok (.iaload, 1) ∧ decode cX7_plucks 84 = .ok (.ireturn, 1) := by decide +kernel
theorem dX7_plucks_74 : decode cX7_plucks 74 = .ok (.iastore, 1) := bdX7_plucks_74.1
theorem dX7_plucks_75 : decode cX7_plucks 75 = .ok (.aload_n 0, 1) := bdX7_plucks_74.2.1
theorem dX7_plucks_76 : decode cX7_plucks 76 = .ok (.getfield 39, 3) := bdX7_plucks_74.2.2.1
theorem dX7_plucks_79 : decode cX7_plucks 79 = .ok (.getfield 142, 3) := bdX7_plucks_74.2.2.2.1
theorem dX7_plucks_82 : decode cX7_plucks 82 = .ok (.iload_n 1, 1) := bdX7_plucks_74.2.2.2.2.1
theorem dX7_plucks_83 : decode cX7_plucks 83 = .ok (.iaload, 1) := bdX7_plucks_74.2.2.2.2.2.1
theorem dX7_plucks_84 : decode cX7_plucks 84 = .ok (.ireturn, 1) := bdX7_plucks_74.2.2.2.2.2.2
set_option maxRecDepth 20000 in
set_option maxRecDepth 100000 in
theorem ggX7_undo_X3_bringBack : GoodIn wsX7_undo wsX3_bringBack := goodIn_hd (goodIn_c ch_X7_undo hc_X7_undo ([.code yX3_bringBack cX3_bringBack 2 none] : List Cond) [(1, 7)] rfl (by decide +kernel)) (goodIn_app (goodIn_app (goodIn_c ch_X7_undo hc_X7_undo ([.fieldLink RX3 17 "WordFletchers$Past" "known" "I", .fieldLink RX3 11 "WordFletchers$Past" "moments" "[LWordFletchers$Moment;", .methodLink RX3 25 yX2_become, .instanceMethod yX2_become, .selects RX2 yX2_become yX2_become, .initialized RX2, .code yX2_become cX2_become 2 none, .fieldLink RX2 24 "WordFletchers$Moment" "hour" "I", .fieldLink RX2 28 "WordFletchers$Moment" "damp" "I", .fieldLink RX2 31 "WordFletchers$Moment" "strays" "I", .fieldLink RX2 9 "WordFletchers$Moment" "feathers" "[I", .methodLink RX2 47 arraycopyName, .native arraycopyName, .static arraycopyName, .initialized "java/lang/System", .fieldLink RX2 15 "WordFletchers$Moment" "knows" "[I", .fieldLink RX2 18 "WordFletchers$Moment" "straySaying" "[I", .fieldLink RX2 21 "WordFletchers$Moment" "strayPlace" "[I"] : List Cond) [(1, 8), (1, 9), (1, 10), (1, 11), (1, 12), (1, 13), (1, 14), (1, 15), (1, 16), (1, 17), (1, 18), (1, 19), (1, 20), (1, 21), (1, 22), (1, 23), (2, 0), (2, 1)] rfl (by decide +kernel)) (goodIn_sub (fun _ h => (List.mem_cons_of_mem _ (List.mem_append_left _ (List.mem_append_right _ h)))) gwX3)) (goodIn_sub (fun _ h => (List.mem_cons_of_mem _ (List.mem_append_right _ h))) gwX2))
set_option maxRecDepth 20000 in
theorem gX7_undo_X3_bringBack : GoodIn wsX7_undo (wsV RX7 188 RX3 yX3_bringBack wsX3_bringBack) := goodIn_app (goodIn_of _ (by decide +kernel)) ggX7_undo_X3_bringBack
theorem bdX7_undo_0 : decode cX7_undo 0 = .ok (.aload_n 0, 1) ∧ decode cX7_undo 1 = .ok (.getfield 46, 3) ∧ decode cX7_undo 4 = .ok (.getfield 185, 3) ∧ decode cX7_undo 7 = .ok (.iconst 1, 1) ∧ decode cX7_undo 8 = .ok (.if_icmp .ge 6, 3) ∧ decode cX7_undo 11 = .ok (.bipush (-2), 2) ∧ decode cX7_undo 13 = .ok (.ireturn, 1) ∧ decode cX7_undo 14 = .ok (.aload_n 0, 1) := by decide +kernel
theorem dX7_undo_0 : decode cX7_undo 0 = .ok (.aload_n 0, 1) := bdX7_undo_0.1
theorem dX7_undo_1 : decode cX7_undo 1 = .ok (.getfield 46, 3) := bdX7_undo_0.2.1
theorem dX7_undo_4 : decode cX7_undo 4 = .ok (.getfield 185, 3) := bdX7_undo_0.2.2.1
theorem dX7_undo_7 : decode cX7_undo 7 = .ok (.iconst 1, 1) := bdX7_undo_0.2.2.2.1
theorem dX7_undo_8 : decode cX7_undo 8 = .ok (.if_icmp .ge 6, 3) := bdX7_undo_0.2.2.2.2.1
theorem dX7_undo_11 : decode cX7_undo 11 = .ok (.bipush (-2), 2) := bdX7_undo_0.2.2.2.2.2.1
theorem dX7_undo_13 : decode cX7_undo 13 = .ok (.ireturn, 1) := bdX7_undo_0.2.2.2.2.2.2.1
theorem dX7_undo_14 : decode cX7_undo 14 = .ok (.aload_n 0, 1) := bdX7_undo_0.2.2.2.2.2.2.2
theorem bdX7_undo_15 : decode cX7_undo 15 = .ok (.getfield 46, 3) ∧ decode cX7_undo 18 = .ok (.aload_n 0, 1) ∧ decode cX7_undo 19 = .ok (.getfield 39, 3) ∧ decode cX7_undo 22 = .ok (.invokevirtual 188, 3) ∧ decode cX7_undo 25 = .ok (.aload_n 0, 1) ∧ decode cX7_undo 26 = .ok (.getfield 46, 3) ∧ decode cX7_undo 29 = .ok (.getfield 185, 3) ∧ decode cX7_undo 32 = .ok (.ireturn, 1) := by decide +kernel
theorem dX7_undo_15 : decode cX7_undo 15 = .ok (.getfield 46, 3) := bdX7_undo_15.1
theorem dX7_undo_18 : decode cX7_undo 18 = .ok (.aload_n 0, 1) := bdX7_undo_15.2.1
theorem dX7_undo_19 : decode cX7_undo 19 = .ok (.getfield 39, 3) := bdX7_undo_15.2.2.1
theorem dX7_undo_22 : decode cX7_undo 22 = .ok (.invokevirtual 188, 3) := bdX7_undo_15.2.2.2.1
theorem dX7_undo_25 : decode cX7_undo 25 = .ok (.aload_n 0, 1) := bdX7_undo_15.2.2.2.2.1
theorem dX7_undo_26 : decode cX7_undo 26 = .ok (.getfield 46, 3) := bdX7_undo_15.2.2.2.2.2.1
theorem dX7_undo_29 : decode cX7_undo 29 = .ok (.getfield 185, 3) := bdX7_undo_15.2.2.2.2.2.2.1
theorem dX7_undo_32 : decode cX7_undo 32 = .ok (.ireturn, 1) := bdX7_undo_15.2.2.2.2.2.2.2
theorem bdX7_now_0 : decode cX7_now 0 = .ok (.iload_n 1, 1) ∧ decode cX7_now 1 = .ok (.ifCond .lt 9, 3) ∧ decode cX7_now 4 = .ok (.iload_n 1, 1) ∧ decode cX7_now 5 = .ok (.bipush 6, 2) ∧ decode cX7_now 7 = .ok (.if_icmp .le 5, 3) ∧ decode cX7_now 10 = .ok (.iconst (-1), 1) ∧ decode cX7_now 11 = .ok (.ireturn, 1) ∧ decode cX7_now 12 = .ok (.iload_n 1, 1) := by decide +kernel
theorem dX7_now_0 : decode cX7_now 0 = .ok (.iload_n 1, 1) := bdX7_now_0.1
theorem dX7_now_1 : decode cX7_now 1 = .ok (.ifCond .lt 9, 3) := bdX7_now_0.2.1
theorem dX7_now_4 : decode cX7_now 4 = .ok (.iload_n 1, 1) := bdX7_now_0.2.2.1
theorem dX7_now_5 : decode cX7_now 5 = .ok (.bipush 6, 2) := bdX7_now_0.2.2.2.1
theorem dX7_now_7 : decode cX7_now 7 = .ok (.if_icmp .le 5, 3) := bdX7_now_0.2.2.2.2.1
theorem dX7_now_10 : decode cX7_now 10 = .ok (.iconst (-1), 1) := bdX7_now_0.2.2.2.2.2.1
theorem dX7_now_11 : decode cX7_now 11 = .ok (.ireturn, 1) := bdX7_now_0.2.2.2.2.2.2.1
theorem dX7_now_12 : decode cX7_now 12 = .ok (.iload_n 1, 1) := bdX7_now_0.2.2.2.2.2.2.2
theorem bdX7_now_13 : decode cX7_now 13 = .ok (.lookupswitch 59 #[(0, 35), (1, 43), (6, 51)], 35) ∧ decode cX7_now 48 = .ok (.aload_n 0, 1) ∧ decode cX7_now 49 = .ok (.getfield 39, 3) ∧ decode cX7_now 52 = .ok (.getfield 174, 3) ∧ decode cX7_now 55 = .ok (.ireturn, 1) ∧ decode cX7_now 56 = .ok (.aload_n 0, 1) ∧ decode cX7_now 57 = .ok (.getfield 39, 3) ∧ decode cX7_now 60 = .ok (.getfield 177, 3) := by decide +kernel
theorem dX7_now_13 : decode cX7_now 13 = .ok (.lookupswitch 59 #[(0, 35), (1, 43), (6, 51)], 35) := bdX7_now_13.1
theorem dX7_now_48 : decode cX7_now 48 = .ok (.aload_n 0, 1) := bdX7_now_13.2.1
theorem dX7_now_49 : decode cX7_now 49 = .ok (.getfield 39, 3) := bdX7_now_13.2.2.1
theorem dX7_now_52 : decode cX7_now 52 = .ok (.getfield 174, 3) := bdX7_now_13.2.2.2.1
theorem dX7_now_55 : decode cX7_now 55 = .ok (.ireturn, 1) := bdX7_now_13.2.2.2.2.1
theorem dX7_now_56 : decode cX7_now 56 = .ok (.aload_n 0, 1) := bdX7_now_13.2.2.2.2.2.1
theorem dX7_now_57 : decode cX7_now 57 = .ok (.getfield 39, 3) := bdX7_now_13.2.2.2.2.2.2.1
theorem dX7_now_60 : decode cX7_now 60 = .ok (.getfield 177, 3) := bdX7_now_13.2.2.2.2.2.2.2
theorem bdX7_now_63 : decode cX7_now 63 = .ok (.ireturn, 1) ∧ decode cX7_now 64 = .ok (.aload_n 0, 1) ∧ decode cX7_now 65 = .ok (.getfield 39, 3) ∧ decode cX7_now 68 = .ok (.getfield 125, 3) ∧ decode cX7_now 71 = .ok (.ireturn, 1) ∧ decode cX7_now 72 = .ok (.aload_n 0, 1) ∧ decode cX7_now 73 = .ok (.getfield 39, 3) ∧ decode cX7_now 76 = .ok (.getfield 142, 3) := by decide +kernel
theorem dX7_now_63 : decode cX7_now 63 = .ok (.ireturn, 1) := bdX7_now_63.1
theorem dX7_now_64 : decode cX7_now 64 = .ok (.aload_n 0, 1) := bdX7_now_63.2.1
theorem dX7_now_65 : decode cX7_now 65 = .ok (.getfield 39, 3) := bdX7_now_63.2.2.1
theorem dX7_now_68 : decode cX7_now 68 = .ok (.getfield 125, 3) := bdX7_now_63.2.2.2.1
theorem dX7_now_71 : decode cX7_now 71 = .ok (.ireturn, 1) := bdX7_now_63.2.2.2.2.1
theorem dX7_now_72 : decode cX7_now 72 = .ok (.aload_n 0, 1) := bdX7_now_63.2.2.2.2.2.1
theorem dX7_now_73 : decode cX7_now 73 = .ok (.getfield 39, 3) := bdX7_now_63.2.2.2.2.2.2.1
theorem dX7_now_76 : decode cX7_now 76 = .ok (.getfield 142, 3) := bdX7_now_63.2.2.2.2.2.2.2
theorem bdX7_now_79 : decode cX7_now 79 = .ok (.iload_n 1, 1) ∧ decode cX7_now 80 = .ok (.iconst 2, 1) ∧ decode cX7_now 81 = .ok (.isub, 1) ∧ decode cX7_now 82 = .ok (.iaload, 1) ∧ decode cX7_now 83 = .ok (.ireturn, 1) := by decide +kernel
theorem dX7_now_79 : decode cX7_now 79 = .ok (.iload_n 1, 1) := bdX7_now_79.1
theorem dX7_now_80 : decode cX7_now 80 = .ok (.iconst 2, 1) := bdX7_now_79.2.1
theorem dX7_now_81 : decode cX7_now 81 = .ok (.isub, 1) := bdX7_now_79.2.2.1
theorem dX7_now_82 : decode cX7_now 82 = .ok (.iaload, 1) := bdX7_now_79.2.2.2.1
theorem dX7_now_83 : decode cX7_now 83 = .ok (.ireturn, 1) := bdX7_now_79.2.2.2.2
set_option maxRecDepth 20000 in
set_option maxRecDepth 100000 in
theorem ggX7_lands_X7_isLetOff : GoodIn wsX7_lands wsX7_isLetOff := goodIn_hd (goodIn_c ch_X7_lands hc_X7_lands ([.code yX7_isLetOff cX7_isLetOff 6 (some .boolean)] : List Cond) [(1, 4)] rfl (by decide +kernel)) (goodIn_app (goodIn_app (goodIn_c ch_X7_lands hc_X7_lands ([.fieldLink RX7 29 "WordFletchers" "told" "LWordFletchers$Told;", .methodLink RX7 92 yX6_hasOne, .instanceMethod yX6_hasOne, .selects RX6 yX6_hasOne yX6_hasOne, .initialized RX6, .code yX6_hasOne cX6_hasOne 2 (some .boolean), .fieldLink RX6 36 "WordFletchers$Told" "people" "I", .methodLink RX7 105 yX6_hasSaying, .instanceMethod yX6_hasSaying, .selects RX6 yX6_hasSaying yX6_hasSaying, .code yX6_hasSaying cX6_hasSaying 2 (some .boolean), .fieldLink RX6 40 "WordFletchers$Told" "sayings" "I"] : List Cond) [(1, 5), (1, 6), (1, 7), (1, 8), (1, 9), (1, 10), (1, 11), (1, 12), (1, 13), (1, 14), (1, 15), (1, 16)] rfl (by decide +kernel)) (goodIn_sub (fun _ h => (List.mem_cons_of_mem _ (List.mem_append_left _ (List.mem_append_left _ (List.mem_append_right _ h))))) gwX7)) (goodIn_sub (fun _ h => (List.mem_cons_of_mem _ (List.mem_append_left _ (List.mem_append_right _ h)))) gwX6))
set_option maxRecDepth 20000 in
theorem gX7_lands_X7_isLetOff : GoodIn wsX7_lands (wsV RX7 134 RX7 yX7_isLetOff wsX7_isLetOff) := goodIn_app (goodIn_of _ (by decide +kernel)) ggX7_lands_X7_isLetOff
set_option maxRecDepth 20000 in
set_option maxRecDepth 100000 in
theorem ggX7_lands_X7_shotOf : GoodIn wsX7_lands wsX7_shotOf := goodIn_hd (goodIn_c ch_X7_lands hc_X7_lands ([.code yX7_shotOf cX7_shotOf 3 (some .int)] : List Cond) [(1, 19)] rfl (by decide +kernel)) (goodIn_c ch_X7_lands hc_X7_lands ([] : List Cond) [] rfl (by decide +kernel))
set_option maxRecDepth 20000 in
theorem gX7_lands_X7_shotOf : GoodIn wsX7_lands (va_wsS RX7 145 yX7_shotOf wsX7_shotOf) := goodIn_app (goodIn_of _ (by decide +kernel)) ggX7_lands_X7_shotOf
set_option maxRecDepth 20000 in
set_option maxRecDepth 100000 in
theorem ggX7_lands_X7_landingNow : GoodIn wsX7_lands wsX7_landingNow := goodIn_hd (goodIn_c ch_X7_lands hc_X7_lands ([.code yX7_landingNow cX7_landingNow 4 (some .int)] : List Cond) [(1, 23)] rfl (by decide +kernel)) (goodIn_app (goodIn_app (goodIn_app (goodIn_app (goodIn_c ch_X7_lands hc_X7_lands wsX7_landingNow_r1 [(1, 5), (2, 0), (2, 1), (2, 2), (2, 3), (2, 4), (1, 3), (2, 5), (2, 6), (2, 7), (2, 8), (2, 9), (1, 9), (2, 10), (2, 11), (2, 12), (2, 13), (2, 14), (2, 15), (2, 16), (2, 17), (2, 18), (2, 19), (2, 20)] rfl (by decide +kernel)) (goodIn_c ch_X7_lands hc_X7_lands wsX7_landingNow_r2 [(2, 21), (2, 22), (2, 23), (3, 0), (3, 1), (3, 2), (3, 3), (3, 4), (3, 5), (3, 6), (3, 7)] rfl (by decide +kernel))) (goodIn_sub (fun _ h => (List.mem_cons_of_mem _ (List.mem_append_left _ (List.mem_append_left _ (List.mem_append_right _ h))))) gwX7)) (goodIn_sub (fun _ h => (List.mem_cons_of_mem _ (List.mem_append_right _ h))) gwX2)) (goodIn_sub (fun _ h => (List.mem_cons_of_mem _ (List.mem_append_left _ (List.mem_append_right _ h)))) gwX6))
set_option maxRecDepth 20000 in
theorem gX7_lands_X7_landingNow : GoodIn wsX7_lands (wsV RX7 149 RX7 yX7_landingNow wsX7_landingNow) := goodIn_app (goodIn_of _ (by decide +kernel)) ggX7_lands_X7_landingNow
theorem bdX7_lands_0 : decode cX7_lands 0 = .ok (.aload_n 0, 1) ∧ decode cX7_lands 1 = .ok (.iload_n 1, 1) ∧ decode cX7_lands 2 = .ok (.iload_n 2, 1) ∧ decode cX7_lands 3 = .ok (.iload_n 3, 1) ∧ decode cX7_lands 4 = .ok (.iload 4, 2) ∧ decode cX7_lands 6 = .ok (.iload 5, 2) ∧ decode cX7_lands 8 = .ok (.invokevirtual 134, 3) ∧ decode cX7_lands 11 = .ok (.ifCond .ne 5, 3) := by decide +kernel
theorem dX7_lands_0 : decode cX7_lands 0 = .ok (.aload_n 0, 1) := bdX7_lands_0.1
theorem dX7_lands_1 : decode cX7_lands 1 = .ok (.iload_n 1, 1) := bdX7_lands_0.2.1
theorem dX7_lands_2 : decode cX7_lands 2 = .ok (.iload_n 2, 1) := bdX7_lands_0.2.2.1
theorem dX7_lands_3 : decode cX7_lands 3 = .ok (.iload_n 3, 1) := bdX7_lands_0.2.2.2.1
theorem dX7_lands_4 : decode cX7_lands 4 = .ok (.iload 4, 2) := bdX7_lands_0.2.2.2.2.1
theorem dX7_lands_6 : decode cX7_lands 6 = .ok (.iload 5, 2) := bdX7_lands_0.2.2.2.2.2.1
theorem dX7_lands_8 : decode cX7_lands 8 = .ok (.invokevirtual 134, 3) := bdX7_lands_0.2.2.2.2.2.2.1
theorem dX7_lands_11 : decode cX7_lands 11 = .ok (.ifCond .ne 5, 3) := bdX7_lands_0.2.2.2.2.2.2.2
theorem bdX7_lands_14 : decode cX7_lands 14 = .ok (.iconst (-1), 1) ∧ decode cX7_lands 15 = .ok (.ireturn, 1) ∧ decode cX7_lands 16 = .ok (.aload_n 0, 1) ∧ decode cX7_lands 17 = .ok (.iload_n 1, 1) ∧ decode cX7_lands 18 = .ok (.iload_n 2, 1) ∧ decode cX7_lands 19 = .ok (.iload_n 3, 1) ∧ decode cX7_lands 20 = .ok (.iload 4, 2) ∧ decode cX7_lands 22 = .ok (.iload 5, 2) := by decide +kernel
theorem dX7_lands_14 : decode cX7_lands 14 = .ok (.iconst (-1), 1) := bdX7_lands_14.1
theorem dX7_lands_15 : decode cX7_lands 15 = .ok (.ireturn, 1) := bdX7_lands_14.2.1
theorem dX7_lands_16 : decode cX7_lands 16 = .ok (.aload_n 0, 1) := bdX7_lands_14.2.2.1
theorem dX7_lands_17 : decode cX7_lands 17 = .ok (.iload_n 1, 1) := bdX7_lands_14.2.2.2.1
theorem dX7_lands_18 : decode cX7_lands 18 = .ok (.iload_n 2, 1) := bdX7_lands_14.2.2.2.2.1
theorem dX7_lands_19 : decode cX7_lands 19 = .ok (.iload_n 3, 1) := bdX7_lands_14.2.2.2.2.2.1
theorem dX7_lands_20 : decode cX7_lands 20 = .ok (.iload 4, 2) := bdX7_lands_14.2.2.2.2.2.2.1
theorem dX7_lands_22 : decode cX7_lands 22 = .ok (.iload 5, 2) := bdX7_lands_14.2.2.2.2.2.2.2
theorem bdX7_lands_24 : decode cX7_lands 24 = .ok (.invokestatic 145, 3) ∧ decode cX7_lands 27 = .ok (.invokevirtual 149, 3) ∧ decode cX7_lands 30 = .ok (.ireturn, 1) := by decide +kernel
theorem dX7_lands_24 : decode cX7_lands 24 = .ok (.invokestatic 145, 3) := bdX7_lands_24.1
theorem dX7_lands_27 : decode cX7_lands 27 = .ok (.invokevirtual 149, 3) := bdX7_lands_24.2.1
theorem dX7_lands_30 : decode cX7_lands 30 = .ok (.ireturn, 1) := bdX7_lands_24.2.2
set_option maxRecDepth 20000 in
set_option maxRecDepth 100000 in
theorem ggX7_call_X7_areTwo : GoodIn wsX7_call wsX7_areTwo := goodIn_hd (goodIn_c ch_X7_call hc_X7_call ([.code yX7_areTwo cX7_areTwo 3 (some .boolean)] : List Cond) [(1, 6)] rfl (by decide +kernel)) (goodIn_app (goodIn_app (goodIn_c ch_X7_call hc_X7_call ([.fieldLink RX7 29 "WordFletchers" "told" "LWordFletchers$Told;", .methodLink RX7 92 yX6_hasOne, .instanceMethod yX6_hasOne, .selects RX6 yX6_hasOne yX6_hasOne, .initialized RX6, .code yX6_hasOne cX6_hasOne 2 (some .boolean), .fieldLink RX6 36 "WordFletchers$Told" "people" "I"] : List Cond) [(1, 0), (1, 7), (1, 8), (1, 9), (1, 10), (1, 11), (1, 12)] rfl (by decide +kernel)) (goodIn_sub (fun _ h => (List.mem_cons_of_mem _ (List.mem_append_left _ (List.mem_append_left _ (List.mem_append_right _ h))))) gwX7)) (goodIn_sub (fun _ h => (List.mem_cons_of_mem _ (List.mem_append_left _ (List.mem_append_right _ h)))) gwX6))
set_option maxRecDepth 20000 in
theorem gX7_call_X7_areTwo : GoodIn wsX7_call (wsV RX7 191 RX7 yX7_areTwo wsX7_areTwo) := goodIn_app (goodIn_of _ (by decide +kernel)) ggX7_call_X7_areTwo
set_option maxRecDepth 20000 in
set_option maxRecDepth 100000 in
theorem ggX7_call_X6_hasSaying : GoodIn wsX7_call wsX6_hasSaying := goodIn_hd (goodIn_c ch_X7_call hc_X7_call ([.code yX6_hasSaying cX6_hasSaying 2 (some .boolean)] : List Cond) [(1, 16)] rfl (by decide +kernel)) (goodIn_app (goodIn_c ch_X7_call hc_X7_call ([.fieldLink RX6 40 "WordFletchers$Told" "sayings" "I"] : List Cond) [(1, 17)] rfl (by decide +kernel)) (goodIn_sub (fun _ h => (List.mem_cons_of_mem _ (List.mem_append_left _ (List.mem_append_right _ h)))) gwX6))
set_option maxRecDepth 20000 in
theorem gX7_call_X6_hasSaying : GoodIn wsX7_call (wsV RX7 105 RX6 yX6_hasSaying wsX6_hasSaying) := goodIn_app (goodIn_of _ (by decide +kernel)) ggX7_call_X6_hasSaying
set_option maxRecDepth 20000 in
set_option maxRecDepth 100000 in
theorem ggX7_call_X7_landingNow : GoodIn wsX7_call wsX7_landingNow := goodIn_hd (goodIn_c ch_X7_call hc_X7_call ([.code yX7_landingNow cX7_landingNow 4 (some .int)] : List Cond) [(1, 21)] rfl (by decide +kernel)) (goodIn_app (goodIn_app (goodIn_app (goodIn_app (goodIn_c ch_X7_call hc_X7_call wsX7_landingNow_r1 [(1, 0), (1, 22), (1, 23), (2, 0), (2, 1), (2, 2), (1, 5), (2, 3), (2, 4), (2, 5), (2, 6), (2, 7), (1, 10), (2, 8), (2, 9), (2, 10), (2, 11), (2, 12), (2, 13), (2, 14), (2, 15), (2, 16), (2, 17), (2, 18)] rfl (by decide +kernel)) (goodIn_c ch_X7_call hc_X7_call wsX7_landingNow_r2 [(2, 19), (2, 20), (2, 21), (2, 22), (2, 23), (3, 0), (3, 1), (3, 2), (3, 3), (3, 4), (3, 5)] rfl (by decide +kernel))) (goodIn_sub (fun _ h => (List.mem_cons_of_mem _ (List.mem_append_left _ (List.mem_append_left _ (List.mem_append_right _ h))))) gwX7)) (goodIn_sub (fun _ h => (List.mem_cons_of_mem _ (List.mem_append_right _ h))) gwX2)) (goodIn_sub (fun _ h => (List.mem_cons_of_mem _ (List.mem_append_left _ (List.mem_append_right _ h)))) gwX6))
set_option maxRecDepth 20000 in
theorem gX7_call_X7_landingNow : GoodIn wsX7_call (wsV RX7 149 RX7 yX7_landingNow wsX7_landingNow) := goodIn_app (goodIn_of _ (by decide +kernel)) ggX7_call_X7_landingNow
set_option maxRecDepth 20000 in
set_option maxRecDepth 100000 in
theorem ggX7_call_X6_hears : GoodIn wsX7_call wsX6_hears := goodIn_hd (goodIn_c ch_X7_call hc_X7_call ([.code yX6_hears cX6_hears 3 (some .boolean)] : List Cond) [(3, 9)] rfl (by decide +kernel)) (goodIn_app (goodIn_c ch_X7_call hc_X7_call ([.fieldLink RX6 9 "WordFletchers$Told" "place" "[I", .methodLink RX6 70 Lib.Math.abs.name, .static Lib.Math.abs.name, .initialized "java/lang/Math", .code Lib.Math.abs.name Lib.Math.abs.code 1 (some .int), .fieldLink RX6 15 "WordFletchers$Told" "ear" "[I"] : List Cond) [(2, 23), (3, 10), (3, 11), (2, 12), (3, 12), (3, 13)] rfl (by decide +kernel)) (goodIn_sub (fun _ h => (List.mem_cons_of_mem _ (List.mem_append_left _ (List.mem_append_right _ h)))) gwX6))
set_option maxRecDepth 20000 in
theorem gX7_call_X6_hears : GoodIn wsX7_call (wsV RX7 197 RX6 yX6_hears wsX6_hears) := goodIn_app (goodIn_of _ (by decide +kernel)) ggX7_call_X6_hears
theorem bdX7_call_0 : decode cX7_call 0 = .ok (.aload_n 0, 1) ∧ decode cX7_call 1 = .ok (.iload_n 1, 1) ∧ decode cX7_call 2 = .ok (.iload_n 2, 1) ∧ decode cX7_call 3 = .ok (.invokevirtual 191, 3) ∧ decode cX7_call 6 = .ok (.ifCond .eq 14, 3) ∧ decode cX7_call 9 = .ok (.aload_n 0, 1) ∧ decode cX7_call 10 = .ok (.getfield 29, 3) ∧ decode cX7_call 13 = .ok (.iload_n 3, 1) := by decide +kernel
theorem dX7_call_0 : decode cX7_call 0 = .ok (.aload_n 0, 1) := bdX7_call_0.1
theorem dX7_call_1 : decode cX7_call 1 = .ok (.iload_n 1, 1) := bdX7_call_0.2.1
theorem dX7_call_2 : decode cX7_call 2 = .ok (.iload_n 2, 1) := bdX7_call_0.2.2.1
theorem dX7_call_3 : decode cX7_call 3 = .ok (.invokevirtual 191, 3) := bdX7_call_0.2.2.2.1
theorem dX7_call_6 : decode cX7_call 6 = .ok (.ifCond .eq 14, 3) := bdX7_call_0.2.2.2.2.1
theorem dX7_call_9 : decode cX7_call 9 = .ok (.aload_n 0, 1) := bdX7_call_0.2.2.2.2.2.1
theorem dX7_call_10 : decode cX7_call 10 = .ok (.getfield 29, 3) := bdX7_call_0.2.2.2.2.2.2.1
theorem dX7_call_13 : decode cX7_call 13 = .ok (.iload_n 3, 1) := bdX7_call_0.2.2.2.2.2.2.2
theorem bdX7_call_14 : decode cX7_call 14 = .ok (.invokevirtual 105, 3) ∧ decode cX7_call 17 = .ok (.ifCond .ne 5, 3) ∧ decode cX7_call 20 = .ok (.iconst (-1), 1) ∧ decode cX7_call 21 = .ok (.ireturn, 1) ∧ decode cX7_call 22 = .ok (.getstatic 194, 3) ∧ decode cX7_call 25 = .ok (.astore 4, 2) ∧ decode cX7_call 27 = .ok (.aload 4, 2) ∧ decode cX7_call 29 = .ok (.arraylength, 1) := by decide +kernel
theorem dX7_call_14 : decode cX7_call 14 = .ok (.invokevirtual 105, 3) := bdX7_call_14.1
theorem dX7_call_17 : decode cX7_call 17 = .ok (.ifCond .ne 5, 3) := bdX7_call_14.2.1
theorem dX7_call_20 : decode cX7_call 20 = .ok (.iconst (-1), 1) := bdX7_call_14.2.2.1
theorem dX7_call_21 : decode cX7_call 21 = .ok (.ireturn, 1) := bdX7_call_14.2.2.2.1
theorem dX7_call_22 : decode cX7_call 22 = .ok (.getstatic 194, 3) := bdX7_call_14.2.2.2.2.1
theorem dX7_call_25 : decode cX7_call 25 = .ok (.astore 4, 2) := bdX7_call_14.2.2.2.2.2.1
theorem dX7_call_27 : decode cX7_call 27 = .ok (.aload 4, 2) := bdX7_call_14.2.2.2.2.2.2.1
theorem dX7_call_29 : decode cX7_call 29 = .ok (.arraylength, 1) := bdX7_call_14.2.2.2.2.2.2.2
theorem bdX7_call_30 : decode cX7_call 30 = .ok (.istore 5, 2) ∧ decode cX7_call 32 = .ok (.iconst 0, 1) ∧ decode cX7_call 33 = .ok (.istore 6, 2) ∧ decode cX7_call 35 = .ok (.iload 6, 2) ∧ decode cX7_call 37 = .ok (.iload 5, 2) ∧ decode cX7_call 39 = .ok (.if_icmp .ge 38, 3) ∧ decode cX7_call 42 = .ok (.aload 4, 2) ∧ decode cX7_call 44 = .ok (.iload 6, 2) := by decide +kernel
theorem dX7_call_30 : decode cX7_call 30 = .ok (.istore 5, 2) := bdX7_call_30.1
theorem dX7_call_32 : decode cX7_call 32 = .ok (.iconst 0, 1) := bdX7_call_30.2.1
theorem dX7_call_33 : decode cX7_call 33 = .ok (.istore 6, 2) := bdX7_call_30.2.2.1
theorem dX7_call_35 : decode cX7_call 35 = .ok (.iload 6, 2) := bdX7_call_30.2.2.2.1
theorem dX7_call_37 : decode cX7_call 37 = .ok (.iload 5, 2) := bdX7_call_30.2.2.2.2.1
theorem dX7_call_39 : decode cX7_call 39 = .ok (.if_icmp .ge 38, 3) := bdX7_call_30.2.2.2.2.2.1
theorem dX7_call_42 : decode cX7_call 42 = .ok (.aload 4, 2) := bdX7_call_30.2.2.2.2.2.2.1
theorem dX7_call_44 : decode cX7_call 44 = .ok (.iload 6, 2) := bdX7_call_30.2.2.2.2.2.2.2
theorem bdX7_call_46 : decode cX7_call 46 = .ok (.iaload, 1) ∧ decode cX7_call 47 = .ok (.istore 7, 2) ∧ decode cX7_call 49 = .ok (.aload_n 0, 1) ∧ decode cX7_call 50 = .ok (.getfield 29, 3) ∧ decode cX7_call 53 = .ok (.iload_n 2, 1) ∧ decode cX7_call 54 = .ok (.aload_n 0, 1) ∧ decode cX7_call 55 = .ok (.iload_n 1, 1) ∧ decode cX7_call 56 = .ok (.iload_n 3, 1) := by decide +kernel
theorem dX7_call_46 : decode cX7_call 46 = .ok (.iaload, 1) := bdX7_call_46.1
theorem dX7_call_47 : decode cX7_call 47 = .ok (.istore 7, 2) := bdX7_call_46.2.1
theorem dX7_call_49 : decode cX7_call 49 = .ok (.aload_n 0, 1) := bdX7_call_46.2.2.1
theorem dX7_call_50 : decode cX7_call 50 = .ok (.getfield 29, 3) := bdX7_call_46.2.2.2.1
theorem dX7_call_53 : decode cX7_call 53 = .ok (.iload_n 2, 1) := bdX7_call_46.2.2.2.2.1
theorem dX7_call_54 : decode cX7_call 54 = .ok (.aload_n 0, 1) := bdX7_call_46.2.2.2.2.2.1
theorem dX7_call_55 : decode cX7_call 55 = .ok (.iload_n 1, 1) := bdX7_call_46.2.2.2.2.2.2.1
theorem dX7_call_56 : decode cX7_call 56 = .ok (.iload_n 3, 1) := bdX7_call_46.2.2.2.2.2.2.2
theorem bdX7_call_57 : decode cX7_call 57 = .ok (.iload 7, 2) ∧ decode cX7_call 59 = .ok (.invokevirtual 149, 3) ∧ decode cX7_call 62 = .ok (.invokevirtual 197, 3) ∧ decode cX7_call 65 = .ok (.ifCond .eq 6, 3) ∧ decode cX7_call 68 = .ok (.iload 7, 2) ∧ decode cX7_call 70 = .ok (.ireturn, 1) ∧ decode cX7_call 71 = .ok (.iinc 6 1, 3) ∧ decode cX7_call 74 = .ok (.goto (-39), 3) := by decide +kernel
theorem dX7_call_57 : decode cX7_call 57 = .ok (.iload 7, 2) := bdX7_call_57.1
theorem dX7_call_59 : decode cX7_call 59 = .ok (.invokevirtual 149, 3) := bdX7_call_57.2.1
theorem dX7_call_62 : decode cX7_call 62 = .ok (.invokevirtual 197, 3) := bdX7_call_57.2.2.1
theorem dX7_call_65 : decode cX7_call 65 = .ok (.ifCond .eq 6, 3) := bdX7_call_57.2.2.2.1
theorem dX7_call_68 : decode cX7_call 68 = .ok (.iload 7, 2) := bdX7_call_57.2.2.2.2.1
theorem dX7_call_70 : decode cX7_call 70 = .ok (.ireturn, 1) := bdX7_call_57.2.2.2.2.2.1
theorem dX7_call_71 : decode cX7_call 71 = .ok (.iinc 6 1, 3) := bdX7_call_57.2.2.2.2.2.2.1
theorem dX7_call_74 : decode cX7_call 74 = .ok (.goto (-39), 3) := bdX7_call_57.2.2.2.2.2.2.2
theorem bdX7_call_77 : decode cX7_call 77 = .ok (.bipush (-9), 2) ∧ decode cX7_call 79 = .ok (.ireturn, 1) := by decide +kernel
theorem dX7_call_77 : decode cX7_call 77 = .ok (.bipush (-9), 2) := bdX7_call_77.1
theorem dX7_call_79 : decode cX7_call 79 = .ok (.ireturn, 1) := bdX7_call_77.2
set_option maxRecDepth 20000 in
set_option maxRecDepth 100000 in
theorem ggX7_waits_X7_areTwo : GoodIn wsX7_waits wsX7_areTwo := goodIn_hd (goodIn_c ch_X7_waits hc_X7_waits ([.code yX7_areTwo cX7_areTwo 3 (some .boolean)] : List Cond) [(1, 7)] rfl (by decide +kernel)) (goodIn_app (goodIn_app (goodIn_c ch_X7_waits hc_X7_waits ([.fieldLink RX7 29 "WordFletchers" "told" "LWordFletchers$Told;", .methodLink RX7 92 yX6_hasOne, .instanceMethod yX6_hasOne, .selects RX6 yX6_hasOne yX6_hasOne, .initialized RX6, .code yX6_hasOne cX6_hasOne 2 (some .boolean), .fieldLink RX6 36 "WordFletchers$Told" "people" "I"] : List Cond) [(1, 0), (1, 8), (1, 9), (1, 10), (1, 11), (1, 12), (1, 13)] rfl (by decide +kernel)) (goodIn_sub (fun _ h => (List.mem_cons_of_mem _ (List.mem_append_left _ (List.mem_append_left _ (List.mem_append_right _ h))))) gwX7)) (goodIn_sub (fun _ h => (List.mem_cons_of_mem _ (List.mem_append_right _ h))) gwX6))
set_option maxRecDepth 20000 in
theorem gX7_waits_X7_areTwo : GoodIn wsX7_waits (wsV RX7 191 RX7 yX7_areTwo wsX7_areTwo) := goodIn_app (goodIn_of _ (by decide +kernel)) ggX7_waits_X7_areTwo
set_option maxRecDepth 20000 in
set_option maxRecDepth 100000 in
theorem ggX7_waits_X6_hasSaying : GoodIn wsX7_waits wsX6_hasSaying := goodIn_hd (goodIn_c ch_X7_waits hc_X7_waits ([.code yX6_hasSaying cX6_hasSaying 2 (some .boolean)] : List Cond) [(1, 17)] rfl (by decide +kernel)) (goodIn_app (goodIn_c ch_X7_waits hc_X7_waits ([.fieldLink RX6 40 "WordFletchers$Told" "sayings" "I"] : List Cond) [(1, 18)] rfl (by decide +kernel)) (goodIn_sub (fun _ h => (List.mem_cons_of_mem _ (List.mem_append_right _ h))) gwX6))
set_option maxRecDepth 20000 in
theorem gX7_waits_X6_hasSaying : GoodIn wsX7_waits (wsV RX7 105 RX6 yX6_hasSaying wsX6_hasSaying) := goodIn_app (goodIn_of _ (by decide +kernel)) ggX7_waits_X6_hasSaying
set_option maxRecDepth 20000 in
set_option maxRecDepth 100000 in
theorem ggX7_waits_X7_isShot : GoodIn wsX7_waits wsX7_isShot := goodIn_hd (goodIn_c ch_X7_waits hc_X7_waits ([.code yX7_isShot cX7_isShot 1 (some .boolean)] : List Cond) [(1, 21)] rfl (by decide +kernel)) (goodIn_c ch_X7_waits hc_X7_waits ([] : List Cond) [] rfl (by decide +kernel))
set_option maxRecDepth 20000 in
theorem gX7_waits_X7_isShot : GoodIn wsX7_waits (va_wsS RX7 200 yX7_isShot wsX7_isShot) := goodIn_app (goodIn_of _ (by decide +kernel)) ggX7_waits_X7_isShot
set_option maxRecDepth 20000 in
set_option maxRecDepth 100000 in
theorem ggX7_waits_X7_windIn : GoodIn wsX7_waits wsX7_windIn := goodIn_hd (goodIn_c ch_X7_waits hc_X7_waits ([.code yX7_windIn cX7_windIn 2 (some .int)] : List Cond) [(2, 1)] rfl (by decide +kernel)) (goodIn_app (goodIn_app (goodIn_app (goodIn_c ch_X7_waits hc_X7_waits ([.fieldLink RX7 29 "WordFletchers" "told" "LWordFletchers$Told;", .fieldLink RX7 39 "WordFletchers" "moment" "LWordFletchers$Moment;", .fieldLink RX7 174 "WordFletchers$Moment" "hour" "I", .methodLink RX7 301 yX6_windOf, .instanceMethod yX6_windOf, .selects RX6 yX6_windOf yX6_windOf, .initialized RX6, .code yX6_windOf cX6_windOf 2 (some .int), .fieldLink RX6 27 "WordFletchers$Told" "winds" "[I", .methodLink RX6 46 Lib.Math.max.name, .static Lib.Math.max.name, .initialized "java/lang/Math", .code Lib.Math.max.name Lib.Math.max.code 2 (some .int), .methodLink RX6 52 yX6_windCount, .instanceMethod yX6_windCount, .selects RX6 yX6_windCount yX6_windCount, .code yX6_windCount cX6_windCount 1 (some .int), .fieldLink RX6 43 "WordFletchers$Told" "windsTold" "I"] : List Cond) [(1, 0), (1, 1), (2, 2), (2, 3), (2, 4), (2, 5), (1, 11), (2, 6), (2, 7), (2, 8), (2, 9), (2, 10), (2, 11), (2, 12), (2, 13), (2, 14), (2, 15), (2, 16)] rfl (by decide +kernel)) (goodIn_sub (fun _ h => (List.mem_cons_of_mem _ (List.mem_append_left _ (List.mem_append_left _ (List.mem_append_right _ h))))) gwX7)) (goodIn_sub (fun _ h => (List.mem_cons_of_mem _ (List.mem_append_left _ (List.mem_append_right _ h)))) gwX2)) (goodIn_sub (fun _ h => (List.mem_cons_of_mem _ (List.mem_append_right _ h))) gwX6))
set_option maxRecDepth 20000 in
theorem gX7_waits_X7_windIn : GoodIn wsX7_waits (wsV RX7 122 RX7 yX7_windIn wsX7_windIn) := goodIn_app (goodIn_of _ (by decide +kernel)) ggX7_waits_X7_windIn
set_option maxRecDepth 20000 in
set_option maxRecDepth 100000 in
theorem ggX7_waits_X6_landing : GoodIn wsX7_waits wsX6_landing := goodIn_hd (goodIn_c ch_X7_waits hc_X7_waits ([.code yX6_landing cX6_landing 13 (some .int)] : List Cond) [(2, 20)] rfl (by decide +kernel)) (goodIn_app (goodIn_c ch_X7_waits hc_X7_waits ([.fieldLink RX6 9 "WordFletchers$Told" "place" "[I", .methodLink RX6 59 yX6_flight, .instanceMethod yX6_flight, .selects RX6 yX6_flight yX6_flight, .initialized RX6, .code yX6_flight cX6_flight 6 (some .int), .fieldLink RX6 21 "WordFletchers$Told" "twist" "[I", .fieldLink RX6 18 "WordFletchers$Told" "weight" "[I", .methodLink RX6 46 Lib.Math.max.name, .static Lib.Math.max.name, .initialized "java/lang/Math", .code Lib.Math.max.name Lib.Math.max.code 2 (some .int)] : List Cond) [(2, 21), (2, 22), (2, 23), (3, 0), (1, 11), (3, 1), (3, 2), (3, 3), (2, 8), (2, 9), (2, 10), (2, 11)] rfl (by decide +kernel)) (goodIn_sub (fun _ h => (List.mem_cons_of_mem _ (List.mem_append_right _ h))) gwX6))
set_option maxRecDepth 20000 in
theorem gX7_waits_X6_landing : GoodIn wsX7_waits (wsV RX7 203 RX6 yX6_landing wsX6_landing) := goodIn_app (goodIn_of _ (by decide +kernel)) ggX7_waits_X6_landing
set_option maxRecDepth 20000 in
set_option maxRecDepth 100000 in
theorem ggX7_waits_X6_hears : GoodIn wsX7_waits wsX6_hears := goodIn_hd (goodIn_c ch_X7_waits hc_X7_waits ([.code yX6_hears cX6_hears 3 (some .boolean)] : List Cond) [(3, 7)] rfl (by decide +kernel)) (goodIn_app (goodIn_c ch_X7_waits hc_X7_waits ([.fieldLink RX6 9 "WordFletchers$Told" "place" "[I", .methodLink RX6 70 Lib.Math.abs.name, .static Lib.Math.abs.name, .initialized "java/lang/Math", .code Lib.Math.abs.name Lib.Math.abs.code 1 (some .int), .fieldLink RX6 15 "WordFletchers$Told" "ear" "[I"] : List Cond) [(2, 21), (3, 8), (3, 9), (2, 10), (3, 10), (3, 11)] rfl (by decide +kernel)) (goodIn_sub (fun _ h => (List.mem_cons_of_mem _ (List.mem_append_right _ h))) gwX6))
set_option maxRecDepth 20000 in
theorem gX7_waits_X6_hears : GoodIn wsX7_waits (wsV RX7 197 RX6 yX6_hears wsX6_hears) := goodIn_app (goodIn_of _ (by decide +kernel)) ggX7_waits_X6_hears
theorem bdX7_waits_0 : decode cX7_waits 0 = .ok (.aload_n 0, 1) ∧ decode cX7_waits 1 = .ok (.iload_n 1, 1) ∧ decode cX7_waits 2 = .ok (.iload_n 2, 1) ∧ decode cX7_waits 3 = .ok (.invokevirtual 191, 3) ∧ decode cX7_waits 6 = .ok (.ifCond .eq 22, 3) ∧ decode cX7_waits 9 = .ok (.aload_n 0, 1) ∧ decode cX7_waits 10 = .ok (.getfield 29, 3) ∧ decode cX7_waits 13 = .ok (.iload_n 3, 1) := by decide +kernel
theorem dX7_waits_0 : decode cX7_waits 0 = .ok (.aload_n 0, 1) := bdX7_waits_0.1
theorem dX7_waits_1 : decode cX7_waits 1 = .ok (.iload_n 1, 1) := bdX7_waits_0.2.1
theorem dX7_waits_2 : decode cX7_waits 2 = .ok (.iload_n 2, 1) := bdX7_waits_0.2.2.1
theorem dX7_waits_3 : decode cX7_waits 3 = .ok (.invokevirtual 191, 3) := bdX7_waits_0.2.2.2.1
theorem dX7_waits_6 : decode cX7_waits 6 = .ok (.ifCond .eq 22, 3) := bdX7_waits_0.2.2.2.2.1
theorem dX7_waits_9 : decode cX7_waits 9 = .ok (.aload_n 0, 1) := bdX7_waits_0.2.2.2.2.2.1
theorem dX7_waits_10 : decode cX7_waits 10 = .ok (.getfield 29, 3) := bdX7_waits_0.2.2.2.2.2.2.1
theorem dX7_waits_13 : decode cX7_waits 13 = .ok (.iload_n 3, 1) := bdX7_waits_0.2.2.2.2.2.2.2
theorem bdX7_waits_14 : decode cX7_waits 14 = .ok (.invokevirtual 105, 3) ∧ decode cX7_waits 17 = .ok (.ifCond .eq 11, 3) ∧ decode cX7_waits 20 = .ok (.iload 4, 2) ∧ decode cX7_waits 22 = .ok (.invokestatic 200, 3) ∧ decode cX7_waits 25 = .ok (.ifCond .ne 5, 3) ∧ decode cX7_waits 28 = .ok (.iconst (-1), 1) ∧ decode cX7_waits 29 = .ok (.ireturn, 1) ∧ decode cX7_waits 30 = .ok (.iconst 0, 1) := by decide +kernel
theorem dX7_waits_14 : decode cX7_waits 14 = .ok (.invokevirtual 105, 3) := bdX7_waits_14.1
theorem dX7_waits_17 : decode cX7_waits 17 = .ok (.ifCond .eq 11, 3) := bdX7_waits_14.2.1
theorem dX7_waits_20 : decode cX7_waits 20 = .ok (.iload 4, 2) := bdX7_waits_14.2.2.1
theorem dX7_waits_22 : decode cX7_waits 22 = .ok (.invokestatic 200, 3) := bdX7_waits_14.2.2.2.1
theorem dX7_waits_25 : decode cX7_waits 25 = .ok (.ifCond .ne 5, 3) := bdX7_waits_14.2.2.2.2.1
theorem dX7_waits_28 : decode cX7_waits 28 = .ok (.iconst (-1), 1) := bdX7_waits_14.2.2.2.2.2.1
theorem dX7_waits_29 : decode cX7_waits 29 = .ok (.ireturn, 1) := bdX7_waits_14.2.2.2.2.2.2.1
theorem dX7_waits_30 : decode cX7_waits 30 = .ok (.iconst 0, 1) := bdX7_waits_14.2.2.2.2.2.2.2
theorem bdX7_waits_31 : decode cX7_waits 31 = .ok (.istore 5, 2) ∧ decode cX7_waits 33 = .ok (.iload 5, 2) ∧ decode cX7_waits 35 = .ok (.bipush 12, 2) ∧ decode cX7_waits 37 = .ok (.if_icmp .gt 47, 3) ∧ decode cX7_waits 40 = .ok (.aload_n 0, 1) ∧ decode cX7_waits 41 = .ok (.getfield 29, 3) ∧ decode cX7_waits 44 = .ok (.iload_n 2, 1) ∧ decode cX7_waits 45 = .ok (.aload_n 0, 1) := by decide +kernel
theorem dX7_waits_31 : decode cX7_waits 31 = .ok (.istore 5, 2) := bdX7_waits_31.1
theorem dX7_waits_33 : decode cX7_waits 33 = .ok (.iload 5, 2) := bdX7_waits_31.2.1
theorem dX7_waits_35 : decode cX7_waits 35 = .ok (.bipush 12, 2) := bdX7_waits_31.2.2.1
theorem dX7_waits_37 : decode cX7_waits 37 = .ok (.if_icmp .gt 47, 3) := bdX7_waits_31.2.2.2.1
theorem dX7_waits_40 : decode cX7_waits 40 = .ok (.aload_n 0, 1) := bdX7_waits_31.2.2.2.2.1
theorem dX7_waits_41 : decode cX7_waits 41 = .ok (.getfield 29, 3) := bdX7_waits_31.2.2.2.2.2.1
theorem dX7_waits_44 : decode cX7_waits 44 = .ok (.iload_n 2, 1) := bdX7_waits_31.2.2.2.2.2.2.1
theorem dX7_waits_45 : decode cX7_waits 45 = .ok (.aload_n 0, 1) := bdX7_waits_31.2.2.2.2.2.2.2
theorem bdX7_waits_46 : decode cX7_waits 46 = .ok (.getfield 29, 3) ∧ decode cX7_waits 49 = .ok (.iload_n 1, 1) ∧ decode cX7_waits 50 = .ok (.iload_n 3, 1) ∧ decode cX7_waits 51 = .ok (.iload 4, 2) ∧ decode cX7_waits 53 = .ok (.aload_n 0, 1) ∧ decode cX7_waits 54 = .ok (.iload 5, 2) ∧ decode cX7_waits 56 = .ok (.invokevirtual 122, 3) ∧ decode cX7_waits 59 = .ok (.aload_n 0, 1) := by decide +kernel
theorem dX7_waits_46 : decode cX7_waits 46 = .ok (.getfield 29, 3) := bdX7_waits_46.1
theorem dX7_waits_49 : decode cX7_waits 49 = .ok (.iload_n 1, 1) := bdX7_waits_46.2.1
theorem dX7_waits_50 : decode cX7_waits 50 = .ok (.iload_n 3, 1) := bdX7_waits_46.2.2.1
theorem dX7_waits_51 : decode cX7_waits 51 = .ok (.iload 4, 2) := bdX7_waits_46.2.2.2.1
theorem dX7_waits_53 : decode cX7_waits 53 = .ok (.aload_n 0, 1) := bdX7_waits_46.2.2.2.2.1
theorem dX7_waits_54 : decode cX7_waits 54 = .ok (.iload 5, 2) := bdX7_waits_46.2.2.2.2.2.1
theorem dX7_waits_56 : decode cX7_waits 56 = .ok (.invokevirtual 122, 3) := bdX7_waits_46.2.2.2.2.2.2.1
theorem dX7_waits_59 : decode cX7_waits 59 = .ok (.aload_n 0, 1) := bdX7_waits_46.2.2.2.2.2.2.2
theorem bdX7_waits_60 : decode cX7_waits 60 = .ok (.getfield 39, 3) ∧ decode cX7_waits 63 = .ok (.getfield 177, 3) ∧ decode cX7_waits 66 = .ok (.invokevirtual 203, 3) ∧ decode cX7_waits 69 = .ok (.invokevirtual 197, 3) ∧ decode cX7_waits 72 = .ok (.ifCond .eq 6, 3) ∧ decode cX7_waits 75 = .ok (.iload 5, 2) ∧ decode cX7_waits 77 = .ok (.ireturn, 1) ∧ decode cX7_waits 78 = .ok (.iinc 5 1, 3) := by decide +kernel
theorem dX7_waits_60 : decode cX7_waits 60 = .ok (.getfield 39, 3) := bdX7_waits_60.1
theorem dX7_waits_63 : decode cX7_waits 63 = .ok (.getfield 177, 3) := bdX7_waits_60.2.1
theorem dX7_waits_66 : decode cX7_waits 66 = .ok (.invokevirtual 203, 3) := bdX7_waits_60.2.2.1
theorem dX7_waits_69 : decode cX7_waits 69 = .ok (.invokevirtual 197, 3) := bdX7_waits_60.2.2.2.1
theorem dX7_waits_72 : decode cX7_waits 72 = .ok (.ifCond .eq 6, 3) := bdX7_waits_60.2.2.2.2.1
theorem dX7_waits_75 : decode cX7_waits 75 = .ok (.iload 5, 2) := bdX7_waits_60.2.2.2.2.2.1
theorem dX7_waits_77 : decode cX7_waits 77 = .ok (.ireturn, 1) := bdX7_waits_60.2.2.2.2.2.2.1
theorem dX7_waits_78 : decode cX7_waits 78 = .ok (.iinc 5 1, 3) := bdX7_waits_60.2.2.2.2.2.2.2
theorem bdX7_waits_81 : decode cX7_waits 81 = .ok (.goto (-48), 3) ∧ decode cX7_waits 84 = .ok (.bipush (-9), 2) ∧ decode cX7_waits 86 = .ok (.ireturn, 1) := by decide +kernel
theorem dX7_waits_81 : decode cX7_waits 81 = .ok (.goto (-48), 3) := bdX7_waits_81.1
theorem dX7_waits_84 : decode cX7_waits 84 = .ok (.bipush (-9), 2) := bdX7_waits_81.2.1
theorem dX7_waits_86 : decode cX7_waits 86 = .ok (.ireturn, 1) := bdX7_waits_81.2.2
set_option maxRecDepth 20000 in
set_option maxRecDepth 100000 in
theorem ggX7_relay_X6_hasSaying : GoodIn wsX7_relay wsX6_hasSaying := goodIn_hd (goodIn_c ch_X7_relay hc_X7_relay ([.code yX6_hasSaying cX6_hasSaying 2 (some .boolean)] : List Cond) [(1, 6)] rfl (by decide +kernel)) (goodIn_app (goodIn_c ch_X7_relay hc_X7_relay ([.fieldLink RX6 40 "WordFletchers$Told" "sayings" "I"] : List Cond) [(1, 7)] rfl (by decide +kernel)) (goodIn_sub (fun _ h => (List.mem_cons_of_mem _ (List.mem_append_left _ (List.mem_append_right _ h)))) gwX6))
set_option maxRecDepth 20000 in
theorem gX7_relay_X6_hasSaying : GoodIn wsX7_relay (wsV RX7 105 RX6 yX6_hasSaying wsX6_hasSaying) := goodIn_app (goodIn_of _ (by decide +kernel)) ggX7_relay_X6_hasSaying
set_option maxRecDepth 20000 in
set_option maxRecDepth 100000 in
theorem ggX7_relay_X6_hasOne : GoodIn wsX7_relay wsX6_hasOne := goodIn_hd (goodIn_c ch_X7_relay hc_X7_relay ([.code yX6_hasOne cX6_hasOne 2 (some .boolean)] : List Cond) [(1, 11)] rfl (by decide +kernel)) (goodIn_app (goodIn_c ch_X7_relay hc_X7_relay ([.fieldLink RX6 36 "WordFletchers$Told" "people" "I"] : List Cond) [(1, 12)] rfl (by decide +kernel)) (goodIn_sub (fun _ h => (List.mem_cons_of_mem _ (List.mem_append_left _ (List.mem_append_right _ h)))) gwX6))
set_option maxRecDepth 20000 in
theorem gX7_relay_X6_hasOne : GoodIn wsX7_relay (wsV RX7 92 RX6 yX6_hasOne wsX6_hasOne) := goodIn_app (goodIn_of _ (by decide +kernel)) ggX7_relay_X6_hasOne
set_option maxRecDepth 20000 in
set_option maxRecDepth 100000 in
theorem ggX7_relay_X7_countShotsNeeded : GoodIn wsX7_relay wsX7_countShotsNeeded := goodIn_hd (goodIn_c ch_X7_relay hc_X7_relay ([.code yX7_countShotsNeeded cX7_countShotsNeeded 5 none] : List Cond) [(1, 17)] rfl (by decide +kernel)) (goodIn_app (goodIn_app (goodIn_app (goodIn_app (goodIn_c ch_X7_relay hc_X7_relay wsX7_countShotsNeeded_r1 [(1, 0), (1, 18), (1, 19), (1, 20), (1, 21), (1, 22), (1, 23), (2, 0), (2, 1), (2, 2), (1, 16), (2, 3), (2, 4), (2, 5), (2, 6), (2, 7), (2, 8), (1, 1), (2, 9), (2, 10), (2, 11), (2, 12), (2, 13), (2, 14)] rfl (by decide +kernel)) (goodIn_app (goodIn_c ch_X7_relay hc_X7_relay wsX7_countShotsNeeded_r2 [(2, 15), (2, 16), (2, 17), (1, 5), (2, 18), (2, 19), (2, 20), (2, 21), (2, 22), (2, 23), (3, 0), (3, 1), (3, 2), (3, 3), (3, 4), (3, 5), (3, 6), (3, 7), (3, 8), (3, 9), (3, 10), (3, 11), (3, 12), (3, 13)] rfl (by decide +kernel)) (goodIn_c ch_X7_relay hc_X7_relay wsX7_countShotsNeeded_r3 [(3, 14), (3, 15), (3, 16), (3, 17), (3, 18), (1, 12), (3, 19), (3, 20), (3, 21), (3, 22), (3, 23), (4, 0), (4, 1), (4, 2), (4, 3), (4, 4), (4, 5), (4, 6), (4, 7), (4, 8), (4, 9)] rfl (by decide +kernel)))) (goodIn_sub (fun _ h => (List.mem_cons_of_mem _ (List.mem_append_left _ (List.mem_append_left _ (List.mem_append_right _ h))))) gwX7)) (goodIn_sub (fun _ h => (List.mem_cons_of_mem _ (List.mem_append_left _ (List.mem_append_right _ h)))) gwX6)) (goodIn_sub (fun _ h => (List.mem_cons_of_mem _ (List.mem_append_right _ h))) gwX2))
set_option maxRecDepth 20000 in
theorem gX7_relay_X7_countShotsNeeded : GoodIn wsX7_relay (wsV RX7 207 RX7 yX7_countShotsNeeded wsX7_countShotsNeeded) := goodIn_app (goodIn_of _ (by decide +kernel)) ggX7_relay_X7_countShotsNeeded
set_option maxRecDepth 20000 in
set_option maxRecDepth 100000 in
theorem ggX7_relay_X2_whoKnows : GoodIn wsX7_relay wsX2_whoKnows := goodIn_hd (goodIn_c ch_X7_relay hc_X7_relay ([.code yX2_whoKnows cX2_whoKnows 4 (some .int)] : List Cond) [(4, 14)] rfl (by decide +kernel)) (goodIn_app (goodIn_c ch_X7_relay hc_X7_relay ([.methodLink RX2 57 yX2_isKnown, .instanceMethod yX2_isKnown, .selects RX2 yX2_isKnown yX2_isKnown, .initialized RX2, .code yX2_isKnown cX2_isKnown 3 (some .boolean), .fieldLink RX2 15 "WordFletchers$Moment" "knows" "[I", .static yX7_isIn, .initialized RX7, .code yX7_isIn cX7_isIn 2 (some .boolean)] : List Cond) [(4, 15), (4, 16), (4, 17), (4, 13), (4, 18), (4, 19), (4, 8), (1, 16), (4, 9)] rfl (by decide +kernel)) (goodIn_sub (fun _ h => (List.mem_cons_of_mem _ (List.mem_append_right _ h))) gwX2))
set_option maxRecDepth 20000 in
theorem gX7_relay_X2_whoKnows : GoodIn wsX7_relay (wsV RX7 117 RX2 yX2_whoKnows wsX2_whoKnows) := goodIn_app (goodIn_of _ (by decide +kernel)) ggX7_relay_X2_whoKnows
set_option maxRecDepth 20000 in
set_option maxRecDepth 100000 in
theorem ggX7_relay_X7_fewestNeeded : GoodIn wsX7_relay wsX7_fewestNeeded := goodIn_hd (goodIn_c ch_X7_relay hc_X7_relay ([.code yX7_fewestNeeded cX7_fewestNeeded 4 (some .int)] : List Cond) [(4, 6)] rfl (by decide +kernel)) (goodIn_app (goodIn_app (goodIn_c ch_X7_relay hc_X7_relay ([.fieldLink RX7 29 "WordFletchers" "told" "LWordFletchers$Told;", .fieldLink RX7 298 "WordFletchers$Told" "people" "I", .fieldLink RX7 70 "WordFletchers" "shotsNeeded" "[I", .methodLink RX7 180 Lib.Math.min.name, .static Lib.Math.min.name, .initialized "java/lang/Math", .code Lib.Math.min.name Lib.Math.min.code 2 (some .int), .methodLink RX7 222 yX7_isIn, .static yX7_isIn, .initialized RX7, .code yX7_isIn cX7_isIn 2 (some .boolean)] : List Cond) [(1, 0), (1, 18), (1, 19), (1, 20), (1, 21), (1, 22), (1, 23), (4, 7), (4, 8), (1, 16), (4, 9)] rfl (by decide +kernel)) (goodIn_sub (fun _ h => (List.mem_cons_of_mem _ (List.mem_append_left _ (List.mem_append_left _ (List.mem_append_right _ h))))) gwX7)) (goodIn_sub (fun _ h => (List.mem_cons_of_mem _ (List.mem_append_left _ (List.mem_append_right _ h)))) gwX6))
set_option maxRecDepth 20000 in
theorem gX7_relay_X7_fewestNeeded : GoodIn wsX7_relay (wsV RX7 210 RX7 yX7_fewestNeeded wsX7_fewestNeeded) := goodIn_app (goodIn_of _ (by decide +kernel)) ggX7_relay_X7_fewestNeeded
set_option maxRecDepth 20000 in
set_option maxRecDepth 100000 in
theorem ggX7_relay_X7_firstOfRelay : GoodIn wsX7_relay wsX7_firstOfRelay := goodIn_hd (goodIn_c ch_X7_relay hc_X7_relay ([.code yX7_firstOfRelay cX7_firstOfRelay 9 (some .int)] : List Cond) [(4, 23)] rfl (by decide +kernel)) (goodIn_app (goodIn_app (goodIn_app (goodIn_app (goodIn_c ch_X7_relay hc_X7_relay wsX7_firstOfRelay_r1 [(1, 0), (1, 18), (1, 1), (2, 4), (5, 0), (4, 16), (4, 17), (4, 13), (4, 18), (4, 19), (4, 8), (1, 16), (4, 9), (2, 5), (2, 6), (2, 7), (2, 8), (2, 9), (2, 10), (2, 11), (2, 12), (2, 13), (2, 14), (2, 15)] rfl (by decide +kernel)) (goodIn_app (goodIn_c ch_X7_relay hc_X7_relay wsX7_firstOfRelay_r2 [(2, 16), (2, 17), (1, 5), (2, 18), (2, 19), (2, 20), (2, 21), (1, 22), (2, 22), (2, 23), (3, 0), (3, 1), (3, 2), (3, 3), (3, 4), (3, 5), (3, 6), (3, 7), (3, 8), (3, 9), (3, 10), (3, 11), (3, 12), (3, 13)] rfl (by decide +kernel)) (goodIn_c ch_X7_relay hc_X7_relay wsX7_firstOfRelay_r3 [(3, 14), (3, 15), (3, 16), (3, 17), (3, 18), (1, 12), (3, 19), (3, 20), (3, 21), (3, 22), (3, 23), (4, 0), (4, 1), (4, 2), (4, 3), (4, 4), (4, 5), (4, 6), (1, 19), (1, 20), (1, 21), (1, 23), (4, 7)] rfl (by decide +kernel)))) (goodIn_sub (fun _ h => (List.mem_cons_of_mem _ (List.mem_append_left _ (List.mem_append_left _ (List.mem_append_right _ h))))) gwX7)) (goodIn_sub (fun _ h => (List.mem_cons_of_mem _ (List.mem_append_left _ (List.mem_append_right _ h)))) gwX6)) (goodIn_sub (fun _ h => (List.mem_cons_of_mem _ (List.mem_append_right _ h))) gwX2))
set_option maxRecDepth 20000 in
theorem gX7_relay_X7_firstOfRelay : GoodIn wsX7_relay (wsV RX7 213 RX7 yX7_firstOfRelay wsX7_firstOfRelay) := goodIn_app (goodIn_of _ (by decide +kernel)) ggX7_relay_X7_firstOfRelay
theorem bdX7_relay_0 : decode cX7_relay 0 = .ok (.aload_n 0, 1) ∧ decode cX7_relay 1 = .ok (.getfield 29, 3) ∧ decode cX7_relay 4 = .ok (.iload_n 1, 1) ∧ decode cX7_relay 5 = .ok (.invokevirtual 105, 3) ∧ decode cX7_relay 8 = .ok (.ifCond .eq 23, 3) ∧ decode cX7_relay 11 = .ok (.aload_n 0, 1) ∧ decode cX7_relay 12 = .ok (.getfield 29, 3) ∧ decode cX7_relay 15 = .ok (.iload_n 2, 1) := by decide +kernel
theorem dX7_relay_0 : decode cX7_relay 0 = .ok (.aload_n 0, 1) := bdX7_relay_0.1
theorem dX7_relay_1 : decode cX7_relay 1 = .ok (.getfield 29, 3) := bdX7_relay_0.2.1
theorem dX7_relay_4 : decode cX7_relay 4 = .ok (.iload_n 1, 1) := bdX7_relay_0.2.2.1
theorem dX7_relay_5 : decode cX7_relay 5 = .ok (.invokevirtual 105, 3) := bdX7_relay_0.2.2.2.1
theorem dX7_relay_8 : decode cX7_relay 8 = .ok (.ifCond .eq 23, 3) := bdX7_relay_0.2.2.2.2.1
theorem dX7_relay_11 : decode cX7_relay 11 = .ok (.aload_n 0, 1) := bdX7_relay_0.2.2.2.2.2.1
theorem dX7_relay_12 : decode cX7_relay 12 = .ok (.getfield 29, 3) := bdX7_relay_0.2.2.2.2.2.2.1
theorem dX7_relay_15 : decode cX7_relay 15 = .ok (.iload_n 2, 1) := bdX7_relay_0.2.2.2.2.2.2.2
theorem bdX7_relay_16 : decode cX7_relay 16 = .ok (.invokevirtual 92, 3) ∧ decode cX7_relay 19 = .ok (.ifCond .eq 12, 3) ∧ decode cX7_relay 22 = .ok (.iload_n 3, 1) ∧ decode cX7_relay 23 = .ok (.ifCond .lt 8, 3) ∧ decode cX7_relay 26 = .ok (.iload_n 3, 1) ∧ decode cX7_relay 27 = .ok (.iconst 2, 1) ∧ decode cX7_relay 28 = .ok (.if_icmp .le 5, 3) ∧ decode cX7_relay 31 = .ok (.iconst (-1), 1) := by decide +kernel
theorem dX7_relay_16 : decode cX7_relay 16 = .ok (.invokevirtual 92, 3) := bdX7_relay_16.1
theorem dX7_relay_19 : decode cX7_relay 19 = .ok (.ifCond .eq 12, 3) := bdX7_relay_16.2.1
theorem dX7_relay_22 : decode cX7_relay 22 = .ok (.iload_n 3, 1) := bdX7_relay_16.2.2.1
theorem dX7_relay_23 : decode cX7_relay 23 = .ok (.ifCond .lt 8, 3) := bdX7_relay_16.2.2.2.1
theorem dX7_relay_26 : decode cX7_relay 26 = .ok (.iload_n 3, 1) := bdX7_relay_16.2.2.2.2.1
theorem dX7_relay_27 : decode cX7_relay 27 = .ok (.iconst 2, 1) := bdX7_relay_16.2.2.2.2.2.1
theorem dX7_relay_28 : decode cX7_relay 28 = .ok (.if_icmp .le 5, 3) := bdX7_relay_16.2.2.2.2.2.2.1
theorem dX7_relay_31 : decode cX7_relay 31 = .ok (.iconst (-1), 1) := bdX7_relay_16.2.2.2.2.2.2.2
theorem bdX7_relay_32 : decode cX7_relay 32 = .ok (.ireturn, 1) ∧ decode cX7_relay 33 = .ok (.aload_n 0, 1) ∧ decode cX7_relay 34 = .ok (.iload_n 1, 1) ∧ decode cX7_relay 35 = .ok (.iload_n 2, 1) ∧ decode cX7_relay 36 = .ok (.invokevirtual 207, 3) ∧ decode cX7_relay 39 = .ok (.aload_n 0, 1) ∧ decode cX7_relay 40 = .ok (.aload_n 0, 1) ∧ decode cX7_relay 41 = .ok (.getfield 39, 3) := by decide +kernel
theorem dX7_relay_32 : decode cX7_relay 32 = .ok (.ireturn, 1) := bdX7_relay_32.1
theorem dX7_relay_33 : decode cX7_relay 33 = .ok (.aload_n 0, 1) := bdX7_relay_32.2.1
theorem dX7_relay_34 : decode cX7_relay 34 = .ok (.iload_n 1, 1) := bdX7_relay_32.2.2.1
theorem dX7_relay_35 : decode cX7_relay 35 = .ok (.iload_n 2, 1) := bdX7_relay_32.2.2.2.1
theorem dX7_relay_36 : decode cX7_relay 36 = .ok (.invokevirtual 207, 3) := bdX7_relay_32.2.2.2.2.1
theorem dX7_relay_39 : decode cX7_relay 39 = .ok (.aload_n 0, 1) := bdX7_relay_32.2.2.2.2.2.1
theorem dX7_relay_40 : decode cX7_relay 40 = .ok (.aload_n 0, 1) := bdX7_relay_32.2.2.2.2.2.2.1
theorem dX7_relay_41 : decode cX7_relay 41 = .ok (.getfield 39, 3) := bdX7_relay_32.2.2.2.2.2.2.2
theorem bdX7_relay_44 : decode cX7_relay 44 = .ok (.iload_n 1, 1) ∧ decode cX7_relay 45 = .ok (.invokevirtual 117, 3) ∧ decode cX7_relay 48 = .ok (.invokevirtual 210, 3) ∧ decode cX7_relay 51 = .ok (.istore 4, 2) ∧ decode cX7_relay 53 = .ok (.iload 4, 2) ∧ decode cX7_relay 55 = .ok (.sipush 1000, 3) ∧ decode cX7_relay 58 = .ok (.if_icmp .lt 6, 3) ∧ decode cX7_relay 61 = .ok (.bipush (-9), 2) := by decide +kernel
theorem dX7_relay_44 : decode cX7_relay 44 = .ok (.iload_n 1, 1) := bdX7_relay_44.1
theorem dX7_relay_45 : decode cX7_relay 45 = .ok (.invokevirtual 117, 3) := bdX7_relay_44.2.1
theorem dX7_relay_48 : decode cX7_relay 48 = .ok (.invokevirtual 210, 3) := bdX7_relay_44.2.2.1
theorem dX7_relay_51 : decode cX7_relay 51 = .ok (.istore 4, 2) := bdX7_relay_44.2.2.2.1
theorem dX7_relay_53 : decode cX7_relay 53 = .ok (.iload 4, 2) := bdX7_relay_44.2.2.2.2.1
theorem dX7_relay_55 : decode cX7_relay 55 = .ok (.sipush 1000, 3) := bdX7_relay_44.2.2.2.2.2.1
theorem dX7_relay_58 : decode cX7_relay 58 = .ok (.if_icmp .lt 6, 3) := bdX7_relay_44.2.2.2.2.2.2.1
theorem dX7_relay_61 : decode cX7_relay 61 = .ok (.bipush (-9), 2) := bdX7_relay_44.2.2.2.2.2.2.2
theorem bdX7_relay_63 : decode cX7_relay 63 = .ok (.ireturn, 1) ∧ decode cX7_relay 64 = .ok (.iload_n 3, 1) ∧ decode cX7_relay 65 = .ok (.ifCond .ne 6, 3) ∧ decode cX7_relay 68 = .ok (.iload 4, 2) ∧ decode cX7_relay 70 = .ok (.ireturn, 1) ∧ decode cX7_relay 71 = .ok (.iload 4, 2) ∧ decode cX7_relay 73 = .ok (.ifCond .ne 8, 3) ∧ decode cX7_relay 76 = .ok (.bipush (-9), 2) := by decide +kernel
theorem dX7_relay_63 : decode cX7_relay 63 = .ok (.ireturn, 1) := bdX7_relay_63.1
theorem dX7_relay_64 : decode cX7_relay 64 = .ok (.iload_n 3, 1) := bdX7_relay_63.2.1
theorem dX7_relay_65 : decode cX7_relay 65 = .ok (.ifCond .ne 6, 3) := bdX7_relay_63.2.2.1
theorem dX7_relay_68 : decode cX7_relay 68 = .ok (.iload 4, 2) := bdX7_relay_63.2.2.2.1
theorem dX7_relay_70 : decode cX7_relay 70 = .ok (.ireturn, 1) := bdX7_relay_63.2.2.2.2.1
theorem dX7_relay_71 : decode cX7_relay 71 = .ok (.iload 4, 2) := bdX7_relay_63.2.2.2.2.2.1
theorem dX7_relay_73 : decode cX7_relay 73 = .ok (.ifCond .ne 8, 3) := bdX7_relay_63.2.2.2.2.2.2.1
theorem dX7_relay_76 : decode cX7_relay 76 = .ok (.bipush (-9), 2) := bdX7_relay_63.2.2.2.2.2.2.2
theorem bdX7_relay_78 : decode cX7_relay 78 = .ok (.goto 13, 3) ∧ decode cX7_relay 81 = .ok (.aload_n 0, 1) ∧ decode cX7_relay 82 = .ok (.iload_n 1, 1) ∧ decode cX7_relay 83 = .ok (.iload 4, 2) ∧ decode cX7_relay 85 = .ok (.iconst 1, 1) ∧ decode cX7_relay 86 = .ok (.isub, 1) ∧ decode cX7_relay 87 = .ok (.iload_n 3, 1) ∧ decode cX7_relay 88 = .ok (.invokevirtual 213, 3) := by decide +kernel
theorem dX7_relay_78 : decode cX7_relay 78 = .ok (.goto 13, 3) := bdX7_relay_78.1
theorem dX7_relay_81 : decode cX7_relay 81 = .ok (.aload_n 0, 1) := bdX7_relay_78.2.1
theorem dX7_relay_82 : decode cX7_relay 82 = .ok (.iload_n 1, 1) := bdX7_relay_78.2.2.1
theorem dX7_relay_83 : decode cX7_relay 83 = .ok (.iload 4, 2) := bdX7_relay_78.2.2.2.1
theorem dX7_relay_85 : decode cX7_relay 85 = .ok (.iconst 1, 1) := bdX7_relay_78.2.2.2.2.1
theorem dX7_relay_86 : decode cX7_relay 86 = .ok (.isub, 1) := bdX7_relay_78.2.2.2.2.2.1
theorem dX7_relay_87 : decode cX7_relay 87 = .ok (.iload_n 3, 1) := bdX7_relay_78.2.2.2.2.2.2.1
theorem dX7_relay_88 : decode cX7_relay 88 = .ok (.invokevirtual 213, 3) := bdX7_relay_78.2.2.2.2.2.2.2
theorem dX7_relay_91 : decode cX7_relay 91 = .ok (.ireturn, 1) := by decide +kernel
set_option maxRecDepth 20000 in
set_option maxRecDepth 100000 in
theorem ggX7_allot_X6_isSetOfSayings : GoodIn wsX7_allot wsX6_isSetOfSayings := goodIn_hd (goodIn_c ch_X7_allot hc_X7_allot ([.code yX6_isSetOfSayings cX6_isSetOfSayings 2 (some .boolean)] : List Cond) [(1, 10)] rfl (by decide +kernel)) (goodIn_app (goodIn_c ch_X7_allot hc_X7_allot ([.fieldLink RX6 40 "WordFletchers$Told" "sayings" "I"] : List Cond) [(1, 11)] rfl (by decide +kernel)) (goodIn_sub (fun _ h => (List.mem_cons_of_mem _ (List.mem_append_left _ (List.mem_append_left _ (List.mem_append_right _ h))))) gwX6))
set_option maxRecDepth 20000 in
theorem gX7_allot_X6_isSetOfSayings : GoodIn wsX7_allot (wsV RX7 216 RX6 yX6_isSetOfSayings wsX6_isSetOfSayings) := goodIn_app (goodIn_of _ (by decide +kernel)) ggX7_allot_X6_isSetOfSayings
set_option maxRecDepth 20000 in
set_option maxRecDepth 100000 in
theorem ggX7_allot_X7_isIn : GoodIn wsX7_allot wsX7_isIn := goodIn_hd (goodIn_c ch_X7_allot hc_X7_allot ([.code yX7_isIn cX7_isIn 2 (some .boolean)] : List Cond) [(1, 15)] rfl (by decide +kernel)) (goodIn_c ch_X7_allot hc_X7_allot ([] : List Cond) [] rfl (by decide +kernel))
set_option maxRecDepth 20000 in
theorem gX7_allot_X7_isIn : GoodIn wsX7_allot (va_wsS RX7 222 yX7_isIn wsX7_isIn) := goodIn_app (goodIn_of _ (by decide +kernel)) ggX7_allot_X7_isIn
set_option maxRecDepth 20000 in
set_option maxRecDepth 100000 in
theorem ggX7_allot_X7_prepareAllotment : GoodIn wsX7_allot wsX7_prepareAllotment := goodIn_hd (goodIn_c ch_X7_allot hc_X7_allot ([.code yX7_prepareAllotment cX7_prepareAllotment 5 none] : List Cond) [(1, 19)] rfl (by decide +kernel)) (goodIn_app (goodIn_app (goodIn_app (goodIn_app (goodIn_app (goodIn_c ch_X7_allot hc_X7_allot wsX7_prepareAllotment_r1 [(1, 2), (1, 20), (1, 0), (1, 1), (1, 12), (1, 13), (1, 14), (1, 15), (1, 21), (1, 22), (1, 23), (2, 0), (2, 1), (2, 2), (2, 3), (2, 4), (2, 5), (2, 6), (2, 7), (2, 8), (2, 9), (2, 10), (2, 11), (2, 12)] rfl (by decide +kernel)) (goodIn_app (goodIn_c ch_X7_allot hc_X7_allot wsX7_prepareAllotment_r2 [(2, 13), (2, 14), (2, 15), (1, 3), (2, 16), (2, 17), (2, 18), (2, 19), (2, 20), (2, 21), (2, 22), (2, 23), (3, 0), (1, 9), (3, 1), (3, 2), (3, 3), (3, 4), (3, 5), (3, 6), (3, 7), (3, 8), (3, 9), (3, 10)] rfl (by decide +kernel)) (goodIn_app (goodIn_c ch_X7_allot hc_X7_allot wsX7_prepareAllotment_r3 [(3, 11), (3, 12), (3, 13), (3, 14), (3, 15), (3, 16), (3, 17), (3, 18), (3, 19), (3, 20), (3, 21), (3, 22), (3, 23), (4, 0), (4, 1), (4, 2), (4, 3), (4, 4), (4, 5), (4, 6), (4, 7), (4, 8), (4, 9), (4, 10)] rfl (by decide +kernel)) (goodIn_c ch_X7_allot hc_X7_allot wsX7_prepareAllotment_r4 [(4, 11), (4, 12), (4, 13), (4, 14), (4, 15), (4, 16)] rfl (by decide +kernel))))) (goodIn_sub (fun _ h => (List.mem_cons_of_mem _ (List.mem_append_left _ (List.mem_append_left _ (List.mem_append_left _ (List.mem_append_right _ h)))))) gwX7)) (goodIn_sub (fun _ h => (List.mem_cons_of_mem _ (List.mem_append_right _ h))) gwX0)) (goodIn_sub (fun _ h => (List.mem_cons_of_mem _ (List.mem_append_left _ (List.mem_append_left _ (List.mem_append_right _ h))))) gwX6)) (goodIn_sub (fun _ h => (List.mem_cons_of_mem _ (List.mem_append_left _ (List.mem_append_right _ h)))) gwX2))
set_option maxRecDepth 20000 in
theorem gX7_allot_X7_prepareAllotment : GoodIn wsX7_allot (wsV RX7 225 RX7 yX7_prepareAllotment wsX7_prepareAllotment) := goodIn_app (goodIn_of _ (by decide +kernel)) ggX7_allot_X7_prepareAllotment
set_option maxRecDepth 20000 in
set_option maxRecDepth 100000 in
theorem ggX7_allot_X0_search : GoodIn wsX7_allot wsX0_search := goodIn_hd (goodIn_c ch_X7_allot hc_X7_allot ([.code yX0_search cX0_search 4 (some .boolean)] : List Cond) [(4, 20)] rfl (by decide +kernel)) (goodIn_app (goodIn_c ch_X7_allot hc_X7_allot ([.fieldLink RX0 25 "WordFletchers$Allotment" "total" "I", .fieldLink RX0 21 "WordFletchers$Allotment" "members" "I", .fieldLink RX0 32 "WordFletchers$Allotment" "way" "I", .methodLink RX0 28 yX0_costOf, .instanceMethod yX0_costOf, .selects RX0 yX0_costOf yX0_costOf, .initialized RX0, .code yX0_costOf cX0_costOf 7 (some .int), .fieldLink RX0 18 "WordFletchers$Allotment" "used" "[I", .fieldLink RX0 15 "WordFletchers$Allotment" "fewest" "[I", .methodLink RX0 35 yX0_kindOf, .instanceMethod yX0_kindOf, .selects RX0 yX0_kindOf yX0_kindOf, .code yX0_kindOf cX0_kindOf 3 (some .int)] : List Cond) [(4, 21), (2, 3), (4, 22), (4, 23), (5, 0), (5, 1), (2, 0), (5, 2), (5, 3), (4, 16), (5, 4), (5, 5), (5, 6), (5, 7)] rfl (by decide +kernel)) (goodIn_sub (fun _ h => (List.mem_cons_of_mem _ (List.mem_append_right _ h))) gwX0))
set_option maxRecDepth 20000 in
theorem gX7_allot_X0_search : GoodIn wsX7_allot (wsV RX7 228 RX0 yX0_search wsX0_search) := goodIn_app (goodIn_of _ (by decide +kernel)) ggX7_allot_X0_search
set_option maxRecDepth 20000 in
set_option maxRecDepth 100000 in
theorem ggX7_allot_X0_shareOf : GoodIn wsX7_allot wsX0_shareOf := goodIn_hd (goodIn_c ch_X7_allot hc_X7_allot ([.code yX0_shareOf cX0_shareOf 4 (some .int)] : List Cond) [(5, 11)] rfl (by decide +kernel)) (goodIn_app (goodIn_c ch_X7_allot hc_X7_allot ([.fieldLink RX0 21 "WordFletchers$Allotment" "members" "I", .fieldLink RX0 9 "WordFletchers$Allotment" "saying" "[I", .fieldLink RX0 32 "WordFletchers$Allotment" "way" "I", .fieldLink RX0 15 "WordFletchers$Allotment" "fewest" "[I", .methodLink RX0 35 yX0_kindOf, .instanceMethod yX0_kindOf, .selects RX0 yX0_kindOf yX0_kindOf, .initialized RX0, .code yX0_kindOf cX0_kindOf 3 (some .int)] : List Cond) [(2, 3), (2, 2), (4, 22), (4, 16), (5, 4), (5, 5), (5, 6), (2, 0), (5, 7)] rfl (by decide +kernel)) (goodIn_sub (fun _ h => (List.mem_cons_of_mem _ (List.mem_append_right _ h))) gwX0))
set_option maxRecDepth 20000 in
theorem gX7_allot_X0_shareOf : GoodIn wsX7_allot (wsV RX7 235 RX0 yX0_shareOf wsX0_shareOf) := goodIn_app (goodIn_of _ (by decide +kernel)) ggX7_allot_X0_shareOf
theorem bdX7_allot_0 : decode cX7_allot 0 = .ok (.aload_n 0, 1) ∧ decode cX7_allot 1 = .ok (.getfield 29, 3) ∧ decode cX7_allot 4 = .ok (.iload_n 1, 1) ∧ decode cX7_allot 5 = .ok (.invokevirtual 216, 3) ∧ decode cX7_allot 8 = .ok (.ifCond .eq 19, 3) ∧ decode cX7_allot 11 = .ok (.iload_n 2, 1) ∧ decode cX7_allot 12 = .ok (.iconst (-1), 1) ∧ decode cX7_allot 13 = .ok (.if_icmp .lt 14, 3) := by decide +kernel
theorem dX7_allot_0 : decode cX7_allot 0 = .ok (.aload_n 0, 1) := bdX7_allot_0.1
theorem dX7_allot_1 : decode cX7_allot 1 = .ok (.getfield 29, 3) := bdX7_allot_0.2.1
theorem dX7_allot_4 : decode cX7_allot 4 = .ok (.iload_n 1, 1) := bdX7_allot_0.2.2.1
theorem dX7_allot_5 : decode cX7_allot 5 = .ok (.invokevirtual 216, 3) := bdX7_allot_0.2.2.2.1
theorem dX7_allot_8 : decode cX7_allot 8 = .ok (.ifCond .eq 19, 3) := bdX7_allot_0.2.2.2.2.1
theorem dX7_allot_11 : decode cX7_allot 11 = .ok (.iload_n 2, 1) := bdX7_allot_0.2.2.2.2.2.1
theorem dX7_allot_12 : decode cX7_allot 12 = .ok (.iconst (-1), 1) := bdX7_allot_0.2.2.2.2.2.2.1
theorem dX7_allot_13 : decode cX7_allot 13 = .ok (.if_icmp .lt 14, 3) := bdX7_allot_0.2.2.2.2.2.2.2
theorem bdX7_allot_16 : decode cX7_allot 16 = .ok (.iload_n 2, 1) ∧ decode cX7_allot 17 = .ok (.aload_n 0, 1) ∧ decode cX7_allot 18 = .ok (.getfield 29, 3) ∧ decode cX7_allot 21 = .ok (.getfield 219, 3) ∧ decode cX7_allot 24 = .ok (.if_icmp .lt 5, 3) ∧ decode cX7_allot 27 = .ok (.iconst (-1), 1) ∧ decode cX7_allot 28 = .ok (.ireturn, 1) ∧ decode cX7_allot 29 = .ok (.iload_n 2, 1) := by decide +kernel
theorem dX7_allot_16 : decode cX7_allot 16 = .ok (.iload_n 2, 1) := bdX7_allot_16.1
theorem dX7_allot_17 : decode cX7_allot 17 = .ok (.aload_n 0, 1) := bdX7_allot_16.2.1
theorem dX7_allot_18 : decode cX7_allot 18 = .ok (.getfield 29, 3) := bdX7_allot_16.2.2.1
theorem dX7_allot_21 : decode cX7_allot 21 = .ok (.getfield 219, 3) := bdX7_allot_16.2.2.2.1
theorem dX7_allot_24 : decode cX7_allot 24 = .ok (.if_icmp .lt 5, 3) := bdX7_allot_16.2.2.2.2.1
theorem dX7_allot_27 : decode cX7_allot 27 = .ok (.iconst (-1), 1) := bdX7_allot_16.2.2.2.2.2.1
theorem dX7_allot_28 : decode cX7_allot 28 = .ok (.ireturn, 1) := bdX7_allot_16.2.2.2.2.2.2.1
theorem dX7_allot_29 : decode cX7_allot 29 = .ok (.iload_n 2, 1) := bdX7_allot_16.2.2.2.2.2.2.2
theorem bdX7_allot_30 : decode cX7_allot 30 = .ok (.ifCond .lt 13, 3) ∧ decode cX7_allot 33 = .ok (.iload_n 1, 1) ∧ decode cX7_allot 34 = .ok (.iload_n 2, 1) ∧ decode cX7_allot 35 = .ok (.invokestatic 222, 3) ∧ decode cX7_allot 38 = .ok (.ifCond .ne 5, 3) ∧ decode cX7_allot 41 = .ok (.iconst (-1), 1) ∧ decode cX7_allot 42 = .ok (.ireturn, 1) ∧ decode cX7_allot 43 = .ok (.aload_n 0, 1) := by decide +kernel
theorem dX7_allot_30 : decode cX7_allot 30 = .ok (.ifCond .lt 13, 3) := bdX7_allot_30.1
theorem dX7_allot_33 : decode cX7_allot 33 = .ok (.iload_n 1, 1) := bdX7_allot_30.2.1
theorem dX7_allot_34 : decode cX7_allot 34 = .ok (.iload_n 2, 1) := bdX7_allot_30.2.2.1
theorem dX7_allot_35 : decode cX7_allot 35 = .ok (.invokestatic 222, 3) := bdX7_allot_30.2.2.2.1
theorem dX7_allot_38 : decode cX7_allot 38 = .ok (.ifCond .ne 5, 3) := bdX7_allot_30.2.2.2.2.1
theorem dX7_allot_41 : decode cX7_allot 41 = .ok (.iconst (-1), 1) := bdX7_allot_30.2.2.2.2.2.1
theorem dX7_allot_42 : decode cX7_allot 42 = .ok (.ireturn, 1) := bdX7_allot_30.2.2.2.2.2.2.1
theorem dX7_allot_43 : decode cX7_allot 43 = .ok (.aload_n 0, 1) := bdX7_allot_30.2.2.2.2.2.2.2
theorem bdX7_allot_44 : decode cX7_allot 44 = .ok (.iload_n 1, 1) ∧ decode cX7_allot 45 = .ok (.invokevirtual 225, 3) ∧ decode cX7_allot 48 = .ok (.aload_n 0, 1) ∧ decode cX7_allot 49 = .ok (.getfield 66, 3) ∧ decode cX7_allot 52 = .ok (.aload_n 0, 1) ∧ decode cX7_allot 53 = .ok (.getfield 39, 3) ∧ decode cX7_allot 56 = .ok (.getfield 142, 3) ∧ decode cX7_allot 59 = .ok (.invokevirtual 228, 3) := by decide +kernel
theorem dX7_allot_44 : decode cX7_allot 44 = .ok (.iload_n 1, 1) := bdX7_allot_44.1
theorem dX7_allot_45 : decode cX7_allot 45 = .ok (.invokevirtual 225, 3) := bdX7_allot_44.2.1
theorem dX7_allot_48 : decode cX7_allot 48 = .ok (.aload_n 0, 1) := bdX7_allot_44.2.2.1
theorem dX7_allot_49 : decode cX7_allot 49 = .ok (.getfield 66, 3) := bdX7_allot_44.2.2.2.1
theorem dX7_allot_52 : decode cX7_allot 52 = .ok (.aload_n 0, 1) := bdX7_allot_44.2.2.2.2.1
theorem dX7_allot_53 : decode cX7_allot 53 = .ok (.getfield 39, 3) := bdX7_allot_44.2.2.2.2.2.1
theorem dX7_allot_56 : decode cX7_allot 56 = .ok (.getfield 142, 3) := bdX7_allot_44.2.2.2.2.2.2.1
theorem dX7_allot_59 : decode cX7_allot 59 = .ok (.invokevirtual 228, 3) := bdX7_allot_44.2.2.2.2.2.2.2
theorem bdX7_allot_62 : decode cX7_allot 62 = .ok (.ifCond .ne 6, 3) ∧ decode cX7_allot 65 = .ok (.bipush (-9), 2) ∧ decode cX7_allot 67 = .ok (.ireturn, 1) ∧ decode cX7_allot 68 = .ok (.iload_n 2, 1) ∧ decode cX7_allot 69 = .ok (.ifCond .ge 13, 3) ∧ decode cX7_allot 72 = .ok (.aload_n 0, 1) ∧ decode cX7_allot 73 = .ok (.getfield 66, 3) ∧ decode cX7_allot 76 = .ok (.getfield 232, 3) := by decide +kernel
theorem dX7_allot_62 : decode cX7_allot 62 = .ok (.ifCond .ne 6, 3) := bdX7_allot_62.1
theorem dX7_allot_65 : decode cX7_allot 65 = .ok (.bipush (-9), 2) := bdX7_allot_62.2.1
theorem dX7_allot_67 : decode cX7_allot 67 = .ok (.ireturn, 1) := bdX7_allot_62.2.2.1
theorem dX7_allot_68 : decode cX7_allot 68 = .ok (.iload_n 2, 1) := bdX7_allot_62.2.2.2.1
theorem dX7_allot_69 : decode cX7_allot 69 = .ok (.ifCond .ge 13, 3) := bdX7_allot_62.2.2.2.2.1
theorem dX7_allot_72 : decode cX7_allot 72 = .ok (.aload_n 0, 1) := bdX7_allot_62.2.2.2.2.2.1
theorem dX7_allot_73 : decode cX7_allot 73 = .ok (.getfield 66, 3) := bdX7_allot_62.2.2.2.2.2.2.1
theorem dX7_allot_76 : decode cX7_allot 76 = .ok (.getfield 232, 3) := bdX7_allot_62.2.2.2.2.2.2.2
theorem bdX7_allot_79 : decode cX7_allot 79 = .ok (.goto 11, 3) ∧ decode cX7_allot 82 = .ok (.aload_n 0, 1) ∧ decode cX7_allot 83 = .ok (.getfield 66, 3) ∧ decode cX7_allot 86 = .ok (.iload_n 2, 1) ∧ decode cX7_allot 87 = .ok (.invokevirtual 235, 3) ∧ decode cX7_allot 90 = .ok (.ireturn, 1) := by decide +kernel
theorem dX7_allot_79 : decode cX7_allot 79 = .ok (.goto 11, 3) := bdX7_allot_79.1
theorem dX7_allot_82 : decode cX7_allot 82 = .ok (.aload_n 0, 1) := bdX7_allot_79.2.1
theorem dX7_allot_83 : decode cX7_allot 83 = .ok (.getfield 66, 3) := bdX7_allot_79.2.2.1
theorem dX7_allot_86 : decode cX7_allot 86 = .ok (.iload_n 2, 1) := bdX7_allot_79.2.2.2.1
theorem dX7_allot_87 : decode cX7_allot 87 = .ok (.invokevirtual 235, 3) := bdX7_allot_79.2.2.2.2.1
theorem dX7_allot_90 : decode cX7_allot 90 = .ok (.ireturn, 1) := bdX7_allot_79.2.2.2.2.2
set_option maxRecDepth 20000 in
set_option maxRecDepth 100000 in
theorem ggX7_odds_X7_areTwo : GoodIn wsX7_odds wsX7_areTwo := goodIn_hd (goodIn_c ch_X7_odds hc_X7_odds ([.code yX7_areTwo cX7_areTwo 3 (some .boolean)] : List Cond) [(1, 12)] rfl (by decide +kernel)) (goodIn_app (goodIn_app (goodIn_c ch_X7_odds hc_X7_odds ([.fieldLink RX7 29 "WordFletchers" "told" "LWordFletchers$Told;", .methodLink RX7 92 yX6_hasOne, .instanceMethod yX6_hasOne, .selects RX6 yX6_hasOne yX6_hasOne, .initialized RX6, .code yX6_hasOne cX6_hasOne 2 (some .boolean), .fieldLink RX6 36 "WordFletchers$Told" "people" "I"] : List Cond) [(1, 0), (1, 13), (1, 14), (1, 15), (1, 16), (1, 17), (1, 18)] rfl (by decide +kernel)) (goodIn_sub (fun _ h => (List.mem_cons_of_mem _ (List.mem_append_left _ (List.mem_append_left _ (List.mem_append_right _ h))))) gwX7)) (goodIn_sub (fun _ h => (List.mem_cons_of_mem _ (List.mem_append_left _ (List.mem_append_right _ h)))) gwX6))
set_option maxRecDepth 20000 in
theorem gX7_odds_X7_areTwo : GoodIn wsX7_odds (wsV RX7 191 RX7 yX7_areTwo wsX7_areTwo) := goodIn_app (goodIn_of _ (by decide +kernel)) ggX7_odds_X7_areTwo
set_option maxRecDepth 20000 in
set_option maxRecDepth 100000 in
theorem ggX7_odds_X6_hasSaying : GoodIn wsX7_odds wsX6_hasSaying := goodIn_hd (goodIn_c ch_X7_odds hc_X7_odds ([.code yX6_hasSaying cX6_hasSaying 2 (some .boolean)] : List Cond) [(1, 22)] rfl (by decide +kernel)) (goodIn_app (goodIn_c ch_X7_odds hc_X7_odds ([.fieldLink RX6 40 "WordFletchers$Told" "sayings" "I"] : List Cond) [(1, 23)] rfl (by decide +kernel)) (goodIn_sub (fun _ h => (List.mem_cons_of_mem _ (List.mem_append_left _ (List.mem_append_right _ h)))) gwX6))
set_option maxRecDepth 20000 in
theorem gX7_odds_X6_hasSaying : GoodIn wsX7_odds (wsV RX7 105 RX6 yX6_hasSaying wsX6_hasSaying) := goodIn_app (goodIn_of _ (by decide +kernel)) ggX7_odds_X6_hasSaying
set_option maxRecDepth 20000 in
set_option maxRecDepth 100000 in
theorem ggX7_odds_X7_isShot : GoodIn wsX7_odds wsX7_isShot := goodIn_hd (goodIn_c ch_X7_odds hc_X7_odds ([.code yX7_isShot cX7_isShot 1 (some .boolean)] : List Cond) [(2, 2)] rfl (by decide +kernel)) (goodIn_c ch_X7_odds hc_X7_odds ([] : List Cond) [] rfl (by decide +kernel))
set_option maxRecDepth 20000 in
theorem gX7_odds_X7_isShot : GoodIn wsX7_odds (va_wsS RX7 200 yX7_isShot wsX7_isShot) := goodIn_app (goodIn_of _ (by decide +kernel)) ggX7_odds_X7_isShot
set_option maxRecDepth 20000 in
set_option maxRecDepth 100000 in
theorem ggX7_odds_X6_windCount : GoodIn wsX7_odds wsX6_windCount := goodIn_hd (goodIn_c ch_X7_odds hc_X7_odds ([.code yX6_windCount cX6_windCount 1 (some .int)] : List Cond) [(2, 6)] rfl (by decide +kernel)) (goodIn_app (goodIn_c ch_X7_odds hc_X7_odds ([.fieldLink RX6 43 "WordFletchers$Told" "windsTold" "I", .methodLink RX6 46 Lib.Math.max.name, .static Lib.Math.max.name, .initialized "java/lang/Math", .code Lib.Math.max.name Lib.Math.max.code 2 (some .int)] : List Cond) [(2, 7), (2, 8), (1, 5), (1, 6), (1, 7)] rfl (by decide +kernel)) (goodIn_sub (fun _ h => (List.mem_cons_of_mem _ (List.mem_append_left _ (List.mem_append_right _ h)))) gwX6))
set_option maxRecDepth 20000 in
theorem gX7_odds_X6_windCount : GoodIn wsX7_odds (wsV RX7 238 RX6 yX6_windCount wsX6_windCount) := goodIn_app (goodIn_of _ (by decide +kernel)) ggX7_odds_X6_windCount
set_option maxRecDepth 20000 in
set_option maxRecDepth 100000 in
theorem ggX7_odds_X6_landing : GoodIn wsX7_odds wsX6_landing := goodIn_hd (goodIn_c ch_X7_odds hc_X7_odds ([.code yX6_landing cX6_landing 13 (some .int)] : List Cond) [(2, 12)] rfl (by decide +kernel)) (goodIn_app (goodIn_c ch_X7_odds hc_X7_odds ([.fieldLink RX6 9 "WordFletchers$Told" "place" "[I", .methodLink RX6 59 yX6_flight, .instanceMethod yX6_flight, .selects RX6 yX6_flight yX6_flight, .initialized RX6, .code yX6_flight cX6_flight 6 (some .int), .fieldLink RX6 21 "WordFletchers$Told" "twist" "[I", .fieldLink RX6 18 "WordFletchers$Told" "weight" "[I", .methodLink RX6 46 Lib.Math.max.name, .static Lib.Math.max.name, .initialized "java/lang/Math", .code Lib.Math.max.name Lib.Math.max.code 2 (some .int)] : List Cond) [(2, 13), (2, 14), (2, 15), (2, 16), (1, 16), (2, 17), (2, 18), (2, 19), (2, 8), (1, 5), (1, 6), (1, 7)] rfl (by decide +kernel)) (goodIn_sub (fun _ h => (List.mem_cons_of_mem _ (List.mem_append_left _ (List.mem_append_right _ h)))) gwX6))
set_option maxRecDepth 20000 in
theorem gX7_odds_X6_landing : GoodIn wsX7_odds (wsV RX7 203 RX6 yX6_landing wsX6_landing) := goodIn_app (goodIn_of _ (by decide +kernel)) ggX7_odds_X6_landing
set_option maxRecDepth 20000 in
set_option maxRecDepth 100000 in
theorem ggX7_odds_X6_hears : GoodIn wsX7_odds wsX6_hears := goodIn_hd (goodIn_c ch_X7_odds hc_X7_odds ([.code yX6_hears cX6_hears 3 (some .boolean)] : List Cond) [(2, 23)] rfl (by decide +kernel)) (goodIn_app (goodIn_c ch_X7_odds hc_X7_odds ([.fieldLink RX6 9 "WordFletchers$Told" "place" "[I", .methodLink RX6 70 Lib.Math.abs.name, .static Lib.Math.abs.name, .initialized "java/lang/Math", .code Lib.Math.abs.name Lib.Math.abs.code 1 (some .int), .fieldLink RX6 15 "WordFletchers$Told" "ear" "[I"] : List Cond) [(2, 13), (3, 0), (3, 1), (1, 6), (3, 2), (3, 3)] rfl (by decide +kernel)) (goodIn_sub (fun _ h => (List.mem_cons_of_mem _ (List.mem_append_left _ (List.mem_append_right _ h)))) gwX6))
set_option maxRecDepth 20000 in
theorem gX7_odds_X6_hears : GoodIn wsX7_odds (wsV RX7 197 RX6 yX6_hears wsX6_hears) := goodIn_app (goodIn_of _ (by decide +kernel)) ggX7_odds_X6_hears
set_option maxRecDepth 20000 in
set_option maxRecDepth 100000 in
theorem ggX7_odds_X7_commonDivisor : GoodIn wsX7_odds wsX7_commonDivisor := goodIn_hd (goodIn_c ch_X7_odds hc_X7_odds ([.code yX7_commonDivisor cX7_commonDivisor 3 (some .int)] : List Cond) [(3, 6)] rfl (by decide +kernel)) (goodIn_c ch_X7_odds hc_X7_odds ([.methodLink RX7 248 Lib.Math.max.name, .static Lib.Math.max.name, .initialized "java/lang/Math", .code Lib.Math.max.name Lib.Math.max.code 2 (some .int)] : List Cond) [(1, 4), (1, 5), (1, 6), (1, 7)] rfl (by decide +kernel))
set_option maxRecDepth 20000 in
theorem gX7_odds_X7_commonDivisor : GoodIn wsX7_odds (va_wsS RX7 245 yX7_commonDivisor wsX7_commonDivisor) := goodIn_app (goodIn_of _ (by decide +kernel)) ggX7_odds_X7_commonDivisor
theorem bdX7_odds_0 : decode cX7_odds 0 = .ok (.aload_n 0, 1) ∧ decode cX7_odds 1 = .ok (.iload_n 1, 1) ∧ decode cX7_odds 2 = .ok (.iload_n 2, 1) ∧ decode cX7_odds 3 = .ok (.invokevirtual 191, 3) ∧ decode cX7_odds 6 = .ok (.ifCond .eq 33, 3) ∧ decode cX7_odds 9 = .ok (.aload_n 0, 1) ∧ decode cX7_odds 10 = .ok (.getfield 29, 3) ∧ decode cX7_odds 13 = .ok (.iload_n 3, 1) := by decide +kernel
theorem dX7_odds_0 : decode cX7_odds 0 = .ok (.aload_n 0, 1) := bdX7_odds_0.1
theorem dX7_odds_1 : decode cX7_odds 1 = .ok (.iload_n 1, 1) := bdX7_odds_0.2.1
theorem dX7_odds_2 : decode cX7_odds 2 = .ok (.iload_n 2, 1) := bdX7_odds_0.2.2.1
theorem dX7_odds_3 : decode cX7_odds 3 = .ok (.invokevirtual 191, 3) := bdX7_odds_0.2.2.2.1
theorem dX7_odds_6 : decode cX7_odds 6 = .ok (.ifCond .eq 33, 3) := bdX7_odds_0.2.2.2.2.1
theorem dX7_odds_9 : decode cX7_odds 9 = .ok (.aload_n 0, 1) := bdX7_odds_0.2.2.2.2.2.1
theorem dX7_odds_10 : decode cX7_odds 10 = .ok (.getfield 29, 3) := bdX7_odds_0.2.2.2.2.2.2.1
theorem dX7_odds_13 : decode cX7_odds 13 = .ok (.iload_n 3, 1) := bdX7_odds_0.2.2.2.2.2.2.2
theorem bdX7_odds_14 : decode cX7_odds 14 = .ok (.invokevirtual 105, 3) ∧ decode cX7_odds 17 = .ok (.ifCond .eq 22, 3) ∧ decode cX7_odds 20 = .ok (.iload 4, 2) ∧ decode cX7_odds 22 = .ok (.invokestatic 200, 3) ∧ decode cX7_odds 25 = .ok (.ifCond .eq 14, 3) ∧ decode cX7_odds 28 = .ok (.iload 5, 2) ∧ decode cX7_odds 30 = .ok (.ifCond .lt 9, 3) ∧ decode cX7_odds 33 = .ok (.iload 5, 2) := by decide +kernel
theorem dX7_odds_14 : decode cX7_odds 14 = .ok (.invokevirtual 105, 3) := bdX7_odds_14.1
theorem dX7_odds_17 : decode cX7_odds 17 = .ok (.ifCond .eq 22, 3) := bdX7_odds_14.2.1
theorem dX7_odds_20 : decode cX7_odds 20 = .ok (.iload 4, 2) := bdX7_odds_14.2.2.1
theorem dX7_odds_22 : decode cX7_odds 22 = .ok (.invokestatic 200, 3) := bdX7_odds_14.2.2.2.1
theorem dX7_odds_25 : decode cX7_odds 25 = .ok (.ifCond .eq 14, 3) := bdX7_odds_14.2.2.2.2.1
theorem dX7_odds_28 : decode cX7_odds 28 = .ok (.iload 5, 2) := bdX7_odds_14.2.2.2.2.2.1
theorem dX7_odds_30 : decode cX7_odds 30 = .ok (.ifCond .lt 9, 3) := bdX7_odds_14.2.2.2.2.2.2.1
theorem dX7_odds_33 : decode cX7_odds 33 = .ok (.iload 5, 2) := bdX7_odds_14.2.2.2.2.2.2.2
theorem bdX7_odds_35 : decode cX7_odds 35 = .ok (.iconst 1, 1) ∧ decode cX7_odds 36 = .ok (.if_icmp .le 5, 3) ∧ decode cX7_odds 39 = .ok (.iconst (-1), 1) ∧ decode cX7_odds 40 = .ok (.ireturn, 1) ∧ decode cX7_odds 41 = .ok (.iconst 0, 1) ∧ decode cX7_odds 42 = .ok (.istore 6, 2) ∧ decode cX7_odds 44 = .ok (.iconst 0, 1) ∧ decode cX7_odds 45 = .ok (.istore 7, 2) := by decide +kernel
theorem dX7_odds_35 : decode cX7_odds 35 = .ok (.iconst 1, 1) := bdX7_odds_35.1
theorem dX7_odds_36 : decode cX7_odds 36 = .ok (.if_icmp .le 5, 3) := bdX7_odds_35.2.1
theorem dX7_odds_39 : decode cX7_odds 39 = .ok (.iconst (-1), 1) := bdX7_odds_35.2.2.1
theorem dX7_odds_40 : decode cX7_odds 40 = .ok (.ireturn, 1) := bdX7_odds_35.2.2.2.1
theorem dX7_odds_41 : decode cX7_odds 41 = .ok (.iconst 0, 1) := bdX7_odds_35.2.2.2.2.1
theorem dX7_odds_42 : decode cX7_odds 42 = .ok (.istore 6, 2) := bdX7_odds_35.2.2.2.2.2.1
theorem dX7_odds_44 : decode cX7_odds 44 = .ok (.iconst 0, 1) := bdX7_odds_35.2.2.2.2.2.2.1
theorem dX7_odds_45 : decode cX7_odds 45 = .ok (.istore 7, 2) := bdX7_odds_35.2.2.2.2.2.2.2
theorem bdX7_odds_47 : decode cX7_odds 47 = .ok (.iload 7, 2) ∧ decode cX7_odds 49 = .ok (.aload_n 0, 1) ∧ decode cX7_odds 50 = .ok (.getfield 29, 3) ∧ decode cX7_odds 53 = .ok (.invokevirtual 238, 3) ∧ decode cX7_odds 56 = .ok (.if_icmp .ge 51, 3) ∧ decode cX7_odds 59 = .ok (.aload_n 0, 1) ∧ decode cX7_odds 60 = .ok (.getfield 29, 3) ∧ decode cX7_odds 63 = .ok (.iload_n 2, 1) := by decide +kernel
theorem dX7_odds_47 : decode cX7_odds 47 = .ok (.iload 7, 2) := bdX7_odds_47.1
theorem dX7_odds_49 : decode cX7_odds 49 = .ok (.aload_n 0, 1) := bdX7_odds_47.2.1
theorem dX7_odds_50 : decode cX7_odds 50 = .ok (.getfield 29, 3) := bdX7_odds_47.2.2.1
theorem dX7_odds_53 : decode cX7_odds 53 = .ok (.invokevirtual 238, 3) := bdX7_odds_47.2.2.2.1
theorem dX7_odds_56 : decode cX7_odds 56 = .ok (.if_icmp .ge 51, 3) := bdX7_odds_47.2.2.2.2.1
theorem dX7_odds_59 : decode cX7_odds 59 = .ok (.aload_n 0, 1) := bdX7_odds_47.2.2.2.2.2.1
theorem dX7_odds_60 : decode cX7_odds 60 = .ok (.getfield 29, 3) := bdX7_odds_47.2.2.2.2.2.2.1
theorem dX7_odds_63 : decode cX7_odds 63 = .ok (.iload_n 2, 1) := bdX7_odds_47.2.2.2.2.2.2.2
theorem bdX7_odds_64 : decode cX7_odds 64 = .ok (.aload_n 0, 1) ∧ decode cX7_odds 65 = .ok (.getfield 29, 3) ∧ decode cX7_odds 68 = .ok (.iload_n 1, 1) ∧ decode cX7_odds 69 = .ok (.iload_n 3, 1) ∧ decode cX7_odds 70 = .ok (.iload 4, 2) ∧ decode cX7_odds 72 = .ok (.aload_n 0, 1) ∧ decode cX7_odds 73 = .ok (.getfield 29, 3) ∧ decode cX7_odds 76 = .ok (.getfield 242, 3) := by decide +kernel
theorem dX7_odds_64 : decode cX7_odds 64 = .ok (.aload_n 0, 1) := bdX7_odds_64.1
theorem dX7_odds_65 : decode cX7_odds 65 = .ok (.getfield 29, 3) := bdX7_odds_64.2.1
theorem dX7_odds_68 : decode cX7_odds 68 = .ok (.iload_n 1, 1) := bdX7_odds_64.2.2.1
theorem dX7_odds_69 : decode cX7_odds 69 = .ok (.iload_n 3, 1) := bdX7_odds_64.2.2.2.1
theorem dX7_odds_70 : decode cX7_odds 70 = .ok (.iload 4, 2) := bdX7_odds_64.2.2.2.2.1
theorem dX7_odds_72 : decode cX7_odds 72 = .ok (.aload_n 0, 1) := bdX7_odds_64.2.2.2.2.2.1
theorem dX7_odds_73 : decode cX7_odds 73 = .ok (.getfield 29, 3) := bdX7_odds_64.2.2.2.2.2.2.1
theorem dX7_odds_76 : decode cX7_odds 76 = .ok (.getfield 242, 3) := bdX7_odds_64.2.2.2.2.2.2.2
theorem bdX7_odds_79 : decode cX7_odds 79 = .ok (.iload 7, 2) ∧ decode cX7_odds 81 = .ok (.iaload, 1) ∧ decode cX7_odds 82 = .ok (.aload_n 0, 1) ∧ decode cX7_odds 83 = .ok (.getfield 39, 3) ∧ decode cX7_odds 86 = .ok (.getfield 177, 3) ∧ decode cX7_odds 89 = .ok (.invokevirtual 203, 3) ∧ decode cX7_odds 92 = .ok (.invokevirtual 197, 3) ∧ decode cX7_odds 95 = .ok (.ifCond .eq 6, 3) := by decide +kernel
theorem dX7_odds_79 : decode cX7_odds 79 = .ok (.iload 7, 2) := bdX7_odds_79.1
theorem dX7_odds_81 : decode cX7_odds 81 = .ok (.iaload, 1) := bdX7_odds_79.2.1
theorem dX7_odds_82 : decode cX7_odds 82 = .ok (.aload_n 0, 1) := bdX7_odds_79.2.2.1
theorem dX7_odds_83 : decode cX7_odds 83 = .ok (.getfield 39, 3) := bdX7_odds_79.2.2.2.1
theorem dX7_odds_86 : decode cX7_odds 86 = .ok (.getfield 177, 3) := bdX7_odds_79.2.2.2.2.1
theorem dX7_odds_89 : decode cX7_odds 89 = .ok (.invokevirtual 203, 3) := bdX7_odds_79.2.2.2.2.2.1
theorem dX7_odds_92 : decode cX7_odds 92 = .ok (.invokevirtual 197, 3) := bdX7_odds_79.2.2.2.2.2.2.1
theorem dX7_odds_95 : decode cX7_odds 95 = .ok (.ifCond .eq 6, 3) := bdX7_odds_79.2.2.2.2.2.2.2
theorem bdX7_odds_98 : decode cX7_odds 98 = .ok (.iinc 6 1, 3) ∧ decode cX7_odds 101 = .ok (.iinc 7 1, 3) ∧ decode cX7_odds 104 = .ok (.goto (-57), 3) ∧ decode cX7_odds 107 = .ok (.iconst 1, 1) ∧ decode cX7_odds 108 = .ok (.iload 6, 2) ∧ decode cX7_odds 110 = .ok (.aload_n 0, 1) ∧ decode cX7_odds 111 = .ok (.getfield 29, 3) ∧ decode cX7_odds 114 = .ok (.invokevirtual 238, 3) := by decide +kernel
theorem dX7_odds_98 : decode cX7_odds 98 = .ok (.iinc 6 1, 3) := bdX7_odds_98.1
theorem dX7_odds_101 : decode cX7_odds 101 = .ok (.iinc 7 1, 3) := bdX7_odds_98.2.1
theorem dX7_odds_104 : decode cX7_odds 104 = .ok (.goto (-57), 3) := bdX7_odds_98.2.2.1
theorem dX7_odds_107 : decode cX7_odds 107 = .ok (.iconst 1, 1) := bdX7_odds_98.2.2.2.1
theorem dX7_odds_108 : decode cX7_odds 108 = .ok (.iload 6, 2) := bdX7_odds_98.2.2.2.2.1
theorem dX7_odds_110 : decode cX7_odds 110 = .ok (.aload_n 0, 1) := bdX7_odds_98.2.2.2.2.2.1
theorem dX7_odds_111 : decode cX7_odds 111 = .ok (.getfield 29, 3) := bdX7_odds_98.2.2.2.2.2.2.1
theorem dX7_odds_114 : decode cX7_odds 114 = .ok (.invokevirtual 238, 3) := bdX7_odds_98.2.2.2.2.2.2.2
theorem bdX7_odds_117 : decode cX7_odds 117 = .ok (.invokestatic 245, 3) ∧ decode cX7_odds 120 = .ok (.invokestatic 248, 3) ∧ decode cX7_odds 123 = .ok (.istore 7, 2) ∧ decode cX7_odds 125 = .ok (.iload 5, 2) ∧ decode cX7_odds 127 = .ok (.ifCond .ne 8, 3) ∧ decode cX7_odds 130 = .ok (.iload 6, 2) ∧ decode cX7_odds 132 = .ok (.goto 10, 3) ∧ decode cX7_odds 135 = .ok (.aload_n 0, 1) := by decide +kernel
theorem dX7_odds_117 : decode cX7_odds 117 = .ok (.invokestatic 245, 3) := bdX7_odds_117.1
theorem dX7_odds_120 : decode cX7_odds 120 = .ok (.invokestatic 248, 3) := bdX7_odds_117.2.1
theorem dX7_odds_123 : decode cX7_odds 123 = .ok (.istore 7, 2) := bdX7_odds_117.2.2.1
theorem dX7_odds_125 : decode cX7_odds 125 = .ok (.iload 5, 2) := bdX7_odds_117.2.2.2.1
theorem dX7_odds_127 : decode cX7_odds 127 = .ok (.ifCond .ne 8, 3) := bdX7_odds_117.2.2.2.2.1
theorem dX7_odds_130 : decode cX7_odds 130 = .ok (.iload 6, 2) := bdX7_odds_117.2.2.2.2.2.1
theorem dX7_odds_132 : decode cX7_odds 132 = .ok (.goto 10, 3) := bdX7_odds_117.2.2.2.2.2.2.1
theorem dX7_odds_135 : decode cX7_odds 135 = .ok (.aload_n 0, 1) := bdX7_odds_117.2.2.2.2.2.2.2
theorem bdX7_odds_136 : decode cX7_odds 136 = .ok (.getfield 29, 3) ∧ decode cX7_odds 139 = .ok (.invokevirtual 238, 3) ∧ decode cX7_odds 142 = .ok (.iload 7, 2) ∧ decode cX7_odds 144 = .ok (.idiv, 1) ∧ decode cX7_odds 145 = .ok (.ireturn, 1) := by decide +kernel
theorem dX7_odds_136 : decode cX7_odds 136 = .ok (.getfield 29, 3) := bdX7_odds_136.1
theorem dX7_odds_139 : decode cX7_odds 139 = .ok (.invokevirtual 238, 3) := bdX7_odds_136.2.1
theorem dX7_odds_142 : decode cX7_odds 142 = .ok (.iload 7, 2) := bdX7_odds_136.2.2.1
theorem dX7_odds_144 : decode cX7_odds 144 = .ok (.idiv, 1) := bdX7_odds_136.2.2.2.1
theorem dX7_odds_145 : decode cX7_odds 145 = .ok (.ireturn, 1) := bdX7_odds_136.2.2.2.2
set_option maxRecDepth 20000 in
set_option maxRecDepth 100000 in
theorem ggX7_saw_X6_hasSaying : GoodIn wsX7_saw wsX6_hasSaying := goodIn_hd (goodIn_c ch_X7_saw hc_X7_saw ([.code yX6_hasSaying cX6_hasSaying 2 (some .boolean)] : List Cond) [(1, 9)] rfl (by decide +kernel)) (goodIn_app (goodIn_c ch_X7_saw hc_X7_saw ([.fieldLink RX6 40 "WordFletchers$Told" "sayings" "I"] : List Cond) [(1, 10)] rfl (by decide +kernel)) (goodIn_sub (fun _ h => (List.mem_cons_of_mem _ (List.mem_append_right _ h))) gwX6))
set_option maxRecDepth 20000 in
theorem gX7_saw_X6_hasSaying : GoodIn wsX7_saw (wsV RX7 105 RX6 yX6_hasSaying wsX6_hasSaying) := goodIn_app (goodIn_of _ (by decide +kernel)) ggX7_saw_X6_hasSaying
set_option maxRecDepth 20000 in
set_option maxRecDepth 100000 in
theorem ggX7_saw_X7_windIn : GoodIn wsX7_saw wsX7_windIn := goodIn_hd (goodIn_c ch_X7_saw hc_X7_saw ([.code yX7_windIn cX7_windIn 2 (some .int)] : List Cond) [(1, 15)] rfl (by decide +kernel)) (goodIn_app (goodIn_app (goodIn_app (goodIn_c ch_X7_saw hc_X7_saw ([.fieldLink RX7 29 "WordFletchers" "told" "LWordFletchers$Told;", .fieldLink RX7 39 "WordFletchers" "moment" "LWordFletchers$Moment;", .fieldLink RX7 174 "WordFletchers$Moment" "hour" "I", .methodLink RX7 301 yX6_windOf, .instanceMethod yX6_windOf, .selects RX6 yX6_windOf yX6_windOf, .initialized RX6, .code yX6_windOf cX6_windOf 2 (some .int), .fieldLink RX6 27 "WordFletchers$Told" "winds" "[I", .methodLink RX6 46 Lib.Math.max.name, .static Lib.Math.max.name, .initialized "java/lang/Math", .code Lib.Math.max.name Lib.Math.max.code 2 (some .int), .methodLink RX6 52 yX6_windCount, .instanceMethod yX6_windCount, .selects RX6 yX6_windCount yX6_windCount, .code yX6_windCount cX6_windCount 1 (some .int), .fieldLink RX6 43 "WordFletchers$Told" "windsTold" "I"] : List Cond) [(1, 0), (1, 3), (1, 16), (1, 17), (1, 18), (1, 19), (1, 8), (1, 20), (1, 21), (1, 22), (1, 23), (2, 0), (2, 1), (2, 2), (2, 3), (2, 4), (2, 5), (2, 6)] rfl (by decide +kernel)) (goodIn_sub (fun _ h => (List.mem_cons_of_mem _ (List.mem_append_left _ (List.mem_append_left _ (List.mem_append_left _ (List.mem_append_right _ h)))))) gwX7)) (goodIn_sub (fun _ h => (List.mem_cons_of_mem _ (List.mem_append_left _ (List.mem_append_right _ h)))) gwX2)) (goodIn_sub (fun _ h => (List.mem_cons_of_mem _ (List.mem_append_right _ h))) gwX6))
set_option maxRecDepth 20000 in
theorem gX7_saw_X7_windIn : GoodIn wsX7_saw (wsV RX7 122 RX7 yX7_windIn wsX7_windIn) := goodIn_app (goodIn_of _ (by decide +kernel)) ggX7_saw_X7_windIn
set_option maxRecDepth 20000 in
set_option maxRecDepth 100000 in
theorem ggX7_saw_X4_add : GoodIn wsX7_saw wsX4_add := goodIn_hd (goodIn_c ch_X7_saw hc_X7_saw ([.code yX4_add cX4_add 5 none] : List Cond) [(2, 11)] rfl (by decide +kernel)) (goodIn_app (goodIn_c ch_X7_saw hc_X7_saw ([.fieldLink RX4 9 "WordFletchers$Sightings" "saying" "[I", .fieldLink RX4 24 "WordFletchers$Sightings" "size" "I", .fieldLink RX4 15 "WordFletchers$Sightings" "place" "[I", .fieldLink RX4 18 "WordFletchers$Sightings" "wind" "[I", .fieldLink RX4 21 "WordFletchers$Sightings" "damp" "[I"] : List Cond) [(2, 12), (2, 13), (2, 14), (2, 15), (2, 16)] rfl (by decide +kernel)) (goodIn_sub (fun _ h => (List.mem_cons_of_mem _ (List.mem_append_left _ (List.mem_append_left _ (List.mem_append_right _ h))))) gwX4))
set_option maxRecDepth 20000 in
theorem gX7_saw_X4_add : GoodIn wsX7_saw (wsV RX7 254 RX4 yX4_add wsX4_add) := goodIn_app (goodIn_of _ (by decide +kernel)) ggX7_saw_X4_add
theorem bdX7_saw_0 : decode cX7_saw 0 = .ok (.aload_n 0, 1) ∧ decode cX7_saw 1 = .ok (.getfield 29, 3) ∧ decode cX7_saw 4 = .ok (.iload_n 1, 1) ∧ decode cX7_saw 5 = .ok (.invokevirtual 105, 3) ∧ decode cX7_saw 8 = .ok (.ifCond .eq 13, 3) ∧ decode cX7_saw 11 = .ok (.iload_n 2, 1) ∧ decode cX7_saw 12 = .ok (.ifCond .lt 9, 3) ∧ decode cX7_saw 15 = .ok (.iload_n 2, 1) := by decide +kernel
theorem dX7_saw_0 : decode cX7_saw 0 = .ok (.aload_n 0, 1) := bdX7_saw_0.1
theorem dX7_saw_1 : decode cX7_saw 1 = .ok (.getfield 29, 3) := bdX7_saw_0.2.1
theorem dX7_saw_4 : decode cX7_saw 4 = .ok (.iload_n 1, 1) := bdX7_saw_0.2.2.1
theorem dX7_saw_5 : decode cX7_saw 5 = .ok (.invokevirtual 105, 3) := bdX7_saw_0.2.2.2.1
theorem dX7_saw_8 : decode cX7_saw 8 = .ok (.ifCond .eq 13, 3) := bdX7_saw_0.2.2.2.2.1
theorem dX7_saw_11 : decode cX7_saw 11 = .ok (.iload_n 2, 1) := bdX7_saw_0.2.2.2.2.2.1
theorem dX7_saw_12 : decode cX7_saw 12 = .ok (.ifCond .lt 9, 3) := bdX7_saw_0.2.2.2.2.2.2.1
theorem dX7_saw_15 : decode cX7_saw 15 = .ok (.iload_n 2, 1) := bdX7_saw_0.2.2.2.2.2.2.2
theorem bdX7_saw_16 : decode cX7_saw 16 = .ok (.bipush 30, 2) ∧ decode cX7_saw 18 = .ok (.if_icmp .le 5, 3) ∧ decode cX7_saw 21 = .ok (.iconst (-1), 1) ∧ decode cX7_saw 22 = .ok (.ireturn, 1) ∧ decode cX7_saw 23 = .ok (.aload_n 0, 1) ∧ decode cX7_saw 24 = .ok (.getfield 59, 3) ∧ decode cX7_saw 27 = .ok (.getfield 251, 3) ∧ decode cX7_saw 30 = .ok (.iconst 4, 1) := by decide +kernel
theorem dX7_saw_16 : decode cX7_saw 16 = .ok (.bipush 30, 2) := bdX7_saw_16.1
theorem dX7_saw_18 : decode cX7_saw 18 = .ok (.if_icmp .le 5, 3) := bdX7_saw_16.2.1
theorem dX7_saw_21 : decode cX7_saw 21 = .ok (.iconst (-1), 1) := bdX7_saw_16.2.2.1
theorem dX7_saw_22 : decode cX7_saw 22 = .ok (.ireturn, 1) := bdX7_saw_16.2.2.2.1
theorem dX7_saw_23 : decode cX7_saw 23 = .ok (.aload_n 0, 1) := bdX7_saw_16.2.2.2.2.1
theorem dX7_saw_24 : decode cX7_saw 24 = .ok (.getfield 59, 3) := bdX7_saw_16.2.2.2.2.2.1
theorem dX7_saw_27 : decode cX7_saw 27 = .ok (.getfield 251, 3) := bdX7_saw_16.2.2.2.2.2.2.1
theorem dX7_saw_30 : decode cX7_saw 30 = .ok (.iconst 4, 1) := bdX7_saw_16.2.2.2.2.2.2.2
theorem bdX7_saw_31 : decode cX7_saw 31 = .ok (.if_icmp .lt 6, 3) ∧ decode cX7_saw 34 = .ok (.bipush (-3), 2) ∧ decode cX7_saw 36 = .ok (.ireturn, 1) ∧ decode cX7_saw 37 = .ok (.aload_n 0, 1) ∧ decode cX7_saw 38 = .ok (.getfield 59, 3) ∧ decode cX7_saw 41 = .ok (.iload_n 1, 1) ∧ decode cX7_saw 42 = .ok (.iload_n 2, 1) ∧ decode cX7_saw 43 = .ok (.aload_n 0, 1) := by decide +kernel
theorem dX7_saw_31 : decode cX7_saw 31 = .ok (.if_icmp .lt 6, 3) := bdX7_saw_31.1
theorem dX7_saw_34 : decode cX7_saw 34 = .ok (.bipush (-3), 2) := bdX7_saw_31.2.1
theorem dX7_saw_36 : decode cX7_saw 36 = .ok (.ireturn, 1) := bdX7_saw_31.2.2.1
theorem dX7_saw_37 : decode cX7_saw 37 = .ok (.aload_n 0, 1) := bdX7_saw_31.2.2.2.1
theorem dX7_saw_38 : decode cX7_saw 38 = .ok (.getfield 59, 3) := bdX7_saw_31.2.2.2.2.1
theorem dX7_saw_41 : decode cX7_saw 41 = .ok (.iload_n 1, 1) := bdX7_saw_31.2.2.2.2.2.1
theorem dX7_saw_42 : decode cX7_saw 42 = .ok (.iload_n 2, 1) := bdX7_saw_31.2.2.2.2.2.2.1
theorem dX7_saw_43 : decode cX7_saw 43 = .ok (.aload_n 0, 1) := bdX7_saw_31.2.2.2.2.2.2.2
theorem bdX7_saw_44 : decode cX7_saw 44 = .ok (.iconst 0, 1) ∧ decode cX7_saw 45 = .ok (.invokevirtual 122, 3) ∧ decode cX7_saw 48 = .ok (.aload_n 0, 1) ∧ decode cX7_saw 49 = .ok (.getfield 39, 3) ∧ decode cX7_saw 52 = .ok (.getfield 177, 3) ∧ decode cX7_saw 55 = .ok (.invokevirtual 254, 3) ∧ decode cX7_saw 58 = .ok (.aload_n 0, 1) ∧ decode cX7_saw 59 = .ok (.getfield 59, 3) := by decide +kernel
theorem dX7_saw_44 : decode cX7_saw 44 = .ok (.iconst 0, 1) := bdX7_saw_44.1
theorem dX7_saw_45 : decode cX7_saw 45 = .ok (.invokevirtual 122, 3) := bdX7_saw_44.2.1
theorem dX7_saw_48 : decode cX7_saw 48 = .ok (.aload_n 0, 1) := bdX7_saw_44.2.2.1
theorem dX7_saw_49 : decode cX7_saw 49 = .ok (.getfield 39, 3) := bdX7_saw_44.2.2.2.1
theorem dX7_saw_52 : decode cX7_saw 52 = .ok (.getfield 177, 3) := bdX7_saw_44.2.2.2.2.1
theorem dX7_saw_55 : decode cX7_saw 55 = .ok (.invokevirtual 254, 3) := bdX7_saw_44.2.2.2.2.2.1
theorem dX7_saw_58 : decode cX7_saw 58 = .ok (.aload_n 0, 1) := bdX7_saw_44.2.2.2.2.2.2.1
theorem dX7_saw_59 : decode cX7_saw 59 = .ok (.getfield 59, 3) := bdX7_saw_44.2.2.2.2.2.2.2
theorem bdX7_saw_62 : decode cX7_saw 62 = .ok (.getfield 251, 3) ∧ decode cX7_saw 65 = .ok (.ireturn, 1) := by decide +kernel
theorem dX7_saw_62 : decode cX7_saw 62 = .ok (.getfield 251, 3) := bdX7_saw_62.1
theorem dX7_saw_65 : decode cX7_saw 65 = .ok (.ireturn, 1) := bdX7_saw_62.2
theorem bdX7_forget_0 : decode cX7_forget 0 = .ok (.aload_n 0, 1) ∧ decode cX7_forget 1 = .ok (.getfield 59, 3) ∧ decode cX7_forget 4 = .ok (.getfield 251, 3) ∧ decode cX7_forget 7 = .ok (.istore_n 1, 1) ∧ decode cX7_forget 8 = .ok (.aload_n 0, 1) ∧ decode cX7_forget 9 = .ok (.getfield 59, 3) ∧ decode cX7_forget 12 = .ok (.iconst 0, 1) ∧ decode cX7_forget 13 = .ok (.putfield 251, 3) := by decide +kernel
theorem dX7_forget_0 : decode cX7_forget 0 = .ok (.aload_n 0, 1) := bdX7_forget_0.1
theorem dX7_forget_1 : decode cX7_forget 1 = .ok (.getfield 59, 3) := bdX7_forget_0.2.1
theorem dX7_forget_4 : decode cX7_forget 4 = .ok (.getfield 251, 3) := bdX7_forget_0.2.2.1
theorem dX7_forget_7 : decode cX7_forget 7 = .ok (.istore_n 1, 1) := bdX7_forget_0.2.2.2.1
theorem dX7_forget_8 : decode cX7_forget 8 = .ok (.aload_n 0, 1) := bdX7_forget_0.2.2.2.2.1
theorem dX7_forget_9 : decode cX7_forget 9 = .ok (.getfield 59, 3) := bdX7_forget_0.2.2.2.2.2.1
theorem dX7_forget_12 : decode cX7_forget 12 = .ok (.iconst 0, 1) := bdX7_forget_0.2.2.2.2.2.2.1
theorem dX7_forget_13 : decode cX7_forget 13 = .ok (.putfield 251, 3) := bdX7_forget_0.2.2.2.2.2.2.2
theorem bdX7_forget_16 : decode cX7_forget 16 = .ok (.iload_n 1, 1) ∧ decode cX7_forget 17 = .ok (.ireturn, 1) := by decide +kernel
theorem dX7_forget_16 : decode cX7_forget 16 = .ok (.iload_n 1, 1) := bdX7_forget_16.1
theorem dX7_forget_17 : decode cX7_forget 17 = .ok (.ireturn, 1) := bdX7_forget_16.2
set_option maxRecDepth 20000 in
set_option maxRecDepth 100000 in
theorem ggX7_who_X7_suspects : GoodIn wsX7_who wsX7_suspects := goodIn_hd (goodIn_c ch_X7_who hc_X7_who ([.code yX7_suspects cX7_suspects 3 (some .int)] : List Cond) [(1, 4)] rfl (by decide +kernel)) (goodIn_app (goodIn_app (goodIn_app (goodIn_app (goodIn_c ch_X7_who hc_X7_who wsX7_suspects_r1 [(1, 5), (1, 6), (1, 7), (1, 8), (1, 9), (1, 3), (1, 10), (1, 11), (1, 12), (1, 13), (1, 14), (1, 15), (1, 16), (1, 17), (1, 18), (1, 19), (1, 20), (1, 21), (1, 22), (1, 23), (2, 0), (2, 1), (2, 2), (2, 3)] rfl (by decide +kernel)) (goodIn_c ch_X7_who hc_X7_who wsX7_suspects_r2 [(2, 4), (2, 5), (2, 6), (2, 7), (2, 8), (2, 9), (2, 10), (2, 11), (2, 12), (2, 13), (2, 14), (2, 15)] rfl (by decide +kernel))) (goodIn_sub (fun _ h => (List.mem_cons_of_mem _ (List.mem_append_left _ (List.mem_append_left _ (List.mem_append_right _ h))))) gwX7)) (goodIn_sub (fun _ h => (List.mem_cons_of_mem _ (List.mem_append_left _ (List.mem_append_right _ h)))) gwX6)) (goodIn_sub (fun _ h => (List.mem_cons_of_mem _ (List.mem_append_right _ h))) gwX4))
set_option maxRecDepth 20000 in
theorem gX7_who_X7_suspects : GoodIn wsX7_who (wsV RX7 258 RX7 yX7_suspects wsX7_suspects) := goodIn_app (goodIn_of _ (by decide +kernel)) ggX7_who_X7_suspects
theorem bdX7_who_0 : decode cX7_who 0 = .ok (.aload_n 0, 1) ∧ decode cX7_who 1 = .ok (.invokevirtual 258, 3) ∧ decode cX7_who 4 = .ok (.ireturn, 1) := by decide +kernel
theorem dX7_who_0 : decode cX7_who 0 = .ok (.aload_n 0, 1) := bdX7_who_0.1
theorem dX7_who_1 : decode cX7_who 1 = .ok (.invokevirtual 258, 3) := bdX7_who_0.2.1
theorem dX7_who_4 : decode cX7_who 4 = .ok (.ireturn, 1) := bdX7_who_0.2.2
set_option maxRecDepth 20000 in
set_option maxRecDepth 100000 in
theorem ggX7_ask_X7_suspects : GoodIn wsX7_ask wsX7_suspects := goodIn_hd (goodIn_c ch_X7_ask hc_X7_ask ([.code yX7_suspects cX7_suspects 3 (some .int)] : List Cond) [(1, 6)] rfl (by decide +kernel)) (goodIn_app (goodIn_app (goodIn_app (goodIn_app (goodIn_c ch_X7_ask hc_X7_ask wsX7_suspects_r1 [(1, 0), (1, 7), (1, 8), (1, 9), (1, 10), (1, 5), (1, 11), (1, 12), (1, 13), (1, 14), (1, 15), (1, 16), (1, 17), (1, 18), (1, 19), (1, 20), (1, 21), (1, 22), (1, 23), (2, 0), (2, 1), (2, 2), (2, 3), (2, 4)] rfl (by decide +kernel)) (goodIn_c ch_X7_ask hc_X7_ask wsX7_suspects_r2 [(2, 5), (2, 6), (2, 7), (2, 8), (2, 9), (2, 10), (2, 11), (2, 12), (2, 13), (2, 14), (2, 15), (2, 16)] rfl (by decide +kernel))) (goodIn_sub (fun _ h => (List.mem_cons_of_mem _ (List.mem_append_left _ (List.mem_append_left _ (List.mem_append_left _ (List.mem_append_right _ h)))))) gwX7)) (goodIn_sub (fun _ h => (List.mem_cons_of_mem _ (List.mem_append_left _ (List.mem_append_left _ (List.mem_append_right _ h))))) gwX6)) (goodIn_sub (fun _ h => (List.mem_cons_of_mem _ (List.mem_append_left _ (List.mem_append_right _ h)))) gwX4))
set_option maxRecDepth 20000 in
theorem gX7_ask_X7_suspects : GoodIn wsX7_ask (wsV RX7 258 RX7 yX7_suspects wsX7_suspects) := goodIn_app (goodIn_of _ (by decide +kernel)) ggX7_ask_X7_suspects
set_option maxRecDepth 20000 in
set_option maxRecDepth 100000 in
theorem ggX7_ask_J6_bitCount_0f7a4 : GoodIn wsX7_ask wsJ6_bitCount_0f7a4 := goodIn_hd (goodIn_c ch_X7_ask hc_X7_ask ([.code yJ6_bitCount_0f7a4 cJ6_bitCount_0f7a4 1 (some .int)] : List Cond) [(2, 20)] rfl (by decide +kernel)) (goodIn_c ch_X7_ask hc_X7_ask ([.constant RJ6 265 (1431655765), .constant RJ6 266 (858993459), .constant RJ6 267 (252645135)] : List Cond) [(2, 21), (2, 22), (2, 23)] rfl (by decide +kernel))
set_option maxRecDepth 20000 in
theorem gX7_ask_J6_bitCount_0f7a4 : GoodIn wsX7_ask (va_wsS RX7 261 yJ6_bitCount_0f7a4 wsJ6_bitCount_0f7a4) := goodIn_app (goodIn_of _ (by decide +kernel)) ggX7_ask_J6_bitCount_0f7a4
set_option maxRecDepth 20000 in
set_option maxRecDepth 100000 in
theorem ggX7_ask_X7_mostAlike : GoodIn wsX7_ask wsX7_mostAlike := goodIn_hd (goodIn_c ch_X7_ask hc_X7_ask ([.code yX7_mostAlike cX7_mostAlike 5 (some .int)] : List Cond) [(3, 3)] rfl (by decide +kernel)) (goodIn_app (goodIn_app (goodIn_app (goodIn_app (goodIn_c ch_X7_ask hc_X7_ask wsX7_mostAlike_r1 [(1, 0), (1, 7), (3, 4), (3, 5), (3, 6), (3, 7), (2, 11), (2, 12), (2, 13), (3, 8), (3, 9), (3, 10), (1, 5), (3, 11), (3, 12), (3, 13), (3, 14), (3, 15), (1, 21), (3, 16), (3, 17), (2, 10), (3, 18), (3, 19)] rfl (by decide +kernel)) (goodIn_app (goodIn_c ch_X7_ask hc_X7_ask wsX7_mostAlike_r2 [(3, 20), (3, 21), (3, 22), (1, 18), (1, 19), (1, 20), (1, 22), (1, 23), (2, 0), (2, 1), (2, 2), (2, 3), (2, 4), (2, 5), (2, 6), (2, 7), (2, 8), (2, 9), (2, 17), (2, 18), (2, 19), (2, 20), (2, 21), (2, 22)] rfl (by decide +kernel)) (goodIn_c ch_X7_ask hc_X7_ask wsX7_mostAlike_r3 [(2, 23), (3, 23), (4, 0), (4, 1), (4, 2), (2, 14), (2, 15), (2, 16)] rfl (by decide +kernel)))) (goodIn_sub (fun _ h => (List.mem_cons_of_mem _ (List.mem_append_left _ (List.mem_append_left _ (List.mem_append_left _ (List.mem_append_right _ h)))))) gwX7)) (goodIn_sub (fun _ h => (List.mem_cons_of_mem _ (List.mem_append_left _ (List.mem_append_left _ (List.mem_append_right _ h))))) gwX6)) (goodIn_sub (fun _ h => (List.mem_cons_of_mem _ (List.mem_append_right _ h))) gwX2))
set_option maxRecDepth 20000 in
theorem gX7_ask_X7_mostAlike : GoodIn wsX7_ask (wsV RX7 266 RX7 yX7_mostAlike wsX7_mostAlike) := goodIn_app (goodIn_of _ (by decide +kernel)) ggX7_ask_X7_mostAlike
theorem bdX7_ask_0 : decode cX7_ask 0 = .ok (.aload_n 0, 1) ∧ decode cX7_ask 1 = .ok (.invokevirtual 258, 3) ∧ decode cX7_ask 4 = .ok (.istore_n 1, 1) ∧ decode cX7_ask 5 = .ok (.iload_n 1, 1) ∧ decode cX7_ask 6 = .ok (.invokestatic 261, 3) ∧ decode cX7_ask 9 = .ok (.iconst 2, 1) ∧ decode cX7_ask 10 = .ok (.if_icmp .ge 6, 3) ∧ decode cX7_ask 13 = .ok (.bipush (-9), 2) := by decide +kernel
theorem dX7_ask_0 : decode cX7_ask 0 = .ok (.aload_n 0, 1) := bdX7_ask_0.1
theorem dX7_ask_1 : decode cX7_ask 1 = .ok (.invokevirtual 258, 3) := bdX7_ask_0.2.1
theorem dX7_ask_4 : decode cX7_ask 4 = .ok (.istore_n 1, 1) := bdX7_ask_0.2.2.1
theorem dX7_ask_5 : decode cX7_ask 5 = .ok (.iload_n 1, 1) := bdX7_ask_0.2.2.2.1
theorem dX7_ask_6 : decode cX7_ask 6 = .ok (.invokestatic 261, 3) := bdX7_ask_0.2.2.2.2.1
theorem dX7_ask_9 : decode cX7_ask 9 = .ok (.iconst 2, 1) := bdX7_ask_0.2.2.2.2.2.1
theorem dX7_ask_10 : decode cX7_ask 10 = .ok (.if_icmp .ge 6, 3) := bdX7_ask_0.2.2.2.2.2.2.1
theorem dX7_ask_13 : decode cX7_ask 13 = .ok (.bipush (-9), 2) := bdX7_ask_0.2.2.2.2.2.2.2
theorem bdX7_ask_15 : decode cX7_ask 15 = .ok (.ireturn, 1) ∧ decode cX7_ask 16 = .ok (.bipush (-9), 2) ∧ decode cX7_ask 18 = .ok (.istore_n 2, 1) ∧ decode cX7_ask 19 = .ok (.bipush 7, 2) ∧ decode cX7_ask 21 = .ok (.istore_n 3, 1) ∧ decode cX7_ask 22 = .ok (.iconst 0, 1) ∧ decode cX7_ask 23 = .ok (.istore 4, 2) ∧ decode cX7_ask 25 = .ok (.iload 4, 2) := by decide +kernel
theorem dX7_ask_15 : decode cX7_ask 15 = .ok (.ireturn, 1) := bdX7_ask_15.1
theorem dX7_ask_16 : decode cX7_ask 16 = .ok (.bipush (-9), 2) := bdX7_ask_15.2.1
theorem dX7_ask_18 : decode cX7_ask 18 = .ok (.istore_n 2, 1) := bdX7_ask_15.2.2.1
theorem dX7_ask_19 : decode cX7_ask 19 = .ok (.bipush 7, 2) := bdX7_ask_15.2.2.2.1
theorem dX7_ask_21 : decode cX7_ask 21 = .ok (.istore_n 3, 1) := bdX7_ask_15.2.2.2.2.1
theorem dX7_ask_22 : decode cX7_ask 22 = .ok (.iconst 0, 1) := bdX7_ask_15.2.2.2.2.2.1
theorem dX7_ask_23 : decode cX7_ask 23 = .ok (.istore 4, 2) := bdX7_ask_15.2.2.2.2.2.2.1
theorem dX7_ask_25 : decode cX7_ask 25 = .ok (.iload 4, 2) := bdX7_ask_15.2.2.2.2.2.2.2
theorem bdX7_ask_27 : decode cX7_ask 27 = .ok (.aload_n 0, 1) ∧ decode cX7_ask 28 = .ok (.getfield 29, 3) ∧ decode cX7_ask 31 = .ok (.getfield 219, 3) ∧ decode cX7_ask 34 = .ok (.if_icmp .ge 30, 3) ∧ decode cX7_ask 37 = .ok (.aload_n 0, 1) ∧ decode cX7_ask 38 = .ok (.iload_n 1, 1) ∧ decode cX7_ask 39 = .ok (.iload 4, 2) ∧ decode cX7_ask 41 = .ok (.invokevirtual 266, 3) := by decide +kernel
theorem dX7_ask_27 : decode cX7_ask 27 = .ok (.aload_n 0, 1) := bdX7_ask_27.1
theorem dX7_ask_28 : decode cX7_ask 28 = .ok (.getfield 29, 3) := bdX7_ask_27.2.1
theorem dX7_ask_31 : decode cX7_ask 31 = .ok (.getfield 219, 3) := bdX7_ask_27.2.2.1
theorem dX7_ask_34 : decode cX7_ask 34 = .ok (.if_icmp .ge 30, 3) := bdX7_ask_27.2.2.2.1
theorem dX7_ask_37 : decode cX7_ask 37 = .ok (.aload_n 0, 1) := bdX7_ask_27.2.2.2.2.1
theorem dX7_ask_38 : decode cX7_ask 38 = .ok (.iload_n 1, 1) := bdX7_ask_27.2.2.2.2.2.1
theorem dX7_ask_39 : decode cX7_ask 39 = .ok (.iload 4, 2) := bdX7_ask_27.2.2.2.2.2.2.1
theorem dX7_ask_41 : decode cX7_ask 41 = .ok (.invokevirtual 266, 3) := bdX7_ask_27.2.2.2.2.2.2.2
theorem bdX7_ask_44 : decode cX7_ask 44 = .ok (.istore 5, 2) ∧ decode cX7_ask 46 = .ok (.iload 5, 2) ∧ decode cX7_ask 48 = .ok (.iload_n 3, 1) ∧ decode cX7_ask 49 = .ok (.if_icmp .ge 9, 3) ∧ decode cX7_ask 52 = .ok (.iload 5, 2) ∧ decode cX7_ask 54 = .ok (.istore_n 3, 1) ∧ decode cX7_ask 55 = .ok (.iload 4, 2) ∧ decode cX7_ask 57 = .ok (.istore_n 2, 1) := by decide +kernel
theorem dX7_ask_44 : decode cX7_ask 44 = .ok (.istore 5, 2) := bdX7_ask_44.1
theorem dX7_ask_46 : decode cX7_ask 46 = .ok (.iload 5, 2) := bdX7_ask_44.2.1
theorem dX7_ask_48 : decode cX7_ask 48 = .ok (.iload_n 3, 1) := bdX7_ask_44.2.2.1
theorem dX7_ask_49 : decode cX7_ask 49 = .ok (.if_icmp .ge 9, 3) := bdX7_ask_44.2.2.2.1
theorem dX7_ask_52 : decode cX7_ask 52 = .ok (.iload 5, 2) := bdX7_ask_44.2.2.2.2.1
theorem dX7_ask_54 : decode cX7_ask 54 = .ok (.istore_n 3, 1) := bdX7_ask_44.2.2.2.2.2.1
theorem dX7_ask_55 : decode cX7_ask 55 = .ok (.iload 4, 2) := bdX7_ask_44.2.2.2.2.2.2.1
theorem dX7_ask_57 : decode cX7_ask 57 = .ok (.istore_n 2, 1) := bdX7_ask_44.2.2.2.2.2.2.2
theorem bdX7_ask_58 : decode cX7_ask 58 = .ok (.iinc 4 1, 3) ∧ decode cX7_ask 61 = .ok (.goto (-36), 3) ∧ decode cX7_ask 64 = .ok (.iload_n 2, 1) ∧ decode cX7_ask 65 = .ok (.ireturn, 1) := by decide +kernel
theorem dX7_ask_58 : decode cX7_ask 58 = .ok (.iinc 4 1, 3) := bdX7_ask_58.1
theorem dX7_ask_61 : decode cX7_ask 61 = .ok (.goto (-36), 3) := bdX7_ask_58.2.1
theorem dX7_ask_64 : decode cX7_ask 64 = .ok (.iload_n 2, 1) := bdX7_ask_58.2.2.1
theorem dX7_ask_65 : decode cX7_ask 65 = .ok (.ireturn, 1) := bdX7_ask_58.2.2.2
set_option maxRecDepth 20000 in
set_option maxRecDepth 100000 in
theorem ggX7_mark_X6_hasOne : GoodIn wsX7_mark wsX6_hasOne := goodIn_hd (goodIn_c ch_X7_mark hc_X7_mark ([.code yX6_hasOne cX6_hasOne 2 (some .boolean)] : List Cond) [(1, 6)] rfl (by decide +kernel)) (goodIn_app (goodIn_c ch_X7_mark hc_X7_mark ([.fieldLink RX6 36 "WordFletchers$Told" "people" "I"] : List Cond) [(1, 7)] rfl (by decide +kernel)) (goodIn_sub (fun _ h => (List.mem_cons_of_mem _ (List.mem_append_left _ (List.mem_append_right _ h)))) gwX6))
set_option maxRecDepth 20000 in
theorem gX7_mark_X6_hasOne : GoodIn wsX7_mark (wsV RX7 92 RX6 yX6_hasOne wsX6_hasOne) := goodIn_app (goodIn_of _ (by decide +kernel)) ggX7_mark_X6_hasOne
set_option maxRecDepth 20000 in
set_option maxRecDepth 100000 in
theorem ggX7_mark_X7_markOfOne : GoodIn wsX7_mark wsX7_markOfOne := goodIn_hd (goodIn_c ch_X7_mark hc_X7_mark ([.code yX7_markOfOne cX7_markOfOne 2 (some .int)] : List Cond) [(1, 12)] rfl (by decide +kernel)) (goodIn_app (goodIn_app (goodIn_c ch_X7_mark hc_X7_mark ([.fieldLink RX7 76 "WordFletchers" "traced" "J", .fieldLink RX7 29 "WordFletchers" "told" "LWordFletchers$Told;", .fieldLink RX7 96 "WordFletchers$Told" "place" "[I"] : List Cond) [(1, 13), (1, 0), (1, 14)] rfl (by decide +kernel)) (goodIn_sub (fun _ h => (List.mem_cons_of_mem _ (List.mem_append_left _ (List.mem_append_left _ (List.mem_append_right _ h))))) gwX7)) (goodIn_sub (fun _ h => (List.mem_cons_of_mem _ (List.mem_append_left _ (List.mem_append_right _ h)))) gwX6))
set_option maxRecDepth 20000 in
theorem gX7_mark_X7_markOfOne : GoodIn wsX7_mark (wsV RX7 269 RX7 yX7_markOfOne wsX7_markOfOne) := goodIn_app (goodIn_of _ (by decide +kernel)) ggX7_mark_X7_markOfOne
set_option maxRecDepth 20000 in
set_option maxRecDepth 100000 in
theorem ggX7_mark_X7_markOfSuitor : GoodIn wsX7_mark wsX7_markOfSuitor := goodIn_hd (goodIn_c ch_X7_mark hc_X7_mark ([.code yX7_markOfSuitor cX7_markOfSuitor 2 (some .int)] : List Cond) [(1, 18)] rfl (by decide +kernel)) (goodIn_app (goodIn_app (goodIn_app (goodIn_c ch_X7_mark hc_X7_mark ([.fieldLink RX7 76 "WordFletchers" "traced" "J", .constantLong RX7 342 (10), .fieldLink RX7 39 "WordFletchers" "moment" "LWordFletchers$Moment;", .fieldLink RX7 102 "WordFletchers$Moment" "knows" "[I", .methodLink RX7 269 yX7_markOfOne, .instanceMethod yX7_markOfOne, .selects RX7 yX7_markOfOne yX7_markOfOne, .initialized RX7, .code yX7_markOfOne cX7_markOfOne 2 (some .int), .fieldLink RX7 29 "WordFletchers" "told" "LWordFletchers$Told;", .fieldLink RX7 96 "WordFletchers$Told" "place" "[I", .methodLink RX7 261 yJ6_bitCount_0f7a4, .static yJ6_bitCount_0f7a4, .initialized RJ6, .code yJ6_bitCount_0f7a4 cJ6_bitCount_0f7a4 1 (some .int), .constant RJ6 265 (1431655765), .constant RJ6 266 (858993459), .constant RJ6 267 (252645135)] : List Cond) [(1, 13), (1, 19), (1, 20), (1, 21), (1, 8), (1, 9), (1, 10), (1, 11), (1, 12), (1, 0), (1, 14), (1, 22), (1, 23), (2, 0), (2, 1), (2, 2), (2, 3), (2, 4)] rfl (by decide +kernel)) (goodIn_sub (fun _ h => (List.mem_cons_of_mem _ (List.mem_append_left _ (List.mem_append_left _ (List.mem_append_right _ h))))) gwX7)) (goodIn_sub (fun _ h => (List.mem_cons_of_mem _ (List.mem_append_right _ h))) gwX2)) (goodIn_sub (fun _ h => (List.mem_cons_of_mem _ (List.mem_append_left _ (List.mem_append_right _ h)))) gwX6))
set_option maxRecDepth 20000 in
theorem gX7_mark_X7_markOfSuitor : GoodIn wsX7_mark (wsV RX7 272 RX7 yX7_markOfSuitor wsX7_markOfSuitor) := goodIn_app (goodIn_of _ (by decide +kernel)) ggX7_mark_X7_markOfSuitor
set_option maxRecDepth 20000 in
set_option maxRecDepth 100000 in
theorem ggX7_mark_X7_markOfLiar : GoodIn wsX7_mark wsX7_markOfLiar := goodIn_hd (goodIn_c ch_X7_mark hc_X7_mark ([.code yX7_markOfLiar cX7_markOfLiar 2 (some .int)] : List Cond) [(2, 8)] rfl (by decide +kernel)) (goodIn_app (goodIn_app (goodIn_app (goodIn_c ch_X7_mark hc_X7_mark ([.fieldLink RX7 76 "WordFletchers" "traced" "J", .constantLong RX7 344 (100), .fieldLink RX7 39 "WordFletchers" "moment" "LWordFletchers$Moment;", .fieldLink RX7 177 "WordFletchers$Moment" "damp" "I", .methodLink RX7 269 yX7_markOfOne, .instanceMethod yX7_markOfOne, .selects RX7 yX7_markOfOne yX7_markOfOne, .initialized RX7, .code yX7_markOfOne cX7_markOfOne 2 (some .int), .fieldLink RX7 29 "WordFletchers" "told" "LWordFletchers$Told;", .fieldLink RX7 96 "WordFletchers$Told" "place" "[I"] : List Cond) [(1, 13), (2, 9), (1, 20), (2, 10), (1, 8), (1, 9), (1, 10), (1, 11), (1, 12), (1, 0), (1, 14)] rfl (by decide +kernel)) (goodIn_sub (fun _ h => (List.mem_cons_of_mem _ (List.mem_append_left _ (List.mem_append_left _ (List.mem_append_right _ h))))) gwX7)) (goodIn_sub (fun _ h => (List.mem_cons_of_mem _ (List.mem_append_right _ h))) gwX2)) (goodIn_sub (fun _ h => (List.mem_cons_of_mem _ (List.mem_append_left _ (List.mem_append_right _ h)))) gwX6))
set_option maxRecDepth 20000 in
theorem gX7_mark_X7_markOfLiar : GoodIn wsX7_mark (wsV RX7 275 RX7 yX7_markOfLiar wsX7_markOfLiar) := goodIn_app (goodIn_of _ (by decide +kernel)) ggX7_mark_X7_markOfLiar
set_option maxRecDepth 20000 in
set_option maxRecDepth 100000 in
theorem ggX7_mark_X7_markOfPoet : GoodIn wsX7_mark wsX7_markOfPoet := goodIn_hd (goodIn_c ch_X7_mark hc_X7_mark ([.code yX7_markOfPoet cX7_markOfPoet 2 (some .int)] : List Cond) [(2, 14)] rfl (by decide +kernel)) (goodIn_app (goodIn_app (goodIn_app (goodIn_c ch_X7_mark hc_X7_mark ([.fieldLink RX7 76 "WordFletchers" "traced" "J", .constantLong RX7 346 (1000), .methodLink RX7 272 yX7_markOfSuitor, .instanceMethod yX7_markOfSuitor, .selects RX7 yX7_markOfSuitor yX7_markOfSuitor, .initialized RX7, .code yX7_markOfSuitor cX7_markOfSuitor 2 (some .int), .constantLong RX7 342 (10), .fieldLink RX7 39 "WordFletchers" "moment" "LWordFletchers$Moment;", .fieldLink RX7 102 "WordFletchers$Moment" "knows" "[I", .methodLink RX7 269 yX7_markOfOne, .instanceMethod yX7_markOfOne, .selects RX7 yX7_markOfOne yX7_markOfOne, .code yX7_markOfOne cX7_markOfOne 2 (some .int), .fieldLink RX7 29 "WordFletchers" "told" "LWordFletchers$Told;", .fieldLink RX7 96 "WordFletchers$Told" "place" "[I", .methodLink RX7 261 yJ6_bitCount_0f7a4, .static yJ6_bitCount_0f7a4, .initialized RJ6, .code yJ6_bitCount_0f7a4 cJ6_bitCount_0f7a4 1 (some .int), .constant RJ6 265 (1431655765), .constant RJ6 266 (858993459), .constant RJ6 267 (252645135)] : List Cond) [(1, 13), (2, 15), (1, 15), (1, 16), (1, 17), (1, 11), (1, 18), (1, 19), (1, 20), (1, 21), (1, 8), (1, 9), (1, 10), (1, 12), (1, 0), (1, 14), (1, 22), (1, 23), (2, 0), (2, 1), (2, 2), (2, 3), (2, 4)] rfl (by decide +kernel)) (goodIn_sub (fun _ h => (List.mem_cons_of_mem _ (List.mem_append_left _ (List.mem_append_left _ (List.mem_append_right _ h))))) gwX7)) (goodIn_sub (fun _ h => (List.mem_cons_of_mem _ (List.mem_append_right _ h))) gwX2)) (goodIn_sub (fun _ h => (List.mem_cons_of_mem _ (List.mem_append_left _ (List.mem_append_right _ h)))) gwX6))
set_option maxRecDepth 20000 in
theorem gX7_mark_X7_markOfPoet : GoodIn wsX7_mark (wsV RX7 278 RX7 yX7_markOfPoet wsX7_markOfPoet) := goodIn_app (goodIn_of _ (by decide +kernel)) ggX7_mark_X7_markOfPoet
set_option maxRecDepth 20000 in
set_option maxRecDepth 100000 in
theorem ggX7_mark_X7_markOfLawyer : GoodIn wsX7_mark wsX7_markOfLawyer := goodIn_hd (goodIn_c ch_X7_mark hc_X7_mark ([.code yX7_markOfLawyer cX7_markOfLawyer 2 (some .int)] : List Cond) [(2, 19)] rfl (by decide +kernel)) (goodIn_app (goodIn_app (goodIn_app (goodIn_c ch_X7_mark hc_X7_mark ([.fieldLink RX7 76 "WordFletchers" "traced" "J", .constantLong RX7 348 (10000), .methodLink RX7 275 yX7_markOfLiar, .instanceMethod yX7_markOfLiar, .selects RX7 yX7_markOfLiar yX7_markOfLiar, .initialized RX7, .code yX7_markOfLiar cX7_markOfLiar 2 (some .int), .constantLong RX7 344 (100), .fieldLink RX7 39 "WordFletchers" "moment" "LWordFletchers$Moment;", .fieldLink RX7 177 "WordFletchers$Moment" "damp" "I", .methodLink RX7 269 yX7_markOfOne, .instanceMethod yX7_markOfOne, .selects RX7 yX7_markOfOne yX7_markOfOne, .code yX7_markOfOne cX7_markOfOne 2 (some .int), .fieldLink RX7 29 "WordFletchers" "told" "LWordFletchers$Told;", .fieldLink RX7 96 "WordFletchers$Told" "place" "[I"] : List Cond) [(1, 13), (2, 20), (2, 5), (2, 6), (2, 7), (1, 11), (2, 8), (2, 9), (1, 20), (2, 10), (1, 8), (1, 9), (1, 10), (1, 12), (1, 0), (1, 14)] rfl (by decide +kernel)) (goodIn_sub (fun _ h => (List.mem_cons_of_mem _ (List.mem_append_left _ (List.mem_append_left _ (List.mem_append_right _ h))))) gwX7)) (goodIn_sub (fun _ h => (List.mem_cons_of_mem _ (List.mem_append_right _ h))) gwX2)) (goodIn_sub (fun _ h => (List.mem_cons_of_mem _ (List.mem_append_left _ (List.mem_append_right _ h)))) gwX6))
set_option maxRecDepth 20000 in
theorem gX7_mark_X7_markOfLawyer : GoodIn wsX7_mark (wsV RX7 281 RX7 yX7_markOfLawyer wsX7_markOfLawyer) := goodIn_app (goodIn_of _ (by decide +kernel)) ggX7_mark_X7_markOfLawyer
set_option maxRecDepth 20000 in
set_option maxRecDepth 100000 in
theorem ggX7_mark_X7_markOfGoose : GoodIn wsX7_mark wsX7_markOfGoose := goodIn_hd (goodIn_c ch_X7_mark hc_X7_mark ([.code yX7_markOfGoose cX7_markOfGoose 2 (some .int)] : List Cond) [(3, 0)] rfl (by decide +kernel)) (goodIn_app (goodIn_app (goodIn_app (goodIn_c ch_X7_mark hc_X7_mark ([.fieldLink RX7 76 "WordFletchers" "traced" "J", .constantLong RX7 350 (100000), .fieldLink RX7 39 "WordFletchers" "moment" "LWordFletchers$Moment;", .methodLink RX7 269 yX7_markOfOne, .instanceMethod yX7_markOfOne, .selects RX7 yX7_markOfOne yX7_markOfOne, .initialized RX7, .code yX7_markOfOne cX7_markOfOne 2 (some .int), .fieldLink RX7 29 "WordFletchers" "told" "LWordFletchers$Told;", .fieldLink RX7 96 "WordFletchers$Told" "place" "[I", .methodLink RX7 352 yX2_allFeathers, .instanceMethod yX2_allFeathers, .selects RX2 yX2_allFeathers yX2_allFeathers, .initialized RX2, .code yX2_allFeathers cX2_allFeathers 3 (some .int), .fieldLink RX2 9 "WordFletchers$Moment" "feathers" "[I"] : List Cond) [(1, 13), (3, 1), (1, 20), (1, 8), (1, 9), (1, 10), (1, 11), (1, 12), (1, 0), (1, 14), (3, 2), (3, 3), (3, 4), (3, 5), (3, 6), (3, 7)] rfl (by decide +kernel)) (goodIn_sub (fun _ h => (List.mem_cons_of_mem _ (List.mem_append_left _ (List.mem_append_left _ (List.mem_append_right _ h))))) gwX7)) (goodIn_sub (fun _ h => (List.mem_cons_of_mem _ (List.mem_append_left _ (List.mem_append_right _ h)))) gwX6)) (goodIn_sub (fun _ h => (List.mem_cons_of_mem _ (List.mem_append_right _ h))) gwX2))
set_option maxRecDepth 20000 in
theorem gX7_mark_X7_markOfGoose : GoodIn wsX7_mark (wsV RX7 284 RX7 yX7_markOfGoose wsX7_markOfGoose) := goodIn_app (goodIn_of _ (by decide +kernel)) ggX7_mark_X7_markOfGoose
theorem bdX7_mark_0 : decode cX7_mark 0 = .ok (.aload_n 0, 1) ∧ decode cX7_mark 1 = .ok (.getfield 29, 3) ∧ decode cX7_mark 4 = .ok (.iload_n 2, 1) ∧ decode cX7_mark 5 = .ok (.invokevirtual 92, 3) ∧ decode cX7_mark 8 = .ok (.ifCond .ne 6, 3) ∧ decode cX7_mark 11 = .ok (.ldc 121, 2) ∧ decode cX7_mark 13 = .ok (.ireturn, 1) ∧ decode cX7_mark 14 = .ok (.iload_n 1, 1) := by decide +kernel
theorem dX7_mark_0 : decode cX7_mark 0 = .ok (.aload_n 0, 1) := bdX7_mark_0.1
theorem dX7_mark_1 : decode cX7_mark 1 = .ok (.getfield 29, 3) := bdX7_mark_0.2.1
theorem dX7_mark_4 : decode cX7_mark 4 = .ok (.iload_n 2, 1) := bdX7_mark_0.2.2.1
theorem dX7_mark_5 : decode cX7_mark 5 = .ok (.invokevirtual 92, 3) := bdX7_mark_0.2.2.2.1
theorem dX7_mark_8 : decode cX7_mark 8 = .ok (.ifCond .ne 6, 3) := bdX7_mark_0.2.2.2.2.1
theorem dX7_mark_11 : decode cX7_mark 11 = .ok (.ldc 121, 2) := bdX7_mark_0.2.2.2.2.2.1
theorem dX7_mark_13 : decode cX7_mark 13 = .ok (.ireturn, 1) := bdX7_mark_0.2.2.2.2.2.2.1
theorem dX7_mark_14 : decode cX7_mark 14 = .ok (.iload_n 1, 1) := bdX7_mark_0.2.2.2.2.2.2.2
theorem bdX7_mark_15 : decode cX7_mark 15 = .ok (.tableswitch 73 0 5 #[37, 43, 49, 55, 61, 67], 37) ∧ decode cX7_mark 52 = .ok (.aload_n 0, 1) ∧ decode cX7_mark 53 = .ok (.iload_n 2, 1) ∧ decode cX7_mark 54 = .ok (.invokevirtual 269, 3) ∧ decode cX7_mark 57 = .ok (.ireturn, 1) ∧ decode cX7_mark 58 = .ok (.aload_n 0, 1) ∧ decode cX7_mark 59 = .ok (.iload_n 2, 1) ∧ decode cX7_mark 60 = .ok (.invokevirtual 272, 3) := by decide +kernel
theorem dX7_mark_15 : decode cX7_mark 15 = .ok (.tableswitch 73 0 5 #[37, 43, 49, 55, 61, 67], 37) := bdX7_mark_15.1
theorem dX7_mark_52 : decode cX7_mark 52 = .ok (.aload_n 0, 1) := bdX7_mark_15.2.1
theorem dX7_mark_53 : decode cX7_mark 53 = .ok (.iload_n 2, 1) := bdX7_mark_15.2.2.1
theorem dX7_mark_54 : decode cX7_mark 54 = .ok (.invokevirtual 269, 3) := bdX7_mark_15.2.2.2.1
theorem dX7_mark_57 : decode cX7_mark 57 = .ok (.ireturn, 1) := bdX7_mark_15.2.2.2.2.1
theorem dX7_mark_58 : decode cX7_mark 58 = .ok (.aload_n 0, 1) := bdX7_mark_15.2.2.2.2.2.1
theorem dX7_mark_59 : decode cX7_mark 59 = .ok (.iload_n 2, 1) := bdX7_mark_15.2.2.2.2.2.2.1
theorem dX7_mark_60 : decode cX7_mark 60 = .ok (.invokevirtual 272, 3) := bdX7_mark_15.2.2.2.2.2.2.2
theorem bdX7_mark_63 : decode cX7_mark 63 = .ok (.ireturn, 1) ∧ decode cX7_mark 64 = .ok (.aload_n 0, 1) ∧ decode cX7_mark 65 = .ok (.iload_n 2, 1) ∧ decode cX7_mark 66 = .ok (.invokevirtual 275, 3) ∧ decode cX7_mark 69 = .ok (.ireturn, 1) ∧ decode cX7_mark 70 = .ok (.aload_n 0, 1) ∧ decode cX7_mark 71 = .ok (.iload_n 2, 1) ∧ decode cX7_mark 72 = .ok (.invokevirtual 278, 3) := by decide +kernel
theorem dX7_mark_63 : decode cX7_mark 63 = .ok (.ireturn, 1) := bdX7_mark_63.1
theorem dX7_mark_64 : decode cX7_mark 64 = .ok (.aload_n 0, 1) := bdX7_mark_63.2.1
theorem dX7_mark_65 : decode cX7_mark 65 = .ok (.iload_n 2, 1) := bdX7_mark_63.2.2.1
theorem dX7_mark_66 : decode cX7_mark 66 = .ok (.invokevirtual 275, 3) := bdX7_mark_63.2.2.2.1
theorem dX7_mark_69 : decode cX7_mark 69 = .ok (.ireturn, 1) := bdX7_mark_63.2.2.2.2.1
theorem dX7_mark_70 : decode cX7_mark 70 = .ok (.aload_n 0, 1) := bdX7_mark_63.2.2.2.2.2.1
theorem dX7_mark_71 : decode cX7_mark 71 = .ok (.iload_n 2, 1) := bdX7_mark_63.2.2.2.2.2.2.1
theorem dX7_mark_72 : decode cX7_mark 72 = .ok (.invokevirtual 278, 3) := bdX7_mark_63.2.2.2.2.2.2.2
theorem bdX7_mark_75 : decode cX7_mark 75 = .ok (.ireturn, 1) ∧ decode cX7_mark 76 = .ok (.aload_n 0, 1) ∧ decode cX7_mark 77 = .ok (.iload_n 2, 1) ∧ decode cX7_mark 78 = .ok (.invokevirtual 281, 3) ∧ decode cX7_mark 81 = .ok (.ireturn, 1) ∧ decode cX7_mark 82 = .ok (.aload_n 0, 1) ∧ decode cX7_mark 83 = .ok (.iload_n 2, 1) ∧ decode cX7_mark 84 = .ok (.invokevirtual 284, 3) := by decide +kernel
theorem dX7_mark_75 : decode cX7_mark 75 = .ok (.ireturn, 1) := bdX7_mark_75.1
theorem dX7_mark_76 : decode cX7_mark 76 = .ok (.aload_n 0, 1) := bdX7_mark_75.2.1
theorem dX7_mark_77 : decode cX7_mark 77 = .ok (.iload_n 2, 1) := bdX7_mark_75.2.2.1
theorem dX7_mark_78 : decode cX7_mark 78 = .ok (.invokevirtual 281, 3) := bdX7_mark_75.2.2.2.1
theorem dX7_mark_81 : decode cX7_mark 81 = .ok (.ireturn, 1) := bdX7_mark_75.2.2.2.2.1
theorem dX7_mark_82 : decode cX7_mark 82 = .ok (.aload_n 0, 1) := bdX7_mark_75.2.2.2.2.2.1
theorem dX7_mark_83 : decode cX7_mark 83 = .ok (.iload_n 2, 1) := bdX7_mark_75.2.2.2.2.2.2.1
theorem dX7_mark_84 : decode cX7_mark 84 = .ok (.invokevirtual 284, 3) := bdX7_mark_75.2.2.2.2.2.2.2
theorem bdX7_mark_87 : decode cX7_mark 87 = .ok (.ireturn, 1) ∧ decode cX7_mark 88 = .ok (.ldc 121, 2) ∧ decode cX7_mark 90 = .ok (.ireturn, 1) := by decide +kernel
theorem dX7_mark_87 : decode cX7_mark 87 = .ok (.ireturn, 1) := bdX7_mark_87.1
theorem dX7_mark_88 : decode cX7_mark 88 = .ok (.ldc 121, 2) := bdX7_mark_87.2.1
theorem dX7_mark_90 : decode cX7_mark 90 = .ok (.ireturn, 1) := bdX7_mark_87.2.2
set_option maxRecDepth 20000 in
set_option maxRecDepth 100000 in
theorem ggX7_keep_X1_take : GoodIn wsX7_keep wsX1_take := goodIn_hd (goodIn_c ch_X7_keep hc_X7_keep ([.code yX1_take cX1_take 3 none] : List Cond) [(1, 8)] rfl (by decide +kernel)) (goodIn_app (goodIn_app (goodIn_app (goodIn_app (goodIn_c ch_X7_keep hc_X7_keep wsX1_take_r1 [(1, 9), (1, 10), (1, 11), (1, 12), (1, 13), (1, 14), (1, 15), (1, 16), (1, 17), (1, 18), (1, 19), (1, 20), (1, 21), (1, 22), (1, 23), (2, 0), (2, 1), (2, 2), (2, 3), (2, 4), (2, 5), (2, 6), (2, 7), (2, 8)] rfl (by decide +kernel)) (goodIn_c ch_X7_keep hc_X7_keep wsX1_take_r2 [(2, 9), (2, 10), (2, 11)] rfl (by decide +kernel))) (goodIn_sub (fun _ h => (List.mem_cons_of_mem _ (List.mem_append_left _ (List.mem_append_right _ h)))) gwX1)) (goodIn_sub (fun _ h => (List.mem_cons_of_mem _ (List.mem_append_left _ (List.mem_append_left _ (List.mem_append_right _ h))))) gwX2)) (goodIn_sub (fun _ h => (List.mem_cons_of_mem _ (List.mem_append_right _ h))) gwX3))
set_option maxRecDepth 20000 in
theorem gX7_keep_X1_take : GoodIn wsX7_keep (wsV RX7 287 RX1 yX1_take wsX1_take) := goodIn_app (goodIn_of _ (by decide +kernel)) ggX7_keep_X1_take
theorem bdX7_keep_0 : decode cX7_keep 0 = .ok (.iload_n 1, 1) ∧ decode cX7_keep 1 = .ok (.ifCond .lt 8, 3) ∧ decode cX7_keep 4 = .ok (.iload_n 1, 1) ∧ decode cX7_keep 5 = .ok (.iconst 2, 1) ∧ decode cX7_keep 6 = .ok (.if_icmp .lt 5, 3) ∧ decode cX7_keep 9 = .ok (.iconst (-1), 1) ∧ decode cX7_keep 10 = .ok (.ireturn, 1) ∧ decode cX7_keep 11 = .ok (.aload_n 0, 1) := by decide +kernel
theorem dX7_keep_0 : decode cX7_keep 0 = .ok (.iload_n 1, 1) := bdX7_keep_0.1
theorem dX7_keep_1 : decode cX7_keep 1 = .ok (.ifCond .lt 8, 3) := bdX7_keep_0.2.1
theorem dX7_keep_4 : decode cX7_keep 4 = .ok (.iload_n 1, 1) := bdX7_keep_0.2.2.1
theorem dX7_keep_5 : decode cX7_keep 5 = .ok (.iconst 2, 1) := bdX7_keep_0.2.2.2.1
theorem dX7_keep_6 : decode cX7_keep 6 = .ok (.if_icmp .lt 5, 3) := bdX7_keep_0.2.2.2.2.1
theorem dX7_keep_9 : decode cX7_keep 9 = .ok (.iconst (-1), 1) := bdX7_keep_0.2.2.2.2.2.1
theorem dX7_keep_10 : decode cX7_keep 10 = .ok (.ireturn, 1) := bdX7_keep_0.2.2.2.2.2.2.1
theorem dX7_keep_11 : decode cX7_keep 11 = .ok (.aload_n 0, 1) := bdX7_keep_0.2.2.2.2.2.2.2
theorem bdX7_keep_12 : decode cX7_keep 12 = .ok (.getfield 52, 3) ∧ decode cX7_keep 15 = .ok (.iload_n 1, 1) ∧ decode cX7_keep 16 = .ok (.aaload, 1) ∧ decode cX7_keep 17 = .ok (.aload_n 0, 1) ∧ decode cX7_keep 18 = .ok (.getfield 39, 3) ∧ decode cX7_keep 21 = .ok (.aload_n 0, 1) ∧ decode cX7_keep 22 = .ok (.getfield 46, 3) ∧ decode cX7_keep 25 = .ok (.invokevirtual 287, 3) := by decide +kernel
theorem dX7_keep_12 : decode cX7_keep 12 = .ok (.getfield 52, 3) := bdX7_keep_12.1
theorem dX7_keep_15 : decode cX7_keep 15 = .ok (.iload_n 1, 1) := bdX7_keep_12.2.1
theorem dX7_keep_16 : decode cX7_keep 16 = .ok (.aaload, 1) := bdX7_keep_12.2.2.1
theorem dX7_keep_17 : decode cX7_keep 17 = .ok (.aload_n 0, 1) := bdX7_keep_12.2.2.2.1
theorem dX7_keep_18 : decode cX7_keep 18 = .ok (.getfield 39, 3) := bdX7_keep_12.2.2.2.2.1
theorem dX7_keep_21 : decode cX7_keep 21 = .ok (.aload_n 0, 1) := bdX7_keep_12.2.2.2.2.2.1
theorem dX7_keep_22 : decode cX7_keep 22 = .ok (.getfield 46, 3) := bdX7_keep_12.2.2.2.2.2.2.1
theorem dX7_keep_25 : decode cX7_keep 25 = .ok (.invokevirtual 287, 3) := bdX7_keep_12.2.2.2.2.2.2.2
theorem bdX7_keep_28 : decode cX7_keep 28 = .ok (.aload_n 0, 1) ∧ decode cX7_keep 29 = .ok (.getfield 39, 3) ∧ decode cX7_keep 32 = .ok (.getfield 174, 3) ∧ decode cX7_keep 35 = .ok (.ireturn, 1) := by decide +kernel
theorem dX7_keep_28 : decode cX7_keep 28 = .ok (.aload_n 0, 1) := bdX7_keep_28.1
theorem dX7_keep_29 : decode cX7_keep 29 = .ok (.getfield 39, 3) := bdX7_keep_28.2.1
theorem dX7_keep_32 : decode cX7_keep 32 = .ok (.getfield 174, 3) := bdX7_keep_28.2.2.1
theorem dX7_keep_35 : decode cX7_keep 35 = .ok (.ireturn, 1) := bdX7_keep_28.2.2.2
set_option maxRecDepth 20000 in
set_option maxRecDepth 100000 in
theorem ggX7_back_X1_give : GoodIn wsX7_back wsX1_give := goodIn_hd (goodIn_c ch_X7_back hc_X7_back ([.code yX1_give cX1_give 3 none] : List Cond) [(1, 9)] rfl (by decide +kernel)) (goodIn_app (goodIn_app (goodIn_app (goodIn_app (goodIn_c ch_X7_back hc_X7_back wsX1_give_r1 [(1, 10), (1, 11), (1, 12), (1, 13), (1, 14), (1, 15), (1, 16), (1, 17), (1, 18), (1, 19), (1, 20), (1, 21), (1, 22), (1, 23), (2, 0), (2, 1), (2, 2), (2, 3), (2, 4), (2, 5), (2, 6), (2, 7), (2, 8), (2, 9)] rfl (by decide +kernel)) (goodIn_c ch_X7_back hc_X7_back wsX1_give_r2 [(2, 10), (2, 11)] rfl (by decide +kernel))) (goodIn_sub (fun _ h => (List.mem_cons_of_mem _ (List.mem_append_left _ (List.mem_append_left _ (List.mem_append_right _ h))))) gwX1)) (goodIn_sub (fun _ h => (List.mem_cons_of_mem _ (List.mem_append_left _ (List.mem_append_right _ h)))) gwX2)) (goodIn_sub (fun _ h => (List.mem_cons_of_mem _ (List.mem_append_right _ h))) gwX3))
set_option maxRecDepth 20000 in
theorem gX7_back_X1_give : GoodIn wsX7_back (wsV RX7 295 RX1 yX1_give wsX1_give) := goodIn_app (goodIn_of _ (by decide +kernel)) ggX7_back_X1_give
theorem bdX7_back_0 : decode cX7_back 0 = .ok (.iload_n 1, 1) ∧ decode cX7_back 1 = .ok (.ifCond .lt 8, 3) ∧ decode cX7_back 4 = .ok (.iload_n 1, 1) ∧ decode cX7_back 5 = .ok (.iconst 2, 1) ∧ decode cX7_back 6 = .ok (.if_icmp .lt 5, 3) ∧ decode cX7_back 9 = .ok (.iconst (-1), 1) ∧ decode cX7_back 10 = .ok (.ireturn, 1) ∧ decode cX7_back 11 = .ok (.aload_n 0, 1) := by decide +kernel
theorem dX7_back_0 : decode cX7_back 0 = .ok (.iload_n 1, 1) := bdX7_back_0.1
theorem dX7_back_1 : decode cX7_back 1 = .ok (.ifCond .lt 8, 3) := bdX7_back_0.2.1
theorem dX7_back_4 : decode cX7_back 4 = .ok (.iload_n 1, 1) := bdX7_back_0.2.2.1
theorem dX7_back_5 : decode cX7_back 5 = .ok (.iconst 2, 1) := bdX7_back_0.2.2.2.1
theorem dX7_back_6 : decode cX7_back 6 = .ok (.if_icmp .lt 5, 3) := bdX7_back_0.2.2.2.2.1
theorem dX7_back_9 : decode cX7_back 9 = .ok (.iconst (-1), 1) := bdX7_back_0.2.2.2.2.2.1
theorem dX7_back_10 : decode cX7_back 10 = .ok (.ireturn, 1) := bdX7_back_0.2.2.2.2.2.2.1
theorem dX7_back_11 : decode cX7_back 11 = .ok (.aload_n 0, 1) := bdX7_back_0.2.2.2.2.2.2.2
theorem bdX7_back_12 : decode cX7_back 12 = .ok (.getfield 52, 3) ∧ decode cX7_back 15 = .ok (.iload_n 1, 1) ∧ decode cX7_back 16 = .ok (.aaload, 1) ∧ decode cX7_back 17 = .ok (.getfield 291, 3) ∧ decode cX7_back 20 = .ok (.ifCond .ne 6, 3) ∧ decode cX7_back 23 = .ok (.bipush (-2), 2) ∧ decode cX7_back 25 = .ok (.ireturn, 1) ∧ decode cX7_back 26 = .ok (.aload_n 0, 1) := by decide +kernel
theorem dX7_back_12 : decode cX7_back 12 = .ok (.getfield 52, 3) := bdX7_back_12.1
theorem dX7_back_15 : decode cX7_back 15 = .ok (.iload_n 1, 1) := bdX7_back_12.2.1
theorem dX7_back_16 : decode cX7_back 16 = .ok (.aaload, 1) := bdX7_back_12.2.2.1
theorem dX7_back_17 : decode cX7_back 17 = .ok (.getfield 291, 3) := bdX7_back_12.2.2.2.1
theorem dX7_back_20 : decode cX7_back 20 = .ok (.ifCond .ne 6, 3) := bdX7_back_12.2.2.2.2.1
theorem dX7_back_23 : decode cX7_back 23 = .ok (.bipush (-2), 2) := bdX7_back_12.2.2.2.2.2.1
theorem dX7_back_25 : decode cX7_back 25 = .ok (.ireturn, 1) := bdX7_back_12.2.2.2.2.2.2.1
theorem dX7_back_26 : decode cX7_back 26 = .ok (.aload_n 0, 1) := bdX7_back_12.2.2.2.2.2.2.2
theorem bdX7_back_27 : decode cX7_back 27 = .ok (.getfield 52, 3) ∧ decode cX7_back 30 = .ok (.iload_n 1, 1) ∧ decode cX7_back 31 = .ok (.aaload, 1) ∧ decode cX7_back 32 = .ok (.aload_n 0, 1) ∧ decode cX7_back 33 = .ok (.getfield 39, 3) ∧ decode cX7_back 36 = .ok (.aload_n 0, 1) ∧ decode cX7_back 37 = .ok (.getfield 46, 3) ∧ decode cX7_back 40 = .ok (.invokevirtual 295, 3) := by decide +kernel
theorem dX7_back_27 : decode cX7_back 27 = .ok (.getfield 52, 3) := bdX7_back_27.1
theorem dX7_back_30 : decode cX7_back 30 = .ok (.iload_n 1, 1) := bdX7_back_27.2.1
theorem dX7_back_31 : decode cX7_back 31 = .ok (.aaload, 1) := bdX7_back_27.2.2.1
theorem dX7_back_32 : decode cX7_back 32 = .ok (.aload_n 0, 1) := bdX7_back_27.2.2.2.1
theorem dX7_back_33 : decode cX7_back 33 = .ok (.getfield 39, 3) := bdX7_back_27.2.2.2.2.1
theorem dX7_back_36 : decode cX7_back 36 = .ok (.aload_n 0, 1) := bdX7_back_27.2.2.2.2.2.1
theorem dX7_back_37 : decode cX7_back 37 = .ok (.getfield 46, 3) := bdX7_back_27.2.2.2.2.2.2.1
theorem dX7_back_40 : decode cX7_back 40 = .ok (.invokevirtual 295, 3) := bdX7_back_27.2.2.2.2.2.2.2
theorem bdX7_back_43 : decode cX7_back 43 = .ok (.aload_n 0, 1) ∧ decode cX7_back 44 = .ok (.getfield 39, 3) ∧ decode cX7_back 47 = .ok (.getfield 174, 3) ∧ decode cX7_back 50 = .ok (.ireturn, 1) := by decide +kernel
theorem dX7_back_43 : decode cX7_back 43 = .ok (.aload_n 0, 1) := bdX7_back_43.1
theorem dX7_back_44 : decode cX7_back 44 = .ok (.getfield 39, 3) := bdX7_back_43.2.1
theorem dX7_back_47 : decode cX7_back 47 = .ok (.getfield 174, 3) := bdX7_back_43.2.2.1
theorem dX7_back_50 : decode cX7_back 50 = .ok (.ireturn, 1) := bdX7_back_43.2.2.2
set_option maxRecDepth 20000 in
set_option maxRecDepth 100000 in
theorem ggX7_count_X6_windCount : GoodIn wsX7_count wsX6_windCount := goodIn_hd (goodIn_c ch_X7_count hc_X7_count ([.code yX6_windCount cX6_windCount 1 (some .int)] : List Cond) [(1, 12)] rfl (by decide +kernel)) (goodIn_app (goodIn_c ch_X7_count hc_X7_count ([.fieldLink RX6 43 "WordFletchers$Told" "windsTold" "I", .methodLink RX6 46 Lib.Math.max.name, .static Lib.Math.max.name, .initialized "java/lang/Math", .code Lib.Math.max.name Lib.Math.max.code 2 (some .int)] : List Cond) [(1, 13), (1, 14), (1, 15), (1, 16), (1, 17)] rfl (by decide +kernel)) (goodIn_sub (fun _ h => (List.mem_cons_of_mem _ (List.mem_append_left _ (List.mem_append_left _ (List.mem_append_right _ h))))) gwX6))
set_option maxRecDepth 20000 in
theorem gX7_count_X6_windCount : GoodIn wsX7_count (wsV RX7 238 RX6 yX6_windCount wsX6_windCount) := goodIn_app (goodIn_of _ (by decide +kernel)) ggX7_count_X6_windCount
theorem bdX7_count_0 : decode cX7_count 0 = .ok (.iload_n 1, 1) ∧ decode cX7_count 1 = .ok (.tableswitch 84 0 5 #[39, 47, 55, 63, 71, 79], 39) ∧ decode cX7_count 40 = .ok (.aload_n 0, 1) ∧ decode cX7_count 41 = .ok (.getfield 29, 3) ∧ decode cX7_count 44 = .ok (.getfield 298, 3) ∧ decode cX7_count 47 = .ok (.ireturn, 1) ∧ decode cX7_count 48 = .ok (.aload_n 0, 1) ∧ decode cX7_count 49 = .ok (.getfield 29, 3) := by decide +kernel
theorem dX7_count_0 : decode cX7_count 0 = .ok (.iload_n 1, 1) := bdX7_count_0.1
theorem dX7_count_1 : decode cX7_count 1 = .ok (.tableswitch 84 0 5 #[39, 47, 55, 63, 71, 79], 39) := bdX7_count_0.2.1
theorem dX7_count_40 : decode cX7_count 40 = .ok (.aload_n 0, 1) := bdX7_count_0.2.2.1
theorem dX7_count_41 : decode cX7_count 41 = .ok (.getfield 29, 3) := bdX7_count_0.2.2.2.1
theorem dX7_count_44 : decode cX7_count 44 = .ok (.getfield 298, 3) := bdX7_count_0.2.2.2.2.1
theorem dX7_count_47 : decode cX7_count 47 = .ok (.ireturn, 1) := bdX7_count_0.2.2.2.2.2.1
theorem dX7_count_48 : decode cX7_count 48 = .ok (.aload_n 0, 1) := bdX7_count_0.2.2.2.2.2.2.1
theorem dX7_count_49 : decode cX7_count 49 = .ok (.getfield 29, 3) := bdX7_count_0.2.2.2.2.2.2.2
theorem bdX7_count_52 : decode cX7_count 52 = .ok (.getfield 219, 3) ∧ decode cX7_count 55 = .ok (.ireturn, 1) ∧ decode cX7_count 56 = .ok (.aload_n 0, 1) ∧ decode cX7_count 57 = .ok (.getfield 29, 3) ∧ decode cX7_count 60 = .ok (.invokevirtual 238, 3) ∧ decode cX7_count 63 = .ok (.ireturn, 1) ∧ decode cX7_count 64 = .ok (.aload_n 0, 1) ∧ decode cX7_count 65 = .ok (.getfield 59, 3) := by decide +kernel
theorem dX7_count_52 : decode cX7_count 52 = .ok (.getfield 219, 3) := bdX7_count_52.1
theorem dX7_count_55 : decode cX7_count 55 = .ok (.ireturn, 1) := bdX7_count_52.2.1
theorem dX7_count_56 : decode cX7_count 56 = .ok (.aload_n 0, 1) := bdX7_count_52.2.2.1
theorem dX7_count_57 : decode cX7_count 57 = .ok (.getfield 29, 3) := bdX7_count_52.2.2.2.1
theorem dX7_count_60 : decode cX7_count 60 = .ok (.invokevirtual 238, 3) := bdX7_count_52.2.2.2.2.1
theorem dX7_count_63 : decode cX7_count 63 = .ok (.ireturn, 1) := bdX7_count_52.2.2.2.2.2.1
theorem dX7_count_64 : decode cX7_count 64 = .ok (.aload_n 0, 1) := bdX7_count_52.2.2.2.2.2.2.1
theorem dX7_count_65 : decode cX7_count 65 = .ok (.getfield 59, 3) := bdX7_count_52.2.2.2.2.2.2.2
theorem bdX7_count_68 : decode cX7_count 68 = .ok (.getfield 251, 3) ∧ decode cX7_count 71 = .ok (.ireturn, 1) ∧ decode cX7_count 72 = .ok (.aload_n 0, 1) ∧ decode cX7_count 73 = .ok (.getfield 46, 3) ∧ decode cX7_count 76 = .ok (.getfield 185, 3) ∧ decode cX7_count 79 = .ok (.ireturn, 1) ∧ decode cX7_count 80 = .ok (.aload_n 0, 1) ∧ decode cX7_count 81 = .ok (.getfield 13, 3) := by decide +kernel
theorem dX7_count_68 : decode cX7_count 68 = .ok (.getfield 251, 3) := bdX7_count_68.1
theorem dX7_count_71 : decode cX7_count 71 = .ok (.ireturn, 1) := bdX7_count_68.2.1
theorem dX7_count_72 : decode cX7_count 72 = .ok (.aload_n 0, 1) := bdX7_count_68.2.2.1
theorem dX7_count_73 : decode cX7_count 73 = .ok (.getfield 46, 3) := bdX7_count_68.2.2.2.1
theorem dX7_count_76 : decode cX7_count 76 = .ok (.getfield 185, 3) := bdX7_count_68.2.2.2.2.1
theorem dX7_count_79 : decode cX7_count 79 = .ok (.ireturn, 1) := bdX7_count_68.2.2.2.2.2.1
theorem dX7_count_80 : decode cX7_count 80 = .ok (.aload_n 0, 1) := bdX7_count_68.2.2.2.2.2.2.1
theorem dX7_count_81 : decode cX7_count 81 = .ok (.getfield 13, 3) := bdX7_count_68.2.2.2.2.2.2.2
theorem bdX7_count_84 : decode cX7_count 84 = .ok (.ireturn, 1) ∧ decode cX7_count 85 = .ok (.iconst (-1), 1) ∧ decode cX7_count 86 = .ok (.ireturn, 1) := by decide +kernel
theorem dX7_count_84 : decode cX7_count 84 = .ok (.ireturn, 1) := bdX7_count_84.1
theorem dX7_count_85 : decode cX7_count 85 = .ok (.iconst (-1), 1) := bdX7_count_84.2.1
theorem dX7_count_86 : decode cX7_count 86 = .ok (.ireturn, 1) := bdX7_count_84.2.2
theorem bdX7_trace_0 : decode cX7_trace 0 = .ok (.aload_n 0, 1) ∧ decode cX7_trace 1 = .ok (.getfield 76, 3) ∧ decode cX7_trace 4 = .ok (.lreturn, 1) := by decide +kernel
theorem dX7_trace_0 : decode cX7_trace 0 = .ok (.aload_n 0, 1) := bdX7_trace_0.1
theorem dX7_trace_1 : decode cX7_trace 1 = .ok (.getfield 76, 3) := bdX7_trace_0.2.1
theorem dX7_trace_4 : decode cX7_trace 4 = .ok (.lreturn, 1) := bdX7_trace_0.2.2
set_option maxRecDepth 20000 in
set_option maxRecDepth 100000 in
theorem ggX7_beginAnew_X2_begin : GoodIn wsX7_beginAnew wsX2_begin := goodIn_hd (goodIn_c ch_X7_beginAnew hc_X7_beginAnew ([.code yX2_begin cX2_begin 3 none] : List Cond) [(1, 12)] rfl (by decide +kernel)) (goodIn_app (goodIn_app (goodIn_c ch_X7_beginAnew hc_X7_beginAnew ([.fieldLink RX2 24 "WordFletchers$Moment" "hour" "I", .fieldLink RX2 28 "WordFletchers$Moment" "damp" "I", .fieldLink RX2 31 "WordFletchers$Moment" "strays" "I", .fieldLink RX2 9 "WordFletchers$Moment" "feathers" "[I", .fieldLink RX2 34 "WordFletchers$Told" "feathers" "[I", .fieldLink RX2 15 "WordFletchers$Moment" "knows" "[I", .fieldLink RX2 37 "WordFletchers$Told" "sayings" "I", .fieldLink RX2 40 "WordFletchers$Told" "first" "[I", .methodLink RX2 43 yX2_tell, .instanceMethod yX2_tell, .selects RX2 yX2_tell yX2_tell, .initialized RX2, .code yX2_tell cX2_tell 4 none, .static yX7_isIn, .initialized RX7, .code yX7_isIn cX7_isIn 2 (some .boolean)] : List Cond) [(1, 13), (1, 14), (1, 15), (1, 16), (1, 17), (1, 18), (1, 19), (1, 20), (1, 21), (1, 22), (1, 23), (1, 11), (2, 0), (2, 1), (2, 2), (2, 3)] rfl (by decide +kernel)) (goodIn_sub (fun _ h => (List.mem_cons_of_mem _ (List.mem_append_left _ (List.mem_append_right _ h)))) gwX2)) (goodIn_sub (fun _ h => (List.mem_cons_of_mem _ (List.mem_append_right _ h))) gwX6))
set_option maxRecDepth 20000 in
theorem gX7_beginAnew_X2_begin : GoodIn wsX7_beginAnew (wsV RX7 81 RX2 yX2_begin wsX2_begin) := goodIn_app (goodIn_of _ (by decide +kernel)) ggX7_beginAnew_X2_begin
theorem bdX7_beginAnew_0 : decode cX7_beginAnew 0 = .ok (.aload_n 0, 1) ∧ decode cX7_beginAnew 1 = .ok (.getfield 39, 3) ∧ decode cX7_beginAnew 4 = .ok (.aload_n 0, 1) ∧ decode cX7_beginAnew 5 = .ok (.getfield 29, 3) ∧ decode cX7_beginAnew 8 = .ok (.invokevirtual 81, 3) ∧ decode cX7_beginAnew 11 = .ok (.aload_n 0, 1) ∧ decode cX7_beginAnew 12 = .ok (.getfield 46, 3) ∧ decode cX7_beginAnew 15 = .ok (.iconst 0, 1) := by decide +kernel
theorem dX7_beginAnew_0 : decode cX7_beginAnew 0 = .ok (.aload_n 0, 1) := bdX7_beginAnew_0.1
theorem dX7_beginAnew_1 : decode cX7_beginAnew 1 = .ok (.getfield 39, 3) := bdX7_beginAnew_0.2.1
theorem dX7_beginAnew_4 : decode cX7_beginAnew 4 = .ok (.aload_n 0, 1) := bdX7_beginAnew_0.2.2.1
theorem dX7_beginAnew_5 : decode cX7_beginAnew 5 = .ok (.getfield 29, 3) := bdX7_beginAnew_0.2.2.2.1
theorem dX7_beginAnew_8 : decode cX7_beginAnew 8 = .ok (.invokevirtual 81, 3) := bdX7_beginAnew_0.2.2.2.2.1
theorem dX7_beginAnew_11 : decode cX7_beginAnew 11 = .ok (.aload_n 0, 1) := bdX7_beginAnew_0.2.2.2.2.2.1
theorem dX7_beginAnew_12 : decode cX7_beginAnew 12 = .ok (.getfield 46, 3) := bdX7_beginAnew_0.2.2.2.2.2.2.1
theorem dX7_beginAnew_15 : decode cX7_beginAnew 15 = .ok (.iconst 0, 1) := bdX7_beginAnew_0.2.2.2.2.2.2.2
theorem bdX7_beginAnew_16 : decode cX7_beginAnew 16 = .ok (.putfield 185, 3) ∧ decode cX7_beginAnew 19 = .ok (.aload_n 0, 1) ∧ decode cX7_beginAnew 20 = .ok (.getfield 59, 3) ∧ decode cX7_beginAnew 23 = .ok (.iconst 0, 1) ∧ decode cX7_beginAnew 24 = .ok (.putfield 251, 3) ∧ decode cX7_beginAnew 27 = .ok (.iconst 0, 1) ∧ decode cX7_beginAnew 28 = .ok (.istore_n 1, 1) ∧ decode cX7_beginAnew 29 = .ok (.iload_n 1, 1) := by decide +kernel
theorem dX7_beginAnew_16 : decode cX7_beginAnew 16 = .ok (.putfield 185, 3) := bdX7_beginAnew_16.1
theorem dX7_beginAnew_19 : decode cX7_beginAnew 19 = .ok (.aload_n 0, 1) := bdX7_beginAnew_16.2.1
theorem dX7_beginAnew_20 : decode cX7_beginAnew 20 = .ok (.getfield 59, 3) := bdX7_beginAnew_16.2.2.1
theorem dX7_beginAnew_23 : decode cX7_beginAnew 23 = .ok (.iconst 0, 1) := bdX7_beginAnew_16.2.2.2.1
theorem dX7_beginAnew_24 : decode cX7_beginAnew 24 = .ok (.putfield 251, 3) := bdX7_beginAnew_16.2.2.2.2.1
theorem dX7_beginAnew_27 : decode cX7_beginAnew 27 = .ok (.iconst 0, 1) := bdX7_beginAnew_16.2.2.2.2.2.1
theorem dX7_beginAnew_28 : decode cX7_beginAnew 28 = .ok (.istore_n 1, 1) := bdX7_beginAnew_16.2.2.2.2.2.2.1
theorem dX7_beginAnew_29 : decode cX7_beginAnew 29 = .ok (.iload_n 1, 1) := bdX7_beginAnew_16.2.2.2.2.2.2.2
theorem bdX7_beginAnew_30 : decode cX7_beginAnew 30 = .ok (.iconst 2, 1) ∧ decode cX7_beginAnew 31 = .ok (.if_icmp .ge 19, 3) ∧ decode cX7_beginAnew 34 = .ok (.aload_n 0, 1) ∧ decode cX7_beginAnew 35 = .ok (.getfield 52, 3) ∧ decode cX7_beginAnew 38 = .ok (.iload_n 1, 1) ∧ decode cX7_beginAnew 39 = .ok (.aaload, 1) ∧ decode cX7_beginAnew 40 = .ok (.iconst 0, 1) ∧ decode cX7_beginAnew 41 = .ok (.putfield 291, 3) := by decide +kernel
theorem dX7_beginAnew_30 : decode cX7_beginAnew 30 = .ok (.iconst 2, 1) := bdX7_beginAnew_30.1
theorem dX7_beginAnew_31 : decode cX7_beginAnew 31 = .ok (.if_icmp .ge 19, 3) := bdX7_beginAnew_30.2.1
theorem dX7_beginAnew_34 : decode cX7_beginAnew 34 = .ok (.aload_n 0, 1) := bdX7_beginAnew_30.2.2.1
theorem dX7_beginAnew_35 : decode cX7_beginAnew 35 = .ok (.getfield 52, 3) := bdX7_beginAnew_30.2.2.2.1
theorem dX7_beginAnew_38 : decode cX7_beginAnew 38 = .ok (.iload_n 1, 1) := bdX7_beginAnew_30.2.2.2.2.1
theorem dX7_beginAnew_39 : decode cX7_beginAnew 39 = .ok (.aaload, 1) := bdX7_beginAnew_30.2.2.2.2.2.1
theorem dX7_beginAnew_40 : decode cX7_beginAnew 40 = .ok (.iconst 0, 1) := bdX7_beginAnew_30.2.2.2.2.2.2.1
theorem dX7_beginAnew_41 : decode cX7_beginAnew 41 = .ok (.putfield 291, 3) := bdX7_beginAnew_30.2.2.2.2.2.2.2
theorem bdX7_beginAnew_44 : decode cX7_beginAnew 44 = .ok (.iinc 1 1, 3) ∧ decode cX7_beginAnew 47 = .ok (.goto (-18), 3) ∧ decode cX7_beginAnew 50 = .ok (.return_, 1) := by decide +kernel
theorem dX7_beginAnew_44 : decode cX7_beginAnew 44 = .ok (.iinc 1 1, 3) := bdX7_beginAnew_44.1
theorem dX7_beginAnew_47 : decode cX7_beginAnew 47 = .ok (.goto (-18), 3) := bdX7_beginAnew_44.2.1
theorem dX7_beginAnew_50 : decode cX7_beginAnew 50 = .ok (.return_, 1) := bdX7_beginAnew_44.2.2
theorem bdX7_isIn_0 : decode cX7_isIn 0 = .ok (.iload_n 0, 1) ∧ decode cX7_isIn 1 = .ok (.iload_n 1, 1) ∧ decode cX7_isIn 2 = .ok (.ishr, 1) ∧ decode cX7_isIn 3 = .ok (.iconst 1, 1) ∧ decode cX7_isIn 4 = .ok (.iand, 1) ∧ decode cX7_isIn 5 = .ok (.ifCond .eq 7, 3) ∧ decode cX7_isIn 8 = .ok (.iconst 1, 1) ∧ decode cX7_isIn 9 = .ok (.goto 4, 3) := by decide +kernel
theorem dX7_isIn_0 : decode cX7_isIn 0 = .ok (.iload_n 0, 1) := bdX7_isIn_0.1
theorem dX7_isIn_1 : decode cX7_isIn 1 = .ok (.iload_n 1, 1) := bdX7_isIn_0.2.1
theorem dX7_isIn_2 : decode cX7_isIn 2 = .ok (.ishr, 1) := bdX7_isIn_0.2.2.1
theorem dX7_isIn_3 : decode cX7_isIn 3 = .ok (.iconst 1, 1) := bdX7_isIn_0.2.2.2.1
theorem dX7_isIn_4 : decode cX7_isIn 4 = .ok (.iand, 1) := bdX7_isIn_0.2.2.2.2.1
theorem dX7_isIn_5 : decode cX7_isIn 5 = .ok (.ifCond .eq 7, 3) := bdX7_isIn_0.2.2.2.2.2.1
theorem dX7_isIn_8 : decode cX7_isIn 8 = .ok (.iconst 1, 1) := bdX7_isIn_0.2.2.2.2.2.2.1
theorem dX7_isIn_9 : decode cX7_isIn 9 = .ok (.goto 4, 3) := bdX7_isIn_0.2.2.2.2.2.2.2
theorem bdX7_isIn_12 : decode cX7_isIn 12 = .ok (.iconst 0, 1) ∧ decode cX7_isIn 13 = .ok (.ireturn, 1) := by decide +kernel
theorem dX7_isIn_12 : decode cX7_isIn 12 = .ok (.iconst 0, 1) := bdX7_isIn_12.1
theorem dX7_isIn_13 : decode cX7_isIn 13 = .ok (.ireturn, 1) := bdX7_isIn_12.2
theorem bdX7_commonDivisor_0 : decode cX7_commonDivisor 0 = .ok (.iload_n 0, 1) ∧ decode cX7_commonDivisor 1 = .ok (.iload_n 1, 1) ∧ decode cX7_commonDivisor 2 = .ok (.invokestatic 248, 3) ∧ decode cX7_commonDivisor 5 = .ok (.istore_n 2, 1) ∧ decode cX7_commonDivisor 6 = .ok (.iload_n 2, 1) ∧ decode cX7_commonDivisor 7 = .ok (.iconst 1, 1) ∧ decode cX7_commonDivisor 8 = .ok (.if_icmp .le 23, 3) ∧ decode cX7_commonDivisor 11 = .ok (.iload_n 0, 1) := by decide +kernel
theorem dX7_commonDivisor_0 : decode cX7_commonDivisor 0 = .ok (.iload_n 0, 1) := bdX7_commonDivisor_0.1
theorem dX7_commonDivisor_1 : decode cX7_commonDivisor 1 = .ok (.iload_n 1, 1) := bdX7_commonDivisor_0.2.1
theorem dX7_commonDivisor_2 : decode cX7_commonDivisor 2 = .ok (.invokestatic 248, 3) := bdX7_commonDivisor_0.2.2.1
theorem dX7_commonDivisor_5 : decode cX7_commonDivisor 5 = .ok (.istore_n 2, 1) := bdX7_commonDivisor_0.2.2.2.1
theorem dX7_commonDivisor_6 : decode cX7_commonDivisor 6 = .ok (.iload_n 2, 1) := bdX7_commonDivisor_0.2.2.2.2.1
theorem dX7_commonDivisor_7 : decode cX7_commonDivisor 7 = .ok (.iconst 1, 1) := bdX7_commonDivisor_0.2.2.2.2.2.1
theorem dX7_commonDivisor_8 : decode cX7_commonDivisor 8 = .ok (.if_icmp .le 23, 3) := bdX7_commonDivisor_0.2.2.2.2.2.2.1
theorem dX7_commonDivisor_11 : decode cX7_commonDivisor 11 = .ok (.iload_n 0, 1) := bdX7_commonDivisor_0.2.2.2.2.2.2.2
theorem bdX7_commonDivisor_12 : decode cX7_commonDivisor 12 = .ok (.iload_n 2, 1) ∧ decode cX7_commonDivisor 13 = .ok (.irem, 1) ∧ decode cX7_commonDivisor 14 = .ok (.ifCond .ne 11, 3) ∧ decode cX7_commonDivisor 17 = .ok (.iload_n 1, 1) ∧ decode cX7_commonDivisor 18 = .ok (.iload_n 2, 1) ∧ decode cX7_commonDivisor 19 = .ok (.irem, 1) ∧ decode cX7_commonDivisor 20 = .ok (.ifCond .ne 5, 3) ∧ decode cX7_commonDivisor 23 = .ok (.iload_n 2, 1) := by decide +kernel
theorem dX7_commonDivisor_12 : decode cX7_commonDivisor 12 = .ok (.iload_n 2, 1) := bdX7_commonDivisor_12.1
theorem dX7_commonDivisor_13 : decode cX7_commonDivisor 13 = .ok (.irem, 1) := bdX7_commonDivisor_12.2.1
theorem dX7_commonDivisor_14 : decode cX7_commonDivisor 14 = .ok (.ifCond .ne 11, 3) := bdX7_commonDivisor_12.2.2.1
theorem dX7_commonDivisor_17 : decode cX7_commonDivisor 17 = .ok (.iload_n 1, 1) := bdX7_commonDivisor_12.2.2.2.1
theorem dX7_commonDivisor_18 : decode cX7_commonDivisor 18 = .ok (.iload_n 2, 1) := bdX7_commonDivisor_12.2.2.2.2.1
theorem dX7_commonDivisor_19 : decode cX7_commonDivisor 19 = .ok (.irem, 1) := bdX7_commonDivisor_12.2.2.2.2.2.1
theorem dX7_commonDivisor_20 : decode cX7_commonDivisor 20 = .ok (.ifCond .ne 5, 3) := bdX7_commonDivisor_12.2.2.2.2.2.2.1
theorem dX7_commonDivisor_23 : decode cX7_commonDivisor 23 = .ok (.iload_n 2, 1) := bdX7_commonDivisor_12.2.2.2.2.2.2.2
theorem bdX7_commonDivisor_24 : decode cX7_commonDivisor 24 = .ok (.ireturn, 1) ∧ decode cX7_commonDivisor 25 = .ok (.iinc 2 (-1), 3) ∧ decode cX7_commonDivisor 28 = .ok (.goto (-22), 3) ∧ decode cX7_commonDivisor 31 = .ok (.iconst 1, 1) ∧ decode cX7_commonDivisor 32 = .ok (.ireturn, 1) := by decide +kernel
theorem dX7_commonDivisor_24 : decode cX7_commonDivisor 24 = .ok (.ireturn, 1) := bdX7_commonDivisor_24.1
theorem dX7_commonDivisor_25 : decode cX7_commonDivisor 25 = .ok (.iinc 2 (-1), 3) := bdX7_commonDivisor_24.2.1
theorem dX7_commonDivisor_28 : decode cX7_commonDivisor 28 = .ok (.goto (-22), 3) := bdX7_commonDivisor_24.2.2.1
theorem dX7_commonDivisor_31 : decode cX7_commonDivisor 31 = .ok (.iconst 1, 1) := bdX7_commonDivisor_24.2.2.2.1
theorem dX7_commonDivisor_32 : decode cX7_commonDivisor 32 = .ok (.ireturn, 1) := bdX7_commonDivisor_24.2.2.2.2
theorem bdX7_shotOf_0 : decode cX7_shotOf 0 = .ok (.bipush 100, 2) ∧ decode cX7_shotOf 2 = .ok (.iload_n 0, 1) ∧ decode cX7_shotOf 3 = .ok (.imul, 1) ∧ decode cX7_shotOf 4 = .ok (.bipush 10, 2) ∧ decode cX7_shotOf 6 = .ok (.iload_n 1, 1) ∧ decode cX7_shotOf 7 = .ok (.imul, 1) ∧ decode cX7_shotOf 8 = .ok (.iadd, 1) ∧ decode cX7_shotOf 9 = .ok (.iload_n 2, 1) := by decide +kernel
theorem dX7_shotOf_0 : decode cX7_shotOf 0 = .ok (.bipush 100, 2) := bdX7_shotOf_0.1
theorem dX7_shotOf_2 : decode cX7_shotOf 2 = .ok (.iload_n 0, 1) := bdX7_shotOf_0.2.1
theorem dX7_shotOf_3 : decode cX7_shotOf 3 = .ok (.imul, 1) := bdX7_shotOf_0.2.2.1
theorem dX7_shotOf_4 : decode cX7_shotOf 4 = .ok (.bipush 10, 2) := bdX7_shotOf_0.2.2.2.1
theorem dX7_shotOf_6 : decode cX7_shotOf 6 = .ok (.iload_n 1, 1) := bdX7_shotOf_0.2.2.2.2.1
theorem dX7_shotOf_7 : decode cX7_shotOf 7 = .ok (.imul, 1) := bdX7_shotOf_0.2.2.2.2.2.1
theorem dX7_shotOf_8 : decode cX7_shotOf 8 = .ok (.iadd, 1) := bdX7_shotOf_0.2.2.2.2.2.2.1
theorem dX7_shotOf_9 : decode cX7_shotOf 9 = .ok (.iload_n 2, 1) := bdX7_shotOf_0.2.2.2.2.2.2.2
theorem bdX7_shotOf_10 : decode cX7_shotOf 10 = .ok (.iadd, 1) ∧ decode cX7_shotOf 11 = .ok (.ireturn, 1) := by decide +kernel
theorem dX7_shotOf_10 : decode cX7_shotOf 10 = .ok (.iadd, 1) := bdX7_shotOf_10.1
theorem dX7_shotOf_11 : decode cX7_shotOf 11 = .ok (.ireturn, 1) := bdX7_shotOf_10.2
theorem bdX7_isShot_0 : decode cX7_isShot 0 = .ok (.iload_n 0, 1) ∧ decode cX7_isShot 1 = .ok (.ifCond .lt 34, 3) ∧ decode cX7_isShot 4 = .ok (.iload_n 0, 1) ∧ decode cX7_isShot 5 = .ok (.bipush 100, 2) ∧ decode cX7_isShot 7 = .ok (.idiv, 1) ∧ decode cX7_isShot 8 = .ok (.iconst 4, 1) ∧ decode cX7_isShot 9 = .ok (.if_icmp .ge 26, 3) ∧ decode cX7_isShot 12 = .ok (.iload_n 0, 1) := by decide +kernel
theorem dX7_isShot_0 : decode cX7_isShot 0 = .ok (.iload_n 0, 1) := bdX7_isShot_0.1
theorem dX7_isShot_1 : decode cX7_isShot 1 = .ok (.ifCond .lt 34, 3) := bdX7_isShot_0.2.1
theorem dX7_isShot_4 : decode cX7_isShot 4 = .ok (.iload_n 0, 1) := bdX7_isShot_0.2.2.1
theorem dX7_isShot_5 : decode cX7_isShot 5 = .ok (.bipush 100, 2) := bdX7_isShot_0.2.2.2.1
theorem dX7_isShot_7 : decode cX7_isShot 7 = .ok (.idiv, 1) := bdX7_isShot_0.2.2.2.2.1
theorem dX7_isShot_8 : decode cX7_isShot 8 = .ok (.iconst 4, 1) := bdX7_isShot_0.2.2.2.2.2.1
theorem dX7_isShot_9 : decode cX7_isShot 9 = .ok (.if_icmp .ge 26, 3) := bdX7_isShot_0.2.2.2.2.2.2.1
theorem dX7_isShot_12 : decode cX7_isShot 12 = .ok (.iload_n 0, 1) := bdX7_isShot_0.2.2.2.2.2.2.2
theorem bdX7_isShot_13 : decode cX7_isShot 13 = .ok (.bipush 10, 2) ∧ decode cX7_isShot 15 = .ok (.idiv, 1) ∧ decode cX7_isShot 16 = .ok (.bipush 10, 2) ∧ decode cX7_isShot 18 = .ok (.irem, 1) ∧ decode cX7_isShot 19 = .ok (.iconst 3, 1) ∧ decode cX7_isShot 20 = .ok (.if_icmp .gt 15, 3) ∧ decode cX7_isShot 23 = .ok (.iload_n 0, 1) ∧ decode cX7_isShot 24 = .ok (.bipush 10, 2) := by decide +kernel
theorem dX7_isShot_13 : decode cX7_isShot 13 = .ok (.bipush 10, 2) := bdX7_isShot_13.1
theorem dX7_isShot_15 : decode cX7_isShot 15 = .ok (.idiv, 1) := bdX7_isShot_13.2.1
theorem dX7_isShot_16 : decode cX7_isShot 16 = .ok (.bipush 10, 2) := bdX7_isShot_13.2.2.1
theorem dX7_isShot_18 : decode cX7_isShot 18 = .ok (.irem, 1) := bdX7_isShot_13.2.2.2.1
theorem dX7_isShot_19 : decode cX7_isShot 19 = .ok (.iconst 3, 1) := bdX7_isShot_13.2.2.2.2.1
theorem dX7_isShot_20 : decode cX7_isShot 20 = .ok (.if_icmp .gt 15, 3) := bdX7_isShot_13.2.2.2.2.2.1
theorem dX7_isShot_23 : decode cX7_isShot 23 = .ok (.iload_n 0, 1) := bdX7_isShot_13.2.2.2.2.2.2.1
theorem dX7_isShot_24 : decode cX7_isShot 24 = .ok (.bipush 10, 2) := bdX7_isShot_13.2.2.2.2.2.2.2
theorem bdX7_isShot_26 : decode cX7_isShot 26 = .ok (.irem, 1) ∧ decode cX7_isShot 27 = .ok (.iconst 1, 1) ∧ decode cX7_isShot 28 = .ok (.if_icmp .gt 7, 3) ∧ decode cX7_isShot 31 = .ok (.iconst 1, 1) ∧ decode cX7_isShot 32 = .ok (.goto 4, 3) ∧ decode cX7_isShot 35 = .ok (.iconst 0, 1) ∧ decode cX7_isShot 36 = .ok (.ireturn, 1) := by decide +kernel
theorem dX7_isShot_26 : decode cX7_isShot 26 = .ok (.irem, 1) := bdX7_isShot_26.1
theorem dX7_isShot_27 : decode cX7_isShot 27 = .ok (.iconst 1, 1) := bdX7_isShot_26.2.1
theorem dX7_isShot_28 : decode cX7_isShot 28 = .ok (.if_icmp .gt 7, 3) := bdX7_isShot_26.2.2.1
theorem dX7_isShot_31 : decode cX7_isShot 31 = .ok (.iconst 1, 1) := bdX7_isShot_26.2.2.2.1
theorem dX7_isShot_32 : decode cX7_isShot 32 = .ok (.goto 4, 3) := bdX7_isShot_26.2.2.2.2.1
theorem dX7_isShot_35 : decode cX7_isShot 35 = .ok (.iconst 0, 1) := bdX7_isShot_26.2.2.2.2.2.1
theorem dX7_isShot_36 : decode cX7_isShot 36 = .ok (.ireturn, 1) := bdX7_isShot_26.2.2.2.2.2.2
set_option maxRecDepth 20000 in
set_option maxRecDepth 100000 in
theorem ggX7_isLetOff_X6_hasOne : GoodIn wsX7_isLetOff wsX6_hasOne := goodIn_hd (goodIn_c ch_X7_isLetOff hc_X7_isLetOff ([.code yX6_hasOne cX6_hasOne 2 (some .boolean)] : List Cond) [(1, 5)] rfl (by decide +kernel)) (goodIn_app (goodIn_c ch_X7_isLetOff hc_X7_isLetOff ([.fieldLink RX6 36 "WordFletchers$Told" "people" "I"] : List Cond) [(1, 6)] rfl (by decide +kernel)) (goodIn_sub (fun _ h => (List.mem_cons_of_mem _ (List.mem_append_right _ h))) gwX6))
set_option maxRecDepth 20000 in
theorem gX7_isLetOff_X6_hasOne : GoodIn wsX7_isLetOff (wsV RX7 92 RX6 yX6_hasOne wsX6_hasOne) := goodIn_app (goodIn_of _ (by decide +kernel)) ggX7_isLetOff_X6_hasOne
set_option maxRecDepth 20000 in
set_option maxRecDepth 100000 in
theorem ggX7_isLetOff_X6_hasSaying : GoodIn wsX7_isLetOff wsX6_hasSaying := goodIn_hd (goodIn_c ch_X7_isLetOff hc_X7_isLetOff ([.code yX6_hasSaying cX6_hasSaying 2 (some .boolean)] : List Cond) [(1, 10)] rfl (by decide +kernel)) (goodIn_app (goodIn_c ch_X7_isLetOff hc_X7_isLetOff ([.fieldLink RX6 40 "WordFletchers$Told" "sayings" "I"] : List Cond) [(1, 11)] rfl (by decide +kernel)) (goodIn_sub (fun _ h => (List.mem_cons_of_mem _ (List.mem_append_right _ h))) gwX6))
set_option maxRecDepth 20000 in
theorem gX7_isLetOff_X6_hasSaying : GoodIn wsX7_isLetOff (wsV RX7 105 RX6 yX6_hasSaying wsX6_hasSaying) := goodIn_app (goodIn_of _ (by decide +kernel)) ggX7_isLetOff_X6_hasSaying
theorem bdX7_isLetOff_0 : decode cX7_isLetOff 0 = .ok (.aload_n 0, 1) ∧ decode cX7_isLetOff 1 = .ok (.getfield 29, 3) ∧ decode cX7_isLetOff 4 = .ok (.iload_n 1, 1) ∧ decode cX7_isLetOff 5 = .ok (.invokevirtual 92, 3) ∧ decode cX7_isLetOff 8 = .ok (.ifCond .eq 49, 3) ∧ decode cX7_isLetOff 11 = .ok (.aload_n 0, 1) ∧ decode cX7_isLetOff 12 = .ok (.getfield 29, 3) ∧ decode cX7_isLetOff 15 = .ok (.iload_n 2, 1) := by decide +kernel
theorem dX7_isLetOff_0 : decode cX7_isLetOff 0 = .ok (.aload_n 0, 1) := bdX7_isLetOff_0.1
theorem dX7_isLetOff_1 : decode cX7_isLetOff 1 = .ok (.getfield 29, 3) := bdX7_isLetOff_0.2.1
theorem dX7_isLetOff_4 : decode cX7_isLetOff 4 = .ok (.iload_n 1, 1) := bdX7_isLetOff_0.2.2.1
theorem dX7_isLetOff_5 : decode cX7_isLetOff 5 = .ok (.invokevirtual 92, 3) := bdX7_isLetOff_0.2.2.2.1
theorem dX7_isLetOff_8 : decode cX7_isLetOff 8 = .ok (.ifCond .eq 49, 3) := bdX7_isLetOff_0.2.2.2.2.1
theorem dX7_isLetOff_11 : decode cX7_isLetOff 11 = .ok (.aload_n 0, 1) := bdX7_isLetOff_0.2.2.2.2.2.1
theorem dX7_isLetOff_12 : decode cX7_isLetOff 12 = .ok (.getfield 29, 3) := bdX7_isLetOff_0.2.2.2.2.2.2.1
theorem dX7_isLetOff_15 : decode cX7_isLetOff 15 = .ok (.iload_n 2, 1) := bdX7_isLetOff_0.2.2.2.2.2.2.2
theorem bdX7_isLetOff_16 : decode cX7_isLetOff 16 = .ok (.invokevirtual 105, 3) ∧ decode cX7_isLetOff 19 = .ok (.ifCond .eq 38, 3) ∧ decode cX7_isLetOff 22 = .ok (.iload_n 3, 1) ∧ decode cX7_isLetOff 23 = .ok (.ifCond .lt 34, 3) ∧ decode cX7_isLetOff 26 = .ok (.iload_n 3, 1) ∧ decode cX7_isLetOff 27 = .ok (.iconst 4, 1) ∧ decode cX7_isLetOff 28 = .ok (.if_icmp .ge 29, 3) ∧ decode cX7_isLetOff 31 = .ok (.iload 4, 2) := by decide +kernel
theorem dX7_isLetOff_16 : decode cX7_isLetOff 16 = .ok (.invokevirtual 105, 3) := bdX7_isLetOff_16.1
theorem dX7_isLetOff_19 : decode cX7_isLetOff 19 = .ok (.ifCond .eq 38, 3) := bdX7_isLetOff_16.2.1
theorem dX7_isLetOff_22 : decode cX7_isLetOff 22 = .ok (.iload_n 3, 1) := bdX7_isLetOff_16.2.2.1
theorem dX7_isLetOff_23 : decode cX7_isLetOff 23 = .ok (.ifCond .lt 34, 3) := bdX7_isLetOff_16.2.2.2.1
theorem dX7_isLetOff_26 : decode cX7_isLetOff 26 = .ok (.iload_n 3, 1) := bdX7_isLetOff_16.2.2.2.2.1
theorem dX7_isLetOff_27 : decode cX7_isLetOff 27 = .ok (.iconst 4, 1) := bdX7_isLetOff_16.2.2.2.2.2.1
theorem dX7_isLetOff_28 : decode cX7_isLetOff 28 = .ok (.if_icmp .ge 29, 3) := bdX7_isLetOff_16.2.2.2.2.2.2.1
theorem dX7_isLetOff_31 : decode cX7_isLetOff 31 = .ok (.iload 4, 2) := bdX7_isLetOff_16.2.2.2.2.2.2.2
theorem bdX7_isLetOff_33 : decode cX7_isLetOff 33 = .ok (.ifCond .lt 24, 3) ∧ decode cX7_isLetOff 36 = .ok (.iload 4, 2) ∧ decode cX7_isLetOff 38 = .ok (.iconst 3, 1) ∧ decode cX7_isLetOff 39 = .ok (.if_icmp .gt 18, 3) ∧ decode cX7_isLetOff 42 = .ok (.iload 5, 2) ∧ decode cX7_isLetOff 44 = .ok (.ifCond .lt 13, 3) ∧ decode cX7_isLetOff 47 = .ok (.iload 5, 2) ∧ decode cX7_isLetOff 49 = .ok (.iconst 1, 1) := by decide +kernel
theorem dX7_isLetOff_33 : decode cX7_isLetOff 33 = .ok (.ifCond .lt 24, 3) := bdX7_isLetOff_33.1
theorem dX7_isLetOff_36 : decode cX7_isLetOff 36 = .ok (.iload 4, 2) := bdX7_isLetOff_33.2.1
theorem dX7_isLetOff_38 : decode cX7_isLetOff 38 = .ok (.iconst 3, 1) := bdX7_isLetOff_33.2.2.1
theorem dX7_isLetOff_39 : decode cX7_isLetOff 39 = .ok (.if_icmp .gt 18, 3) := bdX7_isLetOff_33.2.2.2.1
theorem dX7_isLetOff_42 : decode cX7_isLetOff 42 = .ok (.iload 5, 2) := bdX7_isLetOff_33.2.2.2.2.1
theorem dX7_isLetOff_44 : decode cX7_isLetOff 44 = .ok (.ifCond .lt 13, 3) := bdX7_isLetOff_33.2.2.2.2.2.1
theorem dX7_isLetOff_47 : decode cX7_isLetOff 47 = .ok (.iload 5, 2) := bdX7_isLetOff_33.2.2.2.2.2.2.1
theorem dX7_isLetOff_49 : decode cX7_isLetOff 49 = .ok (.iconst 1, 1) := bdX7_isLetOff_33.2.2.2.2.2.2.2
theorem bdX7_isLetOff_50 : decode cX7_isLetOff 50 = .ok (.if_icmp .gt 7, 3) ∧ decode cX7_isLetOff 53 = .ok (.iconst 1, 1) ∧ decode cX7_isLetOff 54 = .ok (.goto 4, 3) ∧ decode cX7_isLetOff 57 = .ok (.iconst 0, 1) ∧ decode cX7_isLetOff 58 = .ok (.ireturn, 1) := by decide +kernel
theorem dX7_isLetOff_50 : decode cX7_isLetOff 50 = .ok (.if_icmp .gt 7, 3) := bdX7_isLetOff_50.1
theorem dX7_isLetOff_53 : decode cX7_isLetOff 53 = .ok (.iconst 1, 1) := bdX7_isLetOff_50.2.1
theorem dX7_isLetOff_54 : decode cX7_isLetOff 54 = .ok (.goto 4, 3) := bdX7_isLetOff_50.2.2.1
theorem dX7_isLetOff_57 : decode cX7_isLetOff 57 = .ok (.iconst 0, 1) := bdX7_isLetOff_50.2.2.2.1
theorem dX7_isLetOff_58 : decode cX7_isLetOff 58 = .ok (.ireturn, 1) := bdX7_isLetOff_50.2.2.2.2
set_option maxRecDepth 20000 in
set_option maxRecDepth 100000 in
theorem ggX7_areTwo_X6_hasOne : GoodIn wsX7_areTwo wsX6_hasOne := goodIn_hd (goodIn_c ch_X7_areTwo hc_X7_areTwo ([.code yX6_hasOne cX6_hasOne 2 (some .boolean)] : List Cond) [(1, 5)] rfl (by decide +kernel)) (goodIn_app (goodIn_c ch_X7_areTwo hc_X7_areTwo ([.fieldLink RX6 36 "WordFletchers$Told" "people" "I"] : List Cond) [(1, 6)] rfl (by decide +kernel)) (goodIn_sub (fun _ h => (List.mem_cons_of_mem _ (List.mem_append_right _ h))) gwX6))
set_option maxRecDepth 20000 in
theorem gX7_areTwo_X6_hasOne : GoodIn wsX7_areTwo (wsV RX7 92 RX6 yX6_hasOne wsX6_hasOne) := goodIn_app (goodIn_of _ (by decide +kernel)) ggX7_areTwo_X6_hasOne
theorem bdX7_areTwo_0 : decode cX7_areTwo 0 = .ok (.aload_n 0, 1) ∧ decode cX7_areTwo 1 = .ok (.getfield 29, 3) ∧ decode cX7_areTwo 4 = .ok (.iload_n 1, 1) ∧ decode cX7_areTwo 5 = .ok (.invokevirtual 92, 3) ∧ decode cX7_areTwo 8 = .ok (.ifCond .eq 23, 3) ∧ decode cX7_areTwo 11 = .ok (.aload_n 0, 1) ∧ decode cX7_areTwo 12 = .ok (.getfield 29, 3) ∧ decode cX7_areTwo 15 = .ok (.iload_n 2, 1) := by decide +kernel
theorem dX7_areTwo_0 : decode cX7_areTwo 0 = .ok (.aload_n 0, 1) := bdX7_areTwo_0.1
theorem dX7_areTwo_1 : decode cX7_areTwo 1 = .ok (.getfield 29, 3) := bdX7_areTwo_0.2.1
theorem dX7_areTwo_4 : decode cX7_areTwo 4 = .ok (.iload_n 1, 1) := bdX7_areTwo_0.2.2.1
theorem dX7_areTwo_5 : decode cX7_areTwo 5 = .ok (.invokevirtual 92, 3) := bdX7_areTwo_0.2.2.2.1
theorem dX7_areTwo_8 : decode cX7_areTwo 8 = .ok (.ifCond .eq 23, 3) := bdX7_areTwo_0.2.2.2.2.1
theorem dX7_areTwo_11 : decode cX7_areTwo 11 = .ok (.aload_n 0, 1) := bdX7_areTwo_0.2.2.2.2.2.1
theorem dX7_areTwo_12 : decode cX7_areTwo 12 = .ok (.getfield 29, 3) := bdX7_areTwo_0.2.2.2.2.2.2.1
theorem dX7_areTwo_15 : decode cX7_areTwo 15 = .ok (.iload_n 2, 1) := bdX7_areTwo_0.2.2.2.2.2.2.2
theorem bdX7_areTwo_16 : decode cX7_areTwo 16 = .ok (.invokevirtual 92, 3) ∧ decode cX7_areTwo 19 = .ok (.ifCond .eq 12, 3) ∧ decode cX7_areTwo 22 = .ok (.iload_n 1, 1) ∧ decode cX7_areTwo 23 = .ok (.iload_n 2, 1) ∧ decode cX7_areTwo 24 = .ok (.if_icmp .eq 7, 3) ∧ decode cX7_areTwo 27 = .ok (.iconst 1, 1) ∧ decode cX7_areTwo 28 = .ok (.goto 4, 3) ∧ decode cX7_areTwo 31 = .ok (.iconst 0, 1) := by decide +kernel
theorem dX7_areTwo_16 : decode cX7_areTwo 16 = .ok (.invokevirtual 92, 3) := bdX7_areTwo_16.1
theorem dX7_areTwo_19 : decode cX7_areTwo 19 = .ok (.ifCond .eq 12, 3) := bdX7_areTwo_16.2.1
theorem dX7_areTwo_22 : decode cX7_areTwo 22 = .ok (.iload_n 1, 1) := bdX7_areTwo_16.2.2.1
theorem dX7_areTwo_23 : decode cX7_areTwo 23 = .ok (.iload_n 2, 1) := bdX7_areTwo_16.2.2.2.1
theorem dX7_areTwo_24 : decode cX7_areTwo 24 = .ok (.if_icmp .eq 7, 3) := bdX7_areTwo_16.2.2.2.2.1
theorem dX7_areTwo_27 : decode cX7_areTwo 27 = .ok (.iconst 1, 1) := bdX7_areTwo_16.2.2.2.2.2.1
theorem dX7_areTwo_28 : decode cX7_areTwo 28 = .ok (.goto 4, 3) := bdX7_areTwo_16.2.2.2.2.2.2.1
theorem dX7_areTwo_31 : decode cX7_areTwo 31 = .ok (.iconst 0, 1) := bdX7_areTwo_16.2.2.2.2.2.2.2
theorem dX7_areTwo_32 : decode cX7_areTwo 32 = .ok (.ireturn, 1) := by decide +kernel
set_option maxRecDepth 20000 in
set_option maxRecDepth 100000 in
theorem ggX7_windIn_X6_windOf : GoodIn wsX7_windIn wsX6_windOf := goodIn_hd (goodIn_c ch_X7_windIn hc_X7_windIn ([.code yX6_windOf cX6_windOf 2 (some .int)] : List Cond) [(1, 7)] rfl (by decide +kernel)) (goodIn_app (goodIn_c ch_X7_windIn hc_X7_windIn ([.fieldLink RX6 27 "WordFletchers$Told" "winds" "[I", .methodLink RX6 46 Lib.Math.max.name, .static Lib.Math.max.name, .initialized "java/lang/Math", .code Lib.Math.max.name Lib.Math.max.code 2 (some .int), .methodLink RX6 52 yX6_windCount, .instanceMethod yX6_windCount, .selects RX6 yX6_windCount yX6_windCount, .initialized RX6, .code yX6_windCount cX6_windCount 1 (some .int), .fieldLink RX6 43 "WordFletchers$Told" "windsTold" "I"] : List Cond) [(1, 8), (1, 9), (1, 10), (1, 11), (1, 12), (1, 13), (1, 14), (1, 15), (1, 6), (1, 16), (1, 17)] rfl (by decide +kernel)) (goodIn_sub (fun _ h => (List.mem_cons_of_mem _ (List.mem_append_right _ h))) gwX6))
set_option maxRecDepth 20000 in
theorem gX7_windIn_X6_windOf : GoodIn wsX7_windIn (wsV RX7 301 RX6 yX6_windOf wsX6_windOf) := goodIn_app (goodIn_of _ (by decide +kernel)) ggX7_windIn_X6_windOf
theorem bdX7_windIn_0 : decode cX7_windIn 0 = .ok (.aload_n 0, 1) ∧ decode cX7_windIn 1 = .ok (.getfield 29, 3) ∧ decode cX7_windIn 4 = .ok (.aload_n 0, 1) ∧ decode cX7_windIn 5 = .ok (.getfield 39, 3) ∧ decode cX7_windIn 8 = .ok (.getfield 174, 3) ∧ decode cX7_windIn 11 = .ok (.iload_n 1, 1) ∧ decode cX7_windIn 12 = .ok (.iadd, 1) ∧ decode cX7_windIn 13 = .ok (.invokevirtual 301, 3) := by decide +kernel
theorem dX7_windIn_0 : decode cX7_windIn 0 = .ok (.aload_n 0, 1) := bdX7_windIn_0.1
theorem dX7_windIn_1 : decode cX7_windIn 1 = .ok (.getfield 29, 3) := bdX7_windIn_0.2.1
theorem dX7_windIn_4 : decode cX7_windIn 4 = .ok (.aload_n 0, 1) := bdX7_windIn_0.2.2.1
theorem dX7_windIn_5 : decode cX7_windIn 5 = .ok (.getfield 39, 3) := bdX7_windIn_0.2.2.2.1
theorem dX7_windIn_8 : decode cX7_windIn 8 = .ok (.getfield 174, 3) := bdX7_windIn_0.2.2.2.2.1
theorem dX7_windIn_11 : decode cX7_windIn 11 = .ok (.iload_n 1, 1) := bdX7_windIn_0.2.2.2.2.2.1
theorem dX7_windIn_12 : decode cX7_windIn 12 = .ok (.iadd, 1) := bdX7_windIn_0.2.2.2.2.2.2.1
theorem dX7_windIn_13 : decode cX7_windIn 13 = .ok (.invokevirtual 301, 3) := bdX7_windIn_0.2.2.2.2.2.2.2
theorem dX7_windIn_16 : decode cX7_windIn 16 = .ok (.ireturn, 1) := by decide +kernel
set_option maxRecDepth 20000 in
set_option maxRecDepth 100000 in
theorem ggX7_landingNow_X7_windIn : GoodIn wsX7_landingNow wsX7_windIn := goodIn_hd (goodIn_c ch_X7_landingNow hc_X7_landingNow ([.code yX7_windIn cX7_windIn 2 (some .int)] : List Cond) [(1, 7)] rfl (by decide +kernel)) (goodIn_app (goodIn_app (goodIn_app (goodIn_c ch_X7_landingNow hc_X7_landingNow ([.fieldLink RX7 29 "WordFletchers" "told" "LWordFletchers$Told;", .fieldLink RX7 39 "WordFletchers" "moment" "LWordFletchers$Moment;", .fieldLink RX7 174 "WordFletchers$Moment" "hour" "I", .methodLink RX7 301 yX6_windOf, .instanceMethod yX6_windOf, .selects RX6 yX6_windOf yX6_windOf, .initialized RX6, .code yX6_windOf cX6_windOf 2 (some .int), .fieldLink RX6 27 "WordFletchers$Told" "winds" "[I", .methodLink RX6 46 Lib.Math.max.name, .static Lib.Math.max.name, .initialized "java/lang/Math", .code Lib.Math.max.name Lib.Math.max.code 2 (some .int), .methodLink RX6 52 yX6_windCount, .instanceMethod yX6_windCount, .selects RX6 yX6_windCount yX6_windCount, .code yX6_windCount cX6_windCount 1 (some .int), .fieldLink RX6 43 "WordFletchers$Told" "windsTold" "I"] : List Cond) [(1, 0), (1, 1), (1, 8), (1, 9), (1, 10), (1, 11), (1, 12), (1, 13), (1, 14), (1, 15), (1, 16), (1, 17), (1, 18), (1, 19), (1, 20), (1, 21), (1, 22), (1, 23)] rfl (by decide +kernel)) (goodIn_sub (fun _ h => (List.mem_cons_of_mem _ (List.mem_append_left _ (List.mem_append_left _ (List.mem_append_right _ h))))) gwX7)) (goodIn_sub (fun _ h => (List.mem_cons_of_mem _ (List.mem_append_left _ (List.mem_append_right _ h)))) gwX2)) (goodIn_sub (fun _ h => (List.mem_cons_of_mem _ (List.mem_append_right _ h))) gwX6))
set_option maxRecDepth 20000 in
theorem gX7_landingNow_X7_windIn : GoodIn wsX7_landingNow (wsV RX7 122 RX7 yX7_windIn wsX7_windIn) := goodIn_app (goodIn_of _ (by decide +kernel)) ggX7_landingNow_X7_windIn
set_option maxRecDepth 20000 in
set_option maxRecDepth 100000 in
theorem ggX7_landingNow_X6_landing : GoodIn wsX7_landingNow wsX6_landing := goodIn_hd (goodIn_c ch_X7_landingNow hc_X7_landingNow ([.code yX6_landing cX6_landing 13 (some .int)] : List Cond) [(2, 3)] rfl (by decide +kernel)) (goodIn_app (goodIn_c ch_X7_landingNow hc_X7_landingNow ([.fieldLink RX6 9 "WordFletchers$Told" "place" "[I", .methodLink RX6 59 yX6_flight, .instanceMethod yX6_flight, .selects RX6 yX6_flight yX6_flight, .initialized RX6, .code yX6_flight cX6_flight 6 (some .int), .fieldLink RX6 21 "WordFletchers$Told" "twist" "[I", .fieldLink RX6 18 "WordFletchers$Told" "weight" "[I", .methodLink RX6 46 Lib.Math.max.name, .static Lib.Math.max.name, .initialized "java/lang/Math", .code Lib.Math.max.name Lib.Math.max.code 2 (some .int)] : List Cond) [(2, 4), (2, 5), (2, 6), (2, 7), (1, 12), (2, 8), (2, 9), (2, 10), (1, 15), (1, 16), (1, 17), (1, 18)] rfl (by decide +kernel)) (goodIn_sub (fun _ h => (List.mem_cons_of_mem _ (List.mem_append_right _ h))) gwX6))
set_option maxRecDepth 20000 in
theorem gX7_landingNow_X6_landing : GoodIn wsX7_landingNow (wsV RX7 203 RX6 yX6_landing wsX6_landing) := goodIn_app (goodIn_of _ (by decide +kernel)) ggX7_landingNow_X6_landing
theorem bdX7_landingNow_0 : decode cX7_landingNow 0 = .ok (.aload_n 0, 1) ∧ decode cX7_landingNow 1 = .ok (.getfield 29, 3) ∧ decode cX7_landingNow 4 = .ok (.iload_n 1, 1) ∧ decode cX7_landingNow 5 = .ok (.iload_n 2, 1) ∧ decode cX7_landingNow 6 = .ok (.iload_n 3, 1) ∧ decode cX7_landingNow 7 = .ok (.aload_n 0, 1) ∧ decode cX7_landingNow 8 = .ok (.iconst 0, 1) ∧ decode cX7_landingNow 9 = .ok (.invokevirtual 122, 3) := by decide +kernel
theorem dX7_landingNow_0 : decode cX7_landingNow 0 = .ok (.aload_n 0, 1) := bdX7_landingNow_0.1
theorem dX7_landingNow_1 : decode cX7_landingNow 1 = .ok (.getfield 29, 3) := bdX7_landingNow_0.2.1
theorem dX7_landingNow_4 : decode cX7_landingNow 4 = .ok (.iload_n 1, 1) := bdX7_landingNow_0.2.2.1
theorem dX7_landingNow_5 : decode cX7_landingNow 5 = .ok (.iload_n 2, 1) := bdX7_landingNow_0.2.2.2.1
theorem dX7_landingNow_6 : decode cX7_landingNow 6 = .ok (.iload_n 3, 1) := bdX7_landingNow_0.2.2.2.2.1
theorem dX7_landingNow_7 : decode cX7_landingNow 7 = .ok (.aload_n 0, 1) := bdX7_landingNow_0.2.2.2.2.2.1
theorem dX7_landingNow_8 : decode cX7_landingNow 8 = .ok (.iconst 0, 1) := bdX7_landingNow_0.2.2.2.2.2.2.1
theorem dX7_landingNow_9 : decode cX7_landingNow 9 = .ok (.invokevirtual 122, 3) := bdX7_landingNow_0.2.2.2.2.2.2.2
theorem bdX7_landingNow_12 : decode cX7_landingNow 12 = .ok (.aload_n 0, 1) ∧ decode cX7_landingNow 13 = .ok (.getfield 39, 3) ∧ decode cX7_landingNow 16 = .ok (.getfield 177, 3) ∧ decode cX7_landingNow 19 = .ok (.invokevirtual 203, 3) ∧ decode cX7_landingNow 22 = .ok (.ireturn, 1) := by decide +kernel
theorem dX7_landingNow_12 : decode cX7_landingNow 12 = .ok (.aload_n 0, 1) := bdX7_landingNow_12.1
theorem dX7_landingNow_13 : decode cX7_landingNow 13 = .ok (.getfield 39, 3) := bdX7_landingNow_12.2.1
theorem dX7_landingNow_16 : decode cX7_landingNow 16 = .ok (.getfield 177, 3) := bdX7_landingNow_12.2.2.1
theorem dX7_landingNow_19 : decode cX7_landingNow 19 = .ok (.invokevirtual 203, 3) := bdX7_landingNow_12.2.2.2.1
theorem dX7_landingNow_22 : decode cX7_landingNow 22 = .ok (.ireturn, 1) := bdX7_landingNow_12.2.2.2.2
set_option maxRecDepth 20000 in
set_option maxRecDepth 100000 in
theorem ggX7_countShotsNeeded_X7_whoCanHear : GoodIn wsX7_countShotsNeeded wsX7_whoCanHear := goodIn_hd (goodIn_c ch_X7_countShotsNeeded hc_X7_countShotsNeeded ([.code yX7_whoCanHear cX7_whoCanHear 8 (some .int)] : List Cond) [(1, 11)] rfl (by decide +kernel)) (goodIn_app (goodIn_app (goodIn_app (goodIn_app (goodIn_c ch_X7_countShotsNeeded hc_X7_countShotsNeeded wsX7_whoCanHear_r1 [(1, 12), (1, 0), (1, 13), (1, 14), (1, 15), (1, 10), (1, 16), (1, 17), (1, 18), (1, 19), (1, 20), (1, 21), (1, 22), (1, 23), (2, 0), (2, 1), (2, 2), (2, 3), (2, 4), (2, 5), (2, 6), (2, 7), (1, 5), (2, 8)] rfl (by decide +kernel)) (goodIn_app (goodIn_c ch_X7_countShotsNeeded hc_X7_countShotsNeeded wsX7_whoCanHear_r2 [(2, 9), (2, 10), (2, 11), (2, 12), (2, 13), (2, 14), (2, 15), (2, 16), (2, 17), (2, 18), (2, 19), (2, 20), (2, 21), (2, 22), (2, 23), (3, 0), (3, 1), (3, 2), (3, 3), (3, 4), (3, 5), (3, 6), (3, 7), (3, 8)] rfl (by decide +kernel)) (goodIn_c ch_X7_countShotsNeeded hc_X7_countShotsNeeded wsX7_whoCanHear_r3 [(3, 9), (3, 10), (3, 11), (3, 12), (3, 13)] rfl (by decide +kernel)))) (goodIn_sub (fun _ h => (List.mem_cons_of_mem _ (List.mem_append_left _ (List.mem_append_left _ (List.mem_append_right _ h))))) gwX7)) (goodIn_sub (fun _ h => (List.mem_cons_of_mem _ (List.mem_append_right _ h))) gwX2)) (goodIn_sub (fun _ h => (List.mem_cons_of_mem _ (List.mem_append_left _ (List.mem_append_right _ h)))) gwX6))
set_option maxRecDepth 20000 in
theorem gX7_countShotsNeeded_X7_whoCanHear : GoodIn wsX7_countShotsNeeded (wsV RX7 304 RX7 yX7_whoCanHear wsX7_whoCanHear) := goodIn_app (goodIn_of _ (by decide +kernel)) ggX7_countShotsNeeded_X7_whoCanHear
set_option maxRecDepth 20000 in
set_option maxRecDepth 100000 in
theorem ggX7_countShotsNeeded_X7_fewestNeeded : GoodIn wsX7_countShotsNeeded wsX7_fewestNeeded := goodIn_hd (goodIn_c ch_X7_countShotsNeeded hc_X7_countShotsNeeded ([.code yX7_fewestNeeded cX7_fewestNeeded 4 (some .int)] : List Cond) [(3, 17)] rfl (by decide +kernel)) (goodIn_app (goodIn_app (goodIn_c ch_X7_countShotsNeeded hc_X7_countShotsNeeded ([.fieldLink RX7 29 "WordFletchers" "told" "LWordFletchers$Told;", .fieldLink RX7 298 "WordFletchers$Told" "people" "I", .fieldLink RX7 70 "WordFletchers" "shotsNeeded" "[I", .methodLink RX7 180 Lib.Math.min.name, .static Lib.Math.min.name, .initialized "java/lang/Math", .code Lib.Math.min.name Lib.Math.min.code 2 (some .int), .methodLink RX7 222 yX7_isIn, .static yX7_isIn, .initialized RX7, .code yX7_isIn cX7_isIn 2 (some .boolean)] : List Cond) [(1, 0), (1, 1), (1, 2), (1, 3), (1, 4), (1, 5), (1, 6), (3, 18), (3, 19), (1, 10), (3, 20)] rfl (by decide +kernel)) (goodIn_sub (fun _ h => (List.mem_cons_of_mem _ (List.mem_append_left _ (List.mem_append_left _ (List.mem_append_right _ h))))) gwX7)) (goodIn_sub (fun _ h => (List.mem_cons_of_mem _ (List.mem_append_left _ (List.mem_append_right _ h)))) gwX6))
set_option maxRecDepth 20000 in
theorem gX7_countShotsNeeded_X7_fewestNeeded : GoodIn wsX7_countShotsNeeded (wsV RX7 210 RX7 yX7_fewestNeeded wsX7_fewestNeeded) := goodIn_app (goodIn_of _ (by decide +kernel)) ggX7_countShotsNeeded_X7_fewestNeeded
theorem bdX7_countShotsNeeded_0 : decode cX7_countShotsNeeded 0 = .ok (.iconst 0, 1) ∧ decode cX7_countShotsNeeded 1 = .ok (.istore_n 3, 1) ∧ decode cX7_countShotsNeeded 2 = .ok (.iload_n 3, 1) ∧ decode cX7_countShotsNeeded 3 = .ok (.aload_n 0, 1) ∧ decode cX7_countShotsNeeded 4 = .ok (.getfield 29, 3) ∧ decode cX7_countShotsNeeded 7 = .ok (.getfield 298, 3) ∧ decode cX7_countShotsNeeded 10 = .ok (.if_icmp .ge 27, 3) ∧ decode cX7_countShotsNeeded 13 = .ok (.aload_n 0, 1) := by decide +kernel
theorem dX7_countShotsNeeded_0 : decode cX7_countShotsNeeded 0 = .ok (.iconst 0, 1) := bdX7_countShotsNeeded_0.1
theorem dX7_countShotsNeeded_1 : decode cX7_countShotsNeeded 1 = .ok (.istore_n 3, 1) := bdX7_countShotsNeeded_0.2.1
theorem dX7_countShotsNeeded_2 : decode cX7_countShotsNeeded 2 = .ok (.iload_n 3, 1) := bdX7_countShotsNeeded_0.2.2.1
theorem dX7_countShotsNeeded_3 : decode cX7_countShotsNeeded 3 = .ok (.aload_n 0, 1) := bdX7_countShotsNeeded_0.2.2.2.1
theorem dX7_countShotsNeeded_4 : decode cX7_countShotsNeeded 4 = .ok (.getfield 29, 3) := bdX7_countShotsNeeded_0.2.2.2.2.1
theorem dX7_countShotsNeeded_7 : decode cX7_countShotsNeeded 7 = .ok (.getfield 298, 3) := bdX7_countShotsNeeded_0.2.2.2.2.2.1
theorem dX7_countShotsNeeded_10 : decode cX7_countShotsNeeded 10 = .ok (.if_icmp .ge 27, 3) := bdX7_countShotsNeeded_0.2.2.2.2.2.2.1
theorem dX7_countShotsNeeded_13 : decode cX7_countShotsNeeded 13 = .ok (.aload_n 0, 1) := bdX7_countShotsNeeded_0.2.2.2.2.2.2.2
theorem bdX7_countShotsNeeded_14 : decode cX7_countShotsNeeded 14 = .ok (.getfield 70, 3) ∧ decode cX7_countShotsNeeded 17 = .ok (.iload_n 3, 1) ∧ decode cX7_countShotsNeeded 18 = .ok (.iload_n 3, 1) ∧ decode cX7_countShotsNeeded 19 = .ok (.iload_n 2, 1) ∧ decode cX7_countShotsNeeded 20 = .ok (.if_icmp .ne 7, 3) ∧ decode cX7_countShotsNeeded 23 = .ok (.iconst 0, 1) ∧ decode cX7_countShotsNeeded 24 = .ok (.goto 6, 3) ∧ decode cX7_countShotsNeeded 27 = .ok (.sipush 1000, 3) := by decide +kernel
theorem dX7_countShotsNeeded_14 : decode cX7_countShotsNeeded 14 = .ok (.getfield 70, 3) := bdX7_countShotsNeeded_14.1
theorem dX7_countShotsNeeded_17 : decode cX7_countShotsNeeded 17 = .ok (.iload_n 3, 1) := bdX7_countShotsNeeded_14.2.1
theorem dX7_countShotsNeeded_18 : decode cX7_countShotsNeeded 18 = .ok (.iload_n 3, 1) := bdX7_countShotsNeeded_14.2.2.1
theorem dX7_countShotsNeeded_19 : decode cX7_countShotsNeeded 19 = .ok (.iload_n 2, 1) := bdX7_countShotsNeeded_14.2.2.2.1
theorem dX7_countShotsNeeded_20 : decode cX7_countShotsNeeded 20 = .ok (.if_icmp .ne 7, 3) := bdX7_countShotsNeeded_14.2.2.2.2.1
theorem dX7_countShotsNeeded_23 : decode cX7_countShotsNeeded 23 = .ok (.iconst 0, 1) := bdX7_countShotsNeeded_14.2.2.2.2.2.1
theorem dX7_countShotsNeeded_24 : decode cX7_countShotsNeeded 24 = .ok (.goto 6, 3) := bdX7_countShotsNeeded_14.2.2.2.2.2.2.1
theorem dX7_countShotsNeeded_27 : decode cX7_countShotsNeeded 27 = .ok (.sipush 1000, 3) := bdX7_countShotsNeeded_14.2.2.2.2.2.2.2
theorem bdX7_countShotsNeeded_30 : decode cX7_countShotsNeeded 30 = .ok (.iastore, 1) ∧ decode cX7_countShotsNeeded 31 = .ok (.iinc 3 1, 3) ∧ decode cX7_countShotsNeeded 34 = .ok (.goto (-32), 3) ∧ decode cX7_countShotsNeeded 37 = .ok (.iconst 1, 1) ∧ decode cX7_countShotsNeeded 38 = .ok (.istore_n 3, 1) ∧ decode cX7_countShotsNeeded 39 = .ok (.iload_n 3, 1) ∧ decode cX7_countShotsNeeded 40 = .ok (.aload_n 0, 1) ∧ decode cX7_countShotsNeeded 41 = .ok (.getfield 29, 3) := by decide +kernel
theorem dX7_countShotsNeeded_30 : decode cX7_countShotsNeeded 30 = .ok (.iastore, 1) := bdX7_countShotsNeeded_30.1
theorem dX7_countShotsNeeded_31 : decode cX7_countShotsNeeded 31 = .ok (.iinc 3 1, 3) := bdX7_countShotsNeeded_30.2.1
theorem dX7_countShotsNeeded_34 : decode cX7_countShotsNeeded 34 = .ok (.goto (-32), 3) := bdX7_countShotsNeeded_30.2.2.1
theorem dX7_countShotsNeeded_37 : decode cX7_countShotsNeeded 37 = .ok (.iconst 1, 1) := bdX7_countShotsNeeded_30.2.2.2.1
theorem dX7_countShotsNeeded_38 : decode cX7_countShotsNeeded 38 = .ok (.istore_n 3, 1) := bdX7_countShotsNeeded_30.2.2.2.2.1
theorem dX7_countShotsNeeded_39 : decode cX7_countShotsNeeded 39 = .ok (.iload_n 3, 1) := bdX7_countShotsNeeded_30.2.2.2.2.2.1
theorem dX7_countShotsNeeded_40 : decode cX7_countShotsNeeded 40 = .ok (.aload_n 0, 1) := bdX7_countShotsNeeded_30.2.2.2.2.2.2.1
theorem dX7_countShotsNeeded_41 : decode cX7_countShotsNeeded 41 = .ok (.getfield 29, 3) := bdX7_countShotsNeeded_30.2.2.2.2.2.2.2
theorem bdX7_countShotsNeeded_44 : decode cX7_countShotsNeeded 44 = .ok (.getfield 298, 3) ∧ decode cX7_countShotsNeeded 47 = .ok (.if_icmp .ge 60, 3) ∧ decode cX7_countShotsNeeded 50 = .ok (.iconst 0, 1) ∧ decode cX7_countShotsNeeded 51 = .ok (.istore 4, 2) ∧ decode cX7_countShotsNeeded 53 = .ok (.iload 4, 2) ∧ decode cX7_countShotsNeeded 55 = .ok (.aload_n 0, 1) ∧ decode cX7_countShotsNeeded 56 = .ok (.getfield 29, 3) ∧ decode cX7_countShotsNeeded 59 = .ok (.getfield 298, 3) := by decide +kernel
theorem dX7_countShotsNeeded_44 : decode cX7_countShotsNeeded 44 = .ok (.getfield 298, 3) := bdX7_countShotsNeeded_44.1
theorem dX7_countShotsNeeded_47 : decode cX7_countShotsNeeded 47 = .ok (.if_icmp .ge 60, 3) := bdX7_countShotsNeeded_44.2.1
theorem dX7_countShotsNeeded_50 : decode cX7_countShotsNeeded 50 = .ok (.iconst 0, 1) := bdX7_countShotsNeeded_44.2.2.1
theorem dX7_countShotsNeeded_51 : decode cX7_countShotsNeeded 51 = .ok (.istore 4, 2) := bdX7_countShotsNeeded_44.2.2.2.1
theorem dX7_countShotsNeeded_53 : decode cX7_countShotsNeeded 53 = .ok (.iload 4, 2) := bdX7_countShotsNeeded_44.2.2.2.2.1
theorem dX7_countShotsNeeded_55 : decode cX7_countShotsNeeded 55 = .ok (.aload_n 0, 1) := bdX7_countShotsNeeded_44.2.2.2.2.2.1
theorem dX7_countShotsNeeded_56 : decode cX7_countShotsNeeded 56 = .ok (.getfield 29, 3) := bdX7_countShotsNeeded_44.2.2.2.2.2.2.1
theorem dX7_countShotsNeeded_59 : decode cX7_countShotsNeeded 59 = .ok (.getfield 298, 3) := bdX7_countShotsNeeded_44.2.2.2.2.2.2.2
theorem bdX7_countShotsNeeded_62 : decode cX7_countShotsNeeded 62 = .ok (.if_icmp .ge 39, 3) ∧ decode cX7_countShotsNeeded 65 = .ok (.aload_n 0, 1) ∧ decode cX7_countShotsNeeded 66 = .ok (.getfield 70, 3) ∧ decode cX7_countShotsNeeded 69 = .ok (.iload 4, 2) ∧ decode cX7_countShotsNeeded 71 = .ok (.aload_n 0, 1) ∧ decode cX7_countShotsNeeded 72 = .ok (.getfield 70, 3) ∧ decode cX7_countShotsNeeded 75 = .ok (.iload 4, 2) ∧ decode cX7_countShotsNeeded 77 = .ok (.iaload, 1) := by decide +kernel
theorem dX7_countShotsNeeded_62 : decode cX7_countShotsNeeded 62 = .ok (.if_icmp .ge 39, 3) := bdX7_countShotsNeeded_62.1
theorem dX7_countShotsNeeded_65 : decode cX7_countShotsNeeded 65 = .ok (.aload_n 0, 1) := bdX7_countShotsNeeded_62.2.1
theorem dX7_countShotsNeeded_66 : decode cX7_countShotsNeeded 66 = .ok (.getfield 70, 3) := bdX7_countShotsNeeded_62.2.2.1
theorem dX7_countShotsNeeded_69 : decode cX7_countShotsNeeded 69 = .ok (.iload 4, 2) := bdX7_countShotsNeeded_62.2.2.2.1
theorem dX7_countShotsNeeded_71 : decode cX7_countShotsNeeded 71 = .ok (.aload_n 0, 1) := bdX7_countShotsNeeded_62.2.2.2.2.1
theorem dX7_countShotsNeeded_72 : decode cX7_countShotsNeeded 72 = .ok (.getfield 70, 3) := bdX7_countShotsNeeded_62.2.2.2.2.2.1
theorem dX7_countShotsNeeded_75 : decode cX7_countShotsNeeded 75 = .ok (.iload 4, 2) := bdX7_countShotsNeeded_62.2.2.2.2.2.2.1
theorem dX7_countShotsNeeded_77 : decode cX7_countShotsNeeded 77 = .ok (.iaload, 1) := bdX7_countShotsNeeded_62.2.2.2.2.2.2.2
theorem bdX7_countShotsNeeded_78 : decode cX7_countShotsNeeded 78 = .ok (.iconst 1, 1) ∧ decode cX7_countShotsNeeded 79 = .ok (.aload_n 0, 1) ∧ decode cX7_countShotsNeeded 80 = .ok (.aload_n 0, 1) ∧ decode cX7_countShotsNeeded 81 = .ok (.iload 4, 2) ∧ decode cX7_countShotsNeeded 83 = .ok (.iload_n 1, 1) ∧ decode cX7_countShotsNeeded 84 = .ok (.invokevirtual 304, 3) ∧ decode cX7_countShotsNeeded 87 = .ok (.invokevirtual 210, 3) ∧ decode cX7_countShotsNeeded 90 = .ok (.iadd, 1) := by decide +kernel
theorem dX7_countShotsNeeded_78 : decode cX7_countShotsNeeded 78 = .ok (.iconst 1, 1) := bdX7_countShotsNeeded_78.1
theorem dX7_countShotsNeeded_79 : decode cX7_countShotsNeeded 79 = .ok (.aload_n 0, 1) := bdX7_countShotsNeeded_78.2.1
theorem dX7_countShotsNeeded_80 : decode cX7_countShotsNeeded 80 = .ok (.aload_n 0, 1) := bdX7_countShotsNeeded_78.2.2.1
theorem dX7_countShotsNeeded_81 : decode cX7_countShotsNeeded 81 = .ok (.iload 4, 2) := bdX7_countShotsNeeded_78.2.2.2.1
theorem dX7_countShotsNeeded_83 : decode cX7_countShotsNeeded 83 = .ok (.iload_n 1, 1) := bdX7_countShotsNeeded_78.2.2.2.2.1
theorem dX7_countShotsNeeded_84 : decode cX7_countShotsNeeded 84 = .ok (.invokevirtual 304, 3) := bdX7_countShotsNeeded_78.2.2.2.2.2.1
theorem dX7_countShotsNeeded_87 : decode cX7_countShotsNeeded 87 = .ok (.invokevirtual 210, 3) := bdX7_countShotsNeeded_78.2.2.2.2.2.2.1
theorem dX7_countShotsNeeded_90 : decode cX7_countShotsNeeded 90 = .ok (.iadd, 1) := bdX7_countShotsNeeded_78.2.2.2.2.2.2.2
theorem bdX7_countShotsNeeded_91 : decode cX7_countShotsNeeded 91 = .ok (.invokestatic 180, 3) ∧ decode cX7_countShotsNeeded 94 = .ok (.iastore, 1) ∧ decode cX7_countShotsNeeded 95 = .ok (.iinc 4 1, 3) ∧ decode cX7_countShotsNeeded 98 = .ok (.goto (-45), 3) ∧ decode cX7_countShotsNeeded 101 = .ok (.iinc 3 1, 3) ∧ decode cX7_countShotsNeeded 104 = .ok (.goto (-65), 3) ∧ decode cX7_countShotsNeeded 107 = .ok (.return_, 1) := by decide +kernel
theorem dX7_countShotsNeeded_91 : decode cX7_countShotsNeeded 91 = .ok (.invokestatic 180, 3) := bdX7_countShotsNeeded_91.1
theorem dX7_countShotsNeeded_94 : decode cX7_countShotsNeeded 94 = .ok (.iastore, 1) := bdX7_countShotsNeeded_91.2.1
theorem dX7_countShotsNeeded_95 : decode cX7_countShotsNeeded 95 = .ok (.iinc 4 1, 3) := bdX7_countShotsNeeded_91.2.2.1
theorem dX7_countShotsNeeded_98 : decode cX7_countShotsNeeded 98 = .ok (.goto (-45), 3) := bdX7_countShotsNeeded_91.2.2.2.1
theorem dX7_countShotsNeeded_101 : decode cX7_countShotsNeeded 101 = .ok (.iinc 3 1, 3) := bdX7_countShotsNeeded_91.2.2.2.2.1
theorem dX7_countShotsNeeded_104 : decode cX7_countShotsNeeded 104 = .ok (.goto (-65), 3) := bdX7_countShotsNeeded_91.2.2.2.2.2.1
theorem dX7_countShotsNeeded_107 : decode cX7_countShotsNeeded 107 = .ok (.return_, 1) := bdX7_countShotsNeeded_91.2.2.2.2.2.2
set_option maxRecDepth 20000 in
set_option maxRecDepth 100000 in
theorem ggX7_fewestNeeded_X7_isIn : GoodIn wsX7_fewestNeeded wsX7_isIn := goodIn_hd (goodIn_c ch_X7_fewestNeeded hc_X7_fewestNeeded ([.code yX7_isIn cX7_isIn 2 (some .boolean)] : List Cond) [(1, 10)] rfl (by decide +kernel)) (goodIn_c ch_X7_fewestNeeded hc_X7_fewestNeeded ([] : List Cond) [] rfl (by decide +kernel))
set_option maxRecDepth 20000 in
theorem gX7_fewestNeeded_X7_isIn : GoodIn wsX7_fewestNeeded (va_wsS RX7 222 yX7_isIn wsX7_isIn) := goodIn_app (goodIn_of _ (by decide +kernel)) ggX7_fewestNeeded_X7_isIn
theorem bdX7_fewestNeeded_0 : decode cX7_fewestNeeded 0 = .ok (.sipush 1000, 3) ∧ decode cX7_fewestNeeded 3 = .ok (.istore_n 2, 1) ∧ decode cX7_fewestNeeded 4 = .ok (.iconst 0, 1) ∧ decode cX7_fewestNeeded 5 = .ok (.istore_n 3, 1) ∧ decode cX7_fewestNeeded 6 = .ok (.iload_n 3, 1) ∧ decode cX7_fewestNeeded 7 = .ok (.aload_n 0, 1) ∧ decode cX7_fewestNeeded 8 = .ok (.getfield 29, 3) ∧ decode cX7_fewestNeeded 11 = .ok (.getfield 298, 3) := by decide +kernel
theorem dX7_fewestNeeded_0 : decode cX7_fewestNeeded 0 = .ok (.sipush 1000, 3) := bdX7_fewestNeeded_0.1
theorem dX7_fewestNeeded_3 : decode cX7_fewestNeeded 3 = .ok (.istore_n 2, 1) := bdX7_fewestNeeded_0.2.1
theorem dX7_fewestNeeded_4 : decode cX7_fewestNeeded 4 = .ok (.iconst 0, 1) := bdX7_fewestNeeded_0.2.2.1
theorem dX7_fewestNeeded_5 : decode cX7_fewestNeeded 5 = .ok (.istore_n 3, 1) := bdX7_fewestNeeded_0.2.2.2.1
theorem dX7_fewestNeeded_6 : decode cX7_fewestNeeded 6 = .ok (.iload_n 3, 1) := bdX7_fewestNeeded_0.2.2.2.2.1
theorem dX7_fewestNeeded_7 : decode cX7_fewestNeeded 7 = .ok (.aload_n 0, 1) := bdX7_fewestNeeded_0.2.2.2.2.2.1
theorem dX7_fewestNeeded_8 : decode cX7_fewestNeeded 8 = .ok (.getfield 29, 3) := bdX7_fewestNeeded_0.2.2.2.2.2.2.1
theorem dX7_fewestNeeded_11 : decode cX7_fewestNeeded 11 = .ok (.getfield 298, 3) := bdX7_fewestNeeded_0.2.2.2.2.2.2.2
theorem bdX7_fewestNeeded_14 : decode cX7_fewestNeeded 14 = .ok (.if_icmp .ge 28, 3) ∧ decode cX7_fewestNeeded 17 = .ok (.iload_n 1, 1) ∧ decode cX7_fewestNeeded 18 = .ok (.iload_n 3, 1) ∧ decode cX7_fewestNeeded 19 = .ok (.invokestatic 222, 3) ∧ decode cX7_fewestNeeded 22 = .ok (.ifCond .eq 14, 3) ∧ decode cX7_fewestNeeded 25 = .ok (.iload_n 2, 1) ∧ decode cX7_fewestNeeded 26 = .ok (.aload_n 0, 1) ∧ decode cX7_fewestNeeded 27 = .ok (.getfield 70, 3) := by decide +kernel
theorem dX7_fewestNeeded_14 : decode cX7_fewestNeeded 14 = .ok (.if_icmp .ge 28, 3) := bdX7_fewestNeeded_14.1
theorem dX7_fewestNeeded_17 : decode cX7_fewestNeeded 17 = .ok (.iload_n 1, 1) := bdX7_fewestNeeded_14.2.1
theorem dX7_fewestNeeded_18 : decode cX7_fewestNeeded 18 = .ok (.iload_n 3, 1) := bdX7_fewestNeeded_14.2.2.1
theorem dX7_fewestNeeded_19 : decode cX7_fewestNeeded 19 = .ok (.invokestatic 222, 3) := bdX7_fewestNeeded_14.2.2.2.1
theorem dX7_fewestNeeded_22 : decode cX7_fewestNeeded 22 = .ok (.ifCond .eq 14, 3) := bdX7_fewestNeeded_14.2.2.2.2.1
theorem dX7_fewestNeeded_25 : decode cX7_fewestNeeded 25 = .ok (.iload_n 2, 1) := bdX7_fewestNeeded_14.2.2.2.2.2.1
theorem dX7_fewestNeeded_26 : decode cX7_fewestNeeded 26 = .ok (.aload_n 0, 1) := bdX7_fewestNeeded_14.2.2.2.2.2.2.1
theorem dX7_fewestNeeded_27 : decode cX7_fewestNeeded 27 = .ok (.getfield 70, 3) := bdX7_fewestNeeded_14.2.2.2.2.2.2.2
theorem bdX7_fewestNeeded_30 : decode cX7_fewestNeeded 30 = .ok (.iload_n 3, 1) ∧ decode cX7_fewestNeeded 31 = .ok (.iaload, 1) ∧ decode cX7_fewestNeeded 32 = .ok (.invokestatic 180, 3) ∧ decode cX7_fewestNeeded 35 = .ok (.istore_n 2, 1) ∧ decode cX7_fewestNeeded 36 = .ok (.iinc 3 1, 3) ∧ decode cX7_fewestNeeded 39 = .ok (.goto (-33), 3) ∧ decode cX7_fewestNeeded 42 = .ok (.iload_n 2, 1) ∧ decode cX7_fewestNeeded 43 = .ok (.ireturn, 1) := by decide +kernel
theorem dX7_fewestNeeded_30 : decode cX7_fewestNeeded 30 = .ok (.iload_n 3, 1) := bdX7_fewestNeeded_30.1
theorem dX7_fewestNeeded_31 : decode cX7_fewestNeeded 31 = .ok (.iaload, 1) := bdX7_fewestNeeded_30.2.1
theorem dX7_fewestNeeded_32 : decode cX7_fewestNeeded 32 = .ok (.invokestatic 180, 3) := bdX7_fewestNeeded_30.2.2.1
theorem dX7_fewestNeeded_35 : decode cX7_fewestNeeded 35 = .ok (.istore_n 2, 1) := bdX7_fewestNeeded_30.2.2.2.1
theorem dX7_fewestNeeded_36 : decode cX7_fewestNeeded 36 = .ok (.iinc 3 1, 3) := bdX7_fewestNeeded_30.2.2.2.2.1
theorem dX7_fewestNeeded_39 : decode cX7_fewestNeeded 39 = .ok (.goto (-33), 3) := bdX7_fewestNeeded_30.2.2.2.2.2.1
theorem dX7_fewestNeeded_42 : decode cX7_fewestNeeded 42 = .ok (.iload_n 2, 1) := bdX7_fewestNeeded_30.2.2.2.2.2.2.1
theorem dX7_fewestNeeded_43 : decode cX7_fewestNeeded 43 = .ok (.ireturn, 1) := bdX7_fewestNeeded_30.2.2.2.2.2.2.2
set_option maxRecDepth 20000 in
set_option maxRecDepth 100000 in
theorem ggX7_whoCanHear_X7_landingNow : GoodIn wsX7_whoCanHear wsX7_landingNow := goodIn_hd (goodIn_c ch_X7_whoCanHear hc_X7_whoCanHear ([.code yX7_landingNow cX7_landingNow 4 (some .int)] : List Cond) [(1, 6)] rfl (by decide +kernel)) (goodIn_app (goodIn_app (goodIn_app (goodIn_app (goodIn_c ch_X7_whoCanHear hc_X7_whoCanHear wsX7_landingNow_r1 [(1, 1), (1, 7), (1, 8), (1, 9), (1, 10), (1, 11), (1, 5), (1, 12), (1, 13), (1, 14), (1, 15), (1, 16), (1, 17), (1, 18), (1, 19), (1, 20), (1, 21), (1, 22), (1, 23), (2, 0), (2, 1), (2, 2), (2, 3), (2, 4)] rfl (by decide +kernel)) (goodIn_c ch_X7_whoCanHear hc_X7_whoCanHear wsX7_landingNow_r2 [(2, 5), (2, 6), (2, 7), (2, 8), (2, 9), (2, 10), (2, 11), (2, 12), (2, 13), (2, 14), (2, 15)] rfl (by decide +kernel))) (goodIn_sub (fun _ h => (List.mem_cons_of_mem _ (List.mem_append_left _ (List.mem_append_left _ (List.mem_append_right _ h))))) gwX7)) (goodIn_sub (fun _ h => (List.mem_cons_of_mem _ (List.mem_append_left _ (List.mem_append_right _ h)))) gwX2)) (goodIn_sub (fun _ h => (List.mem_cons_of_mem _ (List.mem_append_right _ h))) gwX6))
set_option maxRecDepth 20000 in
theorem gX7_whoCanHear_X7_landingNow : GoodIn wsX7_whoCanHear (wsV RX7 149 RX7 yX7_landingNow wsX7_landingNow) := goodIn_app (goodIn_of _ (by decide +kernel)) ggX7_whoCanHear_X7_landingNow
set_option maxRecDepth 20000 in
set_option maxRecDepth 100000 in
theorem ggX7_whoCanHear_X6_hearers : GoodIn wsX7_whoCanHear wsX6_hearers := goodIn_hd (goodIn_c ch_X7_whoCanHear hc_X7_whoCanHear ([.code yX6_hearers cX6_hearers 5 (some .int)] : List Cond) [(2, 19)] rfl (by decide +kernel)) (goodIn_app (goodIn_c ch_X7_whoCanHear hc_X7_whoCanHear ([.fieldLink RX6 36 "WordFletchers$Told" "people" "I", .methodLink RX6 74 yX6_hears, .instanceMethod yX6_hears, .selects RX6 yX6_hears yX6_hears, .initialized RX6, .code yX6_hears cX6_hears 3 (some .boolean), .fieldLink RX6 9 "WordFletchers$Told" "place" "[I", .methodLink RX6 70 Lib.Math.abs.name, .static Lib.Math.abs.name, .initialized "java/lang/Math", .code Lib.Math.abs.name Lib.Math.abs.code 1 (some .int), .fieldLink RX6 15 "WordFletchers$Told" "ear" "[I"] : List Cond) [(2, 20), (2, 21), (2, 22), (2, 23), (1, 17), (3, 0), (2, 9), (3, 1), (3, 2), (1, 22), (3, 3), (3, 4)] rfl (by decide +kernel)) (goodIn_sub (fun _ h => (List.mem_cons_of_mem _ (List.mem_append_right _ h))) gwX6))
set_option maxRecDepth 20000 in
theorem gX7_whoCanHear_X6_hearers : GoodIn wsX7_whoCanHear (wsV RX7 152 RX6 yX6_hearers wsX6_hearers) := goodIn_app (goodIn_of _ (by decide +kernel)) ggX7_whoCanHear_X6_hearers
theorem bdX7_whoCanHear_0 : decode cX7_whoCanHear 0 = .ok (.iconst 0, 1) ∧ decode cX7_whoCanHear 1 = .ok (.istore_n 3, 1) ∧ decode cX7_whoCanHear 2 = .ok (.getstatic 307, 3) ∧ decode cX7_whoCanHear 5 = .ok (.astore 4, 2) ∧ decode cX7_whoCanHear 7 = .ok (.aload 4, 2) ∧ decode cX7_whoCanHear 9 = .ok (.arraylength, 1) ∧ decode cX7_whoCanHear 10 = .ok (.istore 5, 2) ∧ decode cX7_whoCanHear 12 = .ok (.iconst 0, 1) := by decide +kernel
theorem dX7_whoCanHear_0 : decode cX7_whoCanHear 0 = .ok (.iconst 0, 1) := bdX7_whoCanHear_0.1
theorem dX7_whoCanHear_1 : decode cX7_whoCanHear 1 = .ok (.istore_n 3, 1) := bdX7_whoCanHear_0.2.1
theorem dX7_whoCanHear_2 : decode cX7_whoCanHear 2 = .ok (.getstatic 307, 3) := bdX7_whoCanHear_0.2.2.1
theorem dX7_whoCanHear_5 : decode cX7_whoCanHear 5 = .ok (.astore 4, 2) := bdX7_whoCanHear_0.2.2.2.1
theorem dX7_whoCanHear_7 : decode cX7_whoCanHear 7 = .ok (.aload 4, 2) := bdX7_whoCanHear_0.2.2.2.2.1
theorem dX7_whoCanHear_9 : decode cX7_whoCanHear 9 = .ok (.arraylength, 1) := bdX7_whoCanHear_0.2.2.2.2.2.1
theorem dX7_whoCanHear_10 : decode cX7_whoCanHear 10 = .ok (.istore 5, 2) := bdX7_whoCanHear_0.2.2.2.2.2.2.1
theorem dX7_whoCanHear_12 : decode cX7_whoCanHear 12 = .ok (.iconst 0, 1) := bdX7_whoCanHear_0.2.2.2.2.2.2.2
theorem bdX7_whoCanHear_13 : decode cX7_whoCanHear 13 = .ok (.istore 6, 2) ∧ decode cX7_whoCanHear 15 = .ok (.iload 6, 2) ∧ decode cX7_whoCanHear 17 = .ok (.iload 5, 2) ∧ decode cX7_whoCanHear 19 = .ok (.if_icmp .ge 35, 3) ∧ decode cX7_whoCanHear 22 = .ok (.aload 4, 2) ∧ decode cX7_whoCanHear 24 = .ok (.iload 6, 2) ∧ decode cX7_whoCanHear 26 = .ok (.iaload, 1) ∧ decode cX7_whoCanHear 27 = .ok (.istore 7, 2) := by decide +kernel
theorem dX7_whoCanHear_13 : decode cX7_whoCanHear 13 = .ok (.istore 6, 2) := bdX7_whoCanHear_13.1
theorem dX7_whoCanHear_15 : decode cX7_whoCanHear 15 = .ok (.iload 6, 2) := bdX7_whoCanHear_13.2.1
theorem dX7_whoCanHear_17 : decode cX7_whoCanHear 17 = .ok (.iload 5, 2) := bdX7_whoCanHear_13.2.2.1
theorem dX7_whoCanHear_19 : decode cX7_whoCanHear 19 = .ok (.if_icmp .ge 35, 3) := bdX7_whoCanHear_13.2.2.2.1
theorem dX7_whoCanHear_22 : decode cX7_whoCanHear 22 = .ok (.aload 4, 2) := bdX7_whoCanHear_13.2.2.2.2.1
theorem dX7_whoCanHear_24 : decode cX7_whoCanHear 24 = .ok (.iload 6, 2) := bdX7_whoCanHear_13.2.2.2.2.2.1
theorem dX7_whoCanHear_26 : decode cX7_whoCanHear 26 = .ok (.iaload, 1) := bdX7_whoCanHear_13.2.2.2.2.2.2.1
theorem dX7_whoCanHear_27 : decode cX7_whoCanHear 27 = .ok (.istore 7, 2) := bdX7_whoCanHear_13.2.2.2.2.2.2.2
theorem bdX7_whoCanHear_29 : decode cX7_whoCanHear 29 = .ok (.iload_n 3, 1) ∧ decode cX7_whoCanHear 30 = .ok (.aload_n 0, 1) ∧ decode cX7_whoCanHear 31 = .ok (.getfield 29, 3) ∧ decode cX7_whoCanHear 34 = .ok (.iload_n 1, 1) ∧ decode cX7_whoCanHear 35 = .ok (.aload_n 0, 1) ∧ decode cX7_whoCanHear 36 = .ok (.iload_n 1, 1) ∧ decode cX7_whoCanHear 37 = .ok (.iload_n 2, 1) ∧ decode cX7_whoCanHear 38 = .ok (.iload 7, 2) := by decide +kernel
theorem dX7_whoCanHear_29 : decode cX7_whoCanHear 29 = .ok (.iload_n 3, 1) := bdX7_whoCanHear_29.1
theorem dX7_whoCanHear_30 : decode cX7_whoCanHear 30 = .ok (.aload_n 0, 1) := bdX7_whoCanHear_29.2.1
theorem dX7_whoCanHear_31 : decode cX7_whoCanHear 31 = .ok (.getfield 29, 3) := bdX7_whoCanHear_29.2.2.1
theorem dX7_whoCanHear_34 : decode cX7_whoCanHear 34 = .ok (.iload_n 1, 1) := bdX7_whoCanHear_29.2.2.2.1
theorem dX7_whoCanHear_35 : decode cX7_whoCanHear 35 = .ok (.aload_n 0, 1) := bdX7_whoCanHear_29.2.2.2.2.1
theorem dX7_whoCanHear_36 : decode cX7_whoCanHear 36 = .ok (.iload_n 1, 1) := bdX7_whoCanHear_29.2.2.2.2.2.1
theorem dX7_whoCanHear_37 : decode cX7_whoCanHear 37 = .ok (.iload_n 2, 1) := bdX7_whoCanHear_29.2.2.2.2.2.2.1
theorem dX7_whoCanHear_38 : decode cX7_whoCanHear 38 = .ok (.iload 7, 2) := bdX7_whoCanHear_29.2.2.2.2.2.2.2
theorem bdX7_whoCanHear_40 : decode cX7_whoCanHear 40 = .ok (.invokevirtual 149, 3) ∧ decode cX7_whoCanHear 43 = .ok (.invokevirtual 152, 3) ∧ decode cX7_whoCanHear 46 = .ok (.ior, 1) ∧ decode cX7_whoCanHear 47 = .ok (.istore_n 3, 1) ∧ decode cX7_whoCanHear 48 = .ok (.iinc 6 1, 3) ∧ decode cX7_whoCanHear 51 = .ok (.goto (-36), 3) ∧ decode cX7_whoCanHear 54 = .ok (.iload_n 3, 1) ∧ decode cX7_whoCanHear 55 = .ok (.ireturn, 1) := by decide +kernel
theorem dX7_whoCanHear_40 : decode cX7_whoCanHear 40 = .ok (.invokevirtual 149, 3) := bdX7_whoCanHear_40.1
theorem dX7_whoCanHear_43 : decode cX7_whoCanHear 43 = .ok (.invokevirtual 152, 3) := bdX7_whoCanHear_40.2.1
theorem dX7_whoCanHear_46 : decode cX7_whoCanHear 46 = .ok (.ior, 1) := bdX7_whoCanHear_40.2.2.1
theorem dX7_whoCanHear_47 : decode cX7_whoCanHear 47 = .ok (.istore_n 3, 1) := bdX7_whoCanHear_40.2.2.2.1
theorem dX7_whoCanHear_48 : decode cX7_whoCanHear 48 = .ok (.iinc 6 1, 3) := bdX7_whoCanHear_40.2.2.2.2.1
theorem dX7_whoCanHear_51 : decode cX7_whoCanHear 51 = .ok (.goto (-36), 3) := bdX7_whoCanHear_40.2.2.2.2.2.1
theorem dX7_whoCanHear_54 : decode cX7_whoCanHear 54 = .ok (.iload_n 3, 1) := bdX7_whoCanHear_40.2.2.2.2.2.2.1
theorem dX7_whoCanHear_55 : decode cX7_whoCanHear 55 = .ok (.ireturn, 1) := bdX7_whoCanHear_40.2.2.2.2.2.2.2
set_option maxRecDepth 20000 in
set_option maxRecDepth 100000 in
theorem ggX7_firstOfRelay_X2_isKnown : GoodIn wsX7_firstOfRelay wsX2_isKnown := goodIn_hd (goodIn_c ch_X7_firstOfRelay hc_X7_firstOfRelay ([.code yX2_isKnown cX2_isKnown 3 (some .boolean)] : List Cond) [(1, 8)] rfl (by decide +kernel)) (goodIn_app (goodIn_c ch_X7_firstOfRelay hc_X7_firstOfRelay ([.fieldLink RX2 15 "WordFletchers$Moment" "knows" "[I", .static yX7_isIn, .initialized RX7, .code yX7_isIn cX7_isIn 2 (some .boolean)] : List Cond) [(1, 9), (1, 10), (1, 11), (1, 12)] rfl (by decide +kernel)) (goodIn_sub (fun _ h => (List.mem_cons_of_mem _ (List.mem_append_right _ h))) gwX2))
set_option maxRecDepth 20000 in
theorem gX7_firstOfRelay_X2_isKnown : GoodIn wsX7_firstOfRelay (wsV RX7 138 RX2 yX2_isKnown wsX2_isKnown) := goodIn_app (goodIn_of _ (by decide +kernel)) ggX7_firstOfRelay_X2_isKnown
set_option maxRecDepth 20000 in
set_option maxRecDepth 100000 in
theorem ggX7_firstOfRelay_X7_landingNow : GoodIn wsX7_firstOfRelay wsX7_landingNow := goodIn_hd (goodIn_c ch_X7_firstOfRelay hc_X7_firstOfRelay ([.code yX7_landingNow cX7_landingNow 4 (some .int)] : List Cond) [(1, 16)] rfl (by decide +kernel)) (goodIn_app (goodIn_app (goodIn_app (goodIn_app (goodIn_c ch_X7_firstOfRelay hc_X7_firstOfRelay wsX7_landingNow_r1 [(1, 0), (1, 2), (1, 17), (1, 18), (1, 19), (1, 20), (1, 11), (1, 21), (1, 22), (1, 23), (2, 0), (2, 1), (2, 2), (2, 3), (2, 4), (2, 5), (2, 6), (2, 7), (2, 8), (2, 9), (2, 10), (2, 11), (2, 12), (2, 13)] rfl (by decide +kernel)) (goodIn_c ch_X7_firstOfRelay hc_X7_firstOfRelay wsX7_landingNow_r2 [(2, 14), (2, 15), (2, 16), (2, 17), (2, 18), (2, 19), (2, 20), (2, 21), (2, 22), (2, 23), (3, 0)] rfl (by decide +kernel))) (goodIn_sub (fun _ h => (List.mem_cons_of_mem _ (List.mem_append_left _ (List.mem_append_left _ (List.mem_append_right _ h))))) gwX7)) (goodIn_sub (fun _ h => (List.mem_cons_of_mem _ (List.mem_append_right _ h))) gwX2)) (goodIn_sub (fun _ h => (List.mem_cons_of_mem _ (List.mem_append_left _ (List.mem_append_right _ h)))) gwX6))
set_option maxRecDepth 20000 in
theorem gX7_firstOfRelay_X7_landingNow : GoodIn wsX7_firstOfRelay (wsV RX7 149 RX7 yX7_landingNow wsX7_landingNow) := goodIn_app (goodIn_of _ (by decide +kernel)) ggX7_firstOfRelay_X7_landingNow
set_option maxRecDepth 20000 in
set_option maxRecDepth 100000 in
theorem ggX7_firstOfRelay_X6_hearers : GoodIn wsX7_firstOfRelay wsX6_hearers := goodIn_hd (goodIn_c ch_X7_firstOfRelay hc_X7_firstOfRelay ([.code yX6_hearers cX6_hearers 5 (some .int)] : List Cond) [(3, 4)] rfl (by decide +kernel)) (goodIn_app (goodIn_c ch_X7_firstOfRelay hc_X7_firstOfRelay ([.fieldLink RX6 36 "WordFletchers$Told" "people" "I", .methodLink RX6 74 yX6_hears, .instanceMethod yX6_hears, .selects RX6 yX6_hears yX6_hears, .initialized RX6, .code yX6_hears cX6_hears 3 (some .boolean), .fieldLink RX6 9 "WordFletchers$Told" "place" "[I", .methodLink RX6 70 Lib.Math.abs.name, .static Lib.Math.abs.name, .initialized "java/lang/Math", .code Lib.Math.abs.name Lib.Math.abs.code 1 (some .int), .fieldLink RX6 15 "WordFletchers$Told" "ear" "[I"] : List Cond) [(3, 5), (3, 6), (3, 7), (3, 8), (2, 2), (3, 9), (2, 18), (3, 10), (3, 11), (2, 7), (3, 12), (3, 13)] rfl (by decide +kernel)) (goodIn_sub (fun _ h => (List.mem_cons_of_mem _ (List.mem_append_left _ (List.mem_append_right _ h)))) gwX6))
set_option maxRecDepth 20000 in
theorem gX7_firstOfRelay_X6_hearers : GoodIn wsX7_firstOfRelay (wsV RX7 152 RX6 yX6_hearers wsX6_hearers) := goodIn_app (goodIn_of _ (by decide +kernel)) ggX7_firstOfRelay_X6_hearers
set_option maxRecDepth 20000 in
set_option maxRecDepth 100000 in
theorem ggX7_firstOfRelay_X7_fewestNeeded : GoodIn wsX7_firstOfRelay wsX7_fewestNeeded := goodIn_hd (goodIn_c ch_X7_firstOfRelay hc_X7_firstOfRelay ([.code yX7_fewestNeeded cX7_fewestNeeded 4 (some .int)] : List Cond) [(3, 17)] rfl (by decide +kernel)) (goodIn_app (goodIn_app (goodIn_c ch_X7_firstOfRelay hc_X7_firstOfRelay ([.fieldLink RX7 29 "WordFletchers" "told" "LWordFletchers$Told;", .fieldLink RX7 298 "WordFletchers$Told" "people" "I", .fieldLink RX7 70 "WordFletchers" "shotsNeeded" "[I", .methodLink RX7 180 Lib.Math.min.name, .static Lib.Math.min.name, .initialized "java/lang/Math", .code Lib.Math.min.name Lib.Math.min.code 2 (some .int), .methodLink RX7 222 yX7_isIn, .static yX7_isIn, .initialized RX7, .code yX7_isIn cX7_isIn 2 (some .boolean)] : List Cond) [(1, 0), (1, 1), (3, 18), (3, 19), (3, 20), (2, 7), (3, 21), (3, 22), (1, 10), (1, 11), (1, 12)] rfl (by decide +kernel)) (goodIn_sub (fun _ h => (List.mem_cons_of_mem _ (List.mem_append_left _ (List.mem_append_left _ (List.mem_append_right _ h))))) gwX7)) (goodIn_sub (fun _ h => (List.mem_cons_of_mem _ (List.mem_append_left _ (List.mem_append_right _ h)))) gwX6))
set_option maxRecDepth 20000 in
theorem gX7_firstOfRelay_X7_fewestNeeded : GoodIn wsX7_firstOfRelay (wsV RX7 210 RX7 yX7_fewestNeeded wsX7_fewestNeeded) := goodIn_app (goodIn_of _ (by decide +kernel)) ggX7_firstOfRelay_X7_fewestNeeded
theorem bdX7_firstOfRelay_0 : decode cX7_firstOfRelay 0 = .ok (.iconst 0, 1) ∧ decode cX7_firstOfRelay 1 = .ok (.istore 4, 2) ∧ decode cX7_firstOfRelay 3 = .ok (.iload 4, 2) ∧ decode cX7_firstOfRelay 5 = .ok (.aload_n 0, 1) ∧ decode cX7_firstOfRelay 6 = .ok (.getfield 29, 3) ∧ decode cX7_firstOfRelay 9 = .ok (.getfield 298, 3) ∧ decode cX7_firstOfRelay 12 = .ok (.if_icmp .ge 97, 3) ∧ decode cX7_firstOfRelay 15 = .ok (.aload_n 0, 1) := by decide +kernel
theorem dX7_firstOfRelay_0 : decode cX7_firstOfRelay 0 = .ok (.iconst 0, 1) := bdX7_firstOfRelay_0.1
theorem dX7_firstOfRelay_1 : decode cX7_firstOfRelay 1 = .ok (.istore 4, 2) := bdX7_firstOfRelay_0.2.1
theorem dX7_firstOfRelay_3 : decode cX7_firstOfRelay 3 = .ok (.iload 4, 2) := bdX7_firstOfRelay_0.2.2.1
theorem dX7_firstOfRelay_5 : decode cX7_firstOfRelay 5 = .ok (.aload_n 0, 1) := bdX7_firstOfRelay_0.2.2.2.1
theorem dX7_firstOfRelay_6 : decode cX7_firstOfRelay 6 = .ok (.getfield 29, 3) := bdX7_firstOfRelay_0.2.2.2.2.1
theorem dX7_firstOfRelay_9 : decode cX7_firstOfRelay 9 = .ok (.getfield 298, 3) := bdX7_firstOfRelay_0.2.2.2.2.2.1
theorem dX7_firstOfRelay_12 : decode cX7_firstOfRelay 12 = .ok (.if_icmp .ge 97, 3) := bdX7_firstOfRelay_0.2.2.2.2.2.2.1
theorem dX7_firstOfRelay_15 : decode cX7_firstOfRelay 15 = .ok (.aload_n 0, 1) := bdX7_firstOfRelay_0.2.2.2.2.2.2.2
theorem bdX7_firstOfRelay_16 : decode cX7_firstOfRelay 16 = .ok (.getfield 39, 3) ∧ decode cX7_firstOfRelay 19 = .ok (.iload 4, 2) ∧ decode cX7_firstOfRelay 21 = .ok (.iload_n 1, 1) ∧ decode cX7_firstOfRelay 22 = .ok (.invokevirtual 138, 3) ∧ decode cX7_firstOfRelay 25 = .ok (.ifCond .ne 6, 3) ∧ decode cX7_firstOfRelay 28 = .ok (.goto 75, 3) ∧ decode cX7_firstOfRelay 31 = .ok (.getstatic 307, 3) ∧ decode cX7_firstOfRelay 34 = .ok (.astore 5, 2) := by decide +kernel
theorem dX7_firstOfRelay_16 : decode cX7_firstOfRelay 16 = .ok (.getfield 39, 3) := bdX7_firstOfRelay_16.1
theorem dX7_firstOfRelay_19 : decode cX7_firstOfRelay 19 = .ok (.iload 4, 2) := bdX7_firstOfRelay_16.2.1
theorem dX7_firstOfRelay_21 : decode cX7_firstOfRelay 21 = .ok (.iload_n 1, 1) := bdX7_firstOfRelay_16.2.2.1
theorem dX7_firstOfRelay_22 : decode cX7_firstOfRelay 22 = .ok (.invokevirtual 138, 3) := bdX7_firstOfRelay_16.2.2.2.1
theorem dX7_firstOfRelay_25 : decode cX7_firstOfRelay 25 = .ok (.ifCond .ne 6, 3) := bdX7_firstOfRelay_16.2.2.2.2.1
theorem dX7_firstOfRelay_28 : decode cX7_firstOfRelay 28 = .ok (.goto 75, 3) := bdX7_firstOfRelay_16.2.2.2.2.2.1
theorem dX7_firstOfRelay_31 : decode cX7_firstOfRelay 31 = .ok (.getstatic 307, 3) := bdX7_firstOfRelay_16.2.2.2.2.2.2.1
theorem dX7_firstOfRelay_34 : decode cX7_firstOfRelay 34 = .ok (.astore 5, 2) := bdX7_firstOfRelay_16.2.2.2.2.2.2.2
theorem bdX7_firstOfRelay_36 : decode cX7_firstOfRelay 36 = .ok (.aload 5, 2) ∧ decode cX7_firstOfRelay 38 = .ok (.arraylength, 1) ∧ decode cX7_firstOfRelay 39 = .ok (.istore 6, 2) ∧ decode cX7_firstOfRelay 41 = .ok (.iconst 0, 1) ∧ decode cX7_firstOfRelay 42 = .ok (.istore 7, 2) ∧ decode cX7_firstOfRelay 44 = .ok (.iload 7, 2) ∧ decode cX7_firstOfRelay 46 = .ok (.iload 6, 2) ∧ decode cX7_firstOfRelay 48 = .ok (.if_icmp .ge 55, 3) := by decide +kernel
theorem dX7_firstOfRelay_36 : decode cX7_firstOfRelay 36 = .ok (.aload 5, 2) := bdX7_firstOfRelay_36.1
theorem dX7_firstOfRelay_38 : decode cX7_firstOfRelay 38 = .ok (.arraylength, 1) := bdX7_firstOfRelay_36.2.1
theorem dX7_firstOfRelay_39 : decode cX7_firstOfRelay 39 = .ok (.istore 6, 2) := bdX7_firstOfRelay_36.2.2.1
theorem dX7_firstOfRelay_41 : decode cX7_firstOfRelay 41 = .ok (.iconst 0, 1) := bdX7_firstOfRelay_36.2.2.2.1
theorem dX7_firstOfRelay_42 : decode cX7_firstOfRelay 42 = .ok (.istore 7, 2) := bdX7_firstOfRelay_36.2.2.2.2.1
theorem dX7_firstOfRelay_44 : decode cX7_firstOfRelay 44 = .ok (.iload 7, 2) := bdX7_firstOfRelay_36.2.2.2.2.2.1
theorem dX7_firstOfRelay_46 : decode cX7_firstOfRelay 46 = .ok (.iload 6, 2) := bdX7_firstOfRelay_36.2.2.2.2.2.2.1
theorem dX7_firstOfRelay_48 : decode cX7_firstOfRelay 48 = .ok (.if_icmp .ge 55, 3) := bdX7_firstOfRelay_36.2.2.2.2.2.2.2
theorem bdX7_firstOfRelay_51 : decode cX7_firstOfRelay 51 = .ok (.aload 5, 2) ∧ decode cX7_firstOfRelay 53 = .ok (.iload 7, 2) ∧ decode cX7_firstOfRelay 55 = .ok (.iaload, 1) ∧ decode cX7_firstOfRelay 56 = .ok (.istore 8, 2) ∧ decode cX7_firstOfRelay 58 = .ok (.aload_n 0, 1) ∧ decode cX7_firstOfRelay 59 = .ok (.aload_n 0, 1) ∧ decode cX7_firstOfRelay 60 = .ok (.getfield 29, 3) ∧ decode cX7_firstOfRelay 63 = .ok (.iload 4, 2) := by decide +kernel
theorem dX7_firstOfRelay_51 : decode cX7_firstOfRelay 51 = .ok (.aload 5, 2) := bdX7_firstOfRelay_51.1
theorem dX7_firstOfRelay_53 : decode cX7_firstOfRelay 53 = .ok (.iload 7, 2) := bdX7_firstOfRelay_51.2.1
theorem dX7_firstOfRelay_55 : decode cX7_firstOfRelay 55 = .ok (.iaload, 1) := bdX7_firstOfRelay_51.2.2.1
theorem dX7_firstOfRelay_56 : decode cX7_firstOfRelay 56 = .ok (.istore 8, 2) := bdX7_firstOfRelay_51.2.2.2.1
theorem dX7_firstOfRelay_58 : decode cX7_firstOfRelay 58 = .ok (.aload_n 0, 1) := bdX7_firstOfRelay_51.2.2.2.2.1
theorem dX7_firstOfRelay_59 : decode cX7_firstOfRelay 59 = .ok (.aload_n 0, 1) := bdX7_firstOfRelay_51.2.2.2.2.2.1
theorem dX7_firstOfRelay_60 : decode cX7_firstOfRelay 60 = .ok (.getfield 29, 3) := bdX7_firstOfRelay_51.2.2.2.2.2.2.1
theorem dX7_firstOfRelay_63 : decode cX7_firstOfRelay 63 = .ok (.iload 4, 2) := bdX7_firstOfRelay_51.2.2.2.2.2.2.2
theorem bdX7_firstOfRelay_65 : decode cX7_firstOfRelay 65 = .ok (.aload_n 0, 1) ∧ decode cX7_firstOfRelay 66 = .ok (.iload 4, 2) ∧ decode cX7_firstOfRelay 68 = .ok (.iload_n 1, 1) ∧ decode cX7_firstOfRelay 69 = .ok (.iload 8, 2) ∧ decode cX7_firstOfRelay 71 = .ok (.invokevirtual 149, 3) ∧ decode cX7_firstOfRelay 74 = .ok (.invokevirtual 152, 3) ∧ decode cX7_firstOfRelay 77 = .ok (.invokevirtual 210, 3) ∧ decode cX7_firstOfRelay 80 = .ok (.iload_n 2, 1) := by decide +kernel
theorem dX7_firstOfRelay_65 : decode cX7_firstOfRelay 65 = .ok (.aload_n 0, 1) := bdX7_firstOfRelay_65.1
theorem dX7_firstOfRelay_66 : decode cX7_firstOfRelay 66 = .ok (.iload 4, 2) := bdX7_firstOfRelay_65.2.1
theorem dX7_firstOfRelay_68 : decode cX7_firstOfRelay 68 = .ok (.iload_n 1, 1) := bdX7_firstOfRelay_65.2.2.1
theorem dX7_firstOfRelay_69 : decode cX7_firstOfRelay 69 = .ok (.iload 8, 2) := bdX7_firstOfRelay_65.2.2.2.1
theorem dX7_firstOfRelay_71 : decode cX7_firstOfRelay 71 = .ok (.invokevirtual 149, 3) := bdX7_firstOfRelay_65.2.2.2.2.1
theorem dX7_firstOfRelay_74 : decode cX7_firstOfRelay 74 = .ok (.invokevirtual 152, 3) := bdX7_firstOfRelay_65.2.2.2.2.2.1
theorem dX7_firstOfRelay_77 : decode cX7_firstOfRelay 77 = .ok (.invokevirtual 210, 3) := bdX7_firstOfRelay_65.2.2.2.2.2.2.1
theorem dX7_firstOfRelay_80 : decode cX7_firstOfRelay 80 = .ok (.iload_n 2, 1) := bdX7_firstOfRelay_65.2.2.2.2.2.2.2
theorem bdX7_firstOfRelay_81 : decode cX7_firstOfRelay 81 = .ok (.if_icmp .ne 16, 3) ∧ decode cX7_firstOfRelay 84 = .ok (.iload_n 3, 1) ∧ decode cX7_firstOfRelay 85 = .ok (.iconst 1, 1) ∧ decode cX7_firstOfRelay 86 = .ok (.if_icmp .ne 8, 3) ∧ decode cX7_firstOfRelay 89 = .ok (.iload 4, 2) ∧ decode cX7_firstOfRelay 91 = .ok (.goto 5, 3) ∧ decode cX7_firstOfRelay 94 = .ok (.iload 8, 2) ∧ decode cX7_firstOfRelay 96 = .ok (.ireturn, 1) := by decide +kernel
theorem dX7_firstOfRelay_81 : decode cX7_firstOfRelay 81 = .ok (.if_icmp .ne 16, 3) := bdX7_firstOfRelay_81.1
theorem dX7_firstOfRelay_84 : decode cX7_firstOfRelay 84 = .ok (.iload_n 3, 1) := bdX7_firstOfRelay_81.2.1
theorem dX7_firstOfRelay_85 : decode cX7_firstOfRelay 85 = .ok (.iconst 1, 1) := bdX7_firstOfRelay_81.2.2.1
theorem dX7_firstOfRelay_86 : decode cX7_firstOfRelay 86 = .ok (.if_icmp .ne 8, 3) := bdX7_firstOfRelay_81.2.2.2.1
theorem dX7_firstOfRelay_89 : decode cX7_firstOfRelay 89 = .ok (.iload 4, 2) := bdX7_firstOfRelay_81.2.2.2.2.1
theorem dX7_firstOfRelay_91 : decode cX7_firstOfRelay 91 = .ok (.goto 5, 3) := bdX7_firstOfRelay_81.2.2.2.2.2.1
theorem dX7_firstOfRelay_94 : decode cX7_firstOfRelay 94 = .ok (.iload 8, 2) := bdX7_firstOfRelay_81.2.2.2.2.2.2.1
theorem dX7_firstOfRelay_96 : decode cX7_firstOfRelay 96 = .ok (.ireturn, 1) := bdX7_firstOfRelay_81.2.2.2.2.2.2.2
theorem bdX7_firstOfRelay_97 : decode cX7_firstOfRelay 97 = .ok (.iinc 7 1, 3) ∧ decode cX7_firstOfRelay 100 = .ok (.goto (-56), 3) ∧ decode cX7_firstOfRelay 103 = .ok (.iinc 4 1, 3) ∧ decode cX7_firstOfRelay 106 = .ok (.goto (-103), 3) ∧ decode cX7_firstOfRelay 109 = .ok (.bipush (-9), 2) ∧ decode cX7_firstOfRelay 111 = .ok (.ireturn, 1) := by decide +kernel
theorem dX7_firstOfRelay_97 : decode cX7_firstOfRelay 97 = .ok (.iinc 7 1, 3) := bdX7_firstOfRelay_97.1
theorem dX7_firstOfRelay_100 : decode cX7_firstOfRelay 100 = .ok (.goto (-56), 3) := bdX7_firstOfRelay_97.2.1
theorem dX7_firstOfRelay_103 : decode cX7_firstOfRelay 103 = .ok (.iinc 4 1, 3) := bdX7_firstOfRelay_97.2.2.1
theorem dX7_firstOfRelay_106 : decode cX7_firstOfRelay 106 = .ok (.goto (-103), 3) := bdX7_firstOfRelay_97.2.2.2.1
theorem dX7_firstOfRelay_109 : decode cX7_firstOfRelay 109 = .ok (.bipush (-9), 2) := bdX7_firstOfRelay_97.2.2.2.2.1
theorem dX7_firstOfRelay_111 : decode cX7_firstOfRelay 111 = .ok (.ireturn, 1) := bdX7_firstOfRelay_97.2.2.2.2.2
set_option maxRecDepth 20000 in
set_option maxRecDepth 100000 in
theorem ggX7_prepareAllotment_X7_isIn : GoodIn wsX7_prepareAllotment wsX7_isIn := goodIn_hd (goodIn_c ch_X7_prepareAllotment hc_X7_prepareAllotment ([.code yX7_isIn cX7_isIn 2 (some .boolean)] : List Cond) [(1, 7)] rfl (by decide +kernel)) (goodIn_c ch_X7_prepareAllotment hc_X7_prepareAllotment ([] : List Cond) [] rfl (by decide +kernel))
set_option maxRecDepth 20000 in
theorem gX7_prepareAllotment_X7_isIn : GoodIn wsX7_prepareAllotment (va_wsS RX7 222 yX7_isIn wsX7_isIn) := goodIn_app (goodIn_of _ (by decide +kernel)) ggX7_prepareAllotment_X7_isIn
set_option maxRecDepth 20000 in
set_option maxRecDepth 100000 in
theorem ggX7_prepareAllotment_X0_addMember : GoodIn wsX7_prepareAllotment wsX0_addMember := goodIn_hd (goodIn_c ch_X7_prepareAllotment hc_X7_prepareAllotment ([.code yX0_addMember cX0_addMember 2 (some .int)] : List Cond) [(1, 12)] rfl (by decide +kernel)) (goodIn_app (goodIn_c ch_X7_prepareAllotment hc_X7_prepareAllotment ([.fieldLink RX0 9 "WordFletchers$Allotment" "saying" "[I", .fieldLink RX0 21 "WordFletchers$Allotment" "members" "I"] : List Cond) [(1, 13), (1, 14)] rfl (by decide +kernel)) (goodIn_sub (fun _ h => (List.mem_cons_of_mem _ (List.mem_append_left _ (List.mem_append_left _ (List.mem_append_right _ h))))) gwX0))
set_option maxRecDepth 20000 in
theorem gX7_prepareAllotment_X0_addMember : GoodIn wsX7_prepareAllotment (wsV RX7 313 RX0 yX0_addMember wsX0_addMember) := goodIn_app (goodIn_of _ (by decide +kernel)) ggX7_prepareAllotment_X0_addMember
set_option maxRecDepth 20000 in
set_option maxRecDepth 100000 in
theorem ggX7_prepareAllotment_X7_fewestToBeHeard : GoodIn wsX7_prepareAllotment wsX7_fewestToBeHeard := goodIn_hd (goodIn_c ch_X7_prepareAllotment hc_X7_prepareAllotment ([.code yX7_fewestToBeHeard cX7_fewestToBeHeard 5 (some .int)] : List Cond) [(1, 18)] rfl (by decide +kernel)) (goodIn_app (goodIn_app (goodIn_app (goodIn_app (goodIn_c ch_X7_prepareAllotment hc_X7_prepareAllotment wsX7_fewestToBeHeard_r1 [(1, 2), (1, 19), (1, 20), (1, 21), (1, 6), (1, 22), (1, 23), (2, 0), (2, 1), (2, 2), (2, 3), (2, 4), (2, 5), (2, 6), (2, 7), (2, 8), (2, 9), (2, 10), (2, 11), (2, 12), (2, 13), (2, 14), (2, 15), (2, 16)] rfl (by decide +kernel)) (goodIn_app (goodIn_c ch_X7_prepareAllotment hc_X7_prepareAllotment wsX7_fewestToBeHeard_r2 [(2, 17), (2, 18), (2, 19), (2, 20), (2, 21), (2, 22), (2, 23), (3, 0), (3, 1), (3, 2), (3, 3), (3, 4), (3, 5), (3, 6), (3, 7), (3, 8), (3, 9), (3, 10), (3, 11), (3, 12), (3, 13), (3, 14), (3, 15), (3, 16)] rfl (by decide +kernel)) (goodIn_c ch_X7_prepareAllotment hc_X7_prepareAllotment wsX7_fewestToBeHeard_r3 [(3, 17), (3, 18), (3, 19), (3, 20), (3, 21), (3, 22), (3, 23), (4, 0)] rfl (by decide +kernel)))) (goodIn_sub (fun _ h => (List.mem_cons_of_mem _ (List.mem_append_left _ (List.mem_append_left _ (List.mem_append_left _ (List.mem_append_right _ h)))))) gwX7)) (goodIn_sub (fun _ h => (List.mem_cons_of_mem _ (List.mem_append_left _ (List.mem_append_right _ h)))) gwX6)) (goodIn_sub (fun _ h => (List.mem_cons_of_mem _ (List.mem_append_right _ h))) gwX2))
set_option maxRecDepth 20000 in
theorem gX7_prepareAllotment_X7_fewestToBeHeard : GoodIn wsX7_prepareAllotment (wsV RX7 316 RX7 yX7_fewestToBeHeard wsX7_fewestToBeHeard) := goodIn_app (goodIn_of _ (by decide +kernel)) ggX7_prepareAllotment_X7_fewestToBeHeard
set_option maxRecDepth 20000 in
set_option maxRecDepth 100000 in
theorem ggX7_prepareAllotment_X0_setFewest : GoodIn wsX7_prepareAllotment wsX0_setFewest := goodIn_hd (goodIn_c ch_X7_prepareAllotment hc_X7_prepareAllotment ([.code yX0_setFewest cX0_setFewest 4 none] : List Cond) [(4, 4)] rfl (by decide +kernel)) (goodIn_app (goodIn_c ch_X7_prepareAllotment hc_X7_prepareAllotment ([.fieldLink RX0 15 "WordFletchers$Allotment" "fewest" "[I"] : List Cond) [(4, 5)] rfl (by decide +kernel)) (goodIn_sub (fun _ h => (List.mem_cons_of_mem _ (List.mem_append_left _ (List.mem_append_left _ (List.mem_append_right _ h))))) gwX0))
set_option maxRecDepth 20000 in
theorem gX7_prepareAllotment_X0_setFewest : GoodIn wsX7_prepareAllotment (wsV RX7 319 RX0 yX0_setFewest wsX0_setFewest) := goodIn_app (goodIn_of _ (by decide +kernel)) ggX7_prepareAllotment_X0_setFewest
theorem bdX7_prepareAllotment_0 : decode cX7_prepareAllotment 0 = .ok (.aload_n 0, 1) ∧ decode cX7_prepareAllotment 1 = .ok (.getfield 66, 3) ∧ decode cX7_prepareAllotment 4 = .ok (.iconst 0, 1) ∧ decode cX7_prepareAllotment 5 = .ok (.putfield 310, 3) ∧ decode cX7_prepareAllotment 8 = .ok (.iconst 0, 1) ∧ decode cX7_prepareAllotment 9 = .ok (.istore_n 2, 1) ∧ decode cX7_prepareAllotment 10 = .ok (.iload_n 2, 1) ∧ decode cX7_prepareAllotment 11 = .ok (.aload_n 0, 1) := by decide +kernel
theorem dX7_prepareAllotment_0 : decode cX7_prepareAllotment 0 = .ok (.aload_n 0, 1) := bdX7_prepareAllotment_0.1
theorem dX7_prepareAllotment_1 : decode cX7_prepareAllotment 1 = .ok (.getfield 66, 3) := bdX7_prepareAllotment_0.2.1
theorem dX7_prepareAllotment_4 : decode cX7_prepareAllotment 4 = .ok (.iconst 0, 1) := bdX7_prepareAllotment_0.2.2.1
theorem dX7_prepareAllotment_5 : decode cX7_prepareAllotment 5 = .ok (.putfield 310, 3) := bdX7_prepareAllotment_0.2.2.2.1
theorem dX7_prepareAllotment_8 : decode cX7_prepareAllotment 8 = .ok (.iconst 0, 1) := bdX7_prepareAllotment_0.2.2.2.2.1
theorem dX7_prepareAllotment_9 : decode cX7_prepareAllotment 9 = .ok (.istore_n 2, 1) := bdX7_prepareAllotment_0.2.2.2.2.2.1
theorem dX7_prepareAllotment_10 : decode cX7_prepareAllotment 10 = .ok (.iload_n 2, 1) := bdX7_prepareAllotment_0.2.2.2.2.2.2.1
theorem dX7_prepareAllotment_11 : decode cX7_prepareAllotment 11 = .ok (.aload_n 0, 1) := bdX7_prepareAllotment_0.2.2.2.2.2.2.2
theorem bdX7_prepareAllotment_12 : decode cX7_prepareAllotment 12 = .ok (.getfield 29, 3) ∧ decode cX7_prepareAllotment 15 = .ok (.getfield 219, 3) ∧ decode cX7_prepareAllotment 18 = .ok (.if_icmp .ge 58, 3) ∧ decode cX7_prepareAllotment 21 = .ok (.iload_n 1, 1) ∧ decode cX7_prepareAllotment 22 = .ok (.iload_n 2, 1) ∧ decode cX7_prepareAllotment 23 = .ok (.invokestatic 222, 3) ∧ decode cX7_prepareAllotment 26 = .ok (.ifCond .eq 44, 3) ∧ decode cX7_prepareAllotment 29 = .ok (.aload_n 0, 1) := by decide +kernel
theorem dX7_prepareAllotment_12 : decode cX7_prepareAllotment 12 = .ok (.getfield 29, 3) := bdX7_prepareAllotment_12.1
theorem dX7_prepareAllotment_15 : decode cX7_prepareAllotment 15 = .ok (.getfield 219, 3) := bdX7_prepareAllotment_12.2.1
theorem dX7_prepareAllotment_18 : decode cX7_prepareAllotment 18 = .ok (.if_icmp .ge 58, 3) := bdX7_prepareAllotment_12.2.2.1
theorem dX7_prepareAllotment_21 : decode cX7_prepareAllotment 21 = .ok (.iload_n 1, 1) := bdX7_prepareAllotment_12.2.2.2.1
theorem dX7_prepareAllotment_22 : decode cX7_prepareAllotment 22 = .ok (.iload_n 2, 1) := bdX7_prepareAllotment_12.2.2.2.2.1
theorem dX7_prepareAllotment_23 : decode cX7_prepareAllotment 23 = .ok (.invokestatic 222, 3) := bdX7_prepareAllotment_12.2.2.2.2.2.1
theorem dX7_prepareAllotment_26 : decode cX7_prepareAllotment 26 = .ok (.ifCond .eq 44, 3) := bdX7_prepareAllotment_12.2.2.2.2.2.2.1
theorem dX7_prepareAllotment_29 : decode cX7_prepareAllotment 29 = .ok (.aload_n 0, 1) := bdX7_prepareAllotment_12.2.2.2.2.2.2.2
theorem bdX7_prepareAllotment_30 : decode cX7_prepareAllotment 30 = .ok (.getfield 66, 3) ∧ decode cX7_prepareAllotment 33 = .ok (.iload_n 2, 1) ∧ decode cX7_prepareAllotment 34 = .ok (.invokevirtual 313, 3) ∧ decode cX7_prepareAllotment 37 = .ok (.istore_n 3, 1) ∧ decode cX7_prepareAllotment 38 = .ok (.iconst 0, 1) ∧ decode cX7_prepareAllotment 39 = .ok (.istore 4, 2) ∧ decode cX7_prepareAllotment 41 = .ok (.iload 4, 2) ∧ decode cX7_prepareAllotment 43 = .ok (.iconst 4, 1) := by decide +kernel
theorem dX7_prepareAllotment_30 : decode cX7_prepareAllotment 30 = .ok (.getfield 66, 3) := bdX7_prepareAllotment_30.1
theorem dX7_prepareAllotment_33 : decode cX7_prepareAllotment 33 = .ok (.iload_n 2, 1) := bdX7_prepareAllotment_30.2.1
theorem dX7_prepareAllotment_34 : decode cX7_prepareAllotment 34 = .ok (.invokevirtual 313, 3) := bdX7_prepareAllotment_30.2.2.1
theorem dX7_prepareAllotment_37 : decode cX7_prepareAllotment 37 = .ok (.istore_n 3, 1) := bdX7_prepareAllotment_30.2.2.2.1
theorem dX7_prepareAllotment_38 : decode cX7_prepareAllotment 38 = .ok (.iconst 0, 1) := bdX7_prepareAllotment_30.2.2.2.2.1
theorem dX7_prepareAllotment_39 : decode cX7_prepareAllotment 39 = .ok (.istore 4, 2) := bdX7_prepareAllotment_30.2.2.2.2.2.1
theorem dX7_prepareAllotment_41 : decode cX7_prepareAllotment 41 = .ok (.iload 4, 2) := bdX7_prepareAllotment_30.2.2.2.2.2.2.1
theorem dX7_prepareAllotment_43 : decode cX7_prepareAllotment 43 = .ok (.iconst 4, 1) := bdX7_prepareAllotment_30.2.2.2.2.2.2.2
theorem bdX7_prepareAllotment_44 : decode cX7_prepareAllotment 44 = .ok (.if_icmp .ge 26, 3) ∧ decode cX7_prepareAllotment 47 = .ok (.aload_n 0, 1) ∧ decode cX7_prepareAllotment 48 = .ok (.getfield 66, 3) ∧ decode cX7_prepareAllotment 51 = .ok (.iload_n 3, 1) ∧ decode cX7_prepareAllotment 52 = .ok (.iload 4, 2) ∧ decode cX7_prepareAllotment 54 = .ok (.aload_n 0, 1) ∧ decode cX7_prepareAllotment 55 = .ok (.iload_n 2, 1) ∧ decode cX7_prepareAllotment 56 = .ok (.iload 4, 2) := by decide +kernel
theorem dX7_prepareAllotment_44 : decode cX7_prepareAllotment 44 = .ok (.if_icmp .ge 26, 3) := bdX7_prepareAllotment_44.1
theorem dX7_prepareAllotment_47 : decode cX7_prepareAllotment 47 = .ok (.aload_n 0, 1) := bdX7_prepareAllotment_44.2.1
theorem dX7_prepareAllotment_48 : decode cX7_prepareAllotment 48 = .ok (.getfield 66, 3) := bdX7_prepareAllotment_44.2.2.1
theorem dX7_prepareAllotment_51 : decode cX7_prepareAllotment 51 = .ok (.iload_n 3, 1) := bdX7_prepareAllotment_44.2.2.2.1
theorem dX7_prepareAllotment_52 : decode cX7_prepareAllotment 52 = .ok (.iload 4, 2) := bdX7_prepareAllotment_44.2.2.2.2.1
theorem dX7_prepareAllotment_54 : decode cX7_prepareAllotment 54 = .ok (.aload_n 0, 1) := bdX7_prepareAllotment_44.2.2.2.2.2.1
theorem dX7_prepareAllotment_55 : decode cX7_prepareAllotment 55 = .ok (.iload_n 2, 1) := bdX7_prepareAllotment_44.2.2.2.2.2.2.1
theorem dX7_prepareAllotment_56 : decode cX7_prepareAllotment 56 = .ok (.iload 4, 2) := bdX7_prepareAllotment_44.2.2.2.2.2.2.2
theorem bdX7_prepareAllotment_58 : decode cX7_prepareAllotment 58 = .ok (.invokevirtual 316, 3) ∧ decode cX7_prepareAllotment 61 = .ok (.invokevirtual 319, 3) ∧ decode cX7_prepareAllotment 64 = .ok (.iinc 4 1, 3) ∧ decode cX7_prepareAllotment 67 = .ok (.goto (-26), 3) ∧ decode cX7_prepareAllotment 70 = .ok (.iinc 2 1, 3) ∧ decode cX7_prepareAllotment 73 = .ok (.goto (-63), 3) ∧ decode cX7_prepareAllotment 76 = .ok (.return_, 1) := by decide +kernel
theorem dX7_prepareAllotment_58 : decode cX7_prepareAllotment 58 = .ok (.invokevirtual 316, 3) := bdX7_prepareAllotment_58.1
theorem dX7_prepareAllotment_61 : decode cX7_prepareAllotment 61 = .ok (.invokevirtual 319, 3) := bdX7_prepareAllotment_58.2.1
theorem dX7_prepareAllotment_64 : decode cX7_prepareAllotment 64 = .ok (.iinc 4 1, 3) := bdX7_prepareAllotment_58.2.2.1
theorem dX7_prepareAllotment_67 : decode cX7_prepareAllotment 67 = .ok (.goto (-26), 3) := bdX7_prepareAllotment_58.2.2.2.1
theorem dX7_prepareAllotment_70 : decode cX7_prepareAllotment 70 = .ok (.iinc 2 1, 3) := bdX7_prepareAllotment_58.2.2.2.2.1
theorem dX7_prepareAllotment_73 : decode cX7_prepareAllotment 73 = .ok (.goto (-63), 3) := bdX7_prepareAllotment_58.2.2.2.2.2.1
theorem dX7_prepareAllotment_76 : decode cX7_prepareAllotment 76 = .ok (.return_, 1) := bdX7_prepareAllotment_58.2.2.2.2.2.2
set_option maxRecDepth 20000 in
set_option maxRecDepth 100000 in
theorem ggX7_fewestToBeHeard_X7_shotOf : GoodIn wsX7_fewestToBeHeard wsX7_shotOf := goodIn_hd (goodIn_c ch_X7_fewestToBeHeard hc_X7_fewestToBeHeard ([.code yX7_shotOf cX7_shotOf 3 (some .int)] : List Cond) [(1, 5)] rfl (by decide +kernel)) (goodIn_c ch_X7_fewestToBeHeard hc_X7_fewestToBeHeard ([] : List Cond) [] rfl (by decide +kernel))
set_option maxRecDepth 20000 in
theorem gX7_fewestToBeHeard_X7_shotOf : GoodIn wsX7_fewestToBeHeard (va_wsS RX7 145 yX7_shotOf wsX7_shotOf) := goodIn_app (goodIn_of _ (by decide +kernel)) ggX7_fewestToBeHeard_X7_shotOf
set_option maxRecDepth 20000 in
set_option maxRecDepth 100000 in
theorem ggX7_fewestToBeHeard_X7_landingNow : GoodIn wsX7_fewestToBeHeard wsX7_landingNow := goodIn_hd (goodIn_c ch_X7_fewestToBeHeard hc_X7_fewestToBeHeard ([.code yX7_landingNow cX7_landingNow 4 (some .int)] : List Cond) [(1, 9)] rfl (by decide +kernel)) (goodIn_app (goodIn_app (goodIn_app (goodIn_app (goodIn_c ch_X7_fewestToBeHeard hc_X7_fewestToBeHeard wsX7_landingNow_r1 [(1, 0), (1, 10), (1, 11), (1, 12), (1, 13), (1, 14), (1, 4), (1, 15), (1, 16), (1, 17), (1, 18), (1, 19), (1, 20), (1, 21), (1, 22), (1, 23), (2, 0), (2, 1), (2, 2), (2, 3), (2, 4), (2, 5), (2, 6), (2, 7)] rfl (by decide +kernel)) (goodIn_c ch_X7_fewestToBeHeard hc_X7_fewestToBeHeard wsX7_landingNow_r2 [(2, 8), (2, 9), (2, 10), (2, 11), (2, 12), (2, 13), (2, 14), (2, 15), (2, 16), (2, 17), (2, 18)] rfl (by decide +kernel))) (goodIn_sub (fun _ h => (List.mem_cons_of_mem _ (List.mem_append_left _ (List.mem_append_left _ (List.mem_append_right _ h))))) gwX7)) (goodIn_sub (fun _ h => (List.mem_cons_of_mem _ (List.mem_append_right _ h))) gwX2)) (goodIn_sub (fun _ h => (List.mem_cons_of_mem _ (List.mem_append_left _ (List.mem_append_right _ h)))) gwX6))
set_option maxRecDepth 20000 in
theorem gX7_fewestToBeHeard_X7_landingNow : GoodIn wsX7_fewestToBeHeard (wsV RX7 149 RX7 yX7_landingNow wsX7_landingNow) := goodIn_app (goodIn_of _ (by decide +kernel)) ggX7_fewestToBeHeard_X7_landingNow
set_option maxRecDepth 20000 in
set_option maxRecDepth 100000 in
theorem ggX7_fewestToBeHeard_X6_hearers : GoodIn wsX7_fewestToBeHeard wsX6_hearers := goodIn_hd (goodIn_c ch_X7_fewestToBeHeard hc_X7_fewestToBeHeard ([.code yX6_hearers cX6_hearers 5 (some .int)] : List Cond) [(2, 22)] rfl (by decide +kernel)) (goodIn_app (goodIn_c ch_X7_fewestToBeHeard hc_X7_fewestToBeHeard ([.fieldLink RX6 36 "WordFletchers$Told" "people" "I", .methodLink RX6 74 yX6_hears, .instanceMethod yX6_hears, .selects RX6 yX6_hears yX6_hears, .initialized RX6, .code yX6_hears cX6_hears 3 (some .boolean), .fieldLink RX6 9 "WordFletchers$Told" "place" "[I", .methodLink RX6 70 Lib.Math.abs.name, .static Lib.Math.abs.name, .initialized "java/lang/Math", .code Lib.Math.abs.name Lib.Math.abs.code 1 (some .int), .fieldLink RX6 15 "WordFletchers$Told" "ear" "[I"] : List Cond) [(2, 23), (3, 0), (3, 1), (3, 2), (1, 20), (3, 3), (2, 12), (3, 4), (3, 5), (2, 1), (3, 6), (3, 7)] rfl (by decide +kernel)) (goodIn_sub (fun _ h => (List.mem_cons_of_mem _ (List.mem_append_left _ (List.mem_append_right _ h)))) gwX6))
set_option maxRecDepth 20000 in
theorem gX7_fewestToBeHeard_X6_hearers : GoodIn wsX7_fewestToBeHeard (wsV RX7 152 RX6 yX6_hearers wsX6_hearers) := goodIn_app (goodIn_of _ (by decide +kernel)) ggX7_fewestToBeHeard_X6_hearers
theorem bdX7_fewestToBeHeard_0 : decode cX7_fewestToBeHeard 0 = .ok (.aload_n 0, 1) ∧ decode cX7_fewestToBeHeard 1 = .ok (.getfield 29, 3) ∧ decode cX7_fewestToBeHeard 4 = .ok (.getfield 114, 3) ∧ decode cX7_fewestToBeHeard 7 = .ok (.iload_n 1, 1) ∧ decode cX7_fewestToBeHeard 8 = .ok (.iaload, 1) ∧ decode cX7_fewestToBeHeard 9 = .ok (.istore_n 3, 1) ∧ decode cX7_fewestToBeHeard 10 = .ok (.iload_n 2, 1) ∧ decode cX7_fewestToBeHeard 11 = .ok (.ifCond .ne 7, 3) := by decide +kernel
theorem dX7_fewestToBeHeard_0 : decode cX7_fewestToBeHeard 0 = .ok (.aload_n 0, 1) := bdX7_fewestToBeHeard_0.1
theorem dX7_fewestToBeHeard_1 : decode cX7_fewestToBeHeard 1 = .ok (.getfield 29, 3) := bdX7_fewestToBeHeard_0.2.1
theorem dX7_fewestToBeHeard_4 : decode cX7_fewestToBeHeard 4 = .ok (.getfield 114, 3) := bdX7_fewestToBeHeard_0.2.2.1
theorem dX7_fewestToBeHeard_7 : decode cX7_fewestToBeHeard 7 = .ok (.iload_n 1, 1) := bdX7_fewestToBeHeard_0.2.2.2.1
theorem dX7_fewestToBeHeard_8 : decode cX7_fewestToBeHeard 8 = .ok (.iaload, 1) := bdX7_fewestToBeHeard_0.2.2.2.2.1
theorem dX7_fewestToBeHeard_9 : decode cX7_fewestToBeHeard 9 = .ok (.istore_n 3, 1) := bdX7_fewestToBeHeard_0.2.2.2.2.2.1
theorem dX7_fewestToBeHeard_10 : decode cX7_fewestToBeHeard 10 = .ok (.iload_n 2, 1) := bdX7_fewestToBeHeard_0.2.2.2.2.2.2.1
theorem dX7_fewestToBeHeard_11 : decode cX7_fewestToBeHeard 11 = .ok (.ifCond .ne 7, 3) := bdX7_fewestToBeHeard_0.2.2.2.2.2.2.2
theorem bdX7_fewestToBeHeard_14 : decode cX7_fewestToBeHeard 14 = .ok (.iconst 0, 1) ∧ decode cX7_fewestToBeHeard 15 = .ok (.goto 4, 3) ∧ decode cX7_fewestToBeHeard 18 = .ok (.iconst 1, 1) ∧ decode cX7_fewestToBeHeard 19 = .ok (.istore 4, 2) ∧ decode cX7_fewestToBeHeard 21 = .ok (.iload 4, 2) ∧ decode cX7_fewestToBeHeard 23 = .ok (.iconst 3, 1) ∧ decode cX7_fewestToBeHeard 24 = .ok (.if_icmp .gt 36, 3) ∧ decode cX7_fewestToBeHeard 27 = .ok (.aload_n 0, 1) := by decide +kernel
theorem dX7_fewestToBeHeard_14 : decode cX7_fewestToBeHeard 14 = .ok (.iconst 0, 1) := bdX7_fewestToBeHeard_14.1
theorem dX7_fewestToBeHeard_15 : decode cX7_fewestToBeHeard 15 = .ok (.goto 4, 3) := bdX7_fewestToBeHeard_14.2.1
theorem dX7_fewestToBeHeard_18 : decode cX7_fewestToBeHeard 18 = .ok (.iconst 1, 1) := bdX7_fewestToBeHeard_14.2.2.1
theorem dX7_fewestToBeHeard_19 : decode cX7_fewestToBeHeard 19 = .ok (.istore 4, 2) := bdX7_fewestToBeHeard_14.2.2.2.1
theorem dX7_fewestToBeHeard_21 : decode cX7_fewestToBeHeard 21 = .ok (.iload 4, 2) := bdX7_fewestToBeHeard_14.2.2.2.2.1
theorem dX7_fewestToBeHeard_23 : decode cX7_fewestToBeHeard 23 = .ok (.iconst 3, 1) := bdX7_fewestToBeHeard_14.2.2.2.2.2.1
theorem dX7_fewestToBeHeard_24 : decode cX7_fewestToBeHeard 24 = .ok (.if_icmp .gt 36, 3) := bdX7_fewestToBeHeard_14.2.2.2.2.2.2.1
theorem dX7_fewestToBeHeard_27 : decode cX7_fewestToBeHeard 27 = .ok (.aload_n 0, 1) := bdX7_fewestToBeHeard_14.2.2.2.2.2.2.2
theorem bdX7_fewestToBeHeard_28 : decode cX7_fewestToBeHeard 28 = .ok (.getfield 29, 3) ∧ decode cX7_fewestToBeHeard 31 = .ok (.iload_n 3, 1) ∧ decode cX7_fewestToBeHeard 32 = .ok (.aload_n 0, 1) ∧ decode cX7_fewestToBeHeard 33 = .ok (.iload_n 3, 1) ∧ decode cX7_fewestToBeHeard 34 = .ok (.iload_n 1, 1) ∧ decode cX7_fewestToBeHeard 35 = .ok (.iload_n 2, 1) ∧ decode cX7_fewestToBeHeard 36 = .ok (.iload 4, 2) ∧ decode cX7_fewestToBeHeard 38 = .ok (.iconst 1, 1) := by decide +kernel
theorem dX7_fewestToBeHeard_28 : decode cX7_fewestToBeHeard 28 = .ok (.getfield 29, 3) := bdX7_fewestToBeHeard_28.1
theorem dX7_fewestToBeHeard_31 : decode cX7_fewestToBeHeard 31 = .ok (.iload_n 3, 1) := bdX7_fewestToBeHeard_28.2.1
theorem dX7_fewestToBeHeard_32 : decode cX7_fewestToBeHeard 32 = .ok (.aload_n 0, 1) := bdX7_fewestToBeHeard_28.2.2.1
theorem dX7_fewestToBeHeard_33 : decode cX7_fewestToBeHeard 33 = .ok (.iload_n 3, 1) := bdX7_fewestToBeHeard_28.2.2.2.1
theorem dX7_fewestToBeHeard_34 : decode cX7_fewestToBeHeard 34 = .ok (.iload_n 1, 1) := bdX7_fewestToBeHeard_28.2.2.2.2.1
theorem dX7_fewestToBeHeard_35 : decode cX7_fewestToBeHeard 35 = .ok (.iload_n 2, 1) := bdX7_fewestToBeHeard_28.2.2.2.2.2.1
theorem dX7_fewestToBeHeard_36 : decode cX7_fewestToBeHeard 36 = .ok (.iload 4, 2) := bdX7_fewestToBeHeard_28.2.2.2.2.2.2.1
theorem dX7_fewestToBeHeard_38 : decode cX7_fewestToBeHeard 38 = .ok (.iconst 1, 1) := bdX7_fewestToBeHeard_28.2.2.2.2.2.2.2
theorem bdX7_fewestToBeHeard_39 : decode cX7_fewestToBeHeard 39 = .ok (.invokestatic 145, 3) ∧ decode cX7_fewestToBeHeard 42 = .ok (.invokevirtual 149, 3) ∧ decode cX7_fewestToBeHeard 45 = .ok (.invokevirtual 152, 3) ∧ decode cX7_fewestToBeHeard 48 = .ok (.ifCond .eq 6, 3) ∧ decode cX7_fewestToBeHeard 51 = .ok (.iload 4, 2) ∧ decode cX7_fewestToBeHeard 53 = .ok (.ireturn, 1) ∧ decode cX7_fewestToBeHeard 54 = .ok (.iinc 4 1, 3) ∧ decode cX7_fewestToBeHeard 57 = .ok (.goto (-36), 3) := by decide +kernel
theorem dX7_fewestToBeHeard_39 : decode cX7_fewestToBeHeard 39 = .ok (.invokestatic 145, 3) := bdX7_fewestToBeHeard_39.1
theorem dX7_fewestToBeHeard_42 : decode cX7_fewestToBeHeard 42 = .ok (.invokevirtual 149, 3) := bdX7_fewestToBeHeard_39.2.1
theorem dX7_fewestToBeHeard_45 : decode cX7_fewestToBeHeard 45 = .ok (.invokevirtual 152, 3) := bdX7_fewestToBeHeard_39.2.2.1
theorem dX7_fewestToBeHeard_48 : decode cX7_fewestToBeHeard 48 = .ok (.ifCond .eq 6, 3) := bdX7_fewestToBeHeard_39.2.2.2.1
theorem dX7_fewestToBeHeard_51 : decode cX7_fewestToBeHeard 51 = .ok (.iload 4, 2) := bdX7_fewestToBeHeard_39.2.2.2.2.1
theorem dX7_fewestToBeHeard_53 : decode cX7_fewestToBeHeard 53 = .ok (.ireturn, 1) := bdX7_fewestToBeHeard_39.2.2.2.2.2.1
theorem dX7_fewestToBeHeard_54 : decode cX7_fewestToBeHeard 54 = .ok (.iinc 4 1, 3) := bdX7_fewestToBeHeard_39.2.2.2.2.2.2.1
theorem dX7_fewestToBeHeard_57 : decode cX7_fewestToBeHeard 57 = .ok (.goto (-36), 3) := bdX7_fewestToBeHeard_39.2.2.2.2.2.2.2
theorem bdX7_fewestToBeHeard_60 : decode cX7_fewestToBeHeard 60 = .ok (.bipush (-9), 2) ∧ decode cX7_fewestToBeHeard 62 = .ok (.ireturn, 1) := by decide +kernel
theorem dX7_fewestToBeHeard_60 : decode cX7_fewestToBeHeard 60 = .ok (.bipush (-9), 2) := bdX7_fewestToBeHeard_60.1
theorem dX7_fewestToBeHeard_62 : decode cX7_fewestToBeHeard 62 = .ok (.ireturn, 1) := bdX7_fewestToBeHeard_60.2
set_option maxRecDepth 20000 in
set_option maxRecDepth 100000 in
theorem ggX7_suspects_X7_canBeAllSeen : GoodIn wsX7_suspects wsX7_canBeAllSeen := goodIn_hd (goodIn_c ch_X7_suspects hc_X7_suspects ([.code yX7_canBeAllSeen cX7_canBeAllSeen 5 (some .boolean)] : List Cond) [(1, 6)] rfl (by decide +kernel)) (goodIn_app (goodIn_app (goodIn_app (goodIn_app (goodIn_c ch_X7_suspects hc_X7_suspects wsX7_canBeAllSeen_r1 [(1, 7), (1, 8), (1, 9), (1, 0), (1, 10), (1, 11), (1, 12), (1, 13), (1, 14), (1, 15), (1, 16), (1, 17), (1, 18), (1, 19), (1, 20), (1, 21), (1, 22), (1, 23), (2, 0), (2, 1), (2, 2), (2, 3), (2, 4), (2, 5)] rfl (by decide +kernel)) (goodIn_c ch_X7_suspects hc_X7_suspects wsX7_canBeAllSeen_r2 [(2, 6), (2, 7), (2, 8), (2, 9), (2, 10), (1, 5), (2, 11)] rfl (by decide +kernel))) (goodIn_sub (fun _ h => (List.mem_cons_of_mem _ (List.mem_append_left _ (List.mem_append_left _ (List.mem_append_right _ h))))) gwX7)) (goodIn_sub (fun _ h => (List.mem_cons_of_mem _ (List.mem_append_right _ h))) gwX4)) (goodIn_sub (fun _ h => (List.mem_cons_of_mem _ (List.mem_append_left _ (List.mem_append_right _ h)))) gwX6))
set_option maxRecDepth 20000 in
theorem gX7_suspects_X7_canBeAllSeen : GoodIn wsX7_suspects (wsV RX7 323 RX7 yX7_canBeAllSeen wsX7_canBeAllSeen) := goodIn_app (goodIn_of _ (by decide +kernel)) ggX7_suspects_X7_canBeAllSeen
theorem bdX7_suspects_0 : decode cX7_suspects 0 = .ok (.iconst 0, 1) ∧ decode cX7_suspects 1 = .ok (.istore_n 1, 1) ∧ decode cX7_suspects 2 = .ok (.iconst 0, 1) ∧ decode cX7_suspects 3 = .ok (.istore_n 2, 1) ∧ decode cX7_suspects 4 = .ok (.iload_n 2, 1) ∧ decode cX7_suspects 5 = .ok (.aload_n 0, 1) ∧ decode cX7_suspects 6 = .ok (.getfield 29, 3) ∧ decode cX7_suspects 9 = .ok (.getfield 298, 3) := by decide +kernel
theorem dX7_suspects_0 : decode cX7_suspects 0 = .ok (.iconst 0, 1) := bdX7_suspects_0.1
theorem dX7_suspects_1 : decode cX7_suspects 1 = .ok (.istore_n 1, 1) := bdX7_suspects_0.2.1
theorem dX7_suspects_2 : decode cX7_suspects 2 = .ok (.iconst 0, 1) := bdX7_suspects_0.2.2.1
theorem dX7_suspects_3 : decode cX7_suspects 3 = .ok (.istore_n 2, 1) := bdX7_suspects_0.2.2.2.1
theorem dX7_suspects_4 : decode cX7_suspects 4 = .ok (.iload_n 2, 1) := bdX7_suspects_0.2.2.2.2.1
theorem dX7_suspects_5 : decode cX7_suspects 5 = .ok (.aload_n 0, 1) := bdX7_suspects_0.2.2.2.2.2.1
theorem dX7_suspects_6 : decode cX7_suspects 6 = .ok (.getfield 29, 3) := bdX7_suspects_0.2.2.2.2.2.2.1
theorem dX7_suspects_9 : decode cX7_suspects 9 = .ok (.getfield 298, 3) := bdX7_suspects_0.2.2.2.2.2.2.2
theorem bdX7_suspects_12 : decode cX7_suspects 12 = .ok (.if_icmp .ge 23, 3) ∧ decode cX7_suspects 15 = .ok (.aload_n 0, 1) ∧ decode cX7_suspects 16 = .ok (.iload_n 2, 1) ∧ decode cX7_suspects 17 = .ok (.invokevirtual 323, 3) ∧ decode cX7_suspects 20 = .ok (.ifCond .eq 9, 3) ∧ decode cX7_suspects 23 = .ok (.iload_n 1, 1) ∧ decode cX7_suspects 24 = .ok (.iconst 1, 1) ∧ decode cX7_suspects 25 = .ok (.iload_n 2, 1) := by decide +kernel
theorem dX7_suspects_12 : decode cX7_suspects 12 = .ok (.if_icmp .ge 23, 3) := bdX7_suspects_12.1
theorem dX7_suspects_15 : decode cX7_suspects 15 = .ok (.aload_n 0, 1) := bdX7_suspects_12.2.1
theorem dX7_suspects_16 : decode cX7_suspects 16 = .ok (.iload_n 2, 1) := bdX7_suspects_12.2.2.1
theorem dX7_suspects_17 : decode cX7_suspects 17 = .ok (.invokevirtual 323, 3) := bdX7_suspects_12.2.2.2.1
theorem dX7_suspects_20 : decode cX7_suspects 20 = .ok (.ifCond .eq 9, 3) := bdX7_suspects_12.2.2.2.2.1
theorem dX7_suspects_23 : decode cX7_suspects 23 = .ok (.iload_n 1, 1) := bdX7_suspects_12.2.2.2.2.2.1
theorem dX7_suspects_24 : decode cX7_suspects 24 = .ok (.iconst 1, 1) := bdX7_suspects_12.2.2.2.2.2.2.1
theorem dX7_suspects_25 : decode cX7_suspects 25 = .ok (.iload_n 2, 1) := bdX7_suspects_12.2.2.2.2.2.2.2
theorem bdX7_suspects_26 : decode cX7_suspects 26 = .ok (.ishl, 1) ∧ decode cX7_suspects 27 = .ok (.ior, 1) ∧ decode cX7_suspects 28 = .ok (.istore_n 1, 1) ∧ decode cX7_suspects 29 = .ok (.iinc 2 1, 3) ∧ decode cX7_suspects 32 = .ok (.goto (-28), 3) ∧ decode cX7_suspects 35 = .ok (.iload_n 1, 1) ∧ decode cX7_suspects 36 = .ok (.ireturn, 1) := by decide +kernel
theorem dX7_suspects_26 : decode cX7_suspects 26 = .ok (.ishl, 1) := bdX7_suspects_26.1
theorem dX7_suspects_27 : decode cX7_suspects 27 = .ok (.ior, 1) := bdX7_suspects_26.2.1
theorem dX7_suspects_28 : decode cX7_suspects 28 = .ok (.istore_n 1, 1) := bdX7_suspects_26.2.2.1
theorem dX7_suspects_29 : decode cX7_suspects 29 = .ok (.iinc 2 1, 3) := bdX7_suspects_26.2.2.2.1
theorem dX7_suspects_32 : decode cX7_suspects 32 = .ok (.goto (-28), 3) := bdX7_suspects_26.2.2.2.2.1
theorem dX7_suspects_35 : decode cX7_suspects 35 = .ok (.iload_n 1, 1) := bdX7_suspects_26.2.2.2.2.2.1
theorem dX7_suspects_36 : decode cX7_suspects 36 = .ok (.ireturn, 1) := bdX7_suspects_26.2.2.2.2.2.2
set_option maxRecDepth 20000 in
set_option maxRecDepth 100000 in
theorem ggX7_canBeAllSeen_X6_landings : GoodIn wsX7_canBeAllSeen wsX6_landings := goodIn_hd (goodIn_c ch_X7_canBeAllSeen hc_X7_canBeAllSeen ([.code yX6_landings cX6_landings 11 (some .int)] : List Cond) [(1, 11)] rfl (by decide +kernel)) (goodIn_app (goodIn_c ch_X7_canBeAllSeen hc_X7_canBeAllSeen ([.methodLink RX6 66 yX6_landing, .instanceMethod yX6_landing, .selects RX6 yX6_landing yX6_landing, .initialized RX6, .code yX6_landing cX6_landing 13 (some .int), .fieldLink RX6 9 "WordFletchers$Told" "place" "[I", .methodLink RX6 59 yX6_flight, .instanceMethod yX6_flight, .selects RX6 yX6_flight yX6_flight, .code yX6_flight cX6_flight 6 (some .int), .fieldLink RX6 21 "WordFletchers$Told" "twist" "[I", .fieldLink RX6 18 "WordFletchers$Told" "weight" "[I", .methodLink RX6 46 Lib.Math.max.name, .static Lib.Math.max.name, .initialized "java/lang/Math", .code Lib.Math.max.name Lib.Math.max.code 2 (some .int)] : List Cond) [(1, 12), (1, 13), (1, 14), (1, 10), (1, 15), (1, 16), (1, 17), (1, 18), (1, 19), (1, 20), (1, 21), (1, 22), (1, 23), (2, 0), (2, 1), (2, 2)] rfl (by decide +kernel)) (goodIn_sub (fun _ h => (List.mem_cons_of_mem _ (List.mem_append_right _ h))) gwX6))
set_option maxRecDepth 20000 in
theorem gX7_canBeAllSeen_X6_landings : GoodIn wsX7_canBeAllSeen (wsV RX7 334 RX6 yX6_landings wsX6_landings) := goodIn_app (goodIn_of _ (by decide +kernel)) ggX7_canBeAllSeen_X6_landings
set_option maxRecDepth 20000 in
set_option maxRecDepth 100000 in
theorem ggX7_canBeAllSeen_X7_isIn : GoodIn wsX7_canBeAllSeen wsX7_isIn := goodIn_hd (goodIn_c ch_X7_canBeAllSeen hc_X7_canBeAllSeen ([.code yX7_isIn cX7_isIn 2 (some .boolean)] : List Cond) [(2, 6)] rfl (by decide +kernel)) (goodIn_c ch_X7_canBeAllSeen hc_X7_canBeAllSeen ([] : List Cond) [] rfl (by decide +kernel))
set_option maxRecDepth 20000 in
theorem gX7_canBeAllSeen_X7_isIn : GoodIn wsX7_canBeAllSeen (va_wsS RX7 222 yX7_isIn wsX7_isIn) := goodIn_app (goodIn_of _ (by decide +kernel)) ggX7_canBeAllSeen_X7_isIn
theorem bdX7_canBeAllSeen_0 : decode cX7_canBeAllSeen 0 = .ok (.iconst 0, 1) ∧ decode cX7_canBeAllSeen 1 = .ok (.istore_n 2, 1) ∧ decode cX7_canBeAllSeen 2 = .ok (.iload_n 2, 1) ∧ decode cX7_canBeAllSeen 3 = .ok (.aload_n 0, 1) ∧ decode cX7_canBeAllSeen 4 = .ok (.getfield 59, 3) ∧ decode cX7_canBeAllSeen 7 = .ok (.getfield 251, 3) ∧ decode cX7_canBeAllSeen 10 = .ok (.if_icmp .ge 67, 3) ∧ decode cX7_canBeAllSeen 13 = .ok (.aload_n 0, 1) := by decide +kernel
theorem dX7_canBeAllSeen_0 : decode cX7_canBeAllSeen 0 = .ok (.iconst 0, 1) := bdX7_canBeAllSeen_0.1
theorem dX7_canBeAllSeen_1 : decode cX7_canBeAllSeen 1 = .ok (.istore_n 2, 1) := bdX7_canBeAllSeen_0.2.1
theorem dX7_canBeAllSeen_2 : decode cX7_canBeAllSeen 2 = .ok (.iload_n 2, 1) := bdX7_canBeAllSeen_0.2.2.1
theorem dX7_canBeAllSeen_3 : decode cX7_canBeAllSeen 3 = .ok (.aload_n 0, 1) := bdX7_canBeAllSeen_0.2.2.2.1
theorem dX7_canBeAllSeen_4 : decode cX7_canBeAllSeen 4 = .ok (.getfield 59, 3) := bdX7_canBeAllSeen_0.2.2.2.2.1
theorem dX7_canBeAllSeen_7 : decode cX7_canBeAllSeen 7 = .ok (.getfield 251, 3) := bdX7_canBeAllSeen_0.2.2.2.2.2.1
theorem dX7_canBeAllSeen_10 : decode cX7_canBeAllSeen 10 = .ok (.if_icmp .ge 67, 3) := bdX7_canBeAllSeen_0.2.2.2.2.2.2.1
theorem dX7_canBeAllSeen_13 : decode cX7_canBeAllSeen 13 = .ok (.aload_n 0, 1) := bdX7_canBeAllSeen_0.2.2.2.2.2.2.2
theorem bdX7_canBeAllSeen_14 : decode cX7_canBeAllSeen 14 = .ok (.getfield 59, 3) ∧ decode cX7_canBeAllSeen 17 = .ok (.getfield 326, 3) ∧ decode cX7_canBeAllSeen 20 = .ok (.iload_n 2, 1) ∧ decode cX7_canBeAllSeen 21 = .ok (.iaload, 1) ∧ decode cX7_canBeAllSeen 22 = .ok (.istore_n 3, 1) ∧ decode cX7_canBeAllSeen 23 = .ok (.aload_n 0, 1) ∧ decode cX7_canBeAllSeen 24 = .ok (.getfield 29, 3) ∧ decode cX7_canBeAllSeen 27 = .ok (.iload_n 1, 1) := by decide +kernel
theorem dX7_canBeAllSeen_14 : decode cX7_canBeAllSeen 14 = .ok (.getfield 59, 3) := bdX7_canBeAllSeen_14.1
theorem dX7_canBeAllSeen_17 : decode cX7_canBeAllSeen 17 = .ok (.getfield 326, 3) := bdX7_canBeAllSeen_14.2.1
theorem dX7_canBeAllSeen_20 : decode cX7_canBeAllSeen 20 = .ok (.iload_n 2, 1) := bdX7_canBeAllSeen_14.2.2.1
theorem dX7_canBeAllSeen_21 : decode cX7_canBeAllSeen 21 = .ok (.iaload, 1) := bdX7_canBeAllSeen_14.2.2.2.1
theorem dX7_canBeAllSeen_22 : decode cX7_canBeAllSeen 22 = .ok (.istore_n 3, 1) := bdX7_canBeAllSeen_14.2.2.2.2.1
theorem dX7_canBeAllSeen_23 : decode cX7_canBeAllSeen 23 = .ok (.aload_n 0, 1) := bdX7_canBeAllSeen_14.2.2.2.2.2.1
theorem dX7_canBeAllSeen_24 : decode cX7_canBeAllSeen 24 = .ok (.getfield 29, 3) := bdX7_canBeAllSeen_14.2.2.2.2.2.2.1
theorem dX7_canBeAllSeen_27 : decode cX7_canBeAllSeen 27 = .ok (.iload_n 1, 1) := bdX7_canBeAllSeen_14.2.2.2.2.2.2.2
theorem bdX7_canBeAllSeen_28 : decode cX7_canBeAllSeen 28 = .ok (.iload_n 3, 1) ∧ decode cX7_canBeAllSeen 29 = .ok (.aload_n 0, 1) ∧ decode cX7_canBeAllSeen 30 = .ok (.getfield 59, 3) ∧ decode cX7_canBeAllSeen 33 = .ok (.getfield 329, 3) ∧ decode cX7_canBeAllSeen 36 = .ok (.iload_n 2, 1) ∧ decode cX7_canBeAllSeen 37 = .ok (.iaload, 1) ∧ decode cX7_canBeAllSeen 38 = .ok (.aload_n 0, 1) ∧ decode cX7_canBeAllSeen 39 = .ok (.getfield 59, 3) := by decide +kernel
theorem dX7_canBeAllSeen_28 : decode cX7_canBeAllSeen 28 = .ok (.iload_n 3, 1) := bdX7_canBeAllSeen_28.1
theorem dX7_canBeAllSeen_29 : decode cX7_canBeAllSeen 29 = .ok (.aload_n 0, 1) := bdX7_canBeAllSeen_28.2.1
theorem dX7_canBeAllSeen_30 : decode cX7_canBeAllSeen 30 = .ok (.getfield 59, 3) := bdX7_canBeAllSeen_28.2.2.1
theorem dX7_canBeAllSeen_33 : decode cX7_canBeAllSeen 33 = .ok (.getfield 329, 3) := bdX7_canBeAllSeen_28.2.2.2.1
theorem dX7_canBeAllSeen_36 : decode cX7_canBeAllSeen 36 = .ok (.iload_n 2, 1) := bdX7_canBeAllSeen_28.2.2.2.2.1
theorem dX7_canBeAllSeen_37 : decode cX7_canBeAllSeen 37 = .ok (.iaload, 1) := bdX7_canBeAllSeen_28.2.2.2.2.2.1
theorem dX7_canBeAllSeen_38 : decode cX7_canBeAllSeen 38 = .ok (.aload_n 0, 1) := bdX7_canBeAllSeen_28.2.2.2.2.2.2.1
theorem dX7_canBeAllSeen_39 : decode cX7_canBeAllSeen 39 = .ok (.getfield 59, 3) := bdX7_canBeAllSeen_28.2.2.2.2.2.2.2
theorem bdX7_canBeAllSeen_42 : decode cX7_canBeAllSeen 42 = .ok (.getfield 332, 3) ∧ decode cX7_canBeAllSeen 45 = .ok (.iload_n 2, 1) ∧ decode cX7_canBeAllSeen 46 = .ok (.iaload, 1) ∧ decode cX7_canBeAllSeen 47 = .ok (.invokevirtual 334, 3) ∧ decode cX7_canBeAllSeen 50 = .ok (.istore 4, 2) ∧ decode cX7_canBeAllSeen 52 = .ok (.iload 4, 2) ∧ decode cX7_canBeAllSeen 54 = .ok (.aload_n 0, 1) ∧ decode cX7_canBeAllSeen 55 = .ok (.getfield 59, 3) := by decide +kernel
theorem dX7_canBeAllSeen_42 : decode cX7_canBeAllSeen 42 = .ok (.getfield 332, 3) := bdX7_canBeAllSeen_42.1
theorem dX7_canBeAllSeen_45 : decode cX7_canBeAllSeen 45 = .ok (.iload_n 2, 1) := bdX7_canBeAllSeen_42.2.1
theorem dX7_canBeAllSeen_46 : decode cX7_canBeAllSeen 46 = .ok (.iaload, 1) := bdX7_canBeAllSeen_42.2.2.1
theorem dX7_canBeAllSeen_47 : decode cX7_canBeAllSeen 47 = .ok (.invokevirtual 334, 3) := bdX7_canBeAllSeen_42.2.2.2.1
theorem dX7_canBeAllSeen_50 : decode cX7_canBeAllSeen 50 = .ok (.istore 4, 2) := bdX7_canBeAllSeen_42.2.2.2.2.1
theorem dX7_canBeAllSeen_52 : decode cX7_canBeAllSeen 52 = .ok (.iload 4, 2) := bdX7_canBeAllSeen_42.2.2.2.2.2.1
theorem dX7_canBeAllSeen_54 : decode cX7_canBeAllSeen 54 = .ok (.aload_n 0, 1) := bdX7_canBeAllSeen_42.2.2.2.2.2.2.1
theorem dX7_canBeAllSeen_55 : decode cX7_canBeAllSeen 55 = .ok (.getfield 59, 3) := bdX7_canBeAllSeen_42.2.2.2.2.2.2.2
theorem bdX7_canBeAllSeen_58 : decode cX7_canBeAllSeen 58 = .ok (.getfield 338, 3) ∧ decode cX7_canBeAllSeen 61 = .ok (.iload_n 2, 1) ∧ decode cX7_canBeAllSeen 62 = .ok (.iaload, 1) ∧ decode cX7_canBeAllSeen 63 = .ok (.invokestatic 222, 3) ∧ decode cX7_canBeAllSeen 66 = .ok (.ifCond .ne 5, 3) ∧ decode cX7_canBeAllSeen 69 = .ok (.iconst 0, 1) ∧ decode cX7_canBeAllSeen 70 = .ok (.ireturn, 1) ∧ decode cX7_canBeAllSeen 71 = .ok (.iinc 2 1, 3) := by decide +kernel
theorem dX7_canBeAllSeen_58 : decode cX7_canBeAllSeen 58 = .ok (.getfield 338, 3) := bdX7_canBeAllSeen_58.1
theorem dX7_canBeAllSeen_61 : decode cX7_canBeAllSeen 61 = .ok (.iload_n 2, 1) := bdX7_canBeAllSeen_58.2.1
theorem dX7_canBeAllSeen_62 : decode cX7_canBeAllSeen 62 = .ok (.iaload, 1) := bdX7_canBeAllSeen_58.2.2.1
theorem dX7_canBeAllSeen_63 : decode cX7_canBeAllSeen 63 = .ok (.invokestatic 222, 3) := bdX7_canBeAllSeen_58.2.2.2.1
theorem dX7_canBeAllSeen_66 : decode cX7_canBeAllSeen 66 = .ok (.ifCond .ne 5, 3) := bdX7_canBeAllSeen_58.2.2.2.2.1
theorem dX7_canBeAllSeen_69 : decode cX7_canBeAllSeen 69 = .ok (.iconst 0, 1) := bdX7_canBeAllSeen_58.2.2.2.2.2.1
theorem dX7_canBeAllSeen_70 : decode cX7_canBeAllSeen 70 = .ok (.ireturn, 1) := bdX7_canBeAllSeen_58.2.2.2.2.2.2.1
theorem dX7_canBeAllSeen_71 : decode cX7_canBeAllSeen 71 = .ok (.iinc 2 1, 3) := bdX7_canBeAllSeen_58.2.2.2.2.2.2.2
theorem bdX7_canBeAllSeen_74 : decode cX7_canBeAllSeen 74 = .ok (.goto (-72), 3) ∧ decode cX7_canBeAllSeen 77 = .ok (.iconst 1, 1) ∧ decode cX7_canBeAllSeen 78 = .ok (.ireturn, 1) := by decide +kernel
theorem dX7_canBeAllSeen_74 : decode cX7_canBeAllSeen 74 = .ok (.goto (-72), 3) := bdX7_canBeAllSeen_74.1
theorem dX7_canBeAllSeen_77 : decode cX7_canBeAllSeen 77 = .ok (.iconst 1, 1) := bdX7_canBeAllSeen_74.2.1
theorem dX7_canBeAllSeen_78 : decode cX7_canBeAllSeen 78 = .ok (.ireturn, 1) := bdX7_canBeAllSeen_74.2.2
set_option maxRecDepth 20000 in
set_option maxRecDepth 100000 in
theorem ggX7_mostAlike_X7_windIn : GoodIn wsX7_mostAlike wsX7_windIn := goodIn_hd (goodIn_c ch_X7_mostAlike hc_X7_mostAlike ([.code yX7_windIn cX7_windIn 2 (some .int)] : List Cond) [(1, 13)] rfl (by decide +kernel)) (goodIn_app (goodIn_app (goodIn_app (goodIn_c ch_X7_mostAlike hc_X7_mostAlike ([.fieldLink RX7 29 "WordFletchers" "told" "LWordFletchers$Told;", .fieldLink RX7 39 "WordFletchers" "moment" "LWordFletchers$Moment;", .fieldLink RX7 174 "WordFletchers$Moment" "hour" "I", .methodLink RX7 301 yX6_windOf, .instanceMethod yX6_windOf, .selects RX6 yX6_windOf yX6_windOf, .initialized RX6, .code yX6_windOf cX6_windOf 2 (some .int), .fieldLink RX6 27 "WordFletchers$Told" "winds" "[I", .methodLink RX6 46 Lib.Math.max.name, .static Lib.Math.max.name, .initialized "java/lang/Math", .code Lib.Math.max.name Lib.Math.max.code 2 (some .int), .methodLink RX6 52 yX6_windCount, .instanceMethod yX6_windCount, .selects RX6 yX6_windCount yX6_windCount, .code yX6_windCount cX6_windCount 1 (some .int), .fieldLink RX6 43 "WordFletchers$Told" "windsTold" "I"] : List Cond) [(1, 0), (1, 3), (1, 14), (1, 15), (1, 16), (1, 17), (1, 18), (1, 19), (1, 20), (1, 21), (1, 6), (1, 7), (1, 8), (1, 22), (1, 23), (2, 0), (2, 1), (2, 2)] rfl (by decide +kernel)) (goodIn_sub (fun _ h => (List.mem_cons_of_mem _ (List.mem_append_left _ (List.mem_append_left _ (List.mem_append_right _ h))))) gwX7)) (goodIn_sub (fun _ h => (List.mem_cons_of_mem _ (List.mem_append_right _ h))) gwX2)) (goodIn_sub (fun _ h => (List.mem_cons_of_mem _ (List.mem_append_left _ (List.mem_append_right _ h)))) gwX6))
set_option maxRecDepth 20000 in
theorem gX7_mostAlike_X7_windIn : GoodIn wsX7_mostAlike (wsV RX7 122 RX7 yX7_windIn wsX7_windIn) := goodIn_app (goodIn_of _ (by decide +kernel)) ggX7_mostAlike_X7_windIn
set_option maxRecDepth 20000 in
set_option maxRecDepth 100000 in
theorem ggX7_mostAlike_X6_landings : GoodIn wsX7_mostAlike wsX6_landings := goodIn_hd (goodIn_c ch_X7_mostAlike hc_X7_mostAlike ([.code yX6_landings cX6_landings 11 (some .int)] : List Cond) [(2, 6)] rfl (by decide +kernel)) (goodIn_app (goodIn_c ch_X7_mostAlike hc_X7_mostAlike ([.methodLink RX6 66 yX6_landing, .instanceMethod yX6_landing, .selects RX6 yX6_landing yX6_landing, .initialized RX6, .code yX6_landing cX6_landing 13 (some .int), .fieldLink RX6 9 "WordFletchers$Told" "place" "[I", .methodLink RX6 59 yX6_flight, .instanceMethod yX6_flight, .selects RX6 yX6_flight yX6_flight, .code yX6_flight cX6_flight 6 (some .int), .fieldLink RX6 21 "WordFletchers$Told" "twist" "[I", .fieldLink RX6 18 "WordFletchers$Told" "weight" "[I", .methodLink RX6 46 Lib.Math.max.name, .static Lib.Math.max.name, .initialized "java/lang/Math", .code Lib.Math.max.name Lib.Math.max.code 2 (some .int)] : List Cond) [(2, 7), (2, 8), (2, 9), (1, 18), (2, 10), (2, 11), (2, 12), (2, 13), (2, 14), (2, 15), (2, 16), (2, 17), (1, 21), (1, 6), (1, 7), (1, 8)] rfl (by decide +kernel)) (goodIn_sub (fun _ h => (List.mem_cons_of_mem _ (List.mem_append_left _ (List.mem_append_right _ h)))) gwX6))
set_option maxRecDepth 20000 in
theorem gX7_mostAlike_X6_landings : GoodIn wsX7_mostAlike (wsV RX7 334 RX6 yX6_landings wsX6_landings) := goodIn_app (goodIn_of _ (by decide +kernel)) ggX7_mostAlike_X6_landings
set_option maxRecDepth 20000 in
set_option maxRecDepth 100000 in
theorem ggX7_mostAlike_J6_bitCount_0f7a4 : GoodIn wsX7_mostAlike wsJ6_bitCount_0f7a4 := goodIn_hd (goodIn_c ch_X7_mostAlike hc_X7_mostAlike ([.code yJ6_bitCount_0f7a4 cJ6_bitCount_0f7a4 1 (some .int)] : List Cond) [(2, 21)] rfl (by decide +kernel)) (goodIn_c ch_X7_mostAlike hc_X7_mostAlike ([.constant RJ6 265 (1431655765), .constant RJ6 266 (858993459), .constant RJ6 267 (252645135)] : List Cond) [(2, 22), (2, 23), (3, 0)] rfl (by decide +kernel))
set_option maxRecDepth 20000 in
theorem gX7_mostAlike_J6_bitCount_0f7a4 : GoodIn wsX7_mostAlike (va_wsS RX7 261 yJ6_bitCount_0f7a4 wsJ6_bitCount_0f7a4) := goodIn_app (goodIn_of _ (by decide +kernel)) ggX7_mostAlike_J6_bitCount_0f7a4
set_option maxRecDepth 20000 in
set_option maxRecDepth 100000 in
theorem ggX7_mostAlike_X7_howManyReach : GoodIn wsX7_mostAlike wsX7_howManyReach := goodIn_hd (goodIn_c ch_X7_mostAlike hc_X7_mostAlike ([.code yX7_howManyReach cX7_howManyReach 5 (some .int)] : List Cond) [(3, 4)] rfl (by decide +kernel)) (goodIn_app (goodIn_app (goodIn_c ch_X7_mostAlike hc_X7_mostAlike ([.fieldLink RX7 29 "WordFletchers" "told" "LWordFletchers$Told;", .fieldLink RX7 298 "WordFletchers$Told" "people" "I", .fieldLink RX7 73 "WordFletchers" "placesReached" "[I", .methodLink RX7 222 yX7_isIn, .static yX7_isIn, .initialized RX7, .code yX7_isIn cX7_isIn 2 (some .boolean)] : List Cond) [(1, 0), (1, 1), (1, 2), (3, 5), (3, 6), (1, 12), (3, 7)] rfl (by decide +kernel)) (goodIn_sub (fun _ h => (List.mem_cons_of_mem _ (List.mem_append_left _ (List.mem_append_left _ (List.mem_append_right _ h))))) gwX7)) (goodIn_sub (fun _ h => (List.mem_cons_of_mem _ (List.mem_append_left _ (List.mem_append_right _ h)))) gwX6))
set_option maxRecDepth 20000 in
theorem gX7_mostAlike_X7_howManyReach : GoodIn wsX7_mostAlike (wsV RX7 339 RX7 yX7_howManyReach wsX7_howManyReach) := goodIn_app (goodIn_of _ (by decide +kernel)) ggX7_mostAlike_X7_howManyReach
theorem bdX7_mostAlike_0 : decode cX7_mostAlike 0 = .ok (.iconst 0, 1) ∧ decode cX7_mostAlike 1 = .ok (.istore_n 3, 1) ∧ decode cX7_mostAlike 2 = .ok (.iload_n 3, 1) ∧ decode cX7_mostAlike 3 = .ok (.aload_n 0, 1) ∧ decode cX7_mostAlike 4 = .ok (.getfield 29, 3) ∧ decode cX7_mostAlike 7 = .ok (.getfield 298, 3) ∧ decode cX7_mostAlike 10 = .ok (.if_icmp .ge 39, 3) ∧ decode cX7_mostAlike 13 = .ok (.aload_n 0, 1) := by decide +kernel
theorem dX7_mostAlike_0 : decode cX7_mostAlike 0 = .ok (.iconst 0, 1) := bdX7_mostAlike_0.1
theorem dX7_mostAlike_1 : decode cX7_mostAlike 1 = .ok (.istore_n 3, 1) := bdX7_mostAlike_0.2.1
theorem dX7_mostAlike_2 : decode cX7_mostAlike 2 = .ok (.iload_n 3, 1) := bdX7_mostAlike_0.2.2.1
theorem dX7_mostAlike_3 : decode cX7_mostAlike 3 = .ok (.aload_n 0, 1) := bdX7_mostAlike_0.2.2.2.1
theorem dX7_mostAlike_4 : decode cX7_mostAlike 4 = .ok (.getfield 29, 3) := bdX7_mostAlike_0.2.2.2.2.1
theorem dX7_mostAlike_7 : decode cX7_mostAlike 7 = .ok (.getfield 298, 3) := bdX7_mostAlike_0.2.2.2.2.2.1
theorem dX7_mostAlike_10 : decode cX7_mostAlike 10 = .ok (.if_icmp .ge 39, 3) := bdX7_mostAlike_0.2.2.2.2.2.2.1
theorem dX7_mostAlike_13 : decode cX7_mostAlike 13 = .ok (.aload_n 0, 1) := bdX7_mostAlike_0.2.2.2.2.2.2.2
theorem bdX7_mostAlike_14 : decode cX7_mostAlike 14 = .ok (.getfield 73, 3) ∧ decode cX7_mostAlike 17 = .ok (.iload_n 3, 1) ∧ decode cX7_mostAlike 18 = .ok (.aload_n 0, 1) ∧ decode cX7_mostAlike 19 = .ok (.getfield 29, 3) ∧ decode cX7_mostAlike 22 = .ok (.iload_n 3, 1) ∧ decode cX7_mostAlike 23 = .ok (.iload_n 2, 1) ∧ decode cX7_mostAlike 24 = .ok (.aload_n 0, 1) ∧ decode cX7_mostAlike 25 = .ok (.iconst 0, 1) := by decide +kernel
theorem dX7_mostAlike_14 : decode cX7_mostAlike 14 = .ok (.getfield 73, 3) := bdX7_mostAlike_14.1
theorem dX7_mostAlike_17 : decode cX7_mostAlike 17 = .ok (.iload_n 3, 1) := bdX7_mostAlike_14.2.1
theorem dX7_mostAlike_18 : decode cX7_mostAlike 18 = .ok (.aload_n 0, 1) := bdX7_mostAlike_14.2.2.1
theorem dX7_mostAlike_19 : decode cX7_mostAlike 19 = .ok (.getfield 29, 3) := bdX7_mostAlike_14.2.2.2.1
theorem dX7_mostAlike_22 : decode cX7_mostAlike 22 = .ok (.iload_n 3, 1) := bdX7_mostAlike_14.2.2.2.2.1
theorem dX7_mostAlike_23 : decode cX7_mostAlike 23 = .ok (.iload_n 2, 1) := bdX7_mostAlike_14.2.2.2.2.2.1
theorem dX7_mostAlike_24 : decode cX7_mostAlike 24 = .ok (.aload_n 0, 1) := bdX7_mostAlike_14.2.2.2.2.2.2.1
theorem dX7_mostAlike_25 : decode cX7_mostAlike 25 = .ok (.iconst 0, 1) := bdX7_mostAlike_14.2.2.2.2.2.2.2
theorem bdX7_mostAlike_26 : decode cX7_mostAlike 26 = .ok (.invokevirtual 122, 3) ∧ decode cX7_mostAlike 29 = .ok (.aload_n 0, 1) ∧ decode cX7_mostAlike 30 = .ok (.getfield 39, 3) ∧ decode cX7_mostAlike 33 = .ok (.getfield 177, 3) ∧ decode cX7_mostAlike 36 = .ok (.invokevirtual 334, 3) ∧ decode cX7_mostAlike 39 = .ok (.invokestatic 261, 3) ∧ decode cX7_mostAlike 42 = .ok (.iastore, 1) ∧ decode cX7_mostAlike 43 = .ok (.iinc 3 1, 3) := by decide +kernel
theorem dX7_mostAlike_26 : decode cX7_mostAlike 26 = .ok (.invokevirtual 122, 3) := bdX7_mostAlike_26.1
theorem dX7_mostAlike_29 : decode cX7_mostAlike 29 = .ok (.aload_n 0, 1) := bdX7_mostAlike_26.2.1
theorem dX7_mostAlike_30 : decode cX7_mostAlike 30 = .ok (.getfield 39, 3) := bdX7_mostAlike_26.2.2.1
theorem dX7_mostAlike_33 : decode cX7_mostAlike 33 = .ok (.getfield 177, 3) := bdX7_mostAlike_26.2.2.2.1
theorem dX7_mostAlike_36 : decode cX7_mostAlike 36 = .ok (.invokevirtual 334, 3) := bdX7_mostAlike_26.2.2.2.2.1
theorem dX7_mostAlike_39 : decode cX7_mostAlike 39 = .ok (.invokestatic 261, 3) := bdX7_mostAlike_26.2.2.2.2.2.1
theorem dX7_mostAlike_42 : decode cX7_mostAlike 42 = .ok (.iastore, 1) := bdX7_mostAlike_26.2.2.2.2.2.2.1
theorem dX7_mostAlike_43 : decode cX7_mostAlike 43 = .ok (.iinc 3 1, 3) := bdX7_mostAlike_26.2.2.2.2.2.2.2
theorem bdX7_mostAlike_46 : decode cX7_mostAlike 46 = .ok (.goto (-44), 3) ∧ decode cX7_mostAlike 49 = .ok (.iconst 0, 1) ∧ decode cX7_mostAlike 50 = .ok (.istore_n 3, 1) ∧ decode cX7_mostAlike 51 = .ok (.iconst 0, 1) ∧ decode cX7_mostAlike 52 = .ok (.istore 4, 2) ∧ decode cX7_mostAlike 54 = .ok (.iload 4, 2) ∧ decode cX7_mostAlike 56 = .ok (.aload_n 0, 1) ∧ decode cX7_mostAlike 57 = .ok (.getfield 29, 3) := by decide +kernel
theorem dX7_mostAlike_46 : decode cX7_mostAlike 46 = .ok (.goto (-44), 3) := bdX7_mostAlike_46.1
theorem dX7_mostAlike_49 : decode cX7_mostAlike 49 = .ok (.iconst 0, 1) := bdX7_mostAlike_46.2.1
theorem dX7_mostAlike_50 : decode cX7_mostAlike 50 = .ok (.istore_n 3, 1) := bdX7_mostAlike_46.2.2.1
theorem dX7_mostAlike_51 : decode cX7_mostAlike 51 = .ok (.iconst 0, 1) := bdX7_mostAlike_46.2.2.2.1
theorem dX7_mostAlike_52 : decode cX7_mostAlike 52 = .ok (.istore 4, 2) := bdX7_mostAlike_46.2.2.2.2.1
theorem dX7_mostAlike_54 : decode cX7_mostAlike 54 = .ok (.iload 4, 2) := bdX7_mostAlike_46.2.2.2.2.2.1
theorem dX7_mostAlike_56 : decode cX7_mostAlike 56 = .ok (.aload_n 0, 1) := bdX7_mostAlike_46.2.2.2.2.2.2.1
theorem dX7_mostAlike_57 : decode cX7_mostAlike 57 = .ok (.getfield 29, 3) := bdX7_mostAlike_46.2.2.2.2.2.2.2
theorem bdX7_mostAlike_60 : decode cX7_mostAlike 60 = .ok (.getfield 298, 3) ∧ decode cX7_mostAlike 63 = .ok (.if_icmp .ge 26, 3) ∧ decode cX7_mostAlike 66 = .ok (.iload_n 3, 1) ∧ decode cX7_mostAlike 67 = .ok (.aload_n 0, 1) ∧ decode cX7_mostAlike 68 = .ok (.iload_n 1, 1) ∧ decode cX7_mostAlike 69 = .ok (.aload_n 0, 1) ∧ decode cX7_mostAlike 70 = .ok (.getfield 73, 3) ∧ decode cX7_mostAlike 73 = .ok (.iload 4, 2) := by decide +kernel
theorem dX7_mostAlike_60 : decode cX7_mostAlike 60 = .ok (.getfield 298, 3) := bdX7_mostAlike_60.1
theorem dX7_mostAlike_63 : decode cX7_mostAlike 63 = .ok (.if_icmp .ge 26, 3) := bdX7_mostAlike_60.2.1
theorem dX7_mostAlike_66 : decode cX7_mostAlike 66 = .ok (.iload_n 3, 1) := bdX7_mostAlike_60.2.2.1
theorem dX7_mostAlike_67 : decode cX7_mostAlike 67 = .ok (.aload_n 0, 1) := bdX7_mostAlike_60.2.2.2.1
theorem dX7_mostAlike_68 : decode cX7_mostAlike 68 = .ok (.iload_n 1, 1) := bdX7_mostAlike_60.2.2.2.2.1
theorem dX7_mostAlike_69 : decode cX7_mostAlike 69 = .ok (.aload_n 0, 1) := bdX7_mostAlike_60.2.2.2.2.2.1
theorem dX7_mostAlike_70 : decode cX7_mostAlike 70 = .ok (.getfield 73, 3) := bdX7_mostAlike_60.2.2.2.2.2.2.1
theorem dX7_mostAlike_73 : decode cX7_mostAlike 73 = .ok (.iload 4, 2) := bdX7_mostAlike_60.2.2.2.2.2.2.2
theorem bdX7_mostAlike_75 : decode cX7_mostAlike 75 = .ok (.iaload, 1) ∧ decode cX7_mostAlike 76 = .ok (.invokevirtual 339, 3) ∧ decode cX7_mostAlike 79 = .ok (.invokestatic 248, 3) ∧ decode cX7_mostAlike 82 = .ok (.istore_n 3, 1) ∧ decode cX7_mostAlike 83 = .ok (.iinc 4 1, 3) ∧ decode cX7_mostAlike 86 = .ok (.goto (-32), 3) ∧ decode cX7_mostAlike 89 = .ok (.iload_n 3, 1) ∧ decode cX7_mostAlike 90 = .ok (.ireturn, 1) := by decide +kernel
theorem dX7_mostAlike_75 : decode cX7_mostAlike 75 = .ok (.iaload, 1) := bdX7_mostAlike_75.1
theorem dX7_mostAlike_76 : decode cX7_mostAlike 76 = .ok (.invokevirtual 339, 3) := bdX7_mostAlike_75.2.1
theorem dX7_mostAlike_79 : decode cX7_mostAlike 79 = .ok (.invokestatic 248, 3) := bdX7_mostAlike_75.2.2.1
theorem dX7_mostAlike_82 : decode cX7_mostAlike 82 = .ok (.istore_n 3, 1) := bdX7_mostAlike_75.2.2.2.1
theorem dX7_mostAlike_83 : decode cX7_mostAlike 83 = .ok (.iinc 4 1, 3) := bdX7_mostAlike_75.2.2.2.2.1
theorem dX7_mostAlike_86 : decode cX7_mostAlike 86 = .ok (.goto (-32), 3) := bdX7_mostAlike_75.2.2.2.2.2.1
theorem dX7_mostAlike_89 : decode cX7_mostAlike 89 = .ok (.iload_n 3, 1) := bdX7_mostAlike_75.2.2.2.2.2.2.1
theorem dX7_mostAlike_90 : decode cX7_mostAlike 90 = .ok (.ireturn, 1) := bdX7_mostAlike_75.2.2.2.2.2.2.2
set_option maxRecDepth 20000 in
set_option maxRecDepth 100000 in
theorem ggX7_howManyReach_X7_isIn : GoodIn wsX7_howManyReach wsX7_isIn := goodIn_hd (goodIn_c ch_X7_howManyReach hc_X7_howManyReach ([.code yX7_isIn cX7_isIn 2 (some .boolean)] : List Cond) [(1, 6)] rfl (by decide +kernel)) (goodIn_c ch_X7_howManyReach hc_X7_howManyReach ([] : List Cond) [] rfl (by decide +kernel))
set_option maxRecDepth 20000 in
theorem gX7_howManyReach_X7_isIn : GoodIn wsX7_howManyReach (va_wsS RX7 222 yX7_isIn wsX7_isIn) := goodIn_app (goodIn_of _ (by decide +kernel)) ggX7_howManyReach_X7_isIn
theorem bdX7_howManyReach_0 : decode cX7_howManyReach 0 = .ok (.iconst 0, 1) ∧ decode cX7_howManyReach 1 = .ok (.istore_n 3, 1) ∧ decode cX7_howManyReach 2 = .ok (.iconst 0, 1) ∧ decode cX7_howManyReach 3 = .ok (.istore 4, 2) ∧ decode cX7_howManyReach 5 = .ok (.iload 4, 2) ∧ decode cX7_howManyReach 7 = .ok (.aload_n 0, 1) ∧ decode cX7_howManyReach 8 = .ok (.getfield 29, 3) ∧ decode cX7_howManyReach 11 = .ok (.getfield 298, 3) := by decide +kernel
theorem dX7_howManyReach_0 : decode cX7_howManyReach 0 = .ok (.iconst 0, 1) := bdX7_howManyReach_0.1
theorem dX7_howManyReach_1 : decode cX7_howManyReach 1 = .ok (.istore_n 3, 1) := bdX7_howManyReach_0.2.1
theorem dX7_howManyReach_2 : decode cX7_howManyReach 2 = .ok (.iconst 0, 1) := bdX7_howManyReach_0.2.2.1
theorem dX7_howManyReach_3 : decode cX7_howManyReach 3 = .ok (.istore 4, 2) := bdX7_howManyReach_0.2.2.2.1
theorem dX7_howManyReach_5 : decode cX7_howManyReach 5 = .ok (.iload 4, 2) := bdX7_howManyReach_0.2.2.2.2.1
theorem dX7_howManyReach_7 : decode cX7_howManyReach 7 = .ok (.aload_n 0, 1) := bdX7_howManyReach_0.2.2.2.2.2.1
theorem dX7_howManyReach_8 : decode cX7_howManyReach 8 = .ok (.getfield 29, 3) := bdX7_howManyReach_0.2.2.2.2.2.2.1
theorem dX7_howManyReach_11 : decode cX7_howManyReach 11 = .ok (.getfield 298, 3) := bdX7_howManyReach_0.2.2.2.2.2.2.2
theorem bdX7_howManyReach_14 : decode cX7_howManyReach 14 = .ok (.if_icmp .ge 32, 3) ∧ decode cX7_howManyReach 17 = .ok (.iload_n 1, 1) ∧ decode cX7_howManyReach 18 = .ok (.iload 4, 2) ∧ decode cX7_howManyReach 20 = .ok (.invokestatic 222, 3) ∧ decode cX7_howManyReach 23 = .ok (.ifCond .eq 17, 3) ∧ decode cX7_howManyReach 26 = .ok (.aload_n 0, 1) ∧ decode cX7_howManyReach 27 = .ok (.getfield 73, 3) ∧ decode cX7_howManyReach 30 = .ok (.iload 4, 2) := by decide +kernel
theorem dX7_howManyReach_14 : decode cX7_howManyReach 14 = .ok (.if_icmp .ge 32, 3) := bdX7_howManyReach_14.1
theorem dX7_howManyReach_17 : decode cX7_howManyReach 17 = .ok (.iload_n 1, 1) := bdX7_howManyReach_14.2.1
theorem dX7_howManyReach_18 : decode cX7_howManyReach 18 = .ok (.iload 4, 2) := bdX7_howManyReach_14.2.2.1
theorem dX7_howManyReach_20 : decode cX7_howManyReach 20 = .ok (.invokestatic 222, 3) := bdX7_howManyReach_14.2.2.2.1
theorem dX7_howManyReach_23 : decode cX7_howManyReach 23 = .ok (.ifCond .eq 17, 3) := bdX7_howManyReach_14.2.2.2.2.1
theorem dX7_howManyReach_26 : decode cX7_howManyReach 26 = .ok (.aload_n 0, 1) := bdX7_howManyReach_14.2.2.2.2.2.1
theorem dX7_howManyReach_27 : decode cX7_howManyReach 27 = .ok (.getfield 73, 3) := bdX7_howManyReach_14.2.2.2.2.2.2.1
theorem dX7_howManyReach_30 : decode cX7_howManyReach 30 = .ok (.iload 4, 2) := bdX7_howManyReach_14.2.2.2.2.2.2.2
theorem bdX7_howManyReach_32 : decode cX7_howManyReach 32 = .ok (.iaload, 1) ∧ decode cX7_howManyReach 33 = .ok (.iload_n 2, 1) ∧ decode cX7_howManyReach 34 = .ok (.if_icmp .ne 6, 3) ∧ decode cX7_howManyReach 37 = .ok (.iinc 3 1, 3) ∧ decode cX7_howManyReach 40 = .ok (.iinc 4 1, 3) ∧ decode cX7_howManyReach 43 = .ok (.goto (-38), 3) ∧ decode cX7_howManyReach 46 = .ok (.iload_n 3, 1) ∧ decode cX7_howManyReach 47 = .ok (.ireturn, 1) := by decide +kernel
theorem dX7_howManyReach_32 : decode cX7_howManyReach 32 = .ok (.iaload, 1) := bdX7_howManyReach_32.1
theorem dX7_howManyReach_33 : decode cX7_howManyReach 33 = .ok (.iload_n 2, 1) := bdX7_howManyReach_32.2.1
theorem dX7_howManyReach_34 : decode cX7_howManyReach 34 = .ok (.if_icmp .ne 6, 3) := bdX7_howManyReach_32.2.2.1
theorem dX7_howManyReach_37 : decode cX7_howManyReach 37 = .ok (.iinc 3 1, 3) := bdX7_howManyReach_32.2.2.2.1
theorem dX7_howManyReach_40 : decode cX7_howManyReach 40 = .ok (.iinc 4 1, 3) := bdX7_howManyReach_32.2.2.2.2.1
theorem dX7_howManyReach_43 : decode cX7_howManyReach 43 = .ok (.goto (-38), 3) := bdX7_howManyReach_32.2.2.2.2.2.1
theorem dX7_howManyReach_46 : decode cX7_howManyReach 46 = .ok (.iload_n 3, 1) := bdX7_howManyReach_32.2.2.2.2.2.2.1
theorem dX7_howManyReach_47 : decode cX7_howManyReach 47 = .ok (.ireturn, 1) := bdX7_howManyReach_32.2.2.2.2.2.2.2
theorem bdX7_markOfOne_0 : decode cX7_markOfOne 0 = .ok (.aload_n 0, 1) ∧ decode cX7_markOfOne 1 = .ok (.dup, 1) ∧ decode cX7_markOfOne 2 = .ok (.getfield 76, 3) ∧ decode cX7_markOfOne 5 = .ok (.lconst 1, 1) ∧ decode cX7_markOfOne 6 = .ok (.ladd, 1) ∧ decode cX7_markOfOne 7 = .ok (.putfield 76, 3) ∧ decode cX7_markOfOne 10 = .ok (.aload_n 0, 1) ∧ decode cX7_markOfOne 11 = .ok (.getfield 29, 3) := by decide +kernel
theorem dX7_markOfOne_0 : decode cX7_markOfOne 0 = .ok (.aload_n 0, 1) := bdX7_markOfOne_0.1
theorem dX7_markOfOne_1 : decode cX7_markOfOne 1 = .ok (.dup, 1) := bdX7_markOfOne_0.2.1
theorem dX7_markOfOne_2 : decode cX7_markOfOne 2 = .ok (.getfield 76, 3) := bdX7_markOfOne_0.2.2.1
theorem dX7_markOfOne_5 : decode cX7_markOfOne 5 = .ok (.lconst 1, 1) := bdX7_markOfOne_0.2.2.2.1
theorem dX7_markOfOne_6 : decode cX7_markOfOne 6 = .ok (.ladd, 1) := bdX7_markOfOne_0.2.2.2.2.1
theorem dX7_markOfOne_7 : decode cX7_markOfOne 7 = .ok (.putfield 76, 3) := bdX7_markOfOne_0.2.2.2.2.2.1
theorem dX7_markOfOne_10 : decode cX7_markOfOne 10 = .ok (.aload_n 0, 1) := bdX7_markOfOne_0.2.2.2.2.2.2.1
theorem dX7_markOfOne_11 : decode cX7_markOfOne 11 = .ok (.getfield 29, 3) := bdX7_markOfOne_0.2.2.2.2.2.2.2
theorem bdX7_markOfOne_14 : decode cX7_markOfOne 14 = .ok (.getfield 96, 3) ∧ decode cX7_markOfOne 17 = .ok (.iload_n 1, 1) ∧ decode cX7_markOfOne 18 = .ok (.iaload, 1) ∧ decode cX7_markOfOne 19 = .ok (.ireturn, 1) := by decide +kernel
theorem dX7_markOfOne_14 : decode cX7_markOfOne 14 = .ok (.getfield 96, 3) := bdX7_markOfOne_14.1
theorem dX7_markOfOne_17 : decode cX7_markOfOne 17 = .ok (.iload_n 1, 1) := bdX7_markOfOne_14.2.1
theorem dX7_markOfOne_18 : decode cX7_markOfOne 18 = .ok (.iaload, 1) := bdX7_markOfOne_14.2.2.1
theorem dX7_markOfOne_19 : decode cX7_markOfOne 19 = .ok (.ireturn, 1) := bdX7_markOfOne_14.2.2.2
set_option maxRecDepth 20000 in
set_option maxRecDepth 100000 in
theorem ggX7_markOfSuitor_X7_markOfOne : GoodIn wsX7_markOfSuitor wsX7_markOfOne := goodIn_hd (goodIn_c ch_X7_markOfSuitor hc_X7_markOfSuitor ([.code yX7_markOfOne cX7_markOfOne 2 (some .int)] : List Cond) [(1, 8)] rfl (by decide +kernel)) (goodIn_app (goodIn_app (goodIn_c ch_X7_markOfSuitor hc_X7_markOfSuitor ([.fieldLink RX7 76 "WordFletchers" "traced" "J", .fieldLink RX7 29 "WordFletchers" "told" "LWordFletchers$Told;", .fieldLink RX7 96 "WordFletchers$Told" "place" "[I"] : List Cond) [(1, 0), (1, 9), (1, 10)] rfl (by decide +kernel)) (goodIn_sub (fun _ h => (List.mem_cons_of_mem _ (List.mem_append_left _ (List.mem_append_left _ (List.mem_append_right _ h))))) gwX7)) (goodIn_sub (fun _ h => (List.mem_cons_of_mem _ (List.mem_append_right _ h))) gwX6))
set_option maxRecDepth 20000 in
theorem gX7_markOfSuitor_X7_markOfOne : GoodIn wsX7_markOfSuitor (wsV RX7 269 RX7 yX7_markOfOne wsX7_markOfOne) := goodIn_app (goodIn_of _ (by decide +kernel)) ggX7_markOfSuitor_X7_markOfOne
set_option maxRecDepth 20000 in
set_option maxRecDepth 100000 in
theorem ggX7_markOfSuitor_J6_bitCount_0f7a4 : GoodIn wsX7_markOfSuitor wsJ6_bitCount_0f7a4 := goodIn_hd (goodIn_c ch_X7_markOfSuitor hc_X7_markOfSuitor ([.code yJ6_bitCount_0f7a4 cJ6_bitCount_0f7a4 1 (some .int)] : List Cond) [(1, 14)] rfl (by decide +kernel)) (goodIn_c ch_X7_markOfSuitor hc_X7_markOfSuitor ([.constant RJ6 265 (1431655765), .constant RJ6 266 (858993459), .constant RJ6 267 (252645135)] : List Cond) [(1, 15), (1, 16), (1, 17)] rfl (by decide +kernel))
set_option maxRecDepth 20000 in
theorem gX7_markOfSuitor_J6_bitCount_0f7a4 : GoodIn wsX7_markOfSuitor (va_wsS RX7 261 yJ6_bitCount_0f7a4 wsJ6_bitCount_0f7a4) := goodIn_app (goodIn_of _ (by decide +kernel)) ggX7_markOfSuitor_J6_bitCount_0f7a4
theorem bdX7_markOfSuitor_0 : decode cX7_markOfSuitor 0 = .ok (.aload_n 0, 1) ∧ decode cX7_markOfSuitor 1 = .ok (.dup, 1) ∧ decode cX7_markOfSuitor 2 = .ok (.getfield 76, 3) ∧ decode cX7_markOfSuitor 5 = .ok (.ldc2_w 342, 3) ∧ decode cX7_markOfSuitor 8 = .ok (.ladd, 1) ∧ decode cX7_markOfSuitor 9 = .ok (.putfield 76, 3) ∧ decode cX7_markOfSuitor 12 = .ok (.aload_n 0, 1) ∧ decode cX7_markOfSuitor 13 = .ok (.iload_n 1, 1) := by decide +kernel
theorem dX7_markOfSuitor_0 : decode cX7_markOfSuitor 0 = .ok (.aload_n 0, 1) := bdX7_markOfSuitor_0.1
theorem dX7_markOfSuitor_1 : decode cX7_markOfSuitor 1 = .ok (.dup, 1) := bdX7_markOfSuitor_0.2.1
theorem dX7_markOfSuitor_2 : decode cX7_markOfSuitor 2 = .ok (.getfield 76, 3) := bdX7_markOfSuitor_0.2.2.1
theorem dX7_markOfSuitor_5 : decode cX7_markOfSuitor 5 = .ok (.ldc2_w 342, 3) := bdX7_markOfSuitor_0.2.2.2.1
theorem dX7_markOfSuitor_8 : decode cX7_markOfSuitor 8 = .ok (.ladd, 1) := bdX7_markOfSuitor_0.2.2.2.2.1
theorem dX7_markOfSuitor_9 : decode cX7_markOfSuitor 9 = .ok (.putfield 76, 3) := bdX7_markOfSuitor_0.2.2.2.2.2.1
theorem dX7_markOfSuitor_12 : decode cX7_markOfSuitor 12 = .ok (.aload_n 0, 1) := bdX7_markOfSuitor_0.2.2.2.2.2.2.1
theorem dX7_markOfSuitor_13 : decode cX7_markOfSuitor 13 = .ok (.iload_n 1, 1) := bdX7_markOfSuitor_0.2.2.2.2.2.2.2
theorem bdX7_markOfSuitor_14 : decode cX7_markOfSuitor 14 = .ok (.invokevirtual 269, 3) ∧ decode cX7_markOfSuitor 17 = .ok (.aload_n 0, 1) ∧ decode cX7_markOfSuitor 18 = .ok (.getfield 39, 3) ∧ decode cX7_markOfSuitor 21 = .ok (.getfield 102, 3) ∧ decode cX7_markOfSuitor 24 = .ok (.iload_n 1, 1) ∧ decode cX7_markOfSuitor 25 = .ok (.iaload, 1) ∧ decode cX7_markOfSuitor 26 = .ok (.invokestatic 261, 3) ∧ decode cX7_markOfSuitor 29 = .ok (.iadd, 1) := by decide +kernel
theorem dX7_markOfSuitor_14 : decode cX7_markOfSuitor 14 = .ok (.invokevirtual 269, 3) := bdX7_markOfSuitor_14.1
theorem dX7_markOfSuitor_17 : decode cX7_markOfSuitor 17 = .ok (.aload_n 0, 1) := bdX7_markOfSuitor_14.2.1
theorem dX7_markOfSuitor_18 : decode cX7_markOfSuitor 18 = .ok (.getfield 39, 3) := bdX7_markOfSuitor_14.2.2.1
theorem dX7_markOfSuitor_21 : decode cX7_markOfSuitor 21 = .ok (.getfield 102, 3) := bdX7_markOfSuitor_14.2.2.2.1
theorem dX7_markOfSuitor_24 : decode cX7_markOfSuitor 24 = .ok (.iload_n 1, 1) := bdX7_markOfSuitor_14.2.2.2.2.1
theorem dX7_markOfSuitor_25 : decode cX7_markOfSuitor 25 = .ok (.iaload, 1) := bdX7_markOfSuitor_14.2.2.2.2.2.1
theorem dX7_markOfSuitor_26 : decode cX7_markOfSuitor 26 = .ok (.invokestatic 261, 3) := bdX7_markOfSuitor_14.2.2.2.2.2.2.1
theorem dX7_markOfSuitor_29 : decode cX7_markOfSuitor 29 = .ok (.iadd, 1) := bdX7_markOfSuitor_14.2.2.2.2.2.2.2
theorem dX7_markOfSuitor_30 : decode cX7_markOfSuitor 30 = .ok (.ireturn, 1) := by decide +kernel
set_option maxRecDepth 20000 in
set_option maxRecDepth 100000 in
theorem ggX7_markOfLiar_X7_markOfOne : GoodIn wsX7_markOfLiar wsX7_markOfOne := goodIn_hd (goodIn_c ch_X7_markOfLiar hc_X7_markOfLiar ([.code yX7_markOfOne cX7_markOfOne 2 (some .int)] : List Cond) [(1, 8)] rfl (by decide +kernel)) (goodIn_app (goodIn_app (goodIn_c ch_X7_markOfLiar hc_X7_markOfLiar ([.fieldLink RX7 76 "WordFletchers" "traced" "J", .fieldLink RX7 29 "WordFletchers" "told" "LWordFletchers$Told;", .fieldLink RX7 96 "WordFletchers$Told" "place" "[I"] : List Cond) [(1, 0), (1, 9), (1, 10)] rfl (by decide +kernel)) (goodIn_sub (fun _ h => (List.mem_cons_of_mem _ (List.mem_append_left _ (List.mem_append_left _ (List.mem_append_right _ h))))) gwX7)) (goodIn_sub (fun _ h => (List.mem_cons_of_mem _ (List.mem_append_right _ h))) gwX6))
set_option maxRecDepth 20000 in
theorem gX7_markOfLiar_X7_markOfOne : GoodIn wsX7_markOfLiar (wsV RX7 269 RX7 yX7_markOfOne wsX7_markOfOne) := goodIn_app (goodIn_of _ (by decide +kernel)) ggX7_markOfLiar_X7_markOfOne
theorem bdX7_markOfLiar_0 : decode cX7_markOfLiar 0 = .ok (.aload_n 0, 1) ∧ decode cX7_markOfLiar 1 = .ok (.dup, 1) ∧ decode cX7_markOfLiar 2 = .ok (.getfield 76, 3) ∧ decode cX7_markOfLiar 5 = .ok (.ldc2_w 344, 3) ∧ decode cX7_markOfLiar 8 = .ok (.ladd, 1) ∧ decode cX7_markOfLiar 9 = .ok (.putfield 76, 3) ∧ decode cX7_markOfLiar 12 = .ok (.aload_n 0, 1) ∧ decode cX7_markOfLiar 13 = .ok (.iload_n 1, 1) := by decide +kernel
theorem dX7_markOfLiar_0 : decode cX7_markOfLiar 0 = .ok (.aload_n 0, 1) := bdX7_markOfLiar_0.1
theorem dX7_markOfLiar_1 : decode cX7_markOfLiar 1 = .ok (.dup, 1) := bdX7_markOfLiar_0.2.1
theorem dX7_markOfLiar_2 : decode cX7_markOfLiar 2 = .ok (.getfield 76, 3) := bdX7_markOfLiar_0.2.2.1
theorem dX7_markOfLiar_5 : decode cX7_markOfLiar 5 = .ok (.ldc2_w 344, 3) := bdX7_markOfLiar_0.2.2.2.1
theorem dX7_markOfLiar_8 : decode cX7_markOfLiar 8 = .ok (.ladd, 1) := bdX7_markOfLiar_0.2.2.2.2.1
theorem dX7_markOfLiar_9 : decode cX7_markOfLiar 9 = .ok (.putfield 76, 3) := bdX7_markOfLiar_0.2.2.2.2.2.1
theorem dX7_markOfLiar_12 : decode cX7_markOfLiar 12 = .ok (.aload_n 0, 1) := bdX7_markOfLiar_0.2.2.2.2.2.2.1
theorem dX7_markOfLiar_13 : decode cX7_markOfLiar 13 = .ok (.iload_n 1, 1) := bdX7_markOfLiar_0.2.2.2.2.2.2.2
theorem bdX7_markOfLiar_14 : decode cX7_markOfLiar 14 = .ok (.invokevirtual 269, 3) ∧ decode cX7_markOfLiar 17 = .ok (.aload_n 0, 1) ∧ decode cX7_markOfLiar 18 = .ok (.getfield 39, 3) ∧ decode cX7_markOfLiar 21 = .ok (.getfield 177, 3) ∧ decode cX7_markOfLiar 24 = .ok (.isub, 1) ∧ decode cX7_markOfLiar 25 = .ok (.ireturn, 1) := by decide +kernel
theorem dX7_markOfLiar_14 : decode cX7_markOfLiar 14 = .ok (.invokevirtual 269, 3) := bdX7_markOfLiar_14.1
theorem dX7_markOfLiar_17 : decode cX7_markOfLiar 17 = .ok (.aload_n 0, 1) := bdX7_markOfLiar_14.2.1
theorem dX7_markOfLiar_18 : decode cX7_markOfLiar 18 = .ok (.getfield 39, 3) := bdX7_markOfLiar_14.2.2.1
theorem dX7_markOfLiar_21 : decode cX7_markOfLiar 21 = .ok (.getfield 177, 3) := bdX7_markOfLiar_14.2.2.2.1
theorem dX7_markOfLiar_24 : decode cX7_markOfLiar 24 = .ok (.isub, 1) := bdX7_markOfLiar_14.2.2.2.2.1
theorem dX7_markOfLiar_25 : decode cX7_markOfLiar 25 = .ok (.ireturn, 1) := bdX7_markOfLiar_14.2.2.2.2.2
set_option maxRecDepth 20000 in
set_option maxRecDepth 100000 in
theorem ggX7_markOfPoet_X7_markOfSuitor : GoodIn wsX7_markOfPoet wsX7_markOfSuitor := goodIn_hd (goodIn_c ch_X7_markOfPoet hc_X7_markOfPoet ([.code yX7_markOfSuitor cX7_markOfSuitor 2 (some .int)] : List Cond) [(1, 6)] rfl (by decide +kernel)) (goodIn_app (goodIn_app (goodIn_app (goodIn_c ch_X7_markOfPoet hc_X7_markOfPoet ([.fieldLink RX7 76 "WordFletchers" "traced" "J", .constantLong RX7 342 (10), .fieldLink RX7 39 "WordFletchers" "moment" "LWordFletchers$Moment;", .fieldLink RX7 102 "WordFletchers$Moment" "knows" "[I", .methodLink RX7 269 yX7_markOfOne, .instanceMethod yX7_markOfOne, .selects RX7 yX7_markOfOne yX7_markOfOne, .initialized RX7, .code yX7_markOfOne cX7_markOfOne 2 (some .int), .fieldLink RX7 29 "WordFletchers" "told" "LWordFletchers$Told;", .fieldLink RX7 96 "WordFletchers$Told" "place" "[I", .methodLink RX7 261 yJ6_bitCount_0f7a4, .static yJ6_bitCount_0f7a4, .initialized RJ6, .code yJ6_bitCount_0f7a4 cJ6_bitCount_0f7a4 1 (some .int), .constant RJ6 265 (1431655765), .constant RJ6 266 (858993459), .constant RJ6 267 (252645135)] : List Cond) [(1, 0), (1, 7), (1, 8), (1, 9), (1, 10), (1, 11), (1, 12), (1, 5), (1, 13), (1, 14), (1, 15), (1, 16), (1, 17), (1, 18), (1, 19), (1, 20), (1, 21), (1, 22)] rfl (by decide +kernel)) (goodIn_sub (fun _ h => (List.mem_cons_of_mem _ (List.mem_append_left _ (List.mem_append_left _ (List.mem_append_right _ h))))) gwX7)) (goodIn_sub (fun _ h => (List.mem_cons_of_mem _ (List.mem_append_left _ (List.mem_append_right _ h)))) gwX2)) (goodIn_sub (fun _ h => (List.mem_cons_of_mem _ (List.mem_append_right _ h))) gwX6))
set_option maxRecDepth 20000 in
theorem gX7_markOfPoet_X7_markOfSuitor : GoodIn wsX7_markOfPoet (wsV RX7 272 RX7 yX7_markOfSuitor wsX7_markOfSuitor) := goodIn_app (goodIn_of _ (by decide +kernel)) ggX7_markOfPoet_X7_markOfSuitor
theorem bdX7_markOfPoet_0 : decode cX7_markOfPoet 0 = .ok (.aload_n 0, 1) ∧ decode cX7_markOfPoet 1 = .ok (.dup, 1) ∧ decode cX7_markOfPoet 2 = .ok (.getfield 76, 3) ∧ decode cX7_markOfPoet 5 = .ok (.ldc2_w 346, 3) ∧ decode cX7_markOfPoet 8 = .ok (.ladd, 1) ∧ decode cX7_markOfPoet 9 = .ok (.putfield 76, 3) ∧ decode cX7_markOfPoet 12 = .ok (.aload_n 0, 1) ∧ decode cX7_markOfPoet 13 = .ok (.iload_n 1, 1) := by decide +kernel
theorem dX7_markOfPoet_0 : decode cX7_markOfPoet 0 = .ok (.aload_n 0, 1) := bdX7_markOfPoet_0.1
theorem dX7_markOfPoet_1 : decode cX7_markOfPoet 1 = .ok (.dup, 1) := bdX7_markOfPoet_0.2.1
theorem dX7_markOfPoet_2 : decode cX7_markOfPoet 2 = .ok (.getfield 76, 3) := bdX7_markOfPoet_0.2.2.1
theorem dX7_markOfPoet_5 : decode cX7_markOfPoet 5 = .ok (.ldc2_w 346, 3) := bdX7_markOfPoet_0.2.2.2.1
theorem dX7_markOfPoet_8 : decode cX7_markOfPoet 8 = .ok (.ladd, 1) := bdX7_markOfPoet_0.2.2.2.2.1
theorem dX7_markOfPoet_9 : decode cX7_markOfPoet 9 = .ok (.putfield 76, 3) := bdX7_markOfPoet_0.2.2.2.2.2.1
theorem dX7_markOfPoet_12 : decode cX7_markOfPoet 12 = .ok (.aload_n 0, 1) := bdX7_markOfPoet_0.2.2.2.2.2.2.1
theorem dX7_markOfPoet_13 : decode cX7_markOfPoet 13 = .ok (.iload_n 1, 1) := bdX7_markOfPoet_0.2.2.2.2.2.2.2
theorem bdX7_markOfPoet_14 : decode cX7_markOfPoet 14 = .ok (.invokevirtual 272, 3) ∧ decode cX7_markOfPoet 17 = .ok (.iconst 2, 1) ∧ decode cX7_markOfPoet 18 = .ok (.imul, 1) ∧ decode cX7_markOfPoet 19 = .ok (.ireturn, 1) := by decide +kernel
theorem dX7_markOfPoet_14 : decode cX7_markOfPoet 14 = .ok (.invokevirtual 272, 3) := bdX7_markOfPoet_14.1
theorem dX7_markOfPoet_17 : decode cX7_markOfPoet 17 = .ok (.iconst 2, 1) := bdX7_markOfPoet_14.2.1
theorem dX7_markOfPoet_18 : decode cX7_markOfPoet 18 = .ok (.imul, 1) := bdX7_markOfPoet_14.2.2.1
theorem dX7_markOfPoet_19 : decode cX7_markOfPoet 19 = .ok (.ireturn, 1) := bdX7_markOfPoet_14.2.2.2
set_option maxRecDepth 20000 in
set_option maxRecDepth 100000 in
theorem ggX7_markOfLawyer_X7_markOfLiar : GoodIn wsX7_markOfLawyer wsX7_markOfLiar := goodIn_hd (goodIn_c ch_X7_markOfLawyer hc_X7_markOfLawyer ([.code yX7_markOfLiar cX7_markOfLiar 2 (some .int)] : List Cond) [(1, 6)] rfl (by decide +kernel)) (goodIn_app (goodIn_app (goodIn_app (goodIn_c ch_X7_markOfLawyer hc_X7_markOfLawyer ([.fieldLink RX7 76 "WordFletchers" "traced" "J", .constantLong RX7 344 (100), .fieldLink RX7 39 "WordFletchers" "moment" "LWordFletchers$Moment;", .fieldLink RX7 177 "WordFletchers$Moment" "damp" "I", .methodLink RX7 269 yX7_markOfOne, .instanceMethod yX7_markOfOne, .selects RX7 yX7_markOfOne yX7_markOfOne, .initialized RX7, .code yX7_markOfOne cX7_markOfOne 2 (some .int), .fieldLink RX7 29 "WordFletchers" "told" "LWordFletchers$Told;", .fieldLink RX7 96 "WordFletchers$Told" "place" "[I"] : List Cond) [(1, 0), (1, 7), (1, 8), (1, 9), (1, 10), (1, 11), (1, 12), (1, 5), (1, 13), (1, 14), (1, 15)] rfl (by decide +kernel)) (goodIn_sub (fun _ h => (List.mem_cons_of_mem _ (List.mem_append_left _ (List.mem_append_left _ (List.mem_append_right _ h))))) gwX7)) (goodIn_sub (fun _ h => (List.mem_cons_of_mem _ (List.mem_append_left _ (List.mem_append_right _ h)))) gwX2)) (goodIn_sub (fun _ h => (List.mem_cons_of_mem _ (List.mem_append_right _ h))) gwX6))
set_option maxRecDepth 20000 in
theorem gX7_markOfLawyer_X7_markOfLiar : GoodIn wsX7_markOfLawyer (wsV RX7 275 RX7 yX7_markOfLiar wsX7_markOfLiar) := goodIn_app (goodIn_of _ (by decide +kernel)) ggX7_markOfLawyer_X7_markOfLiar
theorem bdX7_markOfLawyer_0 : decode cX7_markOfLawyer 0 = .ok (.aload_n 0, 1) ∧ decode cX7_markOfLawyer 1 = .ok (.dup, 1) ∧ decode cX7_markOfLawyer 2 = .ok (.getfield 76, 3) ∧ decode cX7_markOfLawyer 5 = .ok (.ldc2_w 348, 3) ∧ decode cX7_markOfLawyer 8 = .ok (.ladd, 1) ∧ decode cX7_markOfLawyer 9 = .ok (.putfield 76, 3) ∧ decode cX7_markOfLawyer 12 = .ok (.aload_n 0, 1) ∧ decode cX7_markOfLawyer 13 = .ok (.iload_n 1, 1) := by decide +kernel
theorem dX7_markOfLawyer_0 : decode cX7_markOfLawyer 0 = .ok (.aload_n 0, 1) := bdX7_markOfLawyer_0.1
theorem dX7_markOfLawyer_1 : decode cX7_markOfLawyer 1 = .ok (.dup, 1) := bdX7_markOfLawyer_0.2.1
theorem dX7_markOfLawyer_2 : decode cX7_markOfLawyer 2 = .ok (.getfield 76, 3) := bdX7_markOfLawyer_0.2.2.1
theorem dX7_markOfLawyer_5 : decode cX7_markOfLawyer 5 = .ok (.ldc2_w 348, 3) := bdX7_markOfLawyer_0.2.2.2.1
theorem dX7_markOfLawyer_8 : decode cX7_markOfLawyer 8 = .ok (.ladd, 1) := bdX7_markOfLawyer_0.2.2.2.2.1
theorem dX7_markOfLawyer_9 : decode cX7_markOfLawyer 9 = .ok (.putfield 76, 3) := bdX7_markOfLawyer_0.2.2.2.2.2.1
theorem dX7_markOfLawyer_12 : decode cX7_markOfLawyer 12 = .ok (.aload_n 0, 1) := bdX7_markOfLawyer_0.2.2.2.2.2.2.1
theorem dX7_markOfLawyer_13 : decode cX7_markOfLawyer 13 = .ok (.iload_n 1, 1) := bdX7_markOfLawyer_0.2.2.2.2.2.2.2
theorem bdX7_markOfLawyer_14 : decode cX7_markOfLawyer 14 = .ok (.invokevirtual 275, 3) ∧ decode cX7_markOfLawyer 17 = .ok (.iload_n 1, 1) ∧ decode cX7_markOfLawyer 18 = .ok (.iadd, 1) ∧ decode cX7_markOfLawyer 19 = .ok (.ireturn, 1) := by decide +kernel
theorem dX7_markOfLawyer_14 : decode cX7_markOfLawyer 14 = .ok (.invokevirtual 275, 3) := bdX7_markOfLawyer_14.1
theorem dX7_markOfLawyer_17 : decode cX7_markOfLawyer 17 = .ok (.iload_n 1, 1) := bdX7_markOfLawyer_14.2.1
theorem dX7_markOfLawyer_18 : decode cX7_markOfLawyer 18 = .ok (.iadd, 1) := bdX7_markOfLawyer_14.2.2.1
theorem dX7_markOfLawyer_19 : decode cX7_markOfLawyer 19 = .ok (.ireturn, 1) := bdX7_markOfLawyer_14.2.2.2
set_option maxRecDepth 20000 in
set_option maxRecDepth 100000 in
theorem ggX7_markOfGoose_X7_markOfOne : GoodIn wsX7_markOfGoose wsX7_markOfOne := goodIn_hd (goodIn_c ch_X7_markOfGoose hc_X7_markOfGoose ([.code yX7_markOfOne cX7_markOfOne 2 (some .int)] : List Cond) [(1, 7)] rfl (by decide +kernel)) (goodIn_app (goodIn_app (goodIn_c ch_X7_markOfGoose hc_X7_markOfGoose ([.fieldLink RX7 76 "WordFletchers" "traced" "J", .fieldLink RX7 29 "WordFletchers" "told" "LWordFletchers$Told;", .fieldLink RX7 96 "WordFletchers$Told" "place" "[I"] : List Cond) [(1, 0), (1, 8), (1, 9)] rfl (by decide +kernel)) (goodIn_sub (fun _ h => (List.mem_cons_of_mem _ (List.mem_append_left _ (List.mem_append_left _ (List.mem_append_right _ h))))) gwX7)) (goodIn_sub (fun _ h => (List.mem_cons_of_mem _ (List.mem_append_left _ (List.mem_append_right _ h)))) gwX6))
set_option maxRecDepth 20000 in
theorem gX7_markOfGoose_X7_markOfOne : GoodIn wsX7_markOfGoose (wsV RX7 269 RX7 yX7_markOfOne wsX7_markOfOne) := goodIn_app (goodIn_of _ (by decide +kernel)) ggX7_markOfGoose_X7_markOfOne
set_option maxRecDepth 20000 in
set_option maxRecDepth 100000 in
theorem ggX7_markOfGoose_X2_allFeathers : GoodIn wsX7_markOfGoose wsX2_allFeathers := goodIn_hd (goodIn_c ch_X7_markOfGoose hc_X7_markOfGoose ([.code yX2_allFeathers cX2_allFeathers 3 (some .int)] : List Cond) [(1, 14)] rfl (by decide +kernel)) (goodIn_app (goodIn_c ch_X7_markOfGoose hc_X7_markOfGoose ([.fieldLink RX2 9 "WordFletchers$Moment" "feathers" "[I"] : List Cond) [(1, 15)] rfl (by decide +kernel)) (goodIn_sub (fun _ h => (List.mem_cons_of_mem _ (List.mem_append_right _ h))) gwX2))
set_option maxRecDepth 20000 in
theorem gX7_markOfGoose_X2_allFeathers : GoodIn wsX7_markOfGoose (wsV RX7 352 RX2 yX2_allFeathers wsX2_allFeathers) := goodIn_app (goodIn_of _ (by decide +kernel)) ggX7_markOfGoose_X2_allFeathers
theorem bdX7_markOfGoose_0 : decode cX7_markOfGoose 0 = .ok (.aload_n 0, 1) ∧ decode cX7_markOfGoose 1 = .ok (.dup, 1) ∧ decode cX7_markOfGoose 2 = .ok (.getfield 76, 3) ∧ decode cX7_markOfGoose 5 = .ok (.ldc2_w 350, 3) ∧ decode cX7_markOfGoose 8 = .ok (.ladd, 1) ∧ decode cX7_markOfGoose 9 = .ok (.putfield 76, 3) ∧ decode cX7_markOfGoose 12 = .ok (.aload_n 0, 1) ∧ decode cX7_markOfGoose 13 = .ok (.iload_n 1, 1) := by decide +kernel
theorem dX7_markOfGoose_0 : decode cX7_markOfGoose 0 = .ok (.aload_n 0, 1) := bdX7_markOfGoose_0.1
theorem dX7_markOfGoose_1 : decode cX7_markOfGoose 1 = .ok (.dup, 1) := bdX7_markOfGoose_0.2.1
theorem dX7_markOfGoose_2 : decode cX7_markOfGoose 2 = .ok (.getfield 76, 3) := bdX7_markOfGoose_0.2.2.1
theorem dX7_markOfGoose_5 : decode cX7_markOfGoose 5 = .ok (.ldc2_w 350, 3) := bdX7_markOfGoose_0.2.2.2.1
theorem dX7_markOfGoose_8 : decode cX7_markOfGoose 8 = .ok (.ladd, 1) := bdX7_markOfGoose_0.2.2.2.2.1
theorem dX7_markOfGoose_9 : decode cX7_markOfGoose 9 = .ok (.putfield 76, 3) := bdX7_markOfGoose_0.2.2.2.2.2.1
theorem dX7_markOfGoose_12 : decode cX7_markOfGoose 12 = .ok (.aload_n 0, 1) := bdX7_markOfGoose_0.2.2.2.2.2.2.1
theorem dX7_markOfGoose_13 : decode cX7_markOfGoose 13 = .ok (.iload_n 1, 1) := bdX7_markOfGoose_0.2.2.2.2.2.2.2
theorem bdX7_markOfGoose_14 : decode cX7_markOfGoose 14 = .ok (.invokevirtual 269, 3) ∧ decode cX7_markOfGoose 17 = .ok (.aload_n 0, 1) ∧ decode cX7_markOfGoose 18 = .ok (.getfield 39, 3) ∧ decode cX7_markOfGoose 21 = .ok (.invokevirtual 352, 3) ∧ decode cX7_markOfGoose 24 = .ok (.iadd, 1) ∧ decode cX7_markOfGoose 25 = .ok (.ireturn, 1) := by decide +kernel
theorem dX7_markOfGoose_14 : decode cX7_markOfGoose 14 = .ok (.invokevirtual 269, 3) := bdX7_markOfGoose_14.1
theorem dX7_markOfGoose_17 : decode cX7_markOfGoose 17 = .ok (.aload_n 0, 1) := bdX7_markOfGoose_14.2.1
theorem dX7_markOfGoose_18 : decode cX7_markOfGoose 18 = .ok (.getfield 39, 3) := bdX7_markOfGoose_14.2.2.1
theorem dX7_markOfGoose_21 : decode cX7_markOfGoose 21 = .ok (.invokevirtual 352, 3) := bdX7_markOfGoose_14.2.2.2.1
theorem dX7_markOfGoose_24 : decode cX7_markOfGoose 24 = .ok (.iadd, 1) := bdX7_markOfGoose_14.2.2.2.2.1
theorem dX7_markOfGoose_25 : decode cX7_markOfGoose 25 = .ok (.ireturn, 1) := bdX7_markOfGoose_14.2.2.2.2.2
