set_option maxRecDepth 20000 in
theorem ggX3_init_X2_init : GoodIn wsX3_init wsX2_init := goodIn_r _ [17, 18, 2, 3, 6, 19, 28] (by decide +kernel) (by decide +kernel)
set_option maxRecDepth 20000 in
theorem gX3_init_X2_init_n29 : GoodIn wsX3_init (wsX2_init) := ggX3_init_X2_init
theorem dX3_init_0 : decode cX3_init 0 = .ok (.aload_n 0, 1) := by decide +kernel
theorem dX3_init_1 : decode cX3_init 1 = .ok (.invokespecial 3, 3) := by decide +kernel
theorem dX3_init_4 : decode cX3_init 4 = .ok (.aload_n 0, 1) := by decide +kernel
theorem dX3_init_5 : decode cX3_init 5 = .ok (.iconst 5, 1) := by decide +kernel
theorem dX3_init_6 : decode cX3_init 6 = .ok (.anewarray 9, 3) := by decide +kernel
theorem dX3_init_9 : decode cX3_init 9 = .ok (.putfield 11, 3) := by decide +kernel
theorem dX3_init_12 : decode cX3_init 12 = .ok (.aload_n 0, 1) := by decide +kernel
theorem dX3_init_13 : decode cX3_init 13 = .ok (.iconst 5, 1) := by decide +kernel
theorem dX3_init_14 : decode cX3_init 14 = .ok (.newarray .int, 2) := by decide +kernel
theorem dX3_init_16 : decode cX3_init 16 = .ok (.putfield 17, 3) := by decide +kernel
theorem dX3_init_19 : decode cX3_init 19 = .ok (.aload_n 0, 1) := by decide +kernel
theorem dX3_init_20 : decode cX3_init 20 = .ok (.iconst 0, 1) := by decide +kernel
theorem dX3_init_21 : decode cX3_init 21 = .ok (.putfield 21, 3) := by decide +kernel
theorem dX3_init_24 : decode cX3_init 24 = .ok (.aload_n 0, 1) := by decide +kernel
theorem dX3_init_25 : decode cX3_init 25 = .ok (.iconst 0, 1) := by decide +kernel
theorem dX3_init_26 : decode cX3_init 26 = .ok (.putfield 25, 3) := by decide +kernel
theorem dX3_init_29 : decode cX3_init 29 = .ok (.aload_n 0, 1) := by decide +kernel
theorem dX3_init_30 : decode cX3_init 30 = .ok (.new 9, 3) := by decide +kernel
theorem dX3_init_33 : decode cX3_init 33 = .ok (.dup, 1) := by decide +kernel
theorem dX3_init_34 : decode cX3_init 34 = .ok (.invokespecial 29, 3) := by decide +kernel
theorem dX3_init_37 : decode cX3_init 37 = .ok (.putfield 30, 3) := by decide +kernel
theorem dX3_init_40 : decode cX3_init 40 = .ok (.aload_n 0, 1) := by decide +kernel
theorem dX3_init_41 : decode cX3_init 41 = .ok (.new 9, 3) := by decide +kernel
theorem dX3_init_44 : decode cX3_init 44 = .ok (.dup, 1) := by decide +kernel
theorem dX3_init_45 : decode cX3_init 45 = .ok (.invokespecial 29, 3) := by decide +kernel
theorem dX3_init_48 : decode cX3_init 48 = .ok (.putfield 34, 3) := by decide +kernel
theorem dX3_init_51 : decode cX3_init 51 = .ok (.aload_n 0, 1) := by decide +kernel
theorem dX3_init_52 : decode cX3_init 52 = .ok (.new 9, 3) := by decide +kernel
theorem dX3_init_55 : decode cX3_init 55 = .ok (.dup, 1) := by decide +kernel
theorem dX3_init_56 : decode cX3_init 56 = .ok (.invokespecial 29, 3) := by decide +kernel
theorem dX3_init_59 : decode cX3_init 59 = .ok (.putfield 37, 3) := by decide +kernel
theorem dX3_init_62 : decode cX3_init 62 = .ok (.aload_n 0, 1) := by decide +kernel
theorem dX3_init_63 : decode cX3_init 63 = .ok (.new 9, 3) := by decide +kernel
theorem dX3_init_66 : decode cX3_init 66 = .ok (.dup, 1) := by decide +kernel
theorem dX3_init_67 : decode cX3_init 67 = .ok (.invokespecial 29, 3) := by decide +kernel
theorem dX3_init_70 : decode cX3_init 70 = .ok (.putfield 40, 3) := by decide +kernel
theorem dX3_init_73 : decode cX3_init 73 = .ok (.iconst 0, 1) := by decide +kernel
theorem dX3_init_74 : decode cX3_init 74 = .ok (.istore_n 1, 1) := by decide +kernel
theorem dX3_init_75 : decode cX3_init 75 = .ok (.iload_n 1, 1) := by decide +kernel
theorem dX3_init_76 : decode cX3_init 76 = .ok (.aload_n 0, 1) := by decide +kernel
theorem dX3_init_77 : decode cX3_init 77 = .ok (.getfield 11, 3) := by decide +kernel
theorem dX3_init_80 : decode cX3_init 80 = .ok (.arraylength, 1) := by decide +kernel
theorem dX3_init_81 : decode cX3_init 81 = .ok (.if_icmp .ge 22, 3) := by decide +kernel
theorem dX3_init_84 : decode cX3_init 84 = .ok (.aload_n 0, 1) := by decide +kernel
theorem dX3_init_85 : decode cX3_init 85 = .ok (.getfield 11, 3) := by decide +kernel
theorem dX3_init_88 : decode cX3_init 88 = .ok (.iload_n 1, 1) := by decide +kernel
theorem dX3_init_89 : decode cX3_init 89 = .ok (.new 9, 3) := by decide +kernel
theorem dX3_init_92 : decode cX3_init 92 = .ok (.dup, 1) := by decide +kernel
theorem dX3_init_93 : decode cX3_init 93 = .ok (.invokespecial 29, 3) := by decide +kernel
theorem dX3_init_96 : decode cX3_init 96 = .ok (.aastore, 1) := by decide +kernel
theorem dX3_init_97 : decode cX3_init 97 = .ok (.iinc 1 1, 3) := by decide +kernel
theorem dX3_init_100 : decode cX3_init 100 = .ok (.goto (-25), 3) := by decide +kernel
theorem dX3_init_103 : decode cX3_init 103 = .ok (.return_, 1) := by decide +kernel
theorem dX3_forget_0 : decode cX3_forget 0 = .ok (.aload_n 0, 1) := by decide +kernel
theorem dX3_forget_1 : decode cX3_forget 1 = .ok (.iconst 0, 1) := by decide +kernel
theorem dX3_forget_2 : decode cX3_forget 2 = .ok (.putfield 25, 3) := by decide +kernel
theorem dX3_forget_5 : decode cX3_forget 5 = .ok (.return_, 1) := by decide +kernel
theorem dX3_part_0 : decode cX3_part 0 = .ok (.iload_n 1, 1) := by decide +kernel
theorem dX3_part_1 : decode cX3_part 1 = .ok (.ifCond .lt 21, 3) := by decide +kernel
theorem dX3_part_4 : decode cX3_part 4 = .ok (.iload_n 1, 1) := by decide +kernel
theorem dX3_part_5 : decode cX3_part 5 = .ok (.aload_n 0, 1) := by decide +kernel
theorem dX3_part_6 : decode cX3_part 6 = .ok (.getfield 11, 3) := by decide +kernel
theorem dX3_part_9 : decode cX3_part 9 = .ok (.arraylength, 1) := by decide +kernel
theorem dX3_part_10 : decode cX3_part 10 = .ok (.if_icmp .ge 12, 3) := by decide +kernel
theorem dX3_part_13 : decode cX3_part 13 = .ok (.aload_n 0, 1) := by decide +kernel
theorem dX3_part_14 : decode cX3_part 14 = .ok (.getfield 11, 3) := by decide +kernel
theorem dX3_part_17 : decode cX3_part 17 = .ok (.iload_n 1, 1) := by decide +kernel
theorem dX3_part_18 : decode cX3_part 18 = .ok (.aaload, 1) := by decide +kernel
theorem dX3_part_19 : decode cX3_part 19 = .ok (.goto 7, 3) := by decide +kernel
theorem dX3_part_22 : decode cX3_part 22 = .ok (.aload_n 0, 1) := by decide +kernel
theorem dX3_part_23 : decode cX3_part 23 = .ok (.getfield 30, 3) := by decide +kernel
theorem dX3_part_26 : decode cX3_part 26 = .ok (.areturn, 1) := by decide +kernel
theorem dX3_timesOf_0 : decode cX3_timesOf 0 = .ok (.iload_n 1, 1) := by decide +kernel
theorem dX3_timesOf_1 : decode cX3_timesOf 1 = .ok (.ifCond .lt 21, 3) := by decide +kernel
theorem dX3_timesOf_4 : decode cX3_timesOf 4 = .ok (.iload_n 1, 1) := by decide +kernel
theorem dX3_timesOf_5 : decode cX3_timesOf 5 = .ok (.aload_n 0, 1) := by decide +kernel
theorem dX3_timesOf_6 : decode cX3_timesOf 6 = .ok (.getfield 17, 3) := by decide +kernel
theorem dX3_timesOf_9 : decode cX3_timesOf 9 = .ok (.arraylength, 1) := by decide +kernel
theorem dX3_timesOf_10 : decode cX3_timesOf 10 = .ok (.if_icmp .ge 12, 3) := by decide +kernel
theorem dX3_timesOf_13 : decode cX3_timesOf 13 = .ok (.aload_n 0, 1) := by decide +kernel
theorem dX3_timesOf_14 : decode cX3_timesOf 14 = .ok (.getfield 17, 3) := by decide +kernel
theorem dX3_timesOf_17 : decode cX3_timesOf 17 = .ok (.iload_n 1, 1) := by decide +kernel
theorem dX3_timesOf_18 : decode cX3_timesOf 18 = .ok (.iaload, 1) := by decide +kernel
theorem dX3_timesOf_19 : decode cX3_timesOf 19 = .ok (.goto 4, 3) := by decide +kernel
theorem dX3_timesOf_22 : decode cX3_timesOf 22 = .ok (.iconst 0, 1) := by decide +kernel
theorem dX3_timesOf_23 : decode cX3_timesOf 23 = .ok (.ireturn, 1) := by decide +kernel
set_option maxRecDepth 20000 in
theorem ggX3_commonDegree_X3_part : GoodIn wsX3_commonDegree wsX3_part := goodIn_r _ [6, 7, 8, 15, 16, 17, 18, 19, 20, 21, 22] (by decide +kernel) (by decide +kernel)
set_option maxRecDepth 20000 in
theorem gX3_commonDegree_X3_part : GoodIn wsX3_commonDegree (wsV RX3 43 RX3 yX3_part wsX3_part) := goodIn_app (goodIn_of _ (by decide +kernel)) ggX3_commonDegree_X3_part
set_option maxRecDepth 20000 in
theorem ggX3_commonDegree_X2_degree : GoodIn wsX3_commonDegree wsX2_degree := goodIn_r _ [13, 14, 23] (by decide +kernel) (by decide +kernel)
set_option maxRecDepth 20000 in
theorem gX3_commonDegree_X2_degree : GoodIn wsX3_commonDegree (wsV RX3 47 RX2 yX2_degree wsX2_degree) := goodIn_app (goodIn_of _ (by decide +kernel)) ggX3_commonDegree_X2_degree
theorem dX3_commonDegree_0 : decode cX3_commonDegree 0 = .ok (.iconst 1, 1) := by decide +kernel
theorem dX3_commonDegree_1 : decode cX3_commonDegree 1 = .ok (.istore_n 1, 1) := by decide +kernel
theorem dX3_commonDegree_2 : decode cX3_commonDegree 2 = .ok (.iload_n 1, 1) := by decide +kernel
theorem dX3_commonDegree_3 : decode cX3_commonDegree 3 = .ok (.bipush 60, 2) := by decide +kernel
theorem dX3_commonDegree_5 : decode cX3_commonDegree 5 = .ok (.if_icmp .gt 65, 3) := by decide +kernel
theorem dX3_commonDegree_8 : decode cX3_commonDegree 8 = .ok (.iconst 1, 1) := by decide +kernel
theorem dX3_commonDegree_9 : decode cX3_commonDegree 9 = .ok (.istore_n 2, 1) := by decide +kernel
theorem dX3_commonDegree_10 : decode cX3_commonDegree 10 = .ok (.iconst 0, 1) := by decide +kernel
theorem dX3_commonDegree_11 : decode cX3_commonDegree 11 = .ok (.istore_n 3, 1) := by decide +kernel
theorem dX3_commonDegree_12 : decode cX3_commonDegree 12 = .ok (.iload_n 3, 1) := by decide +kernel
theorem dX3_commonDegree_13 : decode cX3_commonDegree 13 = .ok (.aload_n 0, 1) := by decide +kernel
theorem dX3_commonDegree_14 : decode cX3_commonDegree 14 = .ok (.getfield 21, 3) := by decide +kernel
theorem dX3_commonDegree_17 : decode cX3_commonDegree 17 = .ok (.if_icmp .ge 41, 3) := by decide +kernel
theorem dX3_commonDegree_20 : decode cX3_commonDegree 20 = .ok (.aload_n 0, 1) := by decide +kernel
theorem dX3_commonDegree_21 : decode cX3_commonDegree 21 = .ok (.iload_n 3, 1) := by decide +kernel
theorem dX3_commonDegree_22 : decode cX3_commonDegree 22 = .ok (.invokevirtual 43, 3) := by decide +kernel
theorem dX3_commonDegree_25 : decode cX3_commonDegree 25 = .ok (.invokevirtual 47, 3) := by decide +kernel
theorem dX3_commonDegree_28 : decode cX3_commonDegree 28 = .ok (.istore 4, 2) := by decide +kernel
theorem dX3_commonDegree_30 : decode cX3_commonDegree 30 = .ok (.iload_n 2, 1) := by decide +kernel
theorem dX3_commonDegree_31 : decode cX3_commonDegree 31 = .ok (.ifCond .eq 19, 3) := by decide +kernel
theorem dX3_commonDegree_34 : decode cX3_commonDegree 34 = .ok (.iload 4, 2) := by decide +kernel
theorem dX3_commonDegree_36 : decode cX3_commonDegree 36 = .ok (.ifCond .le 14, 3) := by decide +kernel
theorem dX3_commonDegree_39 : decode cX3_commonDegree 39 = .ok (.iload_n 1, 1) := by decide +kernel
theorem dX3_commonDegree_40 : decode cX3_commonDegree 40 = .ok (.iload 4, 2) := by decide +kernel
theorem dX3_commonDegree_42 : decode cX3_commonDegree 42 = .ok (.irem, 1) := by decide +kernel
theorem dX3_commonDegree_43 : decode cX3_commonDegree 43 = .ok (.ifCond .ne 7, 3) := by decide +kernel
theorem dX3_commonDegree_46 : decode cX3_commonDegree 46 = .ok (.iconst 1, 1) := by decide +kernel
theorem dX3_commonDegree_47 : decode cX3_commonDegree 47 = .ok (.goto 4, 3) := by decide +kernel
theorem dX3_commonDegree_50 : decode cX3_commonDegree 50 = .ok (.iconst 0, 1) := by decide +kernel
theorem dX3_commonDegree_51 : decode cX3_commonDegree 51 = .ok (.istore_n 2, 1) := by decide +kernel
theorem dX3_commonDegree_52 : decode cX3_commonDegree 52 = .ok (.iinc 3 1, 3) := by decide +kernel
theorem dX3_commonDegree_55 : decode cX3_commonDegree 55 = .ok (.goto (-43), 3) := by decide +kernel
theorem dX3_commonDegree_58 : decode cX3_commonDegree 58 = .ok (.iload_n 2, 1) := by decide +kernel
theorem dX3_commonDegree_59 : decode cX3_commonDegree 59 = .ok (.ifCond .eq 5, 3) := by decide +kernel
theorem dX3_commonDegree_62 : decode cX3_commonDegree 62 = .ok (.iload_n 1, 1) := by decide +kernel
theorem dX3_commonDegree_63 : decode cX3_commonDegree 63 = .ok (.ireturn, 1) := by decide +kernel
theorem dX3_commonDegree_64 : decode cX3_commonDegree 64 = .ok (.iinc 1 1, 3) := by decide +kernel
theorem dX3_commonDegree_67 : decode cX3_commonDegree 67 = .ok (.goto (-65), 3) := by decide +kernel
theorem dX3_commonDegree_70 : decode cX3_commonDegree 70 = .ok (.iconst 0, 1) := by decide +kernel
theorem dX3_commonDegree_71 : decode cX3_commonDegree 71 = .ok (.ireturn, 1) := by decide +kernel
set_option maxRecDepth 20000 in
theorem ggX3_find_X1_findSquares : GoodIn wsX3_find wsX1_findSquares := goodIn_r _ [10, 11, 12, 13, 14, 15, 16, 17, 18, 19, 20, 21, 22, 23, 24, 25, 26, 27, 28, 29, 30, 31, 32, 33, 34, 35, 36, 37, 38, 39, 40, 41, 42, 9, 43, 44, 45, 46, 47, 48, 49, 50, 51, 52, 53, 54, 55, 56, 57, 58, 59, 60, 61, 62, 63, 64, 65, 66, 67, 68, 149, 150, 151, 152, 153, 154, 155, 156, 157, 158, 159, 160, 161, 162, 163, 164, 165, 166, 167, 168] (by decide +kernel) (by decide +kernel)
set_option maxRecDepth 20000 in
theorem gX3_find_X1_findSquares : GoodIn wsX3_find (wsV RX3 51 RX1 yX1_findSquares wsX1_findSquares) := goodIn_app (goodIn_of _ (by decide +kernel)) ggX3_find_X1_findSquares
set_option maxRecDepth 20000 in
theorem ggX3_find_X3_keepRoot : GoodIn wsX3_find wsX3_keepRoot := goodIn_r _ [73, 5, 3, 74, 47, 48, 16, 49, 18, 50, 24, 25, 26, 75, 61, 62, 9, 63, 64, 12, 19, 20, 21, 22, 13, 14, 15, 17, 23, 36, 37, 38, 39, 27, 28, 29, 30, 31, 32, 33, 34, 35, 65, 66, 67, 68, 76, 52, 53, 54, 55, 56, 57, 58, 59, 141, 142, 143, 144, 145, 146, 147, 148, 149, 150, 151, 152, 153, 154, 155, 156, 157, 158, 159, 160, 161, 162, 163, 164, 165, 166, 167, 168] (by decide +kernel) (by decide +kernel)
set_option maxRecDepth 20000 in
theorem gX3_find_X3_keepRoot : GoodIn wsX3_find (wsV RX3 57 RX3 yX3_keepRoot wsX3_keepRoot) := goodIn_app (goodIn_of _ (by decide +kernel)) ggX3_find_X3_keepRoot
set_option maxRecDepth 20000 in
theorem ggX3_find_X2_copy : GoodIn wsX3_find wsX2_copy := goodIn_r _ [49, 18, 50, 24, 25, 16, 26, 160] (by decide +kernel) (by decide +kernel)
set_option maxRecDepth 20000 in
theorem gX3_find_X2_copy : GoodIn wsX3_find (wsV RX3 61 RX2 yX2_copy wsX2_copy) := goodIn_app (goodIn_of _ (by decide +kernel)) ggX3_find_X2_copy
set_option maxRecDepth 20000 in
theorem ggX3_find_X2_degree : GoodIn wsX3_find wsX2_degree := goodIn_r _ [22, 18, 160] (by decide +kernel) (by decide +kernel)
set_option maxRecDepth 20000 in
theorem gX3_find_X2_degree : GoodIn wsX3_find (wsV RX3 47 RX2 yX2_degree wsX2_degree) := goodIn_app (goodIn_of _ (by decide +kernel)) ggX3_find_X2_degree
set_option maxRecDepth 20000 in
theorem ggX3_find_X3_collect : GoodIn wsX3_find wsX3_collect := goodIn_r _ [81, 4, 82, 3, 83, 84, 72, 85, 86, 87, 88, 9, 89, 90, 91, 92, 16, 93, 94, 14, 15, 17, 18, 95, 37, 38, 39, 96, 97, 98, 99, 100, 12, 19, 20, 21, 22, 13, 23, 24, 25, 26, 27, 28, 29, 30, 31, 32, 33, 34, 35, 101, 102, 103, 104, 36, 46, 47, 48, 49, 50, 105, 106, 107, 108, 60, 61, 62, 63, 64, 65, 66, 67, 68, 109, 110, 111, 112, 41, 42, 43, 44, 45, 51, 52, 53, 54, 55, 56, 57, 58, 59, 77, 113, 114, 115, 116, 2, 117, 74, 75, 141, 142, 143, 144, 145, 146, 147, 148, 149, 150, 151, 152, 153, 154, 155, 156, 157, 158, 159, 161, 162, 163, 164, 165, 166, 167, 168, 160] (by decide +kernel) (by decide +kernel)
set_option maxRecDepth 20000 in
theorem gX3_find_X3_collect : GoodIn wsX3_find (wsV RX3 65 RX3 yX3_collect wsX3_collect) := goodIn_app (goodIn_of _ (by decide +kernel)) ggX3_find_X3_collect
set_option maxRecDepth 20000 in
theorem ggX3_find_X3_separate : GoodIn wsX3_find wsX3_separate := goodIn_r _ [121, 122, 2, 82, 3, 83, 84, 72, 85, 123, 124, 125, 126, 117, 5, 77, 20, 21, 16, 22, 18, 86, 87, 88, 9, 89, 90, 91, 92, 93, 94, 14, 15, 17, 95, 37, 38, 39, 96, 97, 98, 99, 100, 12, 19, 13, 23, 24, 25, 26, 27, 28, 29, 30, 31, 32, 33, 34, 35, 101, 102, 103, 104, 36, 46, 47, 48, 49, 50, 105, 106, 107, 108, 60, 61, 62, 63, 64, 65, 66, 67, 68, 109, 110, 111, 112, 41, 42, 43, 44, 45, 51, 52, 53, 54, 55, 56, 57, 58, 59, 75, 74, 113, 114, 115, 116, 149, 150, 151, 152, 153, 154, 155, 156, 157, 158, 159, 161, 162, 163, 164, 165, 166, 167, 168, 141, 142, 143, 144, 145, 146, 147, 148, 160] (by decide +kernel) (by decide +kernel)
set_option maxRecDepth 20000 in
theorem gX3_find_X3_separate : GoodIn wsX3_find (wsV RX3 69 RX3 yX3_separate wsX3_separate) := goodIn_app (goodIn_of _ (by decide +kernel)) ggX3_find_X3_separate
set_option maxRecDepth 20000 in
theorem ggX3_find_X3_add : GoodIn wsX3_find wsX3_add := goodIn_r _ [116, 2, 117, 74, 47, 48, 16, 49, 18, 50, 24, 25, 26, 141, 142, 143, 144, 145, 146, 147, 148, 160] (by decide +kernel) (by decide +kernel)
set_option maxRecDepth 20000 in
theorem gX3_find_X3_add : GoodIn wsX3_find (wsV RX3 73 RX3 yX3_add wsX3_add) := goodIn_app (goodIn_of _ (by decide +kernel)) ggX3_find_X3_add
set_option maxRecDepth 20000 in
theorem ggX3_find_X3_sort : GoodIn wsX3_find wsX3_sort := goodIn_r _ [130, 2, 117, 131, 132, 133, 16, 134, 135, 20, 21, 22, 18, 50, 24, 25, 26, 141, 142, 143, 144, 145, 146, 147, 148, 160] (by decide +kernel) (by decide +kernel)
set_option maxRecDepth 20000 in
theorem gX3_find_X3_sort : GoodIn wsX3_find (wsV RX3 76 RX3 yX3_sort wsX3_sort) := goodIn_app (goodIn_of _ (by decide +kernel)) ggX3_find_X3_sort
set_option maxRecDepth 20000 in
theorem ggX3_find_X3_countTimes : GoodIn wsX3_find wsX3_countTimes := goodIn_r _ [139, 2, 140, 4, 74, 47, 48, 16, 49, 18, 50, 24, 25, 26, 123, 124, 125, 72, 126, 117, 5, 75, 61, 62, 9, 63, 64, 12, 19, 20, 21, 22, 13, 14, 15, 17, 23, 36, 37, 38, 39, 27, 28, 29, 30, 31, 32, 33, 34, 35, 65, 66, 67, 68, 77, 141, 142, 143, 144, 145, 146, 147, 148, 149, 150, 151, 152, 153, 154, 155, 156, 157, 158, 159, 160, 161, 162, 163, 164, 165, 166, 167, 168] (by decide +kernel) (by decide +kernel)
set_option maxRecDepth 20000 in
theorem gX3_find_X3_countTimes : GoodIn wsX3_find (wsV RX3 79 RX3 yX3_countTimes wsX3_countTimes) := goodIn_app (goodIn_of _ (by decide +kernel)) ggX3_find_X3_countTimes
theorem dX3_find_0 : decode cX3_find 0 = .ok (.aload_n 0, 1) := by decide +kernel
theorem dX3_find_1 : decode cX3_find 1 = .ok (.getfield 25, 3) := by decide +kernel
theorem dX3_find_4 : decode cX3_find 4 = .ok (.ifCond .eq 4, 3) := by decide +kernel
theorem dX3_find_7 : decode cX3_find 7 = .ok (.return_, 1) := by decide +kernel
theorem dX3_find_8 : decode cX3_find 8 = .ok (.aload_n 0, 1) := by decide +kernel
theorem dX3_find_9 : decode cX3_find 9 = .ok (.iconst 0, 1) := by decide +kernel
theorem dX3_find_10 : decode cX3_find 10 = .ok (.putfield 21, 3) := by decide +kernel
theorem dX3_find_13 : decode cX3_find 13 = .ok (.aload_n 1, 1) := by decide +kernel
theorem dX3_find_14 : decode cX3_find 14 = .ok (.aload_n 2, 1) := by decide +kernel
theorem dX3_find_15 : decode cX3_find 15 = .ok (.aload_n 0, 1) := by decide +kernel
theorem dX3_find_16 : decode cX3_find 16 = .ok (.getfield 40, 3) := by decide +kernel
theorem dX3_find_19 : decode cX3_find 19 = .ok (.invokevirtual 51, 3) := by decide +kernel
theorem dX3_find_22 : decode cX3_find 22 = .ok (.aload_n 0, 1) := by decide +kernel
theorem dX3_find_23 : decode cX3_find 23 = .ok (.aload_n 1, 1) := by decide +kernel
theorem dX3_find_24 : decode cX3_find 24 = .ok (.aload_n 2, 1) := by decide +kernel
theorem dX3_find_25 : decode cX3_find 25 = .ok (.invokevirtual 57, 3) := by decide +kernel
theorem dX3_find_28 : decode cX3_find 28 = .ok (.aload_n 0, 1) := by decide +kernel
theorem dX3_find_29 : decode cX3_find 29 = .ok (.getfield 34, 3) := by decide +kernel
theorem dX3_find_32 : decode cX3_find 32 = .ok (.aload_n 0, 1) := by decide +kernel
theorem dX3_find_33 : decode cX3_find 33 = .ok (.getfield 30, 3) := by decide +kernel
theorem dX3_find_36 : decode cX3_find 36 = .ok (.invokevirtual 61, 3) := by decide +kernel
theorem dX3_find_39 : decode cX3_find 39 = .ok (.iconst 1, 1) := by decide +kernel
theorem dX3_find_40 : decode cX3_find 40 = .ok (.istore_n 3, 1) := by decide +kernel
theorem dX3_find_41 : decode cX3_find 41 = .ok (.iload_n 3, 1) := by decide +kernel
theorem dX3_find_42 : decode cX3_find 42 = .ok (.iconst 5, 1) := by decide +kernel
theorem dX3_find_43 : decode cX3_find 43 = .ok (.if_icmp .gt 42, 3) := by decide +kernel
theorem dX3_find_46 : decode cX3_find 46 = .ok (.aload_n 0, 1) := by decide +kernel
theorem dX3_find_47 : decode cX3_find 47 = .ok (.getfield 34, 3) := by decide +kernel
theorem dX3_find_50 : decode cX3_find 50 = .ok (.invokevirtual 47, 3) := by decide +kernel
theorem dX3_find_53 : decode cX3_find 53 = .ok (.iconst 2, 1) := by decide +kernel
theorem dX3_find_54 : decode cX3_find 54 = .ok (.iload_n 3, 1) := by decide +kernel
theorem dX3_find_55 : decode cX3_find 55 = .ok (.imul, 1) := by decide +kernel
theorem dX3_find_56 : decode cX3_find 56 = .ok (.if_icmp .lt 29, 3) := by decide +kernel
theorem dX3_find_59 : decode cX3_find 59 = .ok (.aload_n 0, 1) := by decide +kernel
theorem dX3_find_60 : decode cX3_find 60 = .ok (.getfield 21, 3) := by decide +kernel
theorem dX3_find_63 : decode cX3_find 63 = .ok (.istore 4, 2) := by decide +kernel
theorem dX3_find_65 : decode cX3_find 65 = .ok (.aload_n 0, 1) := by decide +kernel
theorem dX3_find_66 : decode cX3_find 66 = .ok (.aload_n 1, 1) := by decide +kernel
theorem dX3_find_67 : decode cX3_find 67 = .ok (.iload_n 3, 1) := by decide +kernel
theorem dX3_find_68 : decode cX3_find 68 = .ok (.invokevirtual 65, 3) := by decide +kernel
theorem dX3_find_71 : decode cX3_find 71 = .ok (.aload_n 0, 1) := by decide +kernel
theorem dX3_find_72 : decode cX3_find 72 = .ok (.aload_n 1, 1) := by decide +kernel
theorem dX3_find_73 : decode cX3_find 73 = .ok (.iload 4, 2) := by decide +kernel
theorem dX3_find_75 : decode cX3_find 75 = .ok (.iload_n 3, 1) := by decide +kernel
theorem dX3_find_76 : decode cX3_find 76 = .ok (.invokevirtual 69, 3) := by decide +kernel
theorem dX3_find_79 : decode cX3_find 79 = .ok (.iinc 3 1, 3) := by decide +kernel
theorem dX3_find_82 : decode cX3_find 82 = .ok (.goto (-41), 3) := by decide +kernel
theorem dX3_find_85 : decode cX3_find 85 = .ok (.aload_n 0, 1) := by decide +kernel
theorem dX3_find_86 : decode cX3_find 86 = .ok (.getfield 34, 3) := by decide +kernel
theorem dX3_find_89 : decode cX3_find 89 = .ok (.invokevirtual 47, 3) := by decide +kernel
theorem dX3_find_92 : decode cX3_find 92 = .ok (.ifCond .le 11, 3) := by decide +kernel
theorem dX3_find_95 : decode cX3_find 95 = .ok (.aload_n 0, 1) := by decide +kernel
theorem dX3_find_96 : decode cX3_find 96 = .ok (.aload_n 0, 1) := by decide +kernel
theorem dX3_find_97 : decode cX3_find 97 = .ok (.getfield 34, 3) := by decide +kernel
theorem dX3_find_100 : decode cX3_find 100 = .ok (.invokevirtual 73, 3) := by decide +kernel
theorem dX3_find_103 : decode cX3_find 103 = .ok (.aload_n 0, 1) := by decide +kernel
theorem dX3_find_104 : decode cX3_find 104 = .ok (.invokevirtual 76, 3) := by decide +kernel
theorem dX3_find_107 : decode cX3_find 107 = .ok (.aload_n 0, 1) := by decide +kernel
theorem dX3_find_108 : decode cX3_find 108 = .ok (.aload_n 1, 1) := by decide +kernel
theorem dX3_find_109 : decode cX3_find 109 = .ok (.aload_n 2, 1) := by decide +kernel
theorem dX3_find_110 : decode cX3_find 110 = .ok (.invokevirtual 79, 3) := by decide +kernel
theorem dX3_find_113 : decode cX3_find 113 = .ok (.aload_n 0, 1) := by decide +kernel
theorem dX3_find_114 : decode cX3_find 114 = .ok (.iconst 1, 1) := by decide +kernel
theorem dX3_find_115 : decode cX3_find 115 = .ok (.putfield 25, 3) := by decide +kernel
theorem dX3_find_118 : decode cX3_find 118 = .ok (.return_, 1) := by decide +kernel
set_option maxRecDepth 20000 in
theorem ggX3_keepRoot_X2_copy : GoodIn wsX3_keepRoot wsX2_copy := goodIn_r _ [7, 8, 9, 10, 11, 6, 12, 74] (by decide +kernel) (by decide +kernel)
set_option maxRecDepth 20000 in
theorem gX3_keepRoot_X2_copy : GoodIn wsX3_keepRoot (wsV RX3 61 RX2 yX2_copy wsX2_copy) := goodIn_app (goodIn_of _ (by decide +kernel)) ggX3_keepRoot_X2_copy
set_option maxRecDepth 20000 in
theorem ggX3_keepRoot_X1_divide : GoodIn wsX3_keepRoot wsX1_divide := goodIn_r _ [17, 18, 19, 20, 21, 22, 6, 23, 8, 24, 25, 26, 27, 28, 10, 11, 12, 29, 30, 31, 32, 33, 34, 35, 36, 37, 38, 39, 40, 41, 42, 43, 44, 45, 63, 64, 65, 66, 67, 68, 69, 70, 71, 72, 73, 74, 75, 76, 77, 78, 79, 80, 81, 82] (by decide +kernel) (by decide +kernel)
set_option maxRecDepth 20000 in
theorem gX3_keepRoot_X1_divide : GoodIn wsX3_keepRoot (wsV RX3 82 RX1 yX1_divide wsX1_divide) := goodIn_app (goodIn_of _ (by decide +kernel)) ggX3_keepRoot_X1_divide
set_option maxRecDepth 20000 in
theorem ggX3_keepRoot_X1_makeMonic : GoodIn wsX3_keepRoot wsX1_makeMonic := goodIn_r _ [49, 19, 20, 21, 22, 6, 23, 8, 28, 10, 11, 12, 50, 51, 52, 36, 53, 54, 34, 35, 37, 38, 39, 40, 41, 33, 29, 30, 31, 32, 63, 64, 65, 66, 67, 68, 69, 70, 71, 72, 73, 75, 76, 77, 78, 79, 80, 81, 82, 74] (by decide +kernel) (by decide +kernel)
set_option maxRecDepth 20000 in
theorem gX3_keepRoot_X1_makeMonic : GoodIn wsX3_keepRoot (wsV RX3 88 RX1 yX1_makeMonic wsX1_makeMonic) := goodIn_app (goodIn_of _ (by decide +kernel)) ggX3_keepRoot_X1_makeMonic
theorem dX3_keepRoot_0 : decode cX3_keepRoot 0 = .ok (.aload_n 0, 1) := by decide +kernel
theorem dX3_keepRoot_1 : decode cX3_keepRoot 1 = .ok (.getfield 30, 3) := by decide +kernel
theorem dX3_keepRoot_4 : decode cX3_keepRoot 4 = .ok (.aload_n 2, 1) := by decide +kernel
theorem dX3_keepRoot_5 : decode cX3_keepRoot 5 = .ok (.invokevirtual 61, 3) := by decide +kernel
theorem dX3_keepRoot_8 : decode cX3_keepRoot 8 = .ok (.aload_n 1, 1) := by decide +kernel
theorem dX3_keepRoot_9 : decode cX3_keepRoot 9 = .ok (.aload_n 0, 1) := by decide +kernel
theorem dX3_keepRoot_10 : decode cX3_keepRoot 10 = .ok (.getfield 30, 3) := by decide +kernel
theorem dX3_keepRoot_13 : decode cX3_keepRoot 13 = .ok (.aload_n 0, 1) := by decide +kernel
theorem dX3_keepRoot_14 : decode cX3_keepRoot 14 = .ok (.getfield 40, 3) := by decide +kernel
theorem dX3_keepRoot_17 : decode cX3_keepRoot 17 = .ok (.invokevirtual 82, 3) := by decide +kernel
theorem dX3_keepRoot_20 : decode cX3_keepRoot 20 = .ok (.aload_n 0, 1) := by decide +kernel
theorem dX3_keepRoot_21 : decode cX3_keepRoot 21 = .ok (.getfield 30, 3) := by decide +kernel
theorem dX3_keepRoot_24 : decode cX3_keepRoot 24 = .ok (.aload_n 1, 1) := by decide +kernel
theorem dX3_keepRoot_25 : decode cX3_keepRoot 25 = .ok (.getfield 85, 3) := by decide +kernel
theorem dX3_keepRoot_28 : decode cX3_keepRoot 28 = .ok (.invokevirtual 61, 3) := by decide +kernel
theorem dX3_keepRoot_31 : decode cX3_keepRoot 31 = .ok (.aload_n 1, 1) := by decide +kernel
theorem dX3_keepRoot_32 : decode cX3_keepRoot 32 = .ok (.aload_n 0, 1) := by decide +kernel
theorem dX3_keepRoot_33 : decode cX3_keepRoot 33 = .ok (.getfield 30, 3) := by decide +kernel
theorem dX3_keepRoot_36 : decode cX3_keepRoot 36 = .ok (.invokevirtual 88, 3) := by decide +kernel
theorem dX3_keepRoot_39 : decode cX3_keepRoot 39 = .ok (.return_, 1) := by decide +kernel
set_option maxRecDepth 20000 in
theorem ggX3_add_X2_copy : GoodIn wsX3_add wsX2_copy := goodIn_r _ [7, 8, 9, 10, 11, 6, 12, 21] (by decide +kernel) (by decide +kernel)
set_option maxRecDepth 20000 in
theorem gX3_add_X2_copy : GoodIn wsX3_add (wsV RX3 61 RX2 yX2_copy wsX2_copy) := goodIn_app (goodIn_of _ (by decide +kernel)) ggX3_add_X2_copy
theorem dX3_add_0 : decode cX3_add 0 = .ok (.aload_n 0, 1) := by decide +kernel
theorem dX3_add_1 : decode cX3_add 1 = .ok (.getfield 21, 3) := by decide +kernel
theorem dX3_add_4 : decode cX3_add 4 = .ok (.aload_n 0, 1) := by decide +kernel
theorem dX3_add_5 : decode cX3_add 5 = .ok (.getfield 11, 3) := by decide +kernel
theorem dX3_add_8 : decode cX3_add 8 = .ok (.arraylength, 1) := by decide +kernel
theorem dX3_add_9 : decode cX3_add 9 = .ok (.if_icmp .ge 26, 3) := by decide +kernel
theorem dX3_add_12 : decode cX3_add 12 = .ok (.aload_n 0, 1) := by decide +kernel
theorem dX3_add_13 : decode cX3_add 13 = .ok (.getfield 11, 3) := by decide +kernel
theorem dX3_add_16 : decode cX3_add 16 = .ok (.aload_n 0, 1) := by decide +kernel
theorem dX3_add_17 : decode cX3_add 17 = .ok (.getfield 21, 3) := by decide +kernel
theorem dX3_add_20 : decode cX3_add 20 = .ok (.aaload, 1) := by decide +kernel
theorem dX3_add_21 : decode cX3_add 21 = .ok (.aload_n 1, 1) := by decide +kernel
theorem dX3_add_22 : decode cX3_add 22 = .ok (.invokevirtual 61, 3) := by decide +kernel
theorem dX3_add_25 : decode cX3_add 25 = .ok (.aload_n 0, 1) := by decide +kernel
theorem dX3_add_26 : decode cX3_add 26 = .ok (.dup, 1) := by decide +kernel
theorem dX3_add_27 : decode cX3_add 27 = .ok (.getfield 21, 3) := by decide +kernel
theorem dX3_add_30 : decode cX3_add 30 = .ok (.iconst 1, 1) := by decide +kernel
theorem dX3_add_31 : decode cX3_add 31 = .ok (.iadd, 1) := by decide +kernel
theorem dX3_add_32 : decode cX3_add 32 = .ok (.putfield 21, 3) := by decide +kernel
theorem dX3_add_35 : decode cX3_add 35 = .ok (.return_, 1) := by decide +kernel
theorem dX3_sizeToThe_0 : decode cX3_sizeToThe 0 = .ok (.aload_n 0, 1) := by decide +kernel
theorem dX3_sizeToThe_1 : decode cX3_sizeToThe 1 = .ok (.getfield 91, 3) := by decide +kernel
theorem dX3_sizeToThe_4 : decode cX3_sizeToThe 4 = .ok (.getfield 95, 3) := by decide +kernel
theorem dX3_sizeToThe_7 : decode cX3_sizeToThe 7 = .ok (.i2l, 1) := by decide +kernel
theorem dX3_sizeToThe_8 : decode cX3_sizeToThe 8 = .ok (.lstore_n 2, 1) := by decide +kernel
theorem dX3_sizeToThe_9 : decode cX3_sizeToThe 9 = .ok (.iload_n 1, 1) := by decide +kernel
theorem dX3_sizeToThe_10 : decode cX3_sizeToThe 10 = .ok (.iconst 1, 1) := by decide +kernel
theorem dX3_sizeToThe_11 : decode cX3_sizeToThe 11 = .ok (.if_icmp .ne 7, 3) := by decide +kernel
theorem dX3_sizeToThe_14 : decode cX3_sizeToThe 14 = .ok (.lload_n 2, 1) := by decide +kernel
theorem dX3_sizeToThe_15 : decode cX3_sizeToThe 15 = .ok (.goto 6, 3) := by decide +kernel
theorem dX3_sizeToThe_18 : decode cX3_sizeToThe 18 = .ok (.lload_n 2, 1) := by decide +kernel
theorem dX3_sizeToThe_19 : decode cX3_sizeToThe 19 = .ok (.lload_n 2, 1) := by decide +kernel
theorem dX3_sizeToThe_20 : decode cX3_sizeToThe 20 = .ok (.lmul, 1) := by decide +kernel
theorem dX3_sizeToThe_21 : decode cX3_sizeToThe 21 = .ok (.lreturn, 1) := by decide +kernel
set_option maxRecDepth 20000 in
theorem ggX3_collect_X3_sizeToThe : GoodIn wsX3_collect wsX3_sizeToThe := goodIn_r _ [7, 109, 110, 111, 112, 113, 114, 115, 116, 117, 118, 119, 120, 121, 122, 123, 124, 125, 126, 127] (by decide +kernel) (by decide +kernel)
set_option maxRecDepth 20000 in
theorem gX3_collect_X3_sizeToThe : GoodIn wsX3_collect (va_wsS RX3 100 yX3_sizeToThe wsX3_sizeToThe) := goodIn_app (goodIn_of _ (by decide +kernel)) ggX3_collect_X3_sizeToThe
set_option maxRecDepth 20000 in
theorem ggX3_collect_X1_raiseLinear : GoodIn wsX3_collect wsX1_raiseLinear := goodIn_r _ [12, 13, 14, 15, 16, 17, 18, 19, 20, 21, 22, 23, 24, 25, 26, 27, 28, 29, 11, 30, 31, 32, 33, 34, 35, 36, 37, 38, 39, 40, 41, 42, 43, 44, 45, 46, 47, 48, 49, 50, 51, 52, 53, 54, 55, 56, 57, 58, 59, 60, 61, 62, 63, 64, 65, 66, 67, 68, 69, 70, 71, 72, 73, 128, 109, 110, 111, 112, 113, 114, 115, 116, 117, 118, 119, 120, 121, 122, 123, 124, 125, 126, 127] (by decide +kernel) (by decide +kernel)
set_option maxRecDepth 20000 in
theorem gX3_collect_X1_raiseLinear : GoodIn wsX3_collect (wsV RX3 104 RX1 yX1_raiseLinear wsX1_raiseLinear) := goodIn_app (goodIn_of _ (by decide +kernel)) ggX3_collect_X1_raiseLinear
set_option maxRecDepth 20000 in
theorem ggX3_collect_X2_get : GoodIn wsX3_collect wsX2_get := goodIn_r _ [41, 22, 128] (by decide +kernel) (by decide +kernel)
set_option maxRecDepth 20000 in
theorem gX3_collect_X2_get : GoodIn wsX3_collect (wsV RX3 108 RX2 yX2_get wsX2_get) := goodIn_app (goodIn_of _ (by decide +kernel)) ggX3_collect_X2_get
set_option maxRecDepth 20000 in
theorem ggX3_collect_X0_minus : GoodIn wsX3_collect wsX0_minus := goodIn_r _ [73] (by decide +kernel) (by decide +kernel)
set_option maxRecDepth 20000 in
theorem gX3_collect_X0_minus : GoodIn wsX3_collect (wsV RX3 112 RX0 yX0_minus wsX0_minus) := goodIn_app (goodIn_of _ (by decide +kernel)) ggX3_collect_X0_minus
set_option maxRecDepth 20000 in
theorem ggX3_collect_X2_set : GoodIn wsX3_collect wsX2_set := goodIn_r _ [26, 22, 128] (by decide +kernel) (by decide +kernel)
set_option maxRecDepth 20000 in
theorem gX3_collect_X2_set : GoodIn wsX3_collect (wsV RX3 116 RX2 yX2_set wsX2_set) := goodIn_app (goodIn_of _ (by decide +kernel)) ggX3_collect_X2_set
set_option maxRecDepth 20000 in
theorem ggX3_collect_X1_findCommon : GoodIn wsX3_collect wsX1_findCommon := goodIn_r _ [80, 81, 82, 56, 57, 58, 16, 59, 22, 60, 39, 40, 41, 33, 34, 35, 36, 83, 84, 85, 11, 86, 32, 38, 87, 88, 89, 45, 90, 91, 43, 44, 46, 47, 48, 49, 50, 42, 55, 24, 25, 26, 65, 66, 67, 68, 69, 37, 19, 20, 21, 70, 71, 72, 73, 109, 110, 111, 112, 113, 114, 115, 116, 117, 118, 119, 128, 120, 121, 122, 123, 124, 125, 126, 127] (by decide +kernel) (by decide +kernel)
set_option maxRecDepth 20000 in
theorem gX3_collect_X1_findCommon : GoodIn wsX3_collect (wsV RX3 120 RX1 yX1_findCommon wsX1_findCommon) := goodIn_app (goodIn_of _ (by decide +kernel)) ggX3_collect_X1_findCommon
set_option maxRecDepth 20000 in
theorem ggX3_collect_X2_degree : GoodIn wsX3_collect wsX2_degree := goodIn_r _ [36, 22, 128] (by decide +kernel) (by decide +kernel)
set_option maxRecDepth 20000 in
theorem gX3_collect_X2_degree : GoodIn wsX3_collect (wsV RX3 47 RX2 yX2_degree wsX2_degree) := goodIn_app (goodIn_of _ (by decide +kernel)) ggX3_collect_X2_degree
set_option maxRecDepth 20000 in
theorem ggX3_collect_X3_add : GoodIn wsX3_collect wsX3_add := goodIn_r _ [96, 97, 98, 99, 57, 58, 16, 59, 22, 60, 39, 40, 41, 101, 102, 103, 104, 105, 106, 107, 108, 128] (by decide +kernel) (by decide +kernel)
set_option maxRecDepth 20000 in
theorem gX3_collect_X3_add : GoodIn wsX3_collect (wsV RX3 73 RX3 yX3_add wsX3_add) := goodIn_app (goodIn_of _ (by decide +kernel)) ggX3_collect_X3_add
set_option maxRecDepth 20000 in
theorem ggX3_collect_X1_divide : GoodIn wsX3_collect wsX1_divide := goodIn_r _ [68, 69, 32, 33, 34, 35, 16, 36, 22, 37, 19, 20, 21, 38, 39, 40, 41, 55, 24, 25, 26, 42, 43, 44, 45, 46, 47, 48, 49, 50, 70, 71, 72, 73, 109, 110, 111, 112, 113, 114, 115, 116, 117, 118, 119, 128, 120, 121, 122, 123, 124, 125, 126, 127] (by decide +kernel) (by decide +kernel)
set_option maxRecDepth 20000 in
theorem gX3_collect_X1_divide : GoodIn wsX3_collect (wsV RX3 82 RX1 yX1_divide wsX1_divide) := goodIn_app (goodIn_of _ (by decide +kernel)) ggX3_collect_X1_divide
set_option maxRecDepth 20000 in
theorem ggX3_collect_X2_copy : GoodIn wsX3_collect wsX2_copy := goodIn_r _ [59, 22, 60, 39, 40, 16, 41, 128] (by decide +kernel) (by decide +kernel)
set_option maxRecDepth 20000 in
theorem gX3_collect_X2_copy : GoodIn wsX3_collect (wsV RX3 61 RX2 yX2_copy wsX2_copy) := goodIn_app (goodIn_of _ (by decide +kernel)) ggX3_collect_X2_copy
theorem dX3_collect_0 : decode cX3_collect 0 = .ok (.aload_n 1, 1) := by decide +kernel
theorem dX3_collect_1 : decode cX3_collect 1 = .ok (.iconst 0, 1) := by decide +kernel
theorem dX3_collect_2 : decode cX3_collect 2 = .ok (.aload_n 1, 1) := by decide +kernel
theorem dX3_collect_3 : decode cX3_collect 3 = .ok (.iload_n 2, 1) := by decide +kernel
theorem dX3_collect_4 : decode cX3_collect 4 = .ok (.invokestatic 100, 3) := by decide +kernel
theorem dX3_collect_7 : decode cX3_collect 7 = .ok (.aload_n 0, 1) := by decide +kernel
theorem dX3_collect_8 : decode cX3_collect 8 = .ok (.getfield 34, 3) := by decide +kernel
theorem dX3_collect_11 : decode cX3_collect 11 = .ok (.aload_n 0, 1) := by decide +kernel
theorem dX3_collect_12 : decode cX3_collect 12 = .ok (.getfield 37, 3) := by decide +kernel
theorem dX3_collect_15 : decode cX3_collect 15 = .ok (.invokevirtual 104, 3) := by decide +kernel
theorem dX3_collect_18 : decode cX3_collect 18 = .ok (.aload_n 0, 1) := by decide +kernel
theorem dX3_collect_19 : decode cX3_collect 19 = .ok (.getfield 37, 3) := by decide +kernel
theorem dX3_collect_22 : decode cX3_collect 22 = .ok (.iconst 1, 1) := by decide +kernel
theorem dX3_collect_23 : decode cX3_collect 23 = .ok (.aload_n 1, 1) := by decide +kernel
theorem dX3_collect_24 : decode cX3_collect 24 = .ok (.getfield 91, 3) := by decide +kernel
theorem dX3_collect_27 : decode cX3_collect 27 = .ok (.aload_n 0, 1) := by decide +kernel
theorem dX3_collect_28 : decode cX3_collect 28 = .ok (.getfield 37, 3) := by decide +kernel
theorem dX3_collect_31 : decode cX3_collect 31 = .ok (.iconst 1, 1) := by decide +kernel
theorem dX3_collect_32 : decode cX3_collect 32 = .ok (.invokevirtual 108, 3) := by decide +kernel
theorem dX3_collect_35 : decode cX3_collect 35 = .ok (.iconst 1, 1) := by decide +kernel
theorem dX3_collect_36 : decode cX3_collect 36 = .ok (.invokevirtual 112, 3) := by decide +kernel
theorem dX3_collect_39 : decode cX3_collect 39 = .ok (.invokevirtual 116, 3) := by decide +kernel
theorem dX3_collect_42 : decode cX3_collect 42 = .ok (.aload_n 1, 1) := by decide +kernel
theorem dX3_collect_43 : decode cX3_collect 43 = .ok (.aload_n 0, 1) := by decide +kernel
theorem dX3_collect_44 : decode cX3_collect 44 = .ok (.getfield 34, 3) := by decide +kernel
theorem dX3_collect_47 : decode cX3_collect 47 = .ok (.aload_n 0, 1) := by decide +kernel
theorem dX3_collect_48 : decode cX3_collect 48 = .ok (.getfield 37, 3) := by decide +kernel
theorem dX3_collect_51 : decode cX3_collect 51 = .ok (.aload_n 0, 1) := by decide +kernel
theorem dX3_collect_52 : decode cX3_collect 52 = .ok (.getfield 40, 3) := by decide +kernel
theorem dX3_collect_55 : decode cX3_collect 55 = .ok (.invokevirtual 120, 3) := by decide +kernel
theorem dX3_collect_58 : decode cX3_collect 58 = .ok (.aload_n 0, 1) := by decide +kernel
theorem dX3_collect_59 : decode cX3_collect 59 = .ok (.getfield 40, 3) := by decide +kernel
theorem dX3_collect_62 : decode cX3_collect 62 = .ok (.invokevirtual 47, 3) := by decide +kernel
theorem dX3_collect_65 : decode cX3_collect 65 = .ok (.ifCond .le 34, 3) := by decide +kernel
theorem dX3_collect_68 : decode cX3_collect 68 = .ok (.aload_n 0, 1) := by decide +kernel
theorem dX3_collect_69 : decode cX3_collect 69 = .ok (.aload_n 0, 1) := by decide +kernel
theorem dX3_collect_70 : decode cX3_collect 70 = .ok (.getfield 40, 3) := by decide +kernel
theorem dX3_collect_73 : decode cX3_collect 73 = .ok (.invokevirtual 73, 3) := by decide +kernel
theorem dX3_collect_76 : decode cX3_collect 76 = .ok (.aload_n 1, 1) := by decide +kernel
theorem dX3_collect_77 : decode cX3_collect 77 = .ok (.aload_n 0, 1) := by decide +kernel
theorem dX3_collect_78 : decode cX3_collect 78 = .ok (.getfield 34, 3) := by decide +kernel
theorem dX3_collect_81 : decode cX3_collect 81 = .ok (.aload_n 0, 1) := by decide +kernel
theorem dX3_collect_82 : decode cX3_collect 82 = .ok (.getfield 40, 3) := by decide +kernel
theorem dX3_collect_85 : decode cX3_collect 85 = .ok (.invokevirtual 82, 3) := by decide +kernel
theorem dX3_collect_88 : decode cX3_collect 88 = .ok (.aload_n 0, 1) := by decide +kernel
theorem dX3_collect_89 : decode cX3_collect 89 = .ok (.getfield 34, 3) := by decide +kernel
theorem dX3_collect_92 : decode cX3_collect 92 = .ok (.aload_n 1, 1) := by decide +kernel
theorem dX3_collect_93 : decode cX3_collect 93 = .ok (.getfield 85, 3) := by decide +kernel
theorem dX3_collect_96 : decode cX3_collect 96 = .ok (.invokevirtual 61, 3) := by decide +kernel
theorem dX3_collect_99 : decode cX3_collect 99 = .ok (.return_, 1) := by decide +kernel
set_option maxRecDepth 20000 in
theorem ggX3_separate_X3_sizeToThe : GoodIn wsX3_separate wsX3_sizeToThe := goodIn_r _ [8, 106, 107, 108, 109, 110, 111, 112, 113, 114, 115, 116, 117, 118, 119, 120, 121, 122, 123, 124] (by decide +kernel) (by decide +kernel)
set_option maxRecDepth 20000 in
theorem gX3_separate_X3_sizeToThe : GoodIn wsX3_separate (va_wsS RX3 100 yX3_sizeToThe wsX3_sizeToThe) := goodIn_app (goodIn_of _ (by decide +kernel)) ggX3_separate_X3_sizeToThe
set_option maxRecDepth 20000 in
theorem ggX3_separate_X3_part : GoodIn wsX3_separate wsX3_part := goodIn_r _ [12, 13, 14, 125, 126, 127, 128, 129, 130, 131, 132] (by decide +kernel) (by decide +kernel)
set_option maxRecDepth 20000 in
theorem gX3_separate_X3_part : GoodIn wsX3_separate (wsV RX3 43 RX3 yX3_part wsX3_part) := goodIn_app (goodIn_of _ (by decide +kernel)) ggX3_separate_X3_part
set_option maxRecDepth 20000 in
theorem ggX3_separate_X2_degree : GoodIn wsX3_separate wsX2_degree := goodIn_r _ [19, 20, 133] (by decide +kernel) (by decide +kernel)
set_option maxRecDepth 20000 in
theorem gX3_separate_X2_degree : GoodIn wsX3_separate (wsV RX3 47 RX2 yX2_degree wsX2_degree) := goodIn_app (goodIn_of _ (by decide +kernel)) ggX3_separate_X2_degree
set_option maxRecDepth 20000 in
theorem ggX3_separate_X1_raiseLinear : GoodIn wsX3_separate wsX1_raiseLinear := goodIn_r _ [25, 26, 27, 28, 18, 29, 30, 31, 32, 33, 20, 34, 35, 36, 37, 38, 39, 40, 24, 41, 42, 43, 44, 16, 17, 19, 45, 46, 47, 48, 49, 50, 51, 52, 53, 54, 55, 56, 57, 58, 59, 60, 61, 62, 63, 64, 65, 66, 67, 68, 69, 70, 71, 72, 73, 74, 75, 76, 77, 78, 79, 80, 81, 133, 106, 107, 108, 109, 110, 111, 112, 113, 114, 115, 116, 117, 118, 119, 120, 121, 122, 123, 124] (by decide +kernel) (by decide +kernel)
set_option maxRecDepth 20000 in
theorem gX3_separate_X1_raiseLinear : GoodIn wsX3_separate (wsV RX3 104 RX1 yX1_raiseLinear wsX1_raiseLinear) := goodIn_app (goodIn_of _ (by decide +kernel)) ggX3_separate_X1_raiseLinear
set_option maxRecDepth 20000 in
theorem ggX3_separate_X2_get : GoodIn wsX3_separate wsX2_get := goodIn_r _ [49, 20, 133] (by decide +kernel) (by decide +kernel)
set_option maxRecDepth 20000 in
theorem gX3_separate_X2_get : GoodIn wsX3_separate (wsV RX3 108 RX2 yX2_get wsX2_get) := goodIn_app (goodIn_of _ (by decide +kernel)) ggX3_separate_X2_get
set_option maxRecDepth 20000 in
theorem ggX3_separate_X0_minus : GoodIn wsX3_separate wsX0_minus := goodIn_r _ [81] (by decide +kernel) (by decide +kernel)
set_option maxRecDepth 20000 in
theorem gX3_separate_X0_minus : GoodIn wsX3_separate (wsV RX3 112 RX0 yX0_minus wsX0_minus) := goodIn_app (goodIn_of _ (by decide +kernel)) ggX3_separate_X0_minus
set_option maxRecDepth 20000 in
theorem ggX3_separate_X2_set : GoodIn wsX3_separate wsX2_set := goodIn_r _ [37, 20, 133] (by decide +kernel) (by decide +kernel)
set_option maxRecDepth 20000 in
theorem gX3_separate_X2_set : GoodIn wsX3_separate (wsV RX3 116 RX2 yX2_set wsX2_set) := goodIn_app (goodIn_of _ (by decide +kernel)) ggX3_separate_X2_set
set_option maxRecDepth 20000 in
theorem ggX3_separate_X1_findCommon : GoodIn wsX3_separate wsX1_findCommon := goodIn_r _ [88, 89, 90, 64, 65, 66, 18, 67, 20, 68, 47, 48, 49, 44, 16, 17, 19, 91, 92, 93, 24, 94, 43, 46, 95, 96, 97, 53, 98, 99, 51, 52, 54, 55, 56, 57, 58, 50, 63, 35, 36, 37, 73, 74, 75, 76, 77, 45, 31, 32, 33, 78, 79, 80, 81, 106, 107, 108, 109, 110, 111, 112, 113, 114, 115, 116, 133, 117, 118, 119, 120, 121, 122, 123, 124] (by decide +kernel) (by decide +kernel)
set_option maxRecDepth 20000 in
theorem gX3_separate_X1_findCommon : GoodIn wsX3_separate (wsV RX3 120 RX1 yX1_findCommon wsX1_findCommon) := goodIn_app (goodIn_of _ (by decide +kernel)) ggX3_separate_X1_findCommon
set_option maxRecDepth 20000 in
theorem ggX3_separate_X1_divide : GoodIn wsX3_separate wsX1_divide := goodIn_r _ [76, 77, 43, 44, 16, 17, 18, 19, 20, 45, 31, 32, 33, 46, 47, 48, 49, 63, 35, 36, 37, 50, 51, 52, 53, 54, 55, 56, 57, 58, 78, 79, 80, 81, 106, 107, 108, 109, 110, 111, 112, 113, 114, 115, 116, 133, 117, 118, 119, 120, 121, 122, 123, 124] (by decide +kernel) (by decide +kernel)
set_option maxRecDepth 20000 in
theorem gX3_separate_X1_divide : GoodIn wsX3_separate (wsV RX3 82 RX1 yX1_divide wsX1_divide) := goodIn_app (goodIn_of _ (by decide +kernel)) ggX3_separate_X1_divide
set_option maxRecDepth 20000 in
theorem ggX3_separate_X2_copy : GoodIn wsX3_separate wsX2_copy := goodIn_r _ [67, 20, 68, 47, 48, 18, 49, 133] (by decide +kernel) (by decide +kernel)
set_option maxRecDepth 20000 in
theorem gX3_separate_X2_copy : GoodIn wsX3_separate (wsV RX3 61 RX2 yX2_copy wsX2_copy) := goodIn_app (goodIn_of _ (by decide +kernel)) ggX3_separate_X2_copy
set_option maxRecDepth 20000 in
theorem ggX3_separate_X3_add : GoodIn wsX3_separate wsX3_add := goodIn_r _ [105, 2, 13, 101, 65, 66, 18, 67, 20, 68, 47, 48, 49, 125, 126, 127, 128, 129, 130, 131, 132, 133] (by decide +kernel) (by decide +kernel)
set_option maxRecDepth 20000 in
theorem gX3_separate_X3_add : GoodIn wsX3_separate (wsV RX3 73 RX3 yX3_add wsX3_add) := goodIn_app (goodIn_of _ (by decide +kernel)) ggX3_separate_X3_add
theorem dX3_separate_0 : decode cX3_separate 0 = .ok (.aload_n 1, 1) := by decide +kernel
theorem dX3_separate_1 : decode cX3_separate 1 = .ok (.getfield 91, 3) := by decide +kernel
theorem dX3_separate_4 : decode cX3_separate 4 = .ok (.getfield 95, 3) := by decide +kernel
theorem dX3_separate_7 : decode cX3_separate 7 = .ok (.istore 4, 2) := by decide +kernel
theorem dX3_separate_9 : decode cX3_separate 9 = .ok (.iload 4, 2) := by decide +kernel
theorem dX3_separate_11 : decode cX3_separate 11 = .ok (.sipush 382, 3) := by decide +kernel
theorem dX3_separate_14 : decode cX3_separate 14 = .ok (.imul, 1) := by decide +kernel
theorem dX3_separate_15 : decode cX3_separate 15 = .ok (.sipush 1000, 3) := by decide +kernel
theorem dX3_separate_18 : decode cX3_separate 18 = .ok (.idiv, 1) := by decide +kernel
theorem dX3_separate_19 : decode cX3_separate 19 = .ok (.istore 5, 2) := by decide +kernel
theorem dX3_separate_21 : decode cX3_separate 21 = .ok (.aload_n 1, 1) := by decide +kernel
theorem dX3_separate_22 : decode cX3_separate 22 = .ok (.iload_n 3, 1) := by decide +kernel
theorem dX3_separate_23 : decode cX3_separate 23 = .ok (.invokestatic 100, 3) := by decide +kernel
theorem dX3_separate_26 : decode cX3_separate 26 = .ok (.lconst 1, 1) := by decide +kernel
theorem dX3_separate_27 : decode cX3_separate 27 = .ok (.lsub, 1) := by decide +kernel
theorem dX3_separate_28 : decode cX3_separate 28 = .ok (.ldc2_w 124, 3) := by decide +kernel
theorem dX3_separate_31 : decode cX3_separate 31 = .ok (.ldiv, 1) := by decide +kernel
theorem dX3_separate_32 : decode cX3_separate 32 = .ok (.lstore 6, 2) := by decide +kernel
theorem dX3_separate_34 : decode cX3_separate 34 = .ok (.iload 5, 2) := by decide +kernel
theorem dX3_separate_36 : decode cX3_separate 36 = .ok (.istore 8, 2) := by decide +kernel
theorem dX3_separate_38 : decode cX3_separate 38 = .ok (.iconst 1, 1) := by decide +kernel
theorem dX3_separate_39 : decode cX3_separate 39 = .ok (.istore 9, 2) := by decide +kernel
theorem dX3_separate_41 : decode cX3_separate 41 = .ok (.iconst 0, 1) := by decide +kernel
theorem dX3_separate_42 : decode cX3_separate 42 = .ok (.istore 10, 2) := by decide +kernel
theorem dX3_separate_44 : decode cX3_separate 44 = .ok (.iload 10, 2) := by decide +kernel
theorem dX3_separate_46 : decode cX3_separate 46 = .ok (.iload 4, 2) := by decide +kernel
theorem dX3_separate_48 : decode cX3_separate 48 = .ok (.if_icmp .ge 205, 3) := by decide +kernel
theorem dX3_separate_51 : decode cX3_separate 51 = .ok (.iload 9, 2) := by decide +kernel
theorem dX3_separate_53 : decode cX3_separate 53 = .ok (.ifCond .eq 200, 3) := by decide +kernel
theorem dX3_separate_56 : decode cX3_separate 56 = .ok (.iconst 0, 1) := by decide +kernel
theorem dX3_separate_57 : decode cX3_separate 57 = .ok (.istore 9, 2) := by decide +kernel
theorem dX3_separate_59 : decode cX3_separate 59 = .ok (.aload_n 0, 1) := by decide +kernel
theorem dX3_separate_60 : decode cX3_separate 60 = .ok (.getfield 21, 3) := by decide +kernel
theorem dX3_separate_63 : decode cX3_separate 63 = .ok (.istore 11, 2) := by decide +kernel
theorem dX3_separate_65 : decode cX3_separate 65 = .ok (.iload_n 2, 1) := by decide +kernel
theorem dX3_separate_66 : decode cX3_separate 66 = .ok (.istore 12, 2) := by decide +kernel
theorem dX3_separate_68 : decode cX3_separate 68 = .ok (.iload 12, 2) := by decide +kernel
theorem dX3_separate_70 : decode cX3_separate 70 = .ok (.iload 11, 2) := by decide +kernel
theorem dX3_separate_72 : decode cX3_separate 72 = .ok (.if_icmp .ge 149, 3) := by decide +kernel
theorem dX3_separate_75 : decode cX3_separate 75 = .ok (.aload_n 0, 1) := by decide +kernel
theorem dX3_separate_76 : decode cX3_separate 76 = .ok (.iload 12, 2) := by decide +kernel
theorem dX3_separate_78 : decode cX3_separate 78 = .ok (.invokevirtual 43, 3) := by decide +kernel
theorem dX3_separate_81 : decode cX3_separate 81 = .ok (.invokevirtual 47, 3) := by decide +kernel
theorem dX3_separate_84 : decode cX3_separate 84 = .ok (.iload_n 3, 1) := by decide +kernel
theorem dX3_separate_85 : decode cX3_separate 85 = .ok (.if_icmp .le 130, 3) := by decide +kernel
theorem dX3_separate_88 : decode cX3_separate 88 = .ok (.iconst 1, 1) := by decide +kernel
theorem dX3_separate_89 : decode cX3_separate 89 = .ok (.istore 9, 2) := by decide +kernel
theorem dX3_separate_91 : decode cX3_separate 91 = .ok (.aload_n 1, 1) := by decide +kernel
theorem dX3_separate_92 : decode cX3_separate 92 = .ok (.iload 8, 2) := by decide +kernel
theorem dX3_separate_94 : decode cX3_separate 94 = .ok (.lload 6, 2) := by decide +kernel
theorem dX3_separate_96 : decode cX3_separate 96 = .ok (.aload_n 0, 1) := by decide +kernel
theorem dX3_separate_97 : decode cX3_separate 97 = .ok (.iload 12, 2) := by decide +kernel
theorem dX3_separate_99 : decode cX3_separate 99 = .ok (.invokevirtual 43, 3) := by decide +kernel
theorem dX3_separate_102 : decode cX3_separate 102 = .ok (.aload_n 0, 1) := by decide +kernel
theorem dX3_separate_103 : decode cX3_separate 103 = .ok (.getfield 37, 3) := by decide +kernel
theorem dX3_separate_106 : decode cX3_separate 106 = .ok (.invokevirtual 104, 3) := by decide +kernel
theorem dX3_separate_109 : decode cX3_separate 109 = .ok (.aload_n 0, 1) := by decide +kernel
theorem dX3_separate_110 : decode cX3_separate 110 = .ok (.getfield 37, 3) := by decide +kernel
theorem dX3_separate_113 : decode cX3_separate 113 = .ok (.iconst 0, 1) := by decide +kernel
theorem dX3_separate_114 : decode cX3_separate 114 = .ok (.aload_n 1, 1) := by decide +kernel
theorem dX3_separate_115 : decode cX3_separate 115 = .ok (.getfield 91, 3) := by decide +kernel
theorem dX3_separate_118 : decode cX3_separate 118 = .ok (.aload_n 0, 1) := by decide +kernel
theorem dX3_separate_119 : decode cX3_separate 119 = .ok (.getfield 37, 3) := by decide +kernel
theorem dX3_separate_122 : decode cX3_separate 122 = .ok (.iconst 0, 1) := by decide +kernel
theorem dX3_separate_123 : decode cX3_separate 123 = .ok (.invokevirtual 108, 3) := by decide +kernel
theorem dX3_separate_126 : decode cX3_separate 126 = .ok (.iconst 1, 1) := by decide +kernel
theorem dX3_separate_127 : decode cX3_separate 127 = .ok (.invokevirtual 112, 3) := by decide +kernel
theorem dX3_separate_130 : decode cX3_separate 130 = .ok (.invokevirtual 116, 3) := by decide +kernel
theorem dX3_separate_133 : decode cX3_separate 133 = .ok (.aload_n 1, 1) := by decide +kernel
theorem dX3_separate_134 : decode cX3_separate 134 = .ok (.aload_n 0, 1) := by decide +kernel
theorem dX3_separate_135 : decode cX3_separate 135 = .ok (.iload 12, 2) := by decide +kernel
theorem dX3_separate_137 : decode cX3_separate 137 = .ok (.invokevirtual 43, 3) := by decide +kernel
theorem dX3_separate_140 : decode cX3_separate 140 = .ok (.aload_n 0, 1) := by decide +kernel
theorem dX3_separate_141 : decode cX3_separate 141 = .ok (.getfield 37, 3) := by decide +kernel
theorem dX3_separate_144 : decode cX3_separate 144 = .ok (.aload_n 0, 1) := by decide +kernel
theorem dX3_separate_145 : decode cX3_separate 145 = .ok (.getfield 40, 3) := by decide +kernel
theorem dX3_separate_148 : decode cX3_separate 148 = .ok (.invokevirtual 120, 3) := by decide +kernel
theorem dX3_separate_151 : decode cX3_separate 151 = .ok (.aload_n 0, 1) := by decide +kernel
theorem dX3_separate_152 : decode cX3_separate 152 = .ok (.getfield 40, 3) := by decide +kernel
theorem dX3_separate_155 : decode cX3_separate 155 = .ok (.invokevirtual 47, 3) := by decide +kernel
theorem dX3_separate_158 : decode cX3_separate 158 = .ok (.ifCond .le 57, 3) := by decide +kernel
theorem dX3_separate_161 : decode cX3_separate 161 = .ok (.aload_n 0, 1) := by decide +kernel
theorem dX3_separate_162 : decode cX3_separate 162 = .ok (.getfield 40, 3) := by decide +kernel
theorem dX3_separate_165 : decode cX3_separate 165 = .ok (.invokevirtual 47, 3) := by decide +kernel
theorem dX3_separate_168 : decode cX3_separate 168 = .ok (.aload_n 0, 1) := by decide +kernel
theorem dX3_separate_169 : decode cX3_separate 169 = .ok (.iload 12, 2) := by decide +kernel
theorem dX3_separate_171 : decode cX3_separate 171 = .ok (.invokevirtual 43, 3) := by decide +kernel
theorem dX3_separate_174 : decode cX3_separate 174 = .ok (.invokevirtual 47, 3) := by decide +kernel
theorem dX3_separate_177 : decode cX3_separate 177 = .ok (.if_icmp .ge 38, 3) := by decide +kernel
theorem dX3_separate_180 : decode cX3_separate 180 = .ok (.aload_n 1, 1) := by decide +kernel
theorem dX3_separate_181 : decode cX3_separate 181 = .ok (.aload_n 0, 1) := by decide +kernel
theorem dX3_separate_182 : decode cX3_separate 182 = .ok (.iload 12, 2) := by decide +kernel
theorem dX3_separate_184 : decode cX3_separate 184 = .ok (.invokevirtual 43, 3) := by decide +kernel
theorem dX3_separate_187 : decode cX3_separate 187 = .ok (.aload_n 0, 1) := by decide +kernel
theorem dX3_separate_188 : decode cX3_separate 188 = .ok (.getfield 40, 3) := by decide +kernel
theorem dX3_separate_191 : decode cX3_separate 191 = .ok (.invokevirtual 82, 3) := by decide +kernel
theorem dX3_separate_194 : decode cX3_separate 194 = .ok (.aload_n 0, 1) := by decide +kernel
theorem dX3_separate_195 : decode cX3_separate 195 = .ok (.iload 12, 2) := by decide +kernel
theorem dX3_separate_197 : decode cX3_separate 197 = .ok (.invokevirtual 43, 3) := by decide +kernel
theorem dX3_separate_200 : decode cX3_separate 200 = .ok (.aload_n 1, 1) := by decide +kernel
theorem dX3_separate_201 : decode cX3_separate 201 = .ok (.getfield 85, 3) := by decide +kernel
theorem dX3_separate_204 : decode cX3_separate 204 = .ok (.invokevirtual 61, 3) := by decide +kernel
theorem dX3_separate_207 : decode cX3_separate 207 = .ok (.aload_n 0, 1) := by decide +kernel
theorem dX3_separate_208 : decode cX3_separate 208 = .ok (.aload_n 0, 1) := by decide +kernel
theorem dX3_separate_209 : decode cX3_separate 209 = .ok (.getfield 40, 3) := by decide +kernel
theorem dX3_separate_212 : decode cX3_separate 212 = .ok (.invokevirtual 73, 3) := by decide +kernel
theorem dX3_separate_215 : decode cX3_separate 215 = .ok (.iinc 12 1, 3) := by decide +kernel
theorem dX3_separate_218 : decode cX3_separate 218 = .ok (.goto (-150), 3) := by decide +kernel
theorem dX3_separate_221 : decode cX3_separate 221 = .ok (.iload 8, 2) := by decide +kernel
theorem dX3_separate_223 : decode cX3_separate 223 = .ok (.iload 5, 2) := by decide +kernel
theorem dX3_separate_225 : decode cX3_separate 225 = .ok (.iadd, 1) := by decide +kernel
theorem dX3_separate_226 : decode cX3_separate 226 = .ok (.istore 8, 2) := by decide +kernel
theorem dX3_separate_228 : decode cX3_separate 228 = .ok (.iload 8, 2) := by decide +kernel
theorem dX3_separate_230 : decode cX3_separate 230 = .ok (.iload 4, 2) := by decide +kernel
theorem dX3_separate_232 : decode cX3_separate 232 = .ok (.if_icmp .lt 11, 3) := by decide +kernel
theorem dX3_separate_235 : decode cX3_separate 235 = .ok (.iload 8, 2) := by decide +kernel
theorem dX3_separate_237 : decode cX3_separate 237 = .ok (.iload 4, 2) := by decide +kernel
theorem dX3_separate_239 : decode cX3_separate 239 = .ok (.isub, 1) := by decide +kernel
theorem dX3_separate_240 : decode cX3_separate 240 = .ok (.goto 5, 3) := by decide +kernel
theorem dX3_separate_243 : decode cX3_separate 243 = .ok (.iload 8, 2) := by decide +kernel
theorem dX3_separate_245 : decode cX3_separate 245 = .ok (.istore 8, 2) := by decide +kernel
theorem dX3_separate_247 : decode cX3_separate 247 = .ok (.iinc 10 1, 3) := by decide +kernel
theorem dX3_separate_250 : decode cX3_separate 250 = .ok (.goto (-206), 3) := by decide +kernel
theorem dX3_separate_253 : decode cX3_separate 253 = .ok (.return_, 1) := by decide +kernel
set_option maxRecDepth 20000 in
theorem ggX3_sort_X2_isBefore : GoodIn wsX3_sort wsX2_isBefore := goodIn_r _ [7, 8, 9, 10, 6, 11, 12, 13, 14, 15, 16, 25] (by decide +kernel) (by decide +kernel)
set_option maxRecDepth 20000 in
theorem gX3_sort_X2_isBefore : GoodIn wsX3_sort (wsV RX3 126 RX2 yX2_isBefore wsX2_isBefore) := goodIn_app (goodIn_of _ (by decide +kernel)) ggX3_sort_X2_isBefore
theorem dX3_sort_0 : decode cX3_sort 0 = .ok (.iconst 1, 1) := by decide +kernel
theorem dX3_sort_1 : decode cX3_sort 1 = .ok (.istore_n 1, 1) := by decide +kernel
theorem dX3_sort_2 : decode cX3_sort 2 = .ok (.iload_n 1, 1) := by decide +kernel
theorem dX3_sort_3 : decode cX3_sort 3 = .ok (.aload_n 0, 1) := by decide +kernel
theorem dX3_sort_4 : decode cX3_sort 4 = .ok (.getfield 21, 3) := by decide +kernel
theorem dX3_sort_7 : decode cX3_sort 7 = .ok (.if_icmp .ge 73, 3) := by decide +kernel
theorem dX3_sort_10 : decode cX3_sort 10 = .ok (.iload_n 1, 1) := by decide +kernel
theorem dX3_sort_11 : decode cX3_sort 11 = .ok (.aload_n 0, 1) := by decide +kernel
theorem dX3_sort_12 : decode cX3_sort 12 = .ok (.getfield 11, 3) := by decide +kernel
theorem dX3_sort_15 : decode cX3_sort 15 = .ok (.arraylength, 1) := by decide +kernel
theorem dX3_sort_16 : decode cX3_sort 16 = .ok (.if_icmp .ge 64, 3) := by decide +kernel
theorem dX3_sort_19 : decode cX3_sort 19 = .ok (.aload_n 0, 1) := by decide +kernel
theorem dX3_sort_20 : decode cX3_sort 20 = .ok (.getfield 11, 3) := by decide +kernel
theorem dX3_sort_23 : decode cX3_sort 23 = .ok (.iload_n 1, 1) := by decide +kernel
theorem dX3_sort_24 : decode cX3_sort 24 = .ok (.aaload, 1) := by decide +kernel
theorem dX3_sort_25 : decode cX3_sort 25 = .ok (.astore_n 2, 1) := by decide +kernel
theorem dX3_sort_26 : decode cX3_sort 26 = .ok (.iload_n 1, 1) := by decide +kernel
theorem dX3_sort_27 : decode cX3_sort 27 = .ok (.istore_n 3, 1) := by decide +kernel
theorem dX3_sort_28 : decode cX3_sort 28 = .ok (.iload_n 3, 1) := by decide +kernel
theorem dX3_sort_29 : decode cX3_sort 29 = .ok (.ifCond .le 38, 3) := by decide +kernel
theorem dX3_sort_32 : decode cX3_sort 32 = .ok (.aload_n 2, 1) := by decide +kernel
theorem dX3_sort_33 : decode cX3_sort 33 = .ok (.aload_n 0, 1) := by decide +kernel
theorem dX3_sort_34 : decode cX3_sort 34 = .ok (.getfield 11, 3) := by decide +kernel
theorem dX3_sort_37 : decode cX3_sort 37 = .ok (.iload_n 3, 1) := by decide +kernel
theorem dX3_sort_38 : decode cX3_sort 38 = .ok (.iconst 1, 1) := by decide +kernel
theorem dX3_sort_39 : decode cX3_sort 39 = .ok (.isub, 1) := by decide +kernel
theorem dX3_sort_40 : decode cX3_sort 40 = .ok (.aaload, 1) := by decide +kernel
theorem dX3_sort_41 : decode cX3_sort 41 = .ok (.invokevirtual 126, 3) := by decide +kernel
theorem dX3_sort_44 : decode cX3_sort 44 = .ok (.ifCond .eq 23, 3) := by decide +kernel
theorem dX3_sort_47 : decode cX3_sort 47 = .ok (.aload_n 0, 1) := by decide +kernel
theorem dX3_sort_48 : decode cX3_sort 48 = .ok (.getfield 11, 3) := by decide +kernel
theorem dX3_sort_51 : decode cX3_sort 51 = .ok (.iload_n 3, 1) := by decide +kernel
theorem dX3_sort_52 : decode cX3_sort 52 = .ok (.aload_n 0, 1) := by decide +kernel
theorem dX3_sort_53 : decode cX3_sort 53 = .ok (.getfield 11, 3) := by decide +kernel
theorem dX3_sort_56 : decode cX3_sort 56 = .ok (.iload_n 3, 1) := by decide +kernel
theorem dX3_sort_57 : decode cX3_sort 57 = .ok (.iconst 1, 1) := by decide +kernel
theorem dX3_sort_58 : decode cX3_sort 58 = .ok (.isub, 1) := by decide +kernel
theorem dX3_sort_59 : decode cX3_sort 59 = .ok (.aaload, 1) := by decide +kernel
theorem dX3_sort_60 : decode cX3_sort 60 = .ok (.aastore, 1) := by decide +kernel
theorem dX3_sort_61 : decode cX3_sort 61 = .ok (.iinc 3 (-1), 3) := by decide +kernel
theorem dX3_sort_64 : decode cX3_sort 64 = .ok (.goto (-36), 3) := by decide +kernel
theorem dX3_sort_67 : decode cX3_sort 67 = .ok (.aload_n 0, 1) := by decide +kernel
theorem dX3_sort_68 : decode cX3_sort 68 = .ok (.getfield 11, 3) := by decide +kernel
theorem dX3_sort_71 : decode cX3_sort 71 = .ok (.iload_n 3, 1) := by decide +kernel
theorem dX3_sort_72 : decode cX3_sort 72 = .ok (.aload_n 2, 1) := by decide +kernel
theorem dX3_sort_73 : decode cX3_sort 73 = .ok (.aastore, 1) := by decide +kernel
theorem dX3_sort_74 : decode cX3_sort 74 = .ok (.iinc 1 1, 3) := by decide +kernel
theorem dX3_sort_77 : decode cX3_sort 77 = .ok (.goto (-75), 3) := by decide +kernel
theorem dX3_sort_80 : decode cX3_sort 80 = .ok (.return_, 1) := by decide +kernel
set_option maxRecDepth 20000 in
theorem ggX3_countTimes_X2_copy : GoodIn wsX3_countTimes wsX2_copy := goodIn_r _ [8, 9, 10, 11, 12, 7, 13, 74] (by decide +kernel) (by decide +kernel)
set_option maxRecDepth 20000 in
theorem gX3_countTimes_X2_copy : GoodIn wsX3_countTimes (wsV RX3 61 RX2 yX2_copy wsX2_copy) := goodIn_app (goodIn_of _ (by decide +kernel)) ggX3_countTimes_X2_copy
set_option maxRecDepth 20000 in
theorem ggX3_countTimes_X3_part : GoodIn wsX3_countTimes wsX3_part := goodIn_r _ [18, 19, 20, 55, 56, 57, 58, 59, 60, 61, 62] (by decide +kernel) (by decide +kernel)
set_option maxRecDepth 20000 in
theorem gX3_countTimes_X3_part : GoodIn wsX3_countTimes (wsV RX3 43 RX3 yX3_part wsX3_part) := goodIn_app (goodIn_of _ (by decide +kernel)) ggX3_countTimes_X3_part
set_option maxRecDepth 20000 in
theorem ggX3_countTimes_X1_divide : GoodIn wsX3_countTimes wsX1_divide := goodIn_r _ [25, 26, 27, 28, 29, 30, 7, 31, 9, 32, 33, 34, 35, 36, 11, 12, 13, 37, 38, 39, 40, 41, 42, 43, 44, 45, 46, 47, 48, 49, 50, 51, 52, 53, 63, 64, 65, 66, 67, 68, 69, 70, 71, 72, 73, 74, 75, 76, 77, 78, 79, 80, 81, 82] (by decide +kernel) (by decide +kernel)
set_option maxRecDepth 20000 in
theorem gX3_countTimes_X1_divide : GoodIn wsX3_countTimes (wsV RX3 82 RX1 yX1_divide wsX1_divide) := goodIn_app (goodIn_of _ (by decide +kernel)) ggX3_countTimes_X1_divide
set_option maxRecDepth 20000 in
theorem ggX3_countTimes_X2_degree : GoodIn wsX3_countTimes wsX2_degree := goodIn_r _ [31, 9, 74] (by decide +kernel) (by decide +kernel)
set_option maxRecDepth 20000 in
theorem gX3_countTimes_X2_degree : GoodIn wsX3_countTimes (wsV RX3 47 RX2 yX2_degree wsX2_degree) := goodIn_app (goodIn_of _ (by decide +kernel)) ggX3_countTimes_X2_degree
theorem dX3_countTimes_0 : decode cX3_countTimes 0 = .ok (.iconst 0, 1) := by decide +kernel
theorem dX3_countTimes_1 : decode cX3_countTimes 1 = .ok (.istore_n 3, 1) := by decide +kernel
theorem dX3_countTimes_2 : decode cX3_countTimes 2 = .ok (.iload_n 3, 1) := by decide +kernel
theorem dX3_countTimes_3 : decode cX3_countTimes 3 = .ok (.aload_n 0, 1) := by decide +kernel
theorem dX3_countTimes_4 : decode cX3_countTimes 4 = .ok (.getfield 21, 3) := by decide +kernel
theorem dX3_countTimes_7 : decode cX3_countTimes 7 = .ok (.if_icmp .ge 95, 3) := by decide +kernel
theorem dX3_countTimes_10 : decode cX3_countTimes 10 = .ok (.iload_n 3, 1) := by decide +kernel
theorem dX3_countTimes_11 : decode cX3_countTimes 11 = .ok (.aload_n 0, 1) := by decide +kernel
theorem dX3_countTimes_12 : decode cX3_countTimes 12 = .ok (.getfield 17, 3) := by decide +kernel
theorem dX3_countTimes_15 : decode cX3_countTimes 15 = .ok (.arraylength, 1) := by decide +kernel
theorem dX3_countTimes_16 : decode cX3_countTimes 16 = .ok (.if_icmp .ge 86, 3) := by decide +kernel
theorem dX3_countTimes_19 : decode cX3_countTimes 19 = .ok (.aload_n 0, 1) := by decide +kernel
theorem dX3_countTimes_20 : decode cX3_countTimes 20 = .ok (.getfield 17, 3) := by decide +kernel
theorem dX3_countTimes_23 : decode cX3_countTimes 23 = .ok (.iload_n 3, 1) := by decide +kernel
theorem dX3_countTimes_24 : decode cX3_countTimes 24 = .ok (.iconst 0, 1) := by decide +kernel
theorem dX3_countTimes_25 : decode cX3_countTimes 25 = .ok (.iastore, 1) := by decide +kernel
theorem dX3_countTimes_26 : decode cX3_countTimes 26 = .ok (.aload_n 0, 1) := by decide +kernel
theorem dX3_countTimes_27 : decode cX3_countTimes 27 = .ok (.getfield 34, 3) := by decide +kernel
theorem dX3_countTimes_30 : decode cX3_countTimes 30 = .ok (.aload_n 2, 1) := by decide +kernel
theorem dX3_countTimes_31 : decode cX3_countTimes 31 = .ok (.invokevirtual 61, 3) := by decide +kernel
theorem dX3_countTimes_34 : decode cX3_countTimes 34 = .ok (.iconst 0, 1) := by decide +kernel
theorem dX3_countTimes_35 : decode cX3_countTimes 35 = .ok (.istore 4, 2) := by decide +kernel
theorem dX3_countTimes_37 : decode cX3_countTimes 37 = .ok (.iload 4, 2) := by decide +kernel
theorem dX3_countTimes_39 : decode cX3_countTimes 39 = .ok (.iconst 5, 1) := by decide +kernel
theorem dX3_countTimes_40 : decode cX3_countTimes 40 = .ok (.if_icmp .gt 56, 3) := by decide +kernel
theorem dX3_countTimes_43 : decode cX3_countTimes 43 = .ok (.aload_n 1, 1) := by decide +kernel
theorem dX3_countTimes_44 : decode cX3_countTimes 44 = .ok (.aload_n 0, 1) := by decide +kernel
theorem dX3_countTimes_45 : decode cX3_countTimes 45 = .ok (.getfield 34, 3) := by decide +kernel
theorem dX3_countTimes_48 : decode cX3_countTimes 48 = .ok (.aload_n 0, 1) := by decide +kernel
theorem dX3_countTimes_49 : decode cX3_countTimes 49 = .ok (.iload_n 3, 1) := by decide +kernel
theorem dX3_countTimes_50 : decode cX3_countTimes 50 = .ok (.invokevirtual 43, 3) := by decide +kernel
theorem dX3_countTimes_53 : decode cX3_countTimes 53 = .ok (.invokevirtual 82, 3) := by decide +kernel
theorem dX3_countTimes_56 : decode cX3_countTimes 56 = .ok (.aload_n 0, 1) := by decide +kernel
theorem dX3_countTimes_57 : decode cX3_countTimes 57 = .ok (.getfield 34, 3) := by decide +kernel
theorem dX3_countTimes_60 : decode cX3_countTimes 60 = .ok (.invokevirtual 47, 3) := by decide +kernel
theorem dX3_countTimes_63 : decode cX3_countTimes 63 = .ok (.ifCond .lt 6, 3) := by decide +kernel
theorem dX3_countTimes_66 : decode cX3_countTimes 66 = .ok (.goto 30, 3) := by decide +kernel
theorem dX3_countTimes_69 : decode cX3_countTimes 69 = .ok (.aload_n 0, 1) := by decide +kernel
theorem dX3_countTimes_70 : decode cX3_countTimes 70 = .ok (.getfield 17, 3) := by decide +kernel
theorem dX3_countTimes_73 : decode cX3_countTimes 73 = .ok (.iload_n 3, 1) := by decide +kernel
theorem dX3_countTimes_74 : decode cX3_countTimes 74 = .ok (.dup2, 1) := by decide +kernel
theorem dX3_countTimes_75 : decode cX3_countTimes 75 = .ok (.iaload, 1) := by decide +kernel
theorem dX3_countTimes_76 : decode cX3_countTimes 76 = .ok (.iconst 1, 1) := by decide +kernel
theorem dX3_countTimes_77 : decode cX3_countTimes 77 = .ok (.iadd, 1) := by decide +kernel
theorem dX3_countTimes_78 : decode cX3_countTimes 78 = .ok (.iastore, 1) := by decide +kernel
theorem dX3_countTimes_79 : decode cX3_countTimes 79 = .ok (.aload_n 0, 1) := by decide +kernel
theorem dX3_countTimes_80 : decode cX3_countTimes 80 = .ok (.getfield 34, 3) := by decide +kernel
theorem dX3_countTimes_83 : decode cX3_countTimes 83 = .ok (.aload_n 1, 1) := by decide +kernel
theorem dX3_countTimes_84 : decode cX3_countTimes 84 = .ok (.getfield 85, 3) := by decide +kernel
theorem dX3_countTimes_87 : decode cX3_countTimes 87 = .ok (.invokevirtual 61, 3) := by decide +kernel
theorem dX3_countTimes_90 : decode cX3_countTimes 90 = .ok (.iinc 4 1, 3) := by decide +kernel
theorem dX3_countTimes_93 : decode cX3_countTimes 93 = .ok (.goto (-56), 3) := by decide +kernel
theorem dX3_countTimes_96 : decode cX3_countTimes 96 = .ok (.iinc 3 1, 3) := by decide +kernel
theorem dX3_countTimes_99 : decode cX3_countTimes 99 = .ok (.goto (-97), 3) := by decide +kernel
theorem dX3_countTimes_102 : decode cX3_countTimes 102 = .ok (.return_, 1) := by decide +kernel
