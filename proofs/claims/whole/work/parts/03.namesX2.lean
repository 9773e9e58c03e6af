theorem dX2_init_0 : decode cX2_init 0 = .ok (.aload_n 0, 1) := by decide +kernel
theorem dX2_init_1 : decode cX2_init 1 = .ok (.invokespecial 3, 3) := by decide +kernel
theorem dX2_init_4 : decode cX2_init 4 = .ok (.aload_n 0, 1) := by decide +kernel
theorem dX2_init_5 : decode cX2_init 5 = .ok (.bipush 16, 2) := by decide +kernel
theorem dX2_init_7 : decode cX2_init 7 = .ok (.newarray .int, 2) := by decide +kernel
theorem dX2_init_9 : decode cX2_init 9 = .ok (.putfield 9, 3) := by decide +kernel
theorem dX2_init_12 : decode cX2_init 12 = .ok (.return_, 1) := by decide +kernel
theorem dX2_get_0 : decode cX2_get 0 = .ok (.iload_n 1, 1) := by decide +kernel
theorem dX2_get_1 : decode cX2_get 1 = .ok (.ifCond .lt 21, 3) := by decide +kernel
theorem dX2_get_4 : decode cX2_get 4 = .ok (.iload_n 1, 1) := by decide +kernel
theorem dX2_get_5 : decode cX2_get 5 = .ok (.aload_n 0, 1) := by decide +kernel
theorem dX2_get_6 : decode cX2_get 6 = .ok (.getfield 9, 3) := by decide +kernel
theorem dX2_get_9 : decode cX2_get 9 = .ok (.arraylength, 1) := by decide +kernel
theorem dX2_get_10 : decode cX2_get 10 = .ok (.if_icmp .ge 12, 3) := by decide +kernel
theorem dX2_get_13 : decode cX2_get 13 = .ok (.aload_n 0, 1) := by decide +kernel
theorem dX2_get_14 : decode cX2_get 14 = .ok (.getfield 9, 3) := by decide +kernel
theorem dX2_get_17 : decode cX2_get 17 = .ok (.iload_n 1, 1) := by decide +kernel
theorem dX2_get_18 : decode cX2_get 18 = .ok (.iaload, 1) := by decide +kernel
theorem dX2_get_19 : decode cX2_get 19 = .ok (.goto 4, 3) := by decide +kernel
theorem dX2_get_22 : decode cX2_get 22 = .ok (.iconst 0, 1) := by decide +kernel
theorem dX2_get_23 : decode cX2_get 23 = .ok (.ireturn, 1) := by decide +kernel
theorem dX2_set_0 : decode cX2_set 0 = .ok (.iload_n 1, 1) := by decide +kernel
theorem dX2_set_1 : decode cX2_set 1 = .ok (.ifCond .lt 19, 3) := by decide +kernel
theorem dX2_set_4 : decode cX2_set 4 = .ok (.iload_n 1, 1) := by decide +kernel
theorem dX2_set_5 : decode cX2_set 5 = .ok (.aload_n 0, 1) := by decide +kernel
theorem dX2_set_6 : decode cX2_set 6 = .ok (.getfield 9, 3) := by decide +kernel
theorem dX2_set_9 : decode cX2_set 9 = .ok (.arraylength, 1) := by decide +kernel
theorem dX2_set_10 : decode cX2_set 10 = .ok (.if_icmp .ge 10, 3) := by decide +kernel
theorem dX2_set_13 : decode cX2_set 13 = .ok (.aload_n 0, 1) := by decide +kernel
theorem dX2_set_14 : decode cX2_set 14 = .ok (.getfield 9, 3) := by decide +kernel
theorem dX2_set_17 : decode cX2_set 17 = .ok (.iload_n 1, 1) := by decide +kernel
theorem dX2_set_18 : decode cX2_set 18 = .ok (.iload_n 2, 1) := by decide +kernel
theorem dX2_set_19 : decode cX2_set 19 = .ok (.iastore, 1) := by decide +kernel
theorem dX2_set_20 : decode cX2_set 20 = .ok (.return_, 1) := by decide +kernel
theorem dX2_degree_0 : decode cX2_degree 0 = .ok (.aload_n 0, 1) := by decide +kernel
theorem dX2_degree_1 : decode cX2_degree 1 = .ok (.getfield 9, 3) := by decide +kernel
theorem dX2_degree_4 : decode cX2_degree 4 = .ok (.arraylength, 1) := by decide +kernel
theorem dX2_degree_5 : decode cX2_degree 5 = .ok (.iconst 1, 1) := by decide +kernel
theorem dX2_degree_6 : decode cX2_degree 6 = .ok (.isub, 1) := by decide +kernel
theorem dX2_degree_7 : decode cX2_degree 7 = .ok (.istore_n 1, 1) := by decide +kernel
theorem dX2_degree_8 : decode cX2_degree 8 = .ok (.iload_n 1, 1) := by decide +kernel
theorem dX2_degree_9 : decode cX2_degree 9 = .ok (.ifCond .lt 18, 3) := by decide +kernel
theorem dX2_degree_12 : decode cX2_degree 12 = .ok (.aload_n 0, 1) := by decide +kernel
theorem dX2_degree_13 : decode cX2_degree 13 = .ok (.getfield 9, 3) := by decide +kernel
theorem dX2_degree_16 : decode cX2_degree 16 = .ok (.iload_n 1, 1) := by decide +kernel
theorem dX2_degree_17 : decode cX2_degree 17 = .ok (.iaload, 1) := by decide +kernel
theorem dX2_degree_18 : decode cX2_degree 18 = .ok (.ifCond .ne 9, 3) := by decide +kernel
theorem dX2_degree_21 : decode cX2_degree 21 = .ok (.iinc 1 (-1), 3) := by decide +kernel
theorem dX2_degree_24 : decode cX2_degree 24 = .ok (.goto (-16), 3) := by decide +kernel
theorem dX2_degree_27 : decode cX2_degree 27 = .ok (.iload_n 1, 1) := by decide +kernel
theorem dX2_degree_28 : decode cX2_degree 28 = .ok (.ireturn, 1) := by decide +kernel
theorem dX2_clear_0 : decode cX2_clear 0 = .ok (.iconst 0, 1) := by decide +kernel
theorem dX2_clear_1 : decode cX2_clear 1 = .ok (.istore_n 1, 1) := by decide +kernel
theorem dX2_clear_2 : decode cX2_clear 2 = .ok (.iload_n 1, 1) := by decide +kernel
theorem dX2_clear_3 : decode cX2_clear 3 = .ok (.aload_n 0, 1) := by decide +kernel
theorem dX2_clear_4 : decode cX2_clear 4 = .ok (.getfield 9, 3) := by decide +kernel
theorem dX2_clear_7 : decode cX2_clear 7 = .ok (.arraylength, 1) := by decide +kernel
theorem dX2_clear_8 : decode cX2_clear 8 = .ok (.if_icmp .ge 16, 3) := by decide +kernel
theorem dX2_clear_11 : decode cX2_clear 11 = .ok (.aload_n 0, 1) := by decide +kernel
theorem dX2_clear_12 : decode cX2_clear 12 = .ok (.getfield 9, 3) := by decide +kernel
theorem dX2_clear_15 : decode cX2_clear 15 = .ok (.iload_n 1, 1) := by decide +kernel
theorem dX2_clear_16 : decode cX2_clear 16 = .ok (.iconst 0, 1) := by decide +kernel
theorem dX2_clear_17 : decode cX2_clear 17 = .ok (.iastore, 1) := by decide +kernel
theorem dX2_clear_18 : decode cX2_clear 18 = .ok (.iinc 1 1, 3) := by decide +kernel
theorem dX2_clear_21 : decode cX2_clear 21 = .ok (.goto (-19), 3) := by decide +kernel
theorem dX2_clear_24 : decode cX2_clear 24 = .ok (.return_, 1) := by decide +kernel
set_option maxRecDepth 20000 in
theorem ggX2_copy_X2_get : GoodIn wsX2_copy wsX2_get := goodIn_r _ [6, 1, 7] (by decide +kernel) (by decide +kernel)
set_option maxRecDepth 20000 in
theorem gX2_copy_X2_get : GoodIn wsX2_copy (wsV RX2 15 RX2 yX2_get wsX2_get) := goodIn_app (goodIn_of _ (by decide +kernel)) ggX2_copy_X2_get
theorem dX2_copy_0 : decode cX2_copy 0 = .ok (.iconst 0, 1) := by decide +kernel
theorem dX2_copy_1 : decode cX2_copy 1 = .ok (.istore_n 2, 1) := by decide +kernel
theorem dX2_copy_2 : decode cX2_copy 2 = .ok (.iload_n 2, 1) := by decide +kernel
theorem dX2_copy_3 : decode cX2_copy 3 = .ok (.aload_n 0, 1) := by decide +kernel
theorem dX2_copy_4 : decode cX2_copy 4 = .ok (.getfield 9, 3) := by decide +kernel
theorem dX2_copy_7 : decode cX2_copy 7 = .ok (.arraylength, 1) := by decide +kernel
theorem dX2_copy_8 : decode cX2_copy 8 = .ok (.if_icmp .ge 20, 3) := by decide +kernel
theorem dX2_copy_11 : decode cX2_copy 11 = .ok (.aload_n 0, 1) := by decide +kernel
theorem dX2_copy_12 : decode cX2_copy 12 = .ok (.getfield 9, 3) := by decide +kernel
theorem dX2_copy_15 : decode cX2_copy 15 = .ok (.iload_n 2, 1) := by decide +kernel
theorem dX2_copy_16 : decode cX2_copy 16 = .ok (.aload_n 1, 1) := by decide +kernel
theorem dX2_copy_17 : decode cX2_copy 17 = .ok (.iload_n 2, 1) := by decide +kernel
theorem dX2_copy_18 : decode cX2_copy 18 = .ok (.invokevirtual 15, 3) := by decide +kernel
theorem dX2_copy_21 : decode cX2_copy 21 = .ok (.iastore, 1) := by decide +kernel
theorem dX2_copy_22 : decode cX2_copy 22 = .ok (.iinc 2 1, 3) := by decide +kernel
theorem dX2_copy_25 : decode cX2_copy 25 = .ok (.goto (-23), 3) := by decide +kernel
theorem dX2_copy_28 : decode cX2_copy 28 = .ok (.return_, 1) := by decide +kernel
set_option maxRecDepth 20000 in
theorem ggX2_becomeOne_X2_clear : GoodIn wsX2_becomeOne wsX2_clear := goodIn_r _ [5, 6, 11] (by decide +kernel) (by decide +kernel)
set_option maxRecDepth 20000 in
theorem gX2_becomeOne_X2_clear : GoodIn wsX2_becomeOne (wsV RX2 19 RX2 yX2_clear wsX2_clear) := goodIn_app (goodIn_of _ (by decide +kernel)) ggX2_becomeOne_X2_clear
set_option maxRecDepth 20000 in
theorem ggX2_becomeOne_X2_set : GoodIn wsX2_becomeOne wsX2_set := goodIn_r _ [10, 6, 11] (by decide +kernel) (by decide +kernel)
set_option maxRecDepth 20000 in
theorem gX2_becomeOne_X2_set : GoodIn wsX2_becomeOne (wsV RX2 22 RX2 yX2_set wsX2_set) := goodIn_app (goodIn_of _ (by decide +kernel)) ggX2_becomeOne_X2_set
theorem dX2_becomeOne_0 : decode cX2_becomeOne 0 = .ok (.aload_n 0, 1) := by decide +kernel
theorem dX2_becomeOne_1 : decode cX2_becomeOne 1 = .ok (.invokevirtual 19, 3) := by decide +kernel
theorem dX2_becomeOne_4 : decode cX2_becomeOne 4 = .ok (.aload_n 0, 1) := by decide +kernel
theorem dX2_becomeOne_5 : decode cX2_becomeOne 5 = .ok (.iconst 0, 1) := by decide +kernel
theorem dX2_becomeOne_6 : decode cX2_becomeOne 6 = .ok (.iconst 1, 1) := by decide +kernel
theorem dX2_becomeOne_7 : decode cX2_becomeOne 7 = .ok (.invokevirtual 22, 3) := by decide +kernel
theorem dX2_becomeOne_10 : decode cX2_becomeOne 10 = .ok (.return_, 1) := by decide +kernel
set_option maxRecDepth 20000 in
theorem ggX2_isBefore_X2_degree : GoodIn wsX2_isBefore wsX2_degree := goodIn_r _ [5, 6, 11] (by decide +kernel) (by decide +kernel)
set_option maxRecDepth 20000 in
theorem gX2_isBefore_X2_degree : GoodIn wsX2_isBefore (wsV RX2 26 RX2 yX2_degree wsX2_degree) := goodIn_app (goodIn_of _ (by decide +kernel)) ggX2_isBefore_X2_degree
set_option maxRecDepth 20000 in
theorem ggX2_isBefore_X2_get : GoodIn wsX2_isBefore wsX2_get := goodIn_r _ [10, 6, 11] (by decide +kernel) (by decide +kernel)
set_option maxRecDepth 20000 in
theorem gX2_isBefore_X2_get : GoodIn wsX2_isBefore (wsV RX2 15 RX2 yX2_get wsX2_get) := goodIn_app (goodIn_of _ (by decide +kernel)) ggX2_isBefore_X2_get
theorem dX2_isBefore_0 : decode cX2_isBefore 0 = .ok (.aload_n 0, 1) := by decide +kernel
theorem dX2_isBefore_1 : decode cX2_isBefore 1 = .ok (.invokevirtual 26, 3) := by decide +kernel
theorem dX2_isBefore_4 : decode cX2_isBefore 4 = .ok (.istore_n 2, 1) := by decide +kernel
theorem dX2_isBefore_5 : decode cX2_isBefore 5 = .ok (.aload_n 1, 1) := by decide +kernel
theorem dX2_isBefore_6 : decode cX2_isBefore 6 = .ok (.invokevirtual 26, 3) := by decide +kernel
theorem dX2_isBefore_9 : decode cX2_isBefore 9 = .ok (.istore_n 3, 1) := by decide +kernel
theorem dX2_isBefore_10 : decode cX2_isBefore 10 = .ok (.iload_n 2, 1) := by decide +kernel
theorem dX2_isBefore_11 : decode cX2_isBefore 11 = .ok (.iload_n 3, 1) := by decide +kernel
theorem dX2_isBefore_12 : decode cX2_isBefore 12 = .ok (.if_icmp .eq 14, 3) := by decide +kernel
theorem dX2_isBefore_15 : decode cX2_isBefore 15 = .ok (.iload_n 2, 1) := by decide +kernel
theorem dX2_isBefore_16 : decode cX2_isBefore 16 = .ok (.iload_n 3, 1) := by decide +kernel
theorem dX2_isBefore_17 : decode cX2_isBefore 17 = .ok (.if_icmp .ge 7, 3) := by decide +kernel
theorem dX2_isBefore_20 : decode cX2_isBefore 20 = .ok (.iconst 1, 1) := by decide +kernel
theorem dX2_isBefore_21 : decode cX2_isBefore 21 = .ok (.goto 4, 3) := by decide +kernel
theorem dX2_isBefore_24 : decode cX2_isBefore 24 = .ok (.iconst 0, 1) := by decide +kernel
theorem dX2_isBefore_25 : decode cX2_isBefore 25 = .ok (.ireturn, 1) := by decide +kernel
theorem dX2_isBefore_26 : decode cX2_isBefore 26 = .ok (.iload_n 2, 1) := by decide +kernel
theorem dX2_isBefore_27 : decode cX2_isBefore 27 = .ok (.istore 4, 2) := by decide +kernel
theorem dX2_isBefore_29 : decode cX2_isBefore 29 = .ok (.iload 4, 2) := by decide +kernel
theorem dX2_isBefore_31 : decode cX2_isBefore 31 = .ok (.ifCond .lt 45, 3) := by decide +kernel
theorem dX2_isBefore_34 : decode cX2_isBefore 34 = .ok (.aload_n 0, 1) := by decide +kernel
theorem dX2_isBefore_35 : decode cX2_isBefore 35 = .ok (.iload 4, 2) := by decide +kernel
theorem dX2_isBefore_37 : decode cX2_isBefore 37 = .ok (.invokevirtual 15, 3) := by decide +kernel
theorem dX2_isBefore_40 : decode cX2_isBefore 40 = .ok (.aload_n 1, 1) := by decide +kernel
theorem dX2_isBefore_41 : decode cX2_isBefore 41 = .ok (.iload 4, 2) := by decide +kernel
theorem dX2_isBefore_43 : decode cX2_isBefore 43 = .ok (.invokevirtual 15, 3) := by decide +kernel
theorem dX2_isBefore_46 : decode cX2_isBefore 46 = .ok (.if_icmp .eq 24, 3) := by decide +kernel
theorem dX2_isBefore_49 : decode cX2_isBefore 49 = .ok (.aload_n 0, 1) := by decide +kernel
theorem dX2_isBefore_50 : decode cX2_isBefore 50 = .ok (.iload 4, 2) := by decide +kernel
theorem dX2_isBefore_52 : decode cX2_isBefore 52 = .ok (.invokevirtual 15, 3) := by decide +kernel
theorem dX2_isBefore_55 : decode cX2_isBefore 55 = .ok (.aload_n 1, 1) := by decide +kernel
theorem dX2_isBefore_56 : decode cX2_isBefore 56 = .ok (.iload 4, 2) := by decide +kernel
theorem dX2_isBefore_58 : decode cX2_isBefore 58 = .ok (.invokevirtual 15, 3) := by decide +kernel
theorem dX2_isBefore_61 : decode cX2_isBefore 61 = .ok (.if_icmp .ge 7, 3) := by decide +kernel
theorem dX2_isBefore_64 : decode cX2_isBefore 64 = .ok (.iconst 1, 1) := by decide +kernel
theorem dX2_isBefore_65 : decode cX2_isBefore 65 = .ok (.goto 4, 3) := by decide +kernel
theorem dX2_isBefore_68 : decode cX2_isBefore 68 = .ok (.iconst 0, 1) := by decide +kernel
theorem dX2_isBefore_69 : decode cX2_isBefore 69 = .ok (.ireturn, 1) := by decide +kernel
theorem dX2_isBefore_70 : decode cX2_isBefore 70 = .ok (.iinc 4 (-1), 3) := by decide +kernel
theorem dX2_isBefore_73 : decode cX2_isBefore 73 = .ok (.goto (-44), 3) := by decide +kernel
theorem dX2_isBefore_76 : decode cX2_isBefore 76 = .ok (.iconst 0, 1) := by decide +kernel
theorem dX2_isBefore_77 : decode cX2_isBefore 77 = .ok (.ireturn, 1) := by decide +kernel
