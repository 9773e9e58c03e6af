set_option maxRecDepth 20000 in
theorem ggX1_init_X0_init : GoodIn wsX1_init wsX0_init := goodIn_r _ [22, 23, 2, 3, 24, 25, 26, 27, 28, 29, 30, 31, 37, 38, 39, 40, 41, 42, 43, 44] (by decide +kernel) (by decide +kernel)
set_option maxRecDepth 20000 in
theorem gX1_init_X0_init_n11 : GoodIn wsX1_init (wsX0_init) := ggX1_init_X0_init
set_option maxRecDepth 20000 in
theorem ggX1_init_X2_init : GoodIn wsX1_init wsX2_init := goodIn_r _ [33, 34, 2, 3, 35, 36, 56] (by decide +kernel) (by decide +kernel)
set_option maxRecDepth 20000 in
theorem gX1_init_X2_init_n20 : GoodIn wsX1_init (wsX2_init) := ggX1_init_X2_init
theorem dX1_init_0 : decode cX1_init 0 = .ok (.aload_n 0, 1) := by decide +kernel
theorem dX1_init_1 : decode cX1_init 1 = .ok (.invokespecial 3, 3) := by decide +kernel
theorem dX1_init_4 : decode cX1_init 4 = .ok (.aload_n 0, 1) := by decide +kernel
theorem dX1_init_5 : decode cX1_init 5 = .ok (.new 9, 3) := by decide +kernel
theorem dX1_init_8 : decode cX1_init 8 = .ok (.dup, 1) := by decide +kernel
theorem dX1_init_9 : decode cX1_init 9 = .ok (.invokespecial 11, 3) := by decide +kernel
theorem dX1_init_12 : decode cX1_init 12 = .ok (.putfield 12, 3) := by decide +kernel
theorem dX1_init_15 : decode cX1_init 15 = .ok (.aload_n 0, 1) := by decide +kernel
theorem dX1_init_16 : decode cX1_init 16 = .ok (.new 18, 3) := by decide +kernel
theorem dX1_init_19 : decode cX1_init 19 = .ok (.dup, 1) := by decide +kernel
theorem dX1_init_20 : decode cX1_init 20 = .ok (.invokespecial 20, 3) := by decide +kernel
theorem dX1_init_23 : decode cX1_init 23 = .ok (.putfield 21, 3) := by decide +kernel
theorem dX1_init_26 : decode cX1_init 26 = .ok (.aload_n 0, 1) := by decide +kernel
theorem dX1_init_27 : decode cX1_init 27 = .ok (.new 18, 3) := by decide +kernel
theorem dX1_init_30 : decode cX1_init 30 = .ok (.dup, 1) := by decide +kernel
theorem dX1_init_31 : decode cX1_init 31 = .ok (.invokespecial 20, 3) := by decide +kernel
theorem dX1_init_34 : decode cX1_init 34 = .ok (.putfield 25, 3) := by decide +kernel
theorem dX1_init_37 : decode cX1_init 37 = .ok (.aload_n 0, 1) := by decide +kernel
theorem dX1_init_38 : decode cX1_init 38 = .ok (.new 18, 3) := by decide +kernel
theorem dX1_init_41 : decode cX1_init 41 = .ok (.dup, 1) := by decide +kernel
theorem dX1_init_42 : decode cX1_init 42 = .ok (.invokespecial 20, 3) := by decide +kernel
theorem dX1_init_45 : decode cX1_init 45 = .ok (.putfield 28, 3) := by decide +kernel
theorem dX1_init_48 : decode cX1_init 48 = .ok (.aload_n 0, 1) := by decide +kernel
theorem dX1_init_49 : decode cX1_init 49 = .ok (.new 18, 3) := by decide +kernel
theorem dX1_init_52 : decode cX1_init 52 = .ok (.dup, 1) := by decide +kernel
theorem dX1_init_53 : decode cX1_init 53 = .ok (.invokespecial 20, 3) := by decide +kernel
theorem dX1_init_56 : decode cX1_init 56 = .ok (.putfield 31, 3) := by decide +kernel
theorem dX1_init_59 : decode cX1_init 59 = .ok (.aload_n 0, 1) := by decide +kernel
theorem dX1_init_60 : decode cX1_init 60 = .ok (.new 18, 3) := by decide +kernel
theorem dX1_init_63 : decode cX1_init 63 = .ok (.dup, 1) := by decide +kernel
theorem dX1_init_64 : decode cX1_init 64 = .ok (.invokespecial 20, 3) := by decide +kernel
theorem dX1_init_67 : decode cX1_init 67 = .ok (.putfield 34, 3) := by decide +kernel
theorem dX1_init_70 : decode cX1_init 70 = .ok (.aload_n 0, 1) := by decide +kernel
theorem dX1_init_71 : decode cX1_init 71 = .ok (.new 18, 3) := by decide +kernel
theorem dX1_init_74 : decode cX1_init 74 = .ok (.dup, 1) := by decide +kernel
theorem dX1_init_75 : decode cX1_init 75 = .ok (.invokespecial 20, 3) := by decide +kernel
theorem dX1_init_78 : decode cX1_init 78 = .ok (.putfield 37, 3) := by decide +kernel
theorem dX1_init_81 : decode cX1_init 81 = .ok (.aload_n 0, 1) := by decide +kernel
theorem dX1_init_82 : decode cX1_init 82 = .ok (.new 18, 3) := by decide +kernel
theorem dX1_init_85 : decode cX1_init 85 = .ok (.dup, 1) := by decide +kernel
theorem dX1_init_86 : decode cX1_init 86 = .ok (.invokespecial 20, 3) := by decide +kernel
theorem dX1_init_89 : decode cX1_init 89 = .ok (.putfield 40, 3) := by decide +kernel
theorem dX1_init_92 : decode cX1_init 92 = .ok (.aload_n 0, 1) := by decide +kernel
theorem dX1_init_93 : decode cX1_init 93 = .ok (.new 18, 3) := by decide +kernel
theorem dX1_init_96 : decode cX1_init 96 = .ok (.dup, 1) := by decide +kernel
theorem dX1_init_97 : decode cX1_init 97 = .ok (.invokespecial 20, 3) := by decide +kernel
theorem dX1_init_100 : decode cX1_init 100 = .ok (.putfield 43, 3) := by decide +kernel
theorem dX1_init_103 : decode cX1_init 103 = .ok (.aload_n 0, 1) := by decide +kernel
theorem dX1_init_104 : decode cX1_init 104 = .ok (.new 18, 3) := by decide +kernel
theorem dX1_init_107 : decode cX1_init 107 = .ok (.dup, 1) := by decide +kernel
theorem dX1_init_108 : decode cX1_init 108 = .ok (.invokespecial 20, 3) := by decide +kernel
theorem dX1_init_111 : decode cX1_init 111 = .ok (.putfield 46, 3) := by decide +kernel
theorem dX1_init_114 : decode cX1_init 114 = .ok (.aload_n 0, 1) := by decide +kernel
theorem dX1_init_115 : decode cX1_init 115 = .ok (.new 18, 3) := by decide +kernel
theorem dX1_init_118 : decode cX1_init 118 = .ok (.dup, 1) := by decide +kernel
theorem dX1_init_119 : decode cX1_init 119 = .ok (.invokespecial 20, 3) := by decide +kernel
theorem dX1_init_122 : decode cX1_init 122 = .ok (.putfield 49, 3) := by decide +kernel
theorem dX1_init_125 : decode cX1_init 125 = .ok (.return_, 1) := by decide +kernel
set_option maxRecDepth 20000 in
theorem ggX1_valueOf_X2_degree : GoodIn wsX1_valueOf wsX2_degree := goodIn_r _ [6, 7, 36] (by decide +kernel) (by decide +kernel)
set_option maxRecDepth 20000 in
theorem gX1_valueOf_X2_degree : GoodIn wsX1_valueOf (wsV RX1 52 RX2 yX2_degree wsX2_degree) := goodIn_app (goodIn_of _ (by decide +kernel)) ggX1_valueOf_X2_degree
set_option maxRecDepth 20000 in
theorem ggX1_valueOf_X0_times : GoodIn wsX1_valueOf wsX0_times := goodIn_r _ [12, 13, 14, 15, 16, 37, 38, 39, 40, 41, 42, 43, 44] (by decide +kernel) (by decide +kernel)
set_option maxRecDepth 20000 in
theorem gX1_valueOf_X0_times : GoodIn wsX1_valueOf (wsV RX1 56 RX0 yX0_times wsX0_times) := goodIn_app (goodIn_of _ (by decide +kernel)) ggX1_valueOf_X0_times
set_option maxRecDepth 20000 in
theorem ggX1_valueOf_X2_get : GoodIn wsX1_valueOf wsX2_get := goodIn_r _ [20, 7, 36] (by decide +kernel) (by decide +kernel)
set_option maxRecDepth 20000 in
theorem gX1_valueOf_X2_get : GoodIn wsX1_valueOf (wsV RX1 60 RX2 yX2_get wsX2_get) := goodIn_app (goodIn_of _ (by decide +kernel)) ggX1_valueOf_X2_get
set_option maxRecDepth 20000 in
theorem ggX1_valueOf_X0_plus : GoodIn wsX1_valueOf wsX0_plus := goodIn_r _ [24] (by decide +kernel) (by decide +kernel)
set_option maxRecDepth 20000 in
theorem gX1_valueOf_X0_plus : GoodIn wsX1_valueOf (wsV RX1 64 RX0 yX0_plus wsX0_plus) := goodIn_app (goodIn_of _ (by decide +kernel)) ggX1_valueOf_X0_plus
theorem dX1_valueOf_0 : decode cX1_valueOf 0 = .ok (.iconst 0, 1) := by decide +kernel
theorem dX1_valueOf_1 : decode cX1_valueOf 1 = .ok (.istore_n 3, 1) := by decide +kernel
theorem dX1_valueOf_2 : decode cX1_valueOf 2 = .ok (.aload_n 1, 1) := by decide +kernel
theorem dX1_valueOf_3 : decode cX1_valueOf 3 = .ok (.invokevirtual 52, 3) := by decide +kernel
theorem dX1_valueOf_6 : decode cX1_valueOf 6 = .ok (.istore 4, 2) := by decide +kernel
theorem dX1_valueOf_8 : decode cX1_valueOf 8 = .ok (.iload 4, 2) := by decide +kernel
theorem dX1_valueOf_10 : decode cX1_valueOf 10 = .ok (.ifCond .lt 32, 3) := by decide +kernel
theorem dX1_valueOf_13 : decode cX1_valueOf 13 = .ok (.aload_n 0, 1) := by decide +kernel
theorem dX1_valueOf_14 : decode cX1_valueOf 14 = .ok (.getfield 12, 3) := by decide +kernel
theorem dX1_valueOf_17 : decode cX1_valueOf 17 = .ok (.aload_n 0, 1) := by decide +kernel
theorem dX1_valueOf_18 : decode cX1_valueOf 18 = .ok (.getfield 12, 3) := by decide +kernel
theorem dX1_valueOf_21 : decode cX1_valueOf 21 = .ok (.iload_n 3, 1) := by decide +kernel
theorem dX1_valueOf_22 : decode cX1_valueOf 22 = .ok (.iload_n 2, 1) := by decide +kernel
theorem dX1_valueOf_23 : decode cX1_valueOf 23 = .ok (.invokevirtual 56, 3) := by decide +kernel
theorem dX1_valueOf_26 : decode cX1_valueOf 26 = .ok (.aload_n 1, 1) := by decide +kernel
theorem dX1_valueOf_27 : decode cX1_valueOf 27 = .ok (.iload 4, 2) := by decide +kernel
theorem dX1_valueOf_29 : decode cX1_valueOf 29 = .ok (.invokevirtual 60, 3) := by decide +kernel
theorem dX1_valueOf_32 : decode cX1_valueOf 32 = .ok (.invokevirtual 64, 3) := by decide +kernel
theorem dX1_valueOf_35 : decode cX1_valueOf 35 = .ok (.istore_n 3, 1) := by decide +kernel
theorem dX1_valueOf_36 : decode cX1_valueOf 36 = .ok (.iinc 4 (-1), 3) := by decide +kernel
theorem dX1_valueOf_39 : decode cX1_valueOf 39 = .ok (.goto (-31), 3) := by decide +kernel
theorem dX1_valueOf_42 : decode cX1_valueOf 42 = .ok (.iload_n 3, 1) := by decide +kernel
theorem dX1_valueOf_43 : decode cX1_valueOf 43 = .ok (.ireturn, 1) := by decide +kernel
set_option maxRecDepth 20000 in
theorem ggX1_displace_X2_degree : GoodIn wsX1_displace wsX2_degree := goodIn_r _ [6, 7, 40] (by decide +kernel) (by decide +kernel)
set_option maxRecDepth 20000 in
theorem gX1_displace_X2_degree : GoodIn wsX1_displace (wsV RX1 52 RX2 yX2_degree wsX2_degree) := goodIn_app (goodIn_of _ (by decide +kernel)) ggX1_displace_X2_degree
set_option maxRecDepth 20000 in
theorem ggX1_displace_X2_get : GoodIn wsX1_displace wsX2_get := goodIn_r _ [11, 7, 40] (by decide +kernel) (by decide +kernel)
set_option maxRecDepth 20000 in
theorem gX1_displace_X2_get : GoodIn wsX1_displace (wsV RX1 60 RX2 yX2_get wsX2_get) := goodIn_app (goodIn_of _ (by decide +kernel)) ggX1_displace_X2_get
set_option maxRecDepth 20000 in
theorem ggX1_displace_X0_times : GoodIn wsX1_displace wsX0_times := goodIn_r _ [16, 17, 18, 19, 20, 41, 42, 43, 44, 45, 46, 47, 48] (by decide +kernel) (by decide +kernel)
set_option maxRecDepth 20000 in
theorem gX1_displace_X0_times : GoodIn wsX1_displace (wsV RX1 56 RX0 yX0_times wsX0_times) := goodIn_app (goodIn_of _ (by decide +kernel)) ggX1_displace_X0_times
set_option maxRecDepth 20000 in
theorem ggX1_displace_X0_plus : GoodIn wsX1_displace wsX0_plus := goodIn_r _ [24] (by decide +kernel) (by decide +kernel)
set_option maxRecDepth 20000 in
theorem gX1_displace_X0_plus : GoodIn wsX1_displace (wsV RX1 64 RX0 yX0_plus wsX0_plus) := goodIn_app (goodIn_of _ (by decide +kernel)) ggX1_displace_X0_plus
set_option maxRecDepth 20000 in
theorem ggX1_displace_X2_set : GoodIn wsX1_displace wsX2_set := goodIn_r _ [28, 7, 40] (by decide +kernel) (by decide +kernel)
set_option maxRecDepth 20000 in
theorem gX1_displace_X2_set : GoodIn wsX1_displace (wsV RX1 67 RX2 yX2_set wsX2_set) := goodIn_app (goodIn_of _ (by decide +kernel)) ggX1_displace_X2_set
theorem dX1_displace_0 : decode cX1_displace 0 = .ok (.aload_n 1, 1) := by decide +kernel
theorem dX1_displace_1 : decode cX1_displace 1 = .ok (.invokevirtual 52, 3) := by decide +kernel
theorem dX1_displace_4 : decode cX1_displace 4 = .ok (.istore_n 3, 1) := by decide +kernel
theorem dX1_displace_5 : decode cX1_displace 5 = .ok (.iconst 0, 1) := by decide +kernel
theorem dX1_displace_6 : decode cX1_displace 6 = .ok (.istore 4, 2) := by decide +kernel
theorem dX1_displace_8 : decode cX1_displace 8 = .ok (.iload 4, 2) := by decide +kernel
theorem dX1_displace_10 : decode cX1_displace 10 = .ok (.iload_n 3, 1) := by decide +kernel
theorem dX1_displace_11 : decode cX1_displace 11 = .ok (.if_icmp .ge 62, 3) := by decide +kernel
theorem dX1_displace_14 : decode cX1_displace 14 = .ok (.iload_n 3, 1) := by decide +kernel
theorem dX1_displace_15 : decode cX1_displace 15 = .ok (.iconst 1, 1) := by decide +kernel
theorem dX1_displace_16 : decode cX1_displace 16 = .ok (.isub, 1) := by decide +kernel
theorem dX1_displace_17 : decode cX1_displace 17 = .ok (.istore 5, 2) := by decide +kernel
theorem dX1_displace_19 : decode cX1_displace 19 = .ok (.iload 5, 2) := by decide +kernel
theorem dX1_displace_21 : decode cX1_displace 21 = .ok (.iload 4, 2) := by decide +kernel
theorem dX1_displace_23 : decode cX1_displace 23 = .ok (.if_icmp .lt 44, 3) := by decide +kernel
theorem dX1_displace_26 : decode cX1_displace 26 = .ok (.aload_n 1, 1) := by decide +kernel
theorem dX1_displace_27 : decode cX1_displace 27 = .ok (.iload 5, 2) := by decide +kernel
theorem dX1_displace_29 : decode cX1_displace 29 = .ok (.aload_n 0, 1) := by decide +kernel
theorem dX1_displace_30 : decode cX1_displace 30 = .ok (.getfield 12, 3) := by decide +kernel
theorem dX1_displace_33 : decode cX1_displace 33 = .ok (.aload_n 1, 1) := by decide +kernel
theorem dX1_displace_34 : decode cX1_displace 34 = .ok (.iload 5, 2) := by decide +kernel
theorem dX1_displace_36 : decode cX1_displace 36 = .ok (.invokevirtual 60, 3) := by decide +kernel
theorem dX1_displace_39 : decode cX1_displace 39 = .ok (.aload_n 0, 1) := by decide +kernel
theorem dX1_displace_40 : decode cX1_displace 40 = .ok (.getfield 12, 3) := by decide +kernel
theorem dX1_displace_43 : decode cX1_displace 43 = .ok (.iload_n 2, 1) := by decide +kernel
theorem dX1_displace_44 : decode cX1_displace 44 = .ok (.aload_n 1, 1) := by decide +kernel
theorem dX1_displace_45 : decode cX1_displace 45 = .ok (.iload 5, 2) := by decide +kernel
theorem dX1_displace_47 : decode cX1_displace 47 = .ok (.iconst 1, 1) := by decide +kernel
theorem dX1_displace_48 : decode cX1_displace 48 = .ok (.iadd, 1) := by decide +kernel
theorem dX1_displace_49 : decode cX1_displace 49 = .ok (.invokevirtual 60, 3) := by decide +kernel
theorem dX1_displace_52 : decode cX1_displace 52 = .ok (.invokevirtual 56, 3) := by decide +kernel
theorem dX1_displace_55 : decode cX1_displace 55 = .ok (.invokevirtual 64, 3) := by decide +kernel
theorem dX1_displace_58 : decode cX1_displace 58 = .ok (.invokevirtual 67, 3) := by decide +kernel
theorem dX1_displace_61 : decode cX1_displace 61 = .ok (.iinc 5 (-1), 3) := by decide +kernel
theorem dX1_displace_64 : decode cX1_displace 64 = .ok (.goto (-45), 3) := by decide +kernel
theorem dX1_displace_67 : decode cX1_displace 67 = .ok (.iinc 4 1, 3) := by decide +kernel
theorem dX1_displace_70 : decode cX1_displace 70 = .ok (.goto (-62), 3) := by decide +kernel
theorem dX1_displace_73 : decode cX1_displace 73 = .ok (.return_, 1) := by decide +kernel
set_option maxRecDepth 20000 in
theorem ggX1_multiply_X2_degree : GoodIn wsX1_multiply wsX2_degree := goodIn_r _ [7, 8, 50] (by decide +kernel) (by decide +kernel)
set_option maxRecDepth 20000 in
theorem gX1_multiply_X2_degree : GoodIn wsX1_multiply (wsV RX1 52 RX2 yX2_degree wsX2_degree) := goodIn_app (goodIn_of _ (by decide +kernel)) ggX1_multiply_X2_degree
set_option maxRecDepth 20000 in
theorem ggX1_multiply_X2_clear : GoodIn wsX1_multiply wsX2_clear := goodIn_r _ [12, 8, 50] (by decide +kernel) (by decide +kernel)
set_option maxRecDepth 20000 in
theorem gX1_multiply_X2_clear : GoodIn wsX1_multiply (wsV RX1 71 RX2 yX2_clear wsX2_clear) := goodIn_app (goodIn_of _ (by decide +kernel)) ggX1_multiply_X2_clear
set_option maxRecDepth 20000 in
theorem ggX1_multiply_X2_get : GoodIn wsX1_multiply wsX2_get := goodIn_r _ [16, 8, 50] (by decide +kernel) (by decide +kernel)
set_option maxRecDepth 20000 in
theorem gX1_multiply_X2_get : GoodIn wsX1_multiply (wsV RX1 60 RX2 yX2_get wsX2_get) := goodIn_app (goodIn_of _ (by decide +kernel)) ggX1_multiply_X2_get
set_option maxRecDepth 20000 in
theorem ggX1_multiply_X0_times : GoodIn wsX1_multiply wsX0_times := goodIn_r _ [21, 22, 23, 24, 25, 51, 52, 53, 54, 55, 56, 57, 58] (by decide +kernel) (by decide +kernel)
set_option maxRecDepth 20000 in
theorem gX1_multiply_X0_times : GoodIn wsX1_multiply (wsV RX1 56 RX0 yX0_times wsX0_times) := goodIn_app (goodIn_of _ (by decide +kernel)) ggX1_multiply_X0_times
set_option maxRecDepth 20000 in
theorem ggX1_multiply_X0_plus : GoodIn wsX1_multiply wsX0_plus := goodIn_r _ [29] (by decide +kernel) (by decide +kernel)
set_option maxRecDepth 20000 in
theorem gX1_multiply_X0_plus : GoodIn wsX1_multiply (wsV RX1 64 RX0 yX0_plus wsX0_plus) := goodIn_app (goodIn_of _ (by decide +kernel)) ggX1_multiply_X0_plus
set_option maxRecDepth 20000 in
theorem ggX1_multiply_X2_set : GoodIn wsX1_multiply wsX2_set := goodIn_r _ [33, 8, 50] (by decide +kernel) (by decide +kernel)
set_option maxRecDepth 20000 in
theorem gX1_multiply_X2_set : GoodIn wsX1_multiply (wsV RX1 67 RX2 yX2_set wsX2_set) := goodIn_app (goodIn_of _ (by decide +kernel)) ggX1_multiply_X2_set
set_option maxRecDepth 20000 in
theorem ggX1_multiply_X2_copy : GoodIn wsX1_multiply wsX2_copy := goodIn_r _ [37, 8, 38, 14, 15, 6, 16, 50] (by decide +kernel) (by decide +kernel)
set_option maxRecDepth 20000 in
theorem gX1_multiply_X2_copy : GoodIn wsX1_multiply (wsV RX1 74 RX2 yX2_copy wsX2_copy) := goodIn_app (goodIn_of _ (by decide +kernel)) ggX1_multiply_X2_copy
theorem dX1_multiply_0 : decode cX1_multiply 0 = .ok (.aload_n 1, 1) := by decide +kernel
theorem dX1_multiply_1 : decode cX1_multiply 1 = .ok (.invokevirtual 52, 3) := by decide +kernel
theorem dX1_multiply_4 : decode cX1_multiply 4 = .ok (.istore_n 3, 1) := by decide +kernel
theorem dX1_multiply_5 : decode cX1_multiply 5 = .ok (.aload_n 2, 1) := by decide +kernel
theorem dX1_multiply_6 : decode cX1_multiply 6 = .ok (.invokevirtual 52, 3) := by decide +kernel
theorem dX1_multiply_9 : decode cX1_multiply 9 = .ok (.istore 4, 2) := by decide +kernel
theorem dX1_multiply_11 : decode cX1_multiply 11 = .ok (.aload_n 0, 1) := by decide +kernel
theorem dX1_multiply_12 : decode cX1_multiply 12 = .ok (.getfield 21, 3) := by decide +kernel
theorem dX1_multiply_15 : decode cX1_multiply 15 = .ok (.invokevirtual 71, 3) := by decide +kernel
theorem dX1_multiply_18 : decode cX1_multiply 18 = .ok (.iconst 0, 1) := by decide +kernel
theorem dX1_multiply_19 : decode cX1_multiply 19 = .ok (.istore 5, 2) := by decide +kernel
theorem dX1_multiply_21 : decode cX1_multiply 21 = .ok (.iload 5, 2) := by decide +kernel
theorem dX1_multiply_23 : decode cX1_multiply 23 = .ok (.iload_n 3, 1) := by decide +kernel
theorem dX1_multiply_24 : decode cX1_multiply 24 = .ok (.if_icmp .gt 84, 3) := by decide +kernel
theorem dX1_multiply_27 : decode cX1_multiply 27 = .ok (.aload_n 1, 1) := by decide +kernel
theorem dX1_multiply_28 : decode cX1_multiply 28 = .ok (.iload 5, 2) := by decide +kernel
theorem dX1_multiply_30 : decode cX1_multiply 30 = .ok (.invokevirtual 60, 3) := by decide +kernel
theorem dX1_multiply_33 : decode cX1_multiply 33 = .ok (.istore 6, 2) := by decide +kernel
theorem dX1_multiply_35 : decode cX1_multiply 35 = .ok (.iconst 0, 1) := by decide +kernel
theorem dX1_multiply_36 : decode cX1_multiply 36 = .ok (.istore 7, 2) := by decide +kernel
theorem dX1_multiply_38 : decode cX1_multiply 38 = .ok (.iload 6, 2) := by decide +kernel
theorem dX1_multiply_40 : decode cX1_multiply 40 = .ok (.ifCond .eq 62, 3) := by decide +kernel
theorem dX1_multiply_43 : decode cX1_multiply 43 = .ok (.iload 7, 2) := by decide +kernel
theorem dX1_multiply_45 : decode cX1_multiply 45 = .ok (.iload 4, 2) := by decide +kernel
theorem dX1_multiply_47 : decode cX1_multiply 47 = .ok (.if_icmp .gt 55, 3) := by decide +kernel
theorem dX1_multiply_50 : decode cX1_multiply 50 = .ok (.aload_n 0, 1) := by decide +kernel
theorem dX1_multiply_51 : decode cX1_multiply 51 = .ok (.getfield 21, 3) := by decide +kernel
theorem dX1_multiply_54 : decode cX1_multiply 54 = .ok (.iload 5, 2) := by decide +kernel
theorem dX1_multiply_56 : decode cX1_multiply 56 = .ok (.iload 7, 2) := by decide +kernel
theorem dX1_multiply_58 : decode cX1_multiply 58 = .ok (.iadd, 1) := by decide +kernel
theorem dX1_multiply_59 : decode cX1_multiply 59 = .ok (.aload_n 0, 1) := by decide +kernel
theorem dX1_multiply_60 : decode cX1_multiply 60 = .ok (.getfield 12, 3) := by decide +kernel
theorem dX1_multiply_63 : decode cX1_multiply 63 = .ok (.aload_n 0, 1) := by decide +kernel
theorem dX1_multiply_64 : decode cX1_multiply 64 = .ok (.getfield 21, 3) := by decide +kernel
theorem dX1_multiply_67 : decode cX1_multiply 67 = .ok (.iload 5, 2) := by decide +kernel
theorem dX1_multiply_69 : decode cX1_multiply 69 = .ok (.iload 7, 2) := by decide +kernel
theorem dX1_multiply_71 : decode cX1_multiply 71 = .ok (.iadd, 1) := by decide +kernel
theorem dX1_multiply_72 : decode cX1_multiply 72 = .ok (.invokevirtual 60, 3) := by decide +kernel
theorem dX1_multiply_75 : decode cX1_multiply 75 = .ok (.aload_n 0, 1) := by decide +kernel
theorem dX1_multiply_76 : decode cX1_multiply 76 = .ok (.getfield 12, 3) := by decide +kernel
theorem dX1_multiply_79 : decode cX1_multiply 79 = .ok (.iload 6, 2) := by decide +kernel
theorem dX1_multiply_81 : decode cX1_multiply 81 = .ok (.aload_n 2, 1) := by decide +kernel
theorem dX1_multiply_82 : decode cX1_multiply 82 = .ok (.iload 7, 2) := by decide +kernel
theorem dX1_multiply_84 : decode cX1_multiply 84 = .ok (.invokevirtual 60, 3) := by decide +kernel
theorem dX1_multiply_87 : decode cX1_multiply 87 = .ok (.invokevirtual 56, 3) := by decide +kernel
theorem dX1_multiply_90 : decode cX1_multiply 90 = .ok (.invokevirtual 64, 3) := by decide +kernel
theorem dX1_multiply_93 : decode cX1_multiply 93 = .ok (.invokevirtual 67, 3) := by decide +kernel
theorem dX1_multiply_96 : decode cX1_multiply 96 = .ok (.iinc 7 1, 3) := by decide +kernel
theorem dX1_multiply_99 : decode cX1_multiply 99 = .ok (.goto (-61), 3) := by decide +kernel
theorem dX1_multiply_102 : decode cX1_multiply 102 = .ok (.iinc 5 1, 3) := by decide +kernel
theorem dX1_multiply_105 : decode cX1_multiply 105 = .ok (.goto (-84), 3) := by decide +kernel
theorem dX1_multiply_108 : decode cX1_multiply 108 = .ok (.aload_n 1, 1) := by decide +kernel
theorem dX1_multiply_109 : decode cX1_multiply 109 = .ok (.aload_n 0, 1) := by decide +kernel
theorem dX1_multiply_110 : decode cX1_multiply 110 = .ok (.getfield 21, 3) := by decide +kernel
theorem dX1_multiply_113 : decode cX1_multiply 113 = .ok (.invokevirtual 74, 3) := by decide +kernel
theorem dX1_multiply_116 : decode cX1_multiply 116 = .ok (.return_, 1) := by decide +kernel
set_option maxRecDepth 20000 in
theorem ggX1_multiplyLinear_X2_degree : GoodIn wsX1_multiplyLinear wsX2_degree := goodIn_r _ [6, 7, 40] (by decide +kernel) (by decide +kernel)
set_option maxRecDepth 20000 in
theorem gX1_multiplyLinear_X2_degree : GoodIn wsX1_multiplyLinear (wsV RX1 52 RX2 yX2_degree wsX2_degree) := goodIn_app (goodIn_of _ (by decide +kernel)) ggX1_multiplyLinear_X2_degree
set_option maxRecDepth 20000 in
theorem ggX1_multiplyLinear_X2_get : GoodIn wsX1_multiplyLinear wsX2_get := goodIn_r _ [11, 7, 40] (by decide +kernel) (by decide +kernel)
set_option maxRecDepth 20000 in
theorem gX1_multiplyLinear_X2_get : GoodIn wsX1_multiplyLinear (wsV RX1 60 RX2 yX2_get wsX2_get) := goodIn_app (goodIn_of _ (by decide +kernel)) ggX1_multiplyLinear_X2_get
set_option maxRecDepth 20000 in
theorem ggX1_multiplyLinear_X0_times : GoodIn wsX1_multiplyLinear wsX0_times := goodIn_r _ [16, 17, 18, 19, 20, 41, 42, 43, 44, 45, 46, 47, 48] (by decide +kernel) (by decide +kernel)
set_option maxRecDepth 20000 in
theorem gX1_multiplyLinear_X0_times : GoodIn wsX1_multiplyLinear (wsV RX1 56 RX0 yX0_times wsX0_times) := goodIn_app (goodIn_of _ (by decide +kernel)) ggX1_multiplyLinear_X0_times
set_option maxRecDepth 20000 in
theorem ggX1_multiplyLinear_X0_plus : GoodIn wsX1_multiplyLinear wsX0_plus := goodIn_r _ [24] (by decide +kernel) (by decide +kernel)
set_option maxRecDepth 20000 in
theorem gX1_multiplyLinear_X0_plus : GoodIn wsX1_multiplyLinear (wsV RX1 64 RX0 yX0_plus wsX0_plus) := goodIn_app (goodIn_of _ (by decide +kernel)) ggX1_multiplyLinear_X0_plus
set_option maxRecDepth 20000 in
theorem ggX1_multiplyLinear_X2_set : GoodIn wsX1_multiplyLinear wsX2_set := goodIn_r _ [28, 7, 40] (by decide +kernel) (by decide +kernel)
set_option maxRecDepth 20000 in
theorem gX1_multiplyLinear_X2_set : GoodIn wsX1_multiplyLinear (wsV RX1 67 RX2 yX2_set wsX2_set) := goodIn_app (goodIn_of _ (by decide +kernel)) ggX1_multiplyLinear_X2_set
theorem dX1_multiplyLinear_0 : decode cX1_multiplyLinear 0 = .ok (.aload_n 1, 1) := by decide +kernel
theorem dX1_multiplyLinear_1 : decode cX1_multiplyLinear 1 = .ok (.invokevirtual 52, 3) := by decide +kernel
theorem dX1_multiplyLinear_4 : decode cX1_multiplyLinear 4 = .ok (.iconst 1, 1) := by decide +kernel
theorem dX1_multiplyLinear_5 : decode cX1_multiplyLinear 5 = .ok (.iadd, 1) := by decide +kernel
theorem dX1_multiplyLinear_6 : decode cX1_multiplyLinear 6 = .ok (.istore_n 3, 1) := by decide +kernel
theorem dX1_multiplyLinear_7 : decode cX1_multiplyLinear 7 = .ok (.iload_n 3, 1) := by decide +kernel
theorem dX1_multiplyLinear_8 : decode cX1_multiplyLinear 8 = .ok (.ifCond .lt 41, 3) := by decide +kernel
theorem dX1_multiplyLinear_11 : decode cX1_multiplyLinear 11 = .ok (.aload_n 1, 1) := by decide +kernel
theorem dX1_multiplyLinear_12 : decode cX1_multiplyLinear 12 = .ok (.iload_n 3, 1) := by decide +kernel
theorem dX1_multiplyLinear_13 : decode cX1_multiplyLinear 13 = .ok (.aload_n 0, 1) := by decide +kernel
theorem dX1_multiplyLinear_14 : decode cX1_multiplyLinear 14 = .ok (.getfield 12, 3) := by decide +kernel
theorem dX1_multiplyLinear_17 : decode cX1_multiplyLinear 17 = .ok (.aload_n 1, 1) := by decide +kernel
theorem dX1_multiplyLinear_18 : decode cX1_multiplyLinear 18 = .ok (.iload_n 3, 1) := by decide +kernel
theorem dX1_multiplyLinear_19 : decode cX1_multiplyLinear 19 = .ok (.iconst 1, 1) := by decide +kernel
theorem dX1_multiplyLinear_20 : decode cX1_multiplyLinear 20 = .ok (.isub, 1) := by decide +kernel
theorem dX1_multiplyLinear_21 : decode cX1_multiplyLinear 21 = .ok (.invokevirtual 60, 3) := by decide +kernel
theorem dX1_multiplyLinear_24 : decode cX1_multiplyLinear 24 = .ok (.aload_n 0, 1) := by decide +kernel
theorem dX1_multiplyLinear_25 : decode cX1_multiplyLinear 25 = .ok (.getfield 12, 3) := by decide +kernel
theorem dX1_multiplyLinear_28 : decode cX1_multiplyLinear 28 = .ok (.iload_n 2, 1) := by decide +kernel
theorem dX1_multiplyLinear_29 : decode cX1_multiplyLinear 29 = .ok (.aload_n 1, 1) := by decide +kernel
theorem dX1_multiplyLinear_30 : decode cX1_multiplyLinear 30 = .ok (.iload_n 3, 1) := by decide +kernel
theorem dX1_multiplyLinear_31 : decode cX1_multiplyLinear 31 = .ok (.invokevirtual 60, 3) := by decide +kernel
theorem dX1_multiplyLinear_34 : decode cX1_multiplyLinear 34 = .ok (.invokevirtual 56, 3) := by decide +kernel
theorem dX1_multiplyLinear_37 : decode cX1_multiplyLinear 37 = .ok (.invokevirtual 64, 3) := by decide +kernel
theorem dX1_multiplyLinear_40 : decode cX1_multiplyLinear 40 = .ok (.invokevirtual 67, 3) := by decide +kernel
theorem dX1_multiplyLinear_43 : decode cX1_multiplyLinear 43 = .ok (.iinc 3 (-1), 3) := by decide +kernel
theorem dX1_multiplyLinear_46 : decode cX1_multiplyLinear 46 = .ok (.goto (-39), 3) := by decide +kernel
theorem dX1_multiplyLinear_49 : decode cX1_multiplyLinear 49 = .ok (.return_, 1) := by decide +kernel
set_option maxRecDepth 20000 in
theorem ggX1_divide_X2_degree : GoodIn wsX1_divide wsX2_degree := goodIn_r _ [7, 8, 45] (by decide +kernel) (by decide +kernel)
set_option maxRecDepth 20000 in
theorem gX1_divide_X2_degree : GoodIn wsX1_divide (wsV RX1 52 RX2 yX2_degree wsX2_degree) := goodIn_app (goodIn_of _ (by decide +kernel)) ggX1_divide_X2_degree
set_option maxRecDepth 20000 in
theorem ggX1_divide_X2_clear : GoodIn wsX1_divide wsX2_clear := goodIn_r _ [12, 8, 45] (by decide +kernel) (by decide +kernel)
set_option maxRecDepth 20000 in
theorem gX1_divide_X2_clear : GoodIn wsX1_divide (wsV RX1 71 RX2 yX2_clear wsX2_clear) := goodIn_app (goodIn_of _ (by decide +kernel)) ggX1_divide_X2_clear
set_option maxRecDepth 20000 in
theorem ggX1_divide_X2_get : GoodIn wsX1_divide wsX2_get := goodIn_r _ [16, 8, 45] (by decide +kernel) (by decide +kernel)
set_option maxRecDepth 20000 in
theorem gX1_divide_X2_get : GoodIn wsX1_divide (wsV RX1 60 RX2 yX2_get wsX2_get) := goodIn_app (goodIn_of _ (by decide +kernel)) ggX1_divide_X2_get
set_option maxRecDepth 20000 in
theorem ggX1_divide_X2_set : GoodIn wsX1_divide wsX2_set := goodIn_r _ [20, 8, 45] (by decide +kernel) (by decide +kernel)
set_option maxRecDepth 20000 in
theorem gX1_divide_X2_set : GoodIn wsX1_divide (wsV RX1 67 RX2 yX2_set wsX2_set) := goodIn_app (goodIn_of _ (by decide +kernel)) ggX1_divide_X2_set
set_option maxRecDepth 20000 in
theorem ggX1_divide_X0_times : GoodIn wsX1_divide wsX0_times := goodIn_r _ [25, 26, 27, 28, 29, 46, 47, 48, 49, 50, 51, 52, 53] (by decide +kernel) (by decide +kernel)
set_option maxRecDepth 20000 in
theorem gX1_divide_X0_times : GoodIn wsX1_divide (wsV RX1 56 RX0 yX0_times wsX0_times) := goodIn_app (goodIn_of _ (by decide +kernel)) ggX1_divide_X0_times
set_option maxRecDepth 20000 in
theorem ggX1_divide_X0_minus : GoodIn wsX1_divide wsX0_minus := goodIn_r _ [33] (by decide +kernel) (by decide +kernel)
set_option maxRecDepth 20000 in
theorem gX1_divide_X0_minus : GoodIn wsX1_divide (wsV RX1 78 RX0 yX0_minus wsX0_minus) := goodIn_app (goodIn_of _ (by decide +kernel)) ggX1_divide_X0_minus
theorem dX1_divide_0 : decode cX1_divide 0 = .ok (.aload_n 2, 1) := by decide +kernel
theorem dX1_divide_1 : decode cX1_divide 1 = .ok (.invokevirtual 52, 3) := by decide +kernel
theorem dX1_divide_4 : decode cX1_divide 4 = .ok (.istore_n 3, 1) := by decide +kernel
theorem dX1_divide_5 : decode cX1_divide 5 = .ok (.aload_n 0, 1) := by decide +kernel
theorem dX1_divide_6 : decode cX1_divide 6 = .ok (.getfield 25, 3) := by decide +kernel
theorem dX1_divide_9 : decode cX1_divide 9 = .ok (.invokevirtual 71, 3) := by decide +kernel
theorem dX1_divide_12 : decode cX1_divide 12 = .ok (.aload_n 1, 1) := by decide +kernel
theorem dX1_divide_13 : decode cX1_divide 13 = .ok (.invokevirtual 52, 3) := by decide +kernel
theorem dX1_divide_16 : decode cX1_divide 16 = .ok (.istore 4, 2) := by decide +kernel
theorem dX1_divide_18 : decode cX1_divide 18 = .ok (.iload_n 3, 1) := by decide +kernel
theorem dX1_divide_19 : decode cX1_divide 19 = .ok (.ifCond .lt 99, 3) := by decide +kernel
theorem dX1_divide_22 : decode cX1_divide 22 = .ok (.iload 4, 2) := by decide +kernel
theorem dX1_divide_24 : decode cX1_divide 24 = .ok (.iload_n 3, 1) := by decide +kernel
theorem dX1_divide_25 : decode cX1_divide 25 = .ok (.if_icmp .lt 93, 3) := by decide +kernel
theorem dX1_divide_28 : decode cX1_divide 28 = .ok (.aload_n 1, 1) := by decide +kernel
theorem dX1_divide_29 : decode cX1_divide 29 = .ok (.iload 4, 2) := by decide +kernel
theorem dX1_divide_31 : decode cX1_divide 31 = .ok (.invokevirtual 60, 3) := by decide +kernel
theorem dX1_divide_34 : decode cX1_divide 34 = .ok (.istore 5, 2) := by decide +kernel
theorem dX1_divide_36 : decode cX1_divide 36 = .ok (.aload_n 0, 1) := by decide +kernel
theorem dX1_divide_37 : decode cX1_divide 37 = .ok (.getfield 25, 3) := by decide +kernel
theorem dX1_divide_40 : decode cX1_divide 40 = .ok (.iload 4, 2) := by decide +kernel
theorem dX1_divide_42 : decode cX1_divide 42 = .ok (.iload_n 3, 1) := by decide +kernel
theorem dX1_divide_43 : decode cX1_divide 43 = .ok (.isub, 1) := by decide +kernel
theorem dX1_divide_44 : decode cX1_divide 44 = .ok (.iload 5, 2) := by decide +kernel
theorem dX1_divide_46 : decode cX1_divide 46 = .ok (.invokevirtual 67, 3) := by decide +kernel
theorem dX1_divide_49 : decode cX1_divide 49 = .ok (.iconst 0, 1) := by decide +kernel
theorem dX1_divide_50 : decode cX1_divide 50 = .ok (.istore 6, 2) := by decide +kernel
theorem dX1_divide_52 : decode cX1_divide 52 = .ok (.iload 5, 2) := by decide +kernel
theorem dX1_divide_54 : decode cX1_divide 54 = .ok (.ifCond .eq 58, 3) := by decide +kernel
theorem dX1_divide_57 : decode cX1_divide 57 = .ok (.iload 6, 2) := by decide +kernel
theorem dX1_divide_59 : decode cX1_divide 59 = .ok (.iload_n 3, 1) := by decide +kernel
theorem dX1_divide_60 : decode cX1_divide 60 = .ok (.if_icmp .gt 52, 3) := by decide +kernel
theorem dX1_divide_63 : decode cX1_divide 63 = .ok (.iload 4, 2) := by decide +kernel
theorem dX1_divide_65 : decode cX1_divide 65 = .ok (.iload_n 3, 1) := by decide +kernel
theorem dX1_divide_66 : decode cX1_divide 66 = .ok (.isub, 1) := by decide +kernel
theorem dX1_divide_67 : decode cX1_divide 67 = .ok (.iload 6, 2) := by decide +kernel
theorem dX1_divide_69 : decode cX1_divide 69 = .ok (.iadd, 1) := by decide +kernel
theorem dX1_divide_70 : decode cX1_divide 70 = .ok (.istore 7, 2) := by decide +kernel
theorem dX1_divide_72 : decode cX1_divide 72 = .ok (.aload_n 1, 1) := by decide +kernel
theorem dX1_divide_73 : decode cX1_divide 73 = .ok (.iload 7, 2) := by decide +kernel
theorem dX1_divide_75 : decode cX1_divide 75 = .ok (.aload_n 0, 1) := by decide +kernel
theorem dX1_divide_76 : decode cX1_divide 76 = .ok (.getfield 12, 3) := by decide +kernel
theorem dX1_divide_79 : decode cX1_divide 79 = .ok (.aload_n 1, 1) := by decide +kernel
theorem dX1_divide_80 : decode cX1_divide 80 = .ok (.iload 7, 2) := by decide +kernel
theorem dX1_divide_82 : decode cX1_divide 82 = .ok (.invokevirtual 60, 3) := by decide +kernel
theorem dX1_divide_85 : decode cX1_divide 85 = .ok (.aload_n 0, 1) := by decide +kernel
theorem dX1_divide_86 : decode cX1_divide 86 = .ok (.getfield 12, 3) := by decide +kernel
theorem dX1_divide_89 : decode cX1_divide 89 = .ok (.iload 5, 2) := by decide +kernel
theorem dX1_divide_91 : decode cX1_divide 91 = .ok (.aload_n 2, 1) := by decide +kernel
theorem dX1_divide_92 : decode cX1_divide 92 = .ok (.iload 6, 2) := by decide +kernel
theorem dX1_divide_94 : decode cX1_divide 94 = .ok (.invokevirtual 60, 3) := by decide +kernel
theorem dX1_divide_97 : decode cX1_divide 97 = .ok (.invokevirtual 56, 3) := by decide +kernel
theorem dX1_divide_100 : decode cX1_divide 100 = .ok (.invokevirtual 78, 3) := by decide +kernel
theorem dX1_divide_103 : decode cX1_divide 103 = .ok (.invokevirtual 67, 3) := by decide +kernel
theorem dX1_divide_106 : decode cX1_divide 106 = .ok (.iinc 6 1, 3) := by decide +kernel
theorem dX1_divide_109 : decode cX1_divide 109 = .ok (.goto (-57), 3) := by decide +kernel
theorem dX1_divide_112 : decode cX1_divide 112 = .ok (.iinc 4 (-1), 3) := by decide +kernel
theorem dX1_divide_115 : decode cX1_divide 115 = .ok (.goto (-97), 3) := by decide +kernel
theorem dX1_divide_118 : decode cX1_divide 118 = .ok (.return_, 1) := by decide +kernel
set_option maxRecDepth 20000 in
theorem ggX1_makeMonic_X2_degree : GoodIn wsX1_makeMonic wsX2_degree := goodIn_r _ [6, 7, 49] (by decide +kernel) (by decide +kernel)
set_option maxRecDepth 20000 in
theorem gX1_makeMonic_X2_degree : GoodIn wsX1_makeMonic (wsV RX1 52 RX2 yX2_degree wsX2_degree) := goodIn_app (goodIn_of _ (by decide +kernel)) ggX1_makeMonic_X2_degree
set_option maxRecDepth 20000 in
theorem ggX1_makeMonic_X2_get : GoodIn wsX1_makeMonic wsX2_get := goodIn_r _ [11, 7, 49] (by decide +kernel) (by decide +kernel)
set_option maxRecDepth 20000 in
theorem gX1_makeMonic_X2_get : GoodIn wsX1_makeMonic (wsV RX1 60 RX2 yX2_get wsX2_get) := goodIn_app (goodIn_of _ (by decide +kernel)) ggX1_makeMonic_X2_get
set_option maxRecDepth 20000 in
theorem ggX1_makeMonic_X0_power : GoodIn wsX1_makeMonic wsX0_power := goodIn_r _ [16, 17, 18, 19, 15, 20, 21, 22, 23, 24, 41, 42, 43, 44, 45, 46, 47, 48] (by decide +kernel) (by decide +kernel)
set_option maxRecDepth 20000 in
theorem gX1_makeMonic_X0_power : GoodIn wsX1_makeMonic (wsV RX1 85 RX0 yX0_power wsX0_power) := goodIn_app (goodIn_of _ (by decide +kernel)) ggX1_makeMonic_X0_power
set_option maxRecDepth 20000 in
theorem ggX1_makeMonic_X0_times : GoodIn wsX1_makeMonic wsX0_times := goodIn_r _ [20, 21, 22, 23, 24, 41, 42, 43, 44, 45, 46, 47, 48] (by decide +kernel) (by decide +kernel)
set_option maxRecDepth 20000 in
theorem gX1_makeMonic_X0_times : GoodIn wsX1_makeMonic (wsV RX1 56 RX0 yX0_times wsX0_times) := goodIn_app (goodIn_of _ (by decide +kernel)) ggX1_makeMonic_X0_times
set_option maxRecDepth 20000 in
theorem ggX1_makeMonic_X2_set : GoodIn wsX1_makeMonic wsX2_set := goodIn_r _ [29, 7, 49] (by decide +kernel) (by decide +kernel)
set_option maxRecDepth 20000 in
theorem gX1_makeMonic_X2_set : GoodIn wsX1_makeMonic (wsV RX1 67 RX2 yX2_set wsX2_set) := goodIn_app (goodIn_of _ (by decide +kernel)) ggX1_makeMonic_X2_set
theorem dX1_makeMonic_0 : decode cX1_makeMonic 0 = .ok (.aload_n 1, 1) := by decide +kernel
theorem dX1_makeMonic_1 : decode cX1_makeMonic 1 = .ok (.invokevirtual 52, 3) := by decide +kernel
theorem dX1_makeMonic_4 : decode cX1_makeMonic 4 = .ok (.istore_n 2, 1) := by decide +kernel
theorem dX1_makeMonic_5 : decode cX1_makeMonic 5 = .ok (.aload_n 1, 1) := by decide +kernel
theorem dX1_makeMonic_6 : decode cX1_makeMonic 6 = .ok (.iload_n 2, 1) := by decide +kernel
theorem dX1_makeMonic_7 : decode cX1_makeMonic 7 = .ok (.invokevirtual 60, 3) := by decide +kernel
theorem dX1_makeMonic_10 : decode cX1_makeMonic 10 = .ok (.istore_n 3, 1) := by decide +kernel
theorem dX1_makeMonic_11 : decode cX1_makeMonic 11 = .ok (.iload_n 3, 1) := by decide +kernel
theorem dX1_makeMonic_12 : decode cX1_makeMonic 12 = .ok (.ifCond .eq 8, 3) := by decide +kernel
theorem dX1_makeMonic_15 : decode cX1_makeMonic 15 = .ok (.iload_n 3, 1) := by decide +kernel
theorem dX1_makeMonic_16 : decode cX1_makeMonic 16 = .ok (.iconst 1, 1) := by decide +kernel
theorem dX1_makeMonic_17 : decode cX1_makeMonic 17 = .ok (.if_icmp .ne 4, 3) := by decide +kernel
theorem dX1_makeMonic_20 : decode cX1_makeMonic 20 = .ok (.return_, 1) := by decide +kernel
theorem dX1_makeMonic_21 : decode cX1_makeMonic 21 = .ok (.aload_n 0, 1) := by decide +kernel
theorem dX1_makeMonic_22 : decode cX1_makeMonic 22 = .ok (.getfield 12, 3) := by decide +kernel
theorem dX1_makeMonic_25 : decode cX1_makeMonic 25 = .ok (.iload_n 3, 1) := by decide +kernel
theorem dX1_makeMonic_26 : decode cX1_makeMonic 26 = .ok (.aload_n 0, 1) := by decide +kernel
theorem dX1_makeMonic_27 : decode cX1_makeMonic 27 = .ok (.getfield 12, 3) := by decide +kernel
theorem dX1_makeMonic_30 : decode cX1_makeMonic 30 = .ok (.getfield 81, 3) := by decide +kernel
theorem dX1_makeMonic_33 : decode cX1_makeMonic 33 = .ok (.iconst 2, 1) := by decide +kernel
theorem dX1_makeMonic_34 : decode cX1_makeMonic 34 = .ok (.isub, 1) := by decide +kernel
theorem dX1_makeMonic_35 : decode cX1_makeMonic 35 = .ok (.invokevirtual 85, 3) := by decide +kernel
theorem dX1_makeMonic_38 : decode cX1_makeMonic 38 = .ok (.istore 4, 2) := by decide +kernel
theorem dX1_makeMonic_40 : decode cX1_makeMonic 40 = .ok (.iconst 0, 1) := by decide +kernel
theorem dX1_makeMonic_41 : decode cX1_makeMonic 41 = .ok (.istore 5, 2) := by decide +kernel
theorem dX1_makeMonic_43 : decode cX1_makeMonic 43 = .ok (.iload 5, 2) := by decide +kernel
theorem dX1_makeMonic_45 : decode cX1_makeMonic 45 = .ok (.iload_n 2, 1) := by decide +kernel
theorem dX1_makeMonic_46 : decode cX1_makeMonic 46 = .ok (.if_icmp .gt 30, 3) := by decide +kernel
theorem dX1_makeMonic_49 : decode cX1_makeMonic 49 = .ok (.aload_n 1, 1) := by decide +kernel
theorem dX1_makeMonic_50 : decode cX1_makeMonic 50 = .ok (.iload 5, 2) := by decide +kernel
theorem dX1_makeMonic_52 : decode cX1_makeMonic 52 = .ok (.aload_n 0, 1) := by decide +kernel
theorem dX1_makeMonic_53 : decode cX1_makeMonic 53 = .ok (.getfield 12, 3) := by decide +kernel
theorem dX1_makeMonic_56 : decode cX1_makeMonic 56 = .ok (.aload_n 1, 1) := by decide +kernel
theorem dX1_makeMonic_57 : decode cX1_makeMonic 57 = .ok (.iload 5, 2) := by decide +kernel
theorem dX1_makeMonic_59 : decode cX1_makeMonic 59 = .ok (.invokevirtual 60, 3) := by decide +kernel
theorem dX1_makeMonic_62 : decode cX1_makeMonic 62 = .ok (.iload 4, 2) := by decide +kernel
theorem dX1_makeMonic_64 : decode cX1_makeMonic 64 = .ok (.invokevirtual 56, 3) := by decide +kernel
theorem dX1_makeMonic_67 : decode cX1_makeMonic 67 = .ok (.invokevirtual 67, 3) := by decide +kernel
theorem dX1_makeMonic_70 : decode cX1_makeMonic 70 = .ok (.iinc 5 1, 3) := by decide +kernel
theorem dX1_makeMonic_73 : decode cX1_makeMonic 73 = .ok (.goto (-30), 3) := by decide +kernel
theorem dX1_makeMonic_76 : decode cX1_makeMonic 76 = .ok (.return_, 1) := by decide +kernel
set_option maxRecDepth 20000 in
theorem ggX1_findCommon_X2_copy : GoodIn wsX1_findCommon wsX2_copy := goodIn_r _ [7, 8, 9, 10, 11, 6, 12, 66] (by decide +kernel) (by decide +kernel)
set_option maxRecDepth 20000 in
theorem gX1_findCommon_X2_copy : GoodIn wsX1_findCommon (wsV RX1 74 RX2 yX2_copy wsX2_copy) := goodIn_app (goodIn_of _ (by decide +kernel)) ggX1_findCommon_X2_copy
set_option maxRecDepth 20000 in
theorem ggX1_findCommon_X2_degree : GoodIn wsX1_findCommon wsX2_degree := goodIn_r _ [16, 8, 66] (by decide +kernel) (by decide +kernel)
set_option maxRecDepth 20000 in
theorem gX1_findCommon_X2_degree : GoodIn wsX1_findCommon (wsV RX1 52 RX2 yX2_degree wsX2_degree) := goodIn_app (goodIn_of _ (by decide +kernel)) ggX1_findCommon_X2_degree
set_option maxRecDepth 20000 in
theorem ggX1_findCommon_X1_makeMonic : GoodIn wsX1_findCommon wsX1_makeMonic := goodIn_r _ [21, 22, 13, 14, 15, 6, 16, 8, 23, 10, 11, 12, 24, 25, 26, 27, 28, 29, 30, 31, 32, 33, 34, 35, 36, 37, 38, 39, 40, 41, 55, 56, 57, 58, 59, 60, 61, 62, 63, 64, 65, 67, 68, 69, 70, 71, 72, 73, 74, 66] (by decide +kernel) (by decide +kernel)
set_option maxRecDepth 20000 in
theorem gX1_findCommon_X1_makeMonic : GoodIn wsX1_findCommon (wsV RX1 88 RX1 yX1_makeMonic wsX1_makeMonic) := goodIn_app (goodIn_of _ (by decide +kernel)) ggX1_findCommon_X1_makeMonic
set_option maxRecDepth 20000 in
theorem ggX1_findCommon_X1_divide : GoodIn wsX1_findCommon wsX1_divide := goodIn_r _ [45, 46, 22, 13, 14, 15, 6, 16, 8, 47, 48, 49, 50, 23, 10, 11, 12, 38, 39, 40, 41, 37, 30, 31, 27, 32, 33, 34, 35, 36, 51, 52, 53, 54, 55, 56, 57, 58, 59, 60, 61, 62, 63, 64, 65, 66, 67, 68, 69, 70, 71, 72, 73, 74] (by decide +kernel) (by decide +kernel)
set_option maxRecDepth 20000 in
theorem gX1_findCommon_X1_divide : GoodIn wsX1_findCommon (wsV RX1 91 RX1 yX1_divide wsX1_divide) := goodIn_app (goodIn_of _ (by decide +kernel)) ggX1_findCommon_X1_divide
theorem dX1_findCommon_0 : decode cX1_findCommon 0 = .ok (.aload_n 0, 1) := by decide +kernel
theorem dX1_findCommon_1 : decode cX1_findCommon 1 = .ok (.getfield 28, 3) := by decide +kernel
theorem dX1_findCommon_4 : decode cX1_findCommon 4 = .ok (.aload_n 1, 1) := by decide +kernel
theorem dX1_findCommon_5 : decode cX1_findCommon 5 = .ok (.invokevirtual 74, 3) := by decide +kernel
theorem dX1_findCommon_8 : decode cX1_findCommon 8 = .ok (.aload_n 0, 1) := by decide +kernel
theorem dX1_findCommon_9 : decode cX1_findCommon 9 = .ok (.getfield 31, 3) := by decide +kernel
theorem dX1_findCommon_12 : decode cX1_findCommon 12 = .ok (.aload_n 2, 1) := by decide +kernel
theorem dX1_findCommon_13 : decode cX1_findCommon 13 = .ok (.invokevirtual 74, 3) := by decide +kernel
theorem dX1_findCommon_16 : decode cX1_findCommon 16 = .ok (.aload_n 0, 1) := by decide +kernel
theorem dX1_findCommon_17 : decode cX1_findCommon 17 = .ok (.getfield 28, 3) := by decide +kernel
theorem dX1_findCommon_20 : decode cX1_findCommon 20 = .ok (.astore 4, 2) := by decide +kernel
theorem dX1_findCommon_22 : decode cX1_findCommon 22 = .ok (.aload_n 0, 1) := by decide +kernel
theorem dX1_findCommon_23 : decode cX1_findCommon 23 = .ok (.getfield 31, 3) := by decide +kernel
theorem dX1_findCommon_26 : decode cX1_findCommon 26 = .ok (.astore 5, 2) := by decide +kernel
theorem dX1_findCommon_28 : decode cX1_findCommon 28 = .ok (.iconst 0, 1) := by decide +kernel
theorem dX1_findCommon_29 : decode cX1_findCommon 29 = .ok (.istore 6, 2) := by decide +kernel
theorem dX1_findCommon_31 : decode cX1_findCommon 31 = .ok (.iload 6, 2) := by decide +kernel
theorem dX1_findCommon_33 : decode cX1_findCommon 33 = .ok (.bipush 17, 2) := by decide +kernel
theorem dX1_findCommon_35 : decode cX1_findCommon 35 = .ok (.if_icmp .gt 43, 3) := by decide +kernel
theorem dX1_findCommon_38 : decode cX1_findCommon 38 = .ok (.aload 5, 2) := by decide +kernel
theorem dX1_findCommon_40 : decode cX1_findCommon 40 = .ok (.invokevirtual 52, 3) := by decide +kernel
theorem dX1_findCommon_43 : decode cX1_findCommon 43 = .ok (.ifCond .lt 35, 3) := by decide +kernel
theorem dX1_findCommon_46 : decode cX1_findCommon 46 = .ok (.aload_n 0, 1) := by decide +kernel
theorem dX1_findCommon_47 : decode cX1_findCommon 47 = .ok (.aload 5, 2) := by decide +kernel
theorem dX1_findCommon_49 : decode cX1_findCommon 49 = .ok (.invokevirtual 88, 3) := by decide +kernel
theorem dX1_findCommon_52 : decode cX1_findCommon 52 = .ok (.aload_n 0, 1) := by decide +kernel
theorem dX1_findCommon_53 : decode cX1_findCommon 53 = .ok (.aload 4, 2) := by decide +kernel
theorem dX1_findCommon_55 : decode cX1_findCommon 55 = .ok (.aload 5, 2) := by decide +kernel
theorem dX1_findCommon_57 : decode cX1_findCommon 57 = .ok (.invokevirtual 91, 3) := by decide +kernel
theorem dX1_findCommon_60 : decode cX1_findCommon 60 = .ok (.aload 4, 2) := by decide +kernel
theorem dX1_findCommon_62 : decode cX1_findCommon 62 = .ok (.astore 7, 2) := by decide +kernel
theorem dX1_findCommon_64 : decode cX1_findCommon 64 = .ok (.aload 5, 2) := by decide +kernel
theorem dX1_findCommon_66 : decode cX1_findCommon 66 = .ok (.astore 4, 2) := by decide +kernel
theorem dX1_findCommon_68 : decode cX1_findCommon 68 = .ok (.aload 7, 2) := by decide +kernel
theorem dX1_findCommon_70 : decode cX1_findCommon 70 = .ok (.astore 5, 2) := by decide +kernel
theorem dX1_findCommon_72 : decode cX1_findCommon 72 = .ok (.iinc 6 1, 3) := by decide +kernel
theorem dX1_findCommon_75 : decode cX1_findCommon 75 = .ok (.goto (-44), 3) := by decide +kernel
theorem dX1_findCommon_78 : decode cX1_findCommon 78 = .ok (.aload_n 0, 1) := by decide +kernel
theorem dX1_findCommon_79 : decode cX1_findCommon 79 = .ok (.aload 4, 2) := by decide +kernel
theorem dX1_findCommon_81 : decode cX1_findCommon 81 = .ok (.invokevirtual 88, 3) := by decide +kernel
theorem dX1_findCommon_84 : decode cX1_findCommon 84 = .ok (.aload_n 3, 1) := by decide +kernel
theorem dX1_findCommon_85 : decode cX1_findCommon 85 = .ok (.aload 4, 2) := by decide +kernel
theorem dX1_findCommon_87 : decode cX1_findCommon 87 = .ok (.invokevirtual 74, 3) := by decide +kernel
theorem dX1_findCommon_90 : decode cX1_findCommon 90 = .ok (.return_, 1) := by decide +kernel
set_option maxRecDepth 20000 in
theorem ggX1_findSquares_X2_clear : GoodIn wsX1_findSquares wsX2_clear := goodIn_r _ [7, 8, 71] (by decide +kernel) (by decide +kernel)
set_option maxRecDepth 20000 in
theorem gX1_findSquares_X2_clear : GoodIn wsX1_findSquares (wsV RX1 71 RX2 yX2_clear wsX2_clear) := goodIn_app (goodIn_of _ (by decide +kernel)) ggX1_findSquares_X2_clear
set_option maxRecDepth 20000 in
theorem ggX1_findSquares_X2_degree : GoodIn wsX1_findSquares wsX2_degree := goodIn_r _ [12, 8, 71] (by decide +kernel) (by decide +kernel)
set_option maxRecDepth 20000 in
theorem gX1_findSquares_X2_degree : GoodIn wsX1_findSquares (wsV RX1 52 RX2 yX2_degree wsX2_degree) := goodIn_app (goodIn_of _ (by decide +kernel)) ggX1_findSquares_X2_degree
set_option maxRecDepth 20000 in
theorem ggX1_findSquares_X2_get : GoodIn wsX1_findSquares wsX2_get := goodIn_r _ [16, 8, 71] (by decide +kernel) (by decide +kernel)
set_option maxRecDepth 20000 in
theorem gX1_findSquares_X2_get : GoodIn wsX1_findSquares (wsV RX1 60 RX2 yX2_get wsX2_get) := goodIn_app (goodIn_of _ (by decide +kernel)) ggX1_findSquares_X2_get
set_option maxRecDepth 20000 in
theorem ggX1_findSquares_X0_times : GoodIn wsX1_findSquares wsX0_times := goodIn_r _ [21, 22, 23, 24, 25, 72, 73, 74, 75, 76, 77, 78, 79] (by decide +kernel) (by decide +kernel)
set_option maxRecDepth 20000 in
theorem gX1_findSquares_X0_times : GoodIn wsX1_findSquares (wsV RX1 56 RX0 yX0_times wsX0_times) := goodIn_app (goodIn_of _ (by decide +kernel)) ggX1_findSquares_X0_times
set_option maxRecDepth 20000 in
theorem ggX1_findSquares_X2_set : GoodIn wsX1_findSquares wsX2_set := goodIn_r _ [29, 8, 71] (by decide +kernel) (by decide +kernel)
set_option maxRecDepth 20000 in
theorem gX1_findSquares_X2_set : GoodIn wsX1_findSquares (wsV RX1 67 RX2 yX2_set wsX2_set) := goodIn_app (goodIn_of _ (by decide +kernel)) ggX1_findSquares_X2_set
set_option maxRecDepth 20000 in
theorem ggX1_findSquares_X1_findCommon : GoodIn wsX1_findSquares wsX1_findCommon := goodIn_r _ [34, 35, 36, 37, 38, 39, 6, 40, 8, 41, 14, 15, 16, 9, 10, 11, 12, 42, 43, 44, 33, 45, 2, 13, 46, 47, 48, 20, 49, 50, 18, 19, 21, 22, 23, 24, 25, 17, 26, 27, 28, 29, 51, 52, 53, 54, 55, 3, 4, 5, 7, 56, 57, 58, 59, 60, 61, 62, 63, 64, 65, 66, 67, 68, 69, 70, 71, 72, 73, 74, 75, 76, 77, 78, 79] (by decide +kernel) (by decide +kernel)
set_option maxRecDepth 20000 in
theorem gX1_findSquares_X1_findCommon : GoodIn wsX1_findSquares (wsV RX1 95 RX1 yX1_findCommon wsX1_findCommon) := goodIn_app (goodIn_of _ (by decide +kernel)) ggX1_findSquares_X1_findCommon
theorem dX1_findSquares_0 : decode cX1_findSquares 0 = .ok (.aload_n 0, 1) := by decide +kernel
theorem dX1_findSquares_1 : decode cX1_findSquares 1 = .ok (.getfield 34, 3) := by decide +kernel
theorem dX1_findSquares_4 : decode cX1_findSquares 4 = .ok (.invokevirtual 71, 3) := by decide +kernel
theorem dX1_findSquares_7 : decode cX1_findSquares 7 = .ok (.aload_n 1, 1) := by decide +kernel
theorem dX1_findSquares_8 : decode cX1_findSquares 8 = .ok (.invokevirtual 52, 3) := by decide +kernel
theorem dX1_findSquares_11 : decode cX1_findSquares 11 = .ok (.istore_n 3, 1) := by decide +kernel
theorem dX1_findSquares_12 : decode cX1_findSquares 12 = .ok (.iload_n 3, 1) := by decide +kernel
theorem dX1_findSquares_13 : decode cX1_findSquares 13 = .ok (.ifCond .le 32, 3) := by decide +kernel
theorem dX1_findSquares_16 : decode cX1_findSquares 16 = .ok (.aload_n 0, 1) := by decide +kernel
theorem dX1_findSquares_17 : decode cX1_findSquares 17 = .ok (.getfield 34, 3) := by decide +kernel
theorem dX1_findSquares_20 : decode cX1_findSquares 20 = .ok (.iload_n 3, 1) := by decide +kernel
theorem dX1_findSquares_21 : decode cX1_findSquares 21 = .ok (.iconst 1, 1) := by decide +kernel
theorem dX1_findSquares_22 : decode cX1_findSquares 22 = .ok (.isub, 1) := by decide +kernel
theorem dX1_findSquares_23 : decode cX1_findSquares 23 = .ok (.aload_n 0, 1) := by decide +kernel
theorem dX1_findSquares_24 : decode cX1_findSquares 24 = .ok (.getfield 12, 3) := by decide +kernel
theorem dX1_findSquares_27 : decode cX1_findSquares 27 = .ok (.iload_n 3, 1) := by decide +kernel
theorem dX1_findSquares_28 : decode cX1_findSquares 28 = .ok (.aload_n 1, 1) := by decide +kernel
theorem dX1_findSquares_29 : decode cX1_findSquares 29 = .ok (.iload_n 3, 1) := by decide +kernel
theorem dX1_findSquares_30 : decode cX1_findSquares 30 = .ok (.invokevirtual 60, 3) := by decide +kernel
theorem dX1_findSquares_33 : decode cX1_findSquares 33 = .ok (.invokevirtual 56, 3) := by decide +kernel
theorem dX1_findSquares_36 : decode cX1_findSquares 36 = .ok (.invokevirtual 67, 3) := by decide +kernel
theorem dX1_findSquares_39 : decode cX1_findSquares 39 = .ok (.iinc 3 (-1), 3) := by decide +kernel
theorem dX1_findSquares_42 : decode cX1_findSquares 42 = .ok (.goto (-30), 3) := by decide +kernel
theorem dX1_findSquares_45 : decode cX1_findSquares 45 = .ok (.aload_n 0, 1) := by decide +kernel
theorem dX1_findSquares_46 : decode cX1_findSquares 46 = .ok (.aload_n 1, 1) := by decide +kernel
theorem dX1_findSquares_47 : decode cX1_findSquares 47 = .ok (.aload_n 0, 1) := by decide +kernel
theorem dX1_findSquares_48 : decode cX1_findSquares 48 = .ok (.getfield 34, 3) := by decide +kernel
theorem dX1_findSquares_51 : decode cX1_findSquares 51 = .ok (.aload_n 2, 1) := by decide +kernel
theorem dX1_findSquares_52 : decode cX1_findSquares 52 = .ok (.invokevirtual 95, 3) := by decide +kernel
theorem dX1_findSquares_55 : decode cX1_findSquares 55 = .ok (.return_, 1) := by decide +kernel
set_option maxRecDepth 20000 in
theorem ggX1_raiseLinear_X2_becomeOne : GoodIn wsX1_raiseLinear wsX2_becomeOne := goodIn_r _ [5, 6, 7, 8, 4, 9, 10, 11, 12, 13, 14, 63] (by decide +kernel) (by decide +kernel)
set_option maxRecDepth 20000 in
theorem gX1_raiseLinear_X2_becomeOne : GoodIn wsX1_raiseLinear (wsV RX1 99 RX2 yX2_becomeOne wsX2_becomeOne) := goodIn_app (goodIn_of _ (by decide +kernel)) ggX1_raiseLinear_X2_becomeOne
set_option maxRecDepth 20000 in
theorem ggX1_raiseLinear_X1_multiply : GoodIn wsX1_raiseLinear wsX1_multiply := goodIn_r _ [19, 20, 21, 22, 23, 24, 4, 25, 10, 26, 7, 8, 9, 27, 28, 29, 30, 31, 32, 33, 34, 35, 36, 37, 38, 39, 40, 41, 42, 43, 44, 12, 13, 14, 45, 46, 47, 48, 49, 64, 65, 66, 67, 68, 69, 70, 71, 72, 73, 74, 63, 75, 76, 77, 78, 79, 80, 81, 82] (by decide +kernel) (by decide +kernel)
set_option maxRecDepth 20000 in
theorem gX1_raiseLinear_X1_multiply : GoodIn wsX1_raiseLinear (wsV RX1 102 RX1 yX1_multiply wsX1_multiply) := goodIn_app (goodIn_of _ (by decide +kernel)) ggX1_raiseLinear_X1_multiply
set_option maxRecDepth 20000 in
theorem ggX1_raiseLinear_X1_multiplyLinear : GoodIn wsX1_raiseLinear wsX1_multiplyLinear := goodIn_r _ [53, 21, 22, 23, 24, 4, 25, 10, 27, 28, 29, 30, 31, 32, 33, 34, 35, 36, 37, 38, 39, 40, 41, 42, 43, 44, 12, 13, 14, 64, 65, 66, 67, 68, 69, 70, 71, 72, 73, 74, 63, 75, 76, 77, 78, 79, 80, 81, 82] (by decide +kernel) (by decide +kernel)
set_option maxRecDepth 20000 in
theorem gX1_raiseLinear_X1_multiplyLinear : GoodIn wsX1_raiseLinear (wsV RX1 105 RX1 yX1_multiplyLinear wsX1_multiplyLinear) := goodIn_app (goodIn_of _ (by decide +kernel)) ggX1_raiseLinear_X1_multiplyLinear
set_option maxRecDepth 20000 in
theorem ggX1_raiseLinear_X1_divide : GoodIn wsX1_raiseLinear wsX1_divide := goodIn_r _ [57, 58, 21, 22, 23, 24, 4, 25, 10, 26, 7, 8, 9, 27, 28, 29, 30, 44, 12, 13, 14, 31, 32, 33, 34, 35, 36, 37, 38, 39, 59, 60, 61, 62, 64, 65, 66, 67, 68, 69, 70, 71, 72, 73, 74, 63, 75, 76, 77, 78, 79, 80, 81, 82] (by decide +kernel) (by decide +kernel)
set_option maxRecDepth 20000 in
theorem gX1_raiseLinear_X1_divide : GoodIn wsX1_raiseLinear (wsV RX1 91 RX1 yX1_divide wsX1_divide) := goodIn_app (goodIn_of _ (by decide +kernel)) ggX1_raiseLinear_X1_divide
theorem dX1_raiseLinear_0 : decode cX1_raiseLinear 0 = .ok (.aload 5, 2) := by decide +kernel
theorem dX1_raiseLinear_2 : decode cX1_raiseLinear 2 = .ok (.invokevirtual 99, 3) := by decide +kernel
theorem dX1_raiseLinear_5 : decode cX1_raiseLinear 5 = .ok (.bipush 40, 2) := by decide +kernel
theorem dX1_raiseLinear_7 : decode cX1_raiseLinear 7 = .ok (.istore 6, 2) := by decide +kernel
theorem dX1_raiseLinear_9 : decode cX1_raiseLinear 9 = .ok (.iload 6, 2) := by decide +kernel
theorem dX1_raiseLinear_11 : decode cX1_raiseLinear 11 = .ok (.ifCond .lt 55, 3) := by decide +kernel
theorem dX1_raiseLinear_14 : decode cX1_raiseLinear 14 = .ok (.lload_n 2, 1) := by decide +kernel
theorem dX1_raiseLinear_15 : decode cX1_raiseLinear 15 = .ok (.iload 6, 2) := by decide +kernel
theorem dX1_raiseLinear_17 : decode cX1_raiseLinear 17 = .ok (.lshr, 1) := by decide +kernel
theorem dX1_raiseLinear_18 : decode cX1_raiseLinear 18 = .ok (.lconst 0, 1) := by decide +kernel
theorem dX1_raiseLinear_19 : decode cX1_raiseLinear 19 = .ok (.lcmp, 1) := by decide +kernel
theorem dX1_raiseLinear_20 : decode cX1_raiseLinear 20 = .ok (.ifCond .ne 6, 3) := by decide +kernel
theorem dX1_raiseLinear_23 : decode cX1_raiseLinear 23 = .ok (.goto 37, 3) := by decide +kernel
theorem dX1_raiseLinear_26 : decode cX1_raiseLinear 26 = .ok (.aload_n 0, 1) := by decide +kernel
theorem dX1_raiseLinear_27 : decode cX1_raiseLinear 27 = .ok (.aload 5, 2) := by decide +kernel
theorem dX1_raiseLinear_29 : decode cX1_raiseLinear 29 = .ok (.aload 5, 2) := by decide +kernel
theorem dX1_raiseLinear_31 : decode cX1_raiseLinear 31 = .ok (.invokevirtual 102, 3) := by decide +kernel
theorem dX1_raiseLinear_34 : decode cX1_raiseLinear 34 = .ok (.lload_n 2, 1) := by decide +kernel
theorem dX1_raiseLinear_35 : decode cX1_raiseLinear 35 = .ok (.iload 6, 2) := by decide +kernel
theorem dX1_raiseLinear_37 : decode cX1_raiseLinear 37 = .ok (.lshr, 1) := by decide +kernel
theorem dX1_raiseLinear_38 : decode cX1_raiseLinear 38 = .ok (.lconst 1, 1) := by decide +kernel
theorem dX1_raiseLinear_39 : decode cX1_raiseLinear 39 = .ok (.land, 1) := by decide +kernel
theorem dX1_raiseLinear_40 : decode cX1_raiseLinear 40 = .ok (.lconst 1, 1) := by decide +kernel
theorem dX1_raiseLinear_41 : decode cX1_raiseLinear 41 = .ok (.lcmp, 1) := by decide +kernel
theorem dX1_raiseLinear_42 : decode cX1_raiseLinear 42 = .ok (.ifCond .ne 10, 3) := by decide +kernel
theorem dX1_raiseLinear_45 : decode cX1_raiseLinear 45 = .ok (.aload_n 0, 1) := by decide +kernel
theorem dX1_raiseLinear_46 : decode cX1_raiseLinear 46 = .ok (.aload 5, 2) := by decide +kernel
theorem dX1_raiseLinear_48 : decode cX1_raiseLinear 48 = .ok (.iload_n 1, 1) := by decide +kernel
theorem dX1_raiseLinear_49 : decode cX1_raiseLinear 49 = .ok (.invokevirtual 105, 3) := by decide +kernel
theorem dX1_raiseLinear_52 : decode cX1_raiseLinear 52 = .ok (.aload_n 0, 1) := by decide +kernel
theorem dX1_raiseLinear_53 : decode cX1_raiseLinear 53 = .ok (.aload 5, 2) := by decide +kernel
theorem dX1_raiseLinear_55 : decode cX1_raiseLinear 55 = .ok (.aload 4, 2) := by decide +kernel
theorem dX1_raiseLinear_57 : decode cX1_raiseLinear 57 = .ok (.invokevirtual 91, 3) := by decide +kernel
theorem dX1_raiseLinear_60 : decode cX1_raiseLinear 60 = .ok (.iinc 6 (-1), 3) := by decide +kernel
theorem dX1_raiseLinear_63 : decode cX1_raiseLinear 63 = .ok (.goto (-54), 3) := by decide +kernel
theorem dX1_raiseLinear_66 : decode cX1_raiseLinear 66 = .ok (.return_, 1) := by decide +kernel
set_option maxRecDepth 20000 in
theorem ggX1_normOf_X2_copy : GoodIn wsX1_normOf wsX2_copy := goodIn_r _ [8, 9, 10, 11, 12, 7, 13, 73] (by decide +kernel) (by decide +kernel)
set_option maxRecDepth 20000 in
theorem gX1_normOf_X2_copy : GoodIn wsX1_normOf (wsV RX1 74 RX2 yX2_copy wsX2_copy) := goodIn_app (goodIn_of _ (by decide +kernel)) ggX1_normOf_X2_copy
set_option maxRecDepth 20000 in
theorem ggX1_normOf_X2_degree : GoodIn wsX1_normOf wsX2_degree := goodIn_r _ [17, 9, 73] (by decide +kernel) (by decide +kernel)
set_option maxRecDepth 20000 in
theorem gX1_normOf_X2_degree : GoodIn wsX1_normOf (wsV RX1 52 RX2 yX2_degree wsX2_degree) := goodIn_app (goodIn_of _ (by decide +kernel)) ggX1_normOf_X2_degree
set_option maxRecDepth 20000 in
theorem ggX1_normOf_X2_get : GoodIn wsX1_normOf wsX2_get := goodIn_r _ [13, 9, 73] (by decide +kernel) (by decide +kernel)
set_option maxRecDepth 20000 in
theorem gX1_normOf_X2_get : GoodIn wsX1_normOf (wsV RX1 60 RX2 yX2_get wsX2_get) := goodIn_app (goodIn_of _ (by decide +kernel)) ggX1_normOf_X2_get
set_option maxRecDepth 20000 in
theorem ggX1_normOf_X0_mate : GoodIn wsX1_normOf wsX0_mate := goodIn_r _ [23, 24, 25, 26, 27, 28, 22, 29, 30, 31, 32, 33, 34, 35, 36, 37, 65, 66, 67, 68, 69, 70, 71, 72] (by decide +kernel) (by decide +kernel)
set_option maxRecDepth 20000 in
theorem gX1_normOf_X0_mate : GoodIn wsX1_normOf (wsV RX1 111 RX0 yX0_mate wsX0_mate) := goodIn_app (goodIn_of _ (by decide +kernel)) ggX1_normOf_X0_mate
set_option maxRecDepth 20000 in
theorem ggX1_normOf_X2_set : GoodIn wsX1_normOf wsX2_set := goodIn_r _ [41, 9, 73] (by decide +kernel) (by decide +kernel)
set_option maxRecDepth 20000 in
theorem gX1_normOf_X2_set : GoodIn wsX1_normOf (wsV RX1 67 RX2 yX2_set wsX2_set) := goodIn_app (goodIn_of _ (by decide +kernel)) ggX1_normOf_X2_set
set_option maxRecDepth 20000 in
theorem ggX1_normOf_X1_multiply : GoodIn wsX1_normOf wsX1_multiply := goodIn_r _ [46, 47, 3, 14, 15, 16, 7, 17, 9, 48, 49, 50, 51, 18, 11, 12, 13, 52, 27, 28, 22, 29, 30, 31, 32, 33, 53, 35, 36, 37, 38, 39, 40, 41, 4, 5, 6, 8, 10, 54, 55, 56, 57, 58, 59, 60, 61, 62, 63, 64, 73, 65, 66, 67, 68, 69, 70, 71, 72] (by decide +kernel) (by decide +kernel)
set_option maxRecDepth 20000 in
theorem gX1_normOf_X1_multiply : GoodIn wsX1_normOf (wsV RX1 102 RX1 yX1_multiply wsX1_multiply) := goodIn_app (goodIn_of _ (by decide +kernel)) ggX1_normOf_X1_multiply
theorem dX1_normOf_0 : decode cX1_normOf 0 = .ok (.aload_n 0, 1) := by decide +kernel
theorem dX1_normOf_1 : decode cX1_normOf 1 = .ok (.getfield 40, 3) := by decide +kernel
theorem dX1_normOf_4 : decode cX1_normOf 4 = .ok (.aload_n 1, 1) := by decide +kernel
theorem dX1_normOf_5 : decode cX1_normOf 5 = .ok (.invokevirtual 74, 3) := by decide +kernel
theorem dX1_normOf_8 : decode cX1_normOf 8 = .ok (.aload_n 0, 1) := by decide +kernel
theorem dX1_normOf_9 : decode cX1_normOf 9 = .ok (.getfield 37, 3) := by decide +kernel
theorem dX1_normOf_12 : decode cX1_normOf 12 = .ok (.aload_n 1, 1) := by decide +kernel
theorem dX1_normOf_13 : decode cX1_normOf 13 = .ok (.invokevirtual 74, 3) := by decide +kernel
theorem dX1_normOf_16 : decode cX1_normOf 16 = .ok (.aload_n 1, 1) := by decide +kernel
theorem dX1_normOf_17 : decode cX1_normOf 17 = .ok (.invokevirtual 52, 3) := by decide +kernel
theorem dX1_normOf_20 : decode cX1_normOf 20 = .ok (.istore_n 2, 1) := by decide +kernel
theorem dX1_normOf_21 : decode cX1_normOf 21 = .ok (.iconst 1, 1) := by decide +kernel
theorem dX1_normOf_22 : decode cX1_normOf 22 = .ok (.istore_n 3, 1) := by decide +kernel
theorem dX1_normOf_23 : decode cX1_normOf 23 = .ok (.iload_n 3, 1) := by decide +kernel
theorem dX1_normOf_24 : decode cX1_normOf 24 = .ok (.aload_n 0, 1) := by decide +kernel
theorem dX1_normOf_25 : decode cX1_normOf 25 = .ok (.getfield 12, 3) := by decide +kernel
theorem dX1_normOf_28 : decode cX1_normOf 28 = .ok (.getfield 109, 3) := by decide +kernel
theorem dX1_normOf_31 : decode cX1_normOf 31 = .ok (.if_icmp .ge 61, 3) := by decide +kernel
theorem dX1_normOf_34 : decode cX1_normOf 34 = .ok (.iconst 0, 1) := by decide +kernel
theorem dX1_normOf_35 : decode cX1_normOf 35 = .ok (.istore 4, 2) := by decide +kernel
theorem dX1_normOf_37 : decode cX1_normOf 37 = .ok (.iload 4, 2) := by decide +kernel
theorem dX1_normOf_39 : decode cX1_normOf 39 = .ok (.iload_n 2, 1) := by decide +kernel
theorem dX1_normOf_40 : decode cX1_normOf 40 = .ok (.if_icmp .gt 34, 3) := by decide +kernel
theorem dX1_normOf_43 : decode cX1_normOf 43 = .ok (.aload_n 0, 1) := by decide +kernel
theorem dX1_normOf_44 : decode cX1_normOf 44 = .ok (.getfield 37, 3) := by decide +kernel
theorem dX1_normOf_47 : decode cX1_normOf 47 = .ok (.iload 4, 2) := by decide +kernel
theorem dX1_normOf_49 : decode cX1_normOf 49 = .ok (.aload_n 0, 1) := by decide +kernel
theorem dX1_normOf_50 : decode cX1_normOf 50 = .ok (.getfield 12, 3) := by decide +kernel
theorem dX1_normOf_53 : decode cX1_normOf 53 = .ok (.aload_n 0, 1) := by decide +kernel
theorem dX1_normOf_54 : decode cX1_normOf 54 = .ok (.getfield 37, 3) := by decide +kernel
theorem dX1_normOf_57 : decode cX1_normOf 57 = .ok (.iload 4, 2) := by decide +kernel
theorem dX1_normOf_59 : decode cX1_normOf 59 = .ok (.invokevirtual 60, 3) := by decide +kernel
theorem dX1_normOf_62 : decode cX1_normOf 62 = .ok (.invokevirtual 111, 3) := by decide +kernel
theorem dX1_normOf_65 : decode cX1_normOf 65 = .ok (.invokevirtual 67, 3) := by decide +kernel
theorem dX1_normOf_68 : decode cX1_normOf 68 = .ok (.iinc 4 1, 3) := by decide +kernel
theorem dX1_normOf_71 : decode cX1_normOf 71 = .ok (.goto (-34), 3) := by decide +kernel
theorem dX1_normOf_74 : decode cX1_normOf 74 = .ok (.aload_n 0, 1) := by decide +kernel
theorem dX1_normOf_75 : decode cX1_normOf 75 = .ok (.aload_n 0, 1) := by decide +kernel
theorem dX1_normOf_76 : decode cX1_normOf 76 = .ok (.getfield 40, 3) := by decide +kernel
theorem dX1_normOf_79 : decode cX1_normOf 79 = .ok (.aload_n 0, 1) := by decide +kernel
theorem dX1_normOf_80 : decode cX1_normOf 80 = .ok (.getfield 37, 3) := by decide +kernel
theorem dX1_normOf_83 : decode cX1_normOf 83 = .ok (.invokevirtual 102, 3) := by decide +kernel
theorem dX1_normOf_86 : decode cX1_normOf 86 = .ok (.iinc 3 1, 3) := by decide +kernel
theorem dX1_normOf_89 : decode cX1_normOf 89 = .ok (.goto (-66), 3) := by decide +kernel
theorem dX1_normOf_92 : decode cX1_normOf 92 = .ok (.aload_n 0, 1) := by decide +kernel
theorem dX1_normOf_93 : decode cX1_normOf 93 = .ok (.getfield 40, 3) := by decide +kernel
theorem dX1_normOf_96 : decode cX1_normOf 96 = .ok (.areturn, 1) := by decide +kernel
set_option maxRecDepth 20000 in
theorem ggX1_leastPolynomial_X0_differentMates : GoodIn wsX1_leastPolynomial wsX0_differentMates := goodIn_r _ [7, 8, 9, 10, 11, 6, 12, 13, 14, 15, 16, 17, 18, 19, 20, 21, 22, 23, 24, 25, 72, 73, 74, 75, 76, 77, 78, 79] (by decide +kernel) (by decide +kernel)
set_option maxRecDepth 20000 in
theorem gX1_leastPolynomial_X0_differentMates : GoodIn wsX1_leastPolynomial (wsV RX1 114 RX0 yX0_differentMates wsX0_differentMates) := goodIn_app (goodIn_of _ (by decide +kernel)) ggX1_leastPolynomial_X0_differentMates
set_option maxRecDepth 20000 in
theorem ggX1_leastPolynomial_X2_becomeOne : GoodIn wsX1_leastPolynomial wsX2_becomeOne := goodIn_r _ [30, 31, 32, 33, 29, 34, 35, 36, 37, 38, 39, 80] (by decide +kernel) (by decide +kernel)
set_option maxRecDepth 20000 in
theorem gX1_leastPolynomial_X2_becomeOne : GoodIn wsX1_leastPolynomial (wsV RX1 99 RX2 yX2_becomeOne wsX2_becomeOne) := goodIn_app (goodIn_of _ (by decide +kernel)) ggX1_leastPolynomial_X2_becomeOne
set_option maxRecDepth 20000 in
theorem ggX1_leastPolynomial_X0_minus : GoodIn wsX1_leastPolynomial wsX0_minus := goodIn_r _ [43] (by decide +kernel) (by decide +kernel)
set_option maxRecDepth 20000 in
theorem gX1_leastPolynomial_X0_minus : GoodIn wsX1_leastPolynomial (wsV RX1 78 RX0 yX0_minus wsX0_minus) := goodIn_app (goodIn_of _ (by decide +kernel)) ggX1_leastPolynomial_X0_minus
set_option maxRecDepth 20000 in
theorem ggX1_leastPolynomial_X1_multiplyLinear : GoodIn wsX1_leastPolynomial wsX1_multiplyLinear := goodIn_r _ [48, 1, 49, 50, 51, 29, 52, 35, 53, 54, 55, 56, 57, 16, 17, 6, 18, 8, 19, 20, 21, 58, 23, 24, 25, 59, 37, 38, 39, 61, 62, 63, 64, 65, 66, 67, 68, 69, 70, 71, 80, 72, 73, 74, 75, 76, 77, 78, 79] (by decide +kernel) (by decide +kernel)
set_option maxRecDepth 20000 in
theorem gX1_leastPolynomial_X1_multiplyLinear : GoodIn wsX1_leastPolynomial (wsV RX1 105 RX1 yX1_multiplyLinear wsX1_multiplyLinear) := goodIn_app (goodIn_of _ (by decide +kernel)) ggX1_leastPolynomial_X1_multiplyLinear
set_option maxRecDepth 20000 in
theorem ggX1_leastPolynomial_X0_mate : GoodIn wsX1_leastPolynomial wsX0_mate := goodIn_r _ [12, 13, 14, 15, 16, 17, 6, 18, 8, 19, 20, 21, 22, 23, 24, 25, 72, 73, 74, 75, 76, 77, 78, 79] (by decide +kernel) (by decide +kernel)
set_option maxRecDepth 20000 in
theorem gX1_leastPolynomial_X0_mate : GoodIn wsX1_leastPolynomial (wsV RX1 111 RX0 yX0_mate wsX0_mate) := goodIn_app (goodIn_of _ (by decide +kernel)) ggX1_leastPolynomial_X0_mate
theorem dX1_leastPolynomial_0 : decode cX1_leastPolynomial 0 = .ok (.aload_n 0, 1) := by decide +kernel
theorem dX1_leastPolynomial_1 : decode cX1_leastPolynomial 1 = .ok (.getfield 12, 3) := by decide +kernel
theorem dX1_leastPolynomial_4 : decode cX1_leastPolynomial 4 = .ok (.iload_n 1, 1) := by decide +kernel
theorem dX1_leastPolynomial_5 : decode cX1_leastPolynomial 5 = .ok (.invokevirtual 114, 3) := by decide +kernel
theorem dX1_leastPolynomial_8 : decode cX1_leastPolynomial 8 = .ok (.istore_n 2, 1) := by decide +kernel
theorem dX1_leastPolynomial_9 : decode cX1_leastPolynomial 9 = .ok (.iload_n 1, 1) := by decide +kernel
theorem dX1_leastPolynomial_10 : decode cX1_leastPolynomial 10 = .ok (.istore_n 3, 1) := by decide +kernel
theorem dX1_leastPolynomial_11 : decode cX1_leastPolynomial 11 = .ok (.aload_n 0, 1) := by decide +kernel
theorem dX1_leastPolynomial_12 : decode cX1_leastPolynomial 12 = .ok (.getfield 46, 3) := by decide +kernel
theorem dX1_leastPolynomial_15 : decode cX1_leastPolynomial 15 = .ok (.invokevirtual 99, 3) := by decide +kernel
theorem dX1_leastPolynomial_18 : decode cX1_leastPolynomial 18 = .ok (.iconst 0, 1) := by decide +kernel
theorem dX1_leastPolynomial_19 : decode cX1_leastPolynomial 19 = .ok (.istore 4, 2) := by decide +kernel
theorem dX1_leastPolynomial_21 : decode cX1_leastPolynomial 21 = .ok (.iload 4, 2) := by decide +kernel
theorem dX1_leastPolynomial_23 : decode cX1_leastPolynomial 23 = .ok (.iload_n 2, 1) := by decide +kernel
theorem dX1_leastPolynomial_24 : decode cX1_leastPolynomial 24 = .ok (.if_icmp .ge 35, 3) := by decide +kernel
theorem dX1_leastPolynomial_27 : decode cX1_leastPolynomial 27 = .ok (.aload_n 0, 1) := by decide +kernel
theorem dX1_leastPolynomial_28 : decode cX1_leastPolynomial 28 = .ok (.aload_n 0, 1) := by decide +kernel
theorem dX1_leastPolynomial_29 : decode cX1_leastPolynomial 29 = .ok (.getfield 46, 3) := by decide +kernel
theorem dX1_leastPolynomial_32 : decode cX1_leastPolynomial 32 = .ok (.aload_n 0, 1) := by decide +kernel
theorem dX1_leastPolynomial_33 : decode cX1_leastPolynomial 33 = .ok (.getfield 12, 3) := by decide +kernel
theorem dX1_leastPolynomial_36 : decode cX1_leastPolynomial 36 = .ok (.iconst 0, 1) := by decide +kernel
theorem dX1_leastPolynomial_37 : decode cX1_leastPolynomial 37 = .ok (.iload_n 3, 1) := by decide +kernel
theorem dX1_leastPolynomial_38 : decode cX1_leastPolynomial 38 = .ok (.invokevirtual 78, 3) := by decide +kernel
theorem dX1_leastPolynomial_41 : decode cX1_leastPolynomial 41 = .ok (.invokevirtual 105, 3) := by decide +kernel
theorem dX1_leastPolynomial_44 : decode cX1_leastPolynomial 44 = .ok (.aload_n 0, 1) := by decide +kernel
theorem dX1_leastPolynomial_45 : decode cX1_leastPolynomial 45 = .ok (.getfield 12, 3) := by decide +kernel
theorem dX1_leastPolynomial_48 : decode cX1_leastPolynomial 48 = .ok (.iload_n 3, 1) := by decide +kernel
theorem dX1_leastPolynomial_49 : decode cX1_leastPolynomial 49 = .ok (.invokevirtual 111, 3) := by decide +kernel
theorem dX1_leastPolynomial_52 : decode cX1_leastPolynomial 52 = .ok (.istore_n 3, 1) := by decide +kernel
theorem dX1_leastPolynomial_53 : decode cX1_leastPolynomial 53 = .ok (.iinc 4 1, 3) := by decide +kernel
theorem dX1_leastPolynomial_56 : decode cX1_leastPolynomial 56 = .ok (.goto (-35), 3) := by decide +kernel
theorem dX1_leastPolynomial_59 : decode cX1_leastPolynomial 59 = .ok (.aload_n 0, 1) := by decide +kernel
theorem dX1_leastPolynomial_60 : decode cX1_leastPolynomial 60 = .ok (.getfield 46, 3) := by decide +kernel
theorem dX1_leastPolynomial_63 : decode cX1_leastPolynomial 63 = .ok (.areturn, 1) := by decide +kernel
set_option maxRecDepth 20000 in
theorem ggX1_leastShift_X2_copy : GoodIn wsX1_leastShift wsX2_copy := goodIn_r _ [8, 9, 10, 11, 12, 7, 13, 111] (by decide +kernel) (by decide +kernel)
set_option maxRecDepth 20000 in
theorem gX1_leastShift_X2_copy : GoodIn wsX1_leastShift (wsV RX1 74 RX2 yX2_copy wsX2_copy) := goodIn_app (goodIn_of _ (by decide +kernel)) ggX1_leastShift_X2_copy
set_option maxRecDepth 20000 in
theorem ggX1_leastShift_X0_times : GoodIn wsX1_leastShift wsX0_times := goodIn_r _ [18, 19, 20, 21, 22, 103, 104, 105, 106, 107, 108, 109, 110] (by decide +kernel) (by decide +kernel)
set_option maxRecDepth 20000 in
theorem gX1_leastShift_X0_times : GoodIn wsX1_leastShift (wsV RX1 56 RX0 yX0_times wsX0_times) := goodIn_app (goodIn_of _ (by decide +kernel)) ggX1_leastShift_X0_times
set_option maxRecDepth 20000 in
theorem ggX1_leastShift_X0_minus : GoodIn wsX1_leastShift wsX0_minus := goodIn_r _ [26] (by decide +kernel) (by decide +kernel)
set_option maxRecDepth 20000 in
theorem gX1_leastShift_X0_minus : GoodIn wsX1_leastShift (wsV RX1 78 RX0 yX0_minus wsX0_minus) := goodIn_app (goodIn_of _ (by decide +kernel)) ggX1_leastShift_X0_minus
set_option maxRecDepth 20000 in
theorem ggX1_leastShift_X1_displace : GoodIn wsX1_leastShift wsX1_displace := goodIn_r _ [31, 2, 32, 33, 34, 7, 35, 9, 36, 11, 12, 13, 14, 15, 16, 17, 18, 19, 20, 21, 22, 37, 38, 39, 40, 41, 42, 43, 44, 92, 93, 94, 95, 96, 97, 98, 99, 100, 101, 102, 111, 103, 104, 105, 106, 107, 108, 109, 110] (by decide +kernel) (by decide +kernel)
set_option maxRecDepth 20000 in
theorem gX1_leastShift_X1_displace : GoodIn wsX1_leastShift (wsV RX1 120 RX1 yX1_displace wsX1_displace) := goodIn_app (goodIn_of _ (by decide +kernel)) ggX1_leastShift_X1_displace
set_option maxRecDepth 20000 in
theorem ggX1_leastShift_X1_normOf : GoodIn wsX1_leastShift wsX1_normOf := goodIn_r _ [48, 49, 50, 2, 4, 5, 6, 7, 8, 9, 10, 11, 12, 13, 32, 33, 34, 35, 36, 51, 52, 53, 17, 54, 55, 56, 57, 15, 16, 18, 19, 20, 21, 22, 58, 38, 39, 40, 41, 42, 43, 44, 59, 60, 61, 30, 62, 63, 64, 65, 66, 67, 14, 37, 92, 93, 94, 95, 96, 97, 98, 99, 100, 101, 102, 103, 104, 105, 106, 107, 108, 109, 110, 111] (by decide +kernel) (by decide +kernel)
set_option maxRecDepth 20000 in
theorem gX1_leastShift_X1_normOf : GoodIn wsX1_leastShift (wsV RX1 123 RX1 yX1_normOf wsX1_normOf) := goodIn_app (goodIn_of _ (by decide +kernel)) ggX1_leastShift_X1_normOf
set_option maxRecDepth 20000 in
theorem ggX1_leastShift_X1_findSquares : GoodIn wsX1_leastShift wsX1_findSquares := goodIn_r _ [71, 72, 2, 64, 65, 66, 7, 67, 9, 32, 33, 34, 35, 36, 11, 12, 13, 14, 15, 16, 17, 18, 19, 20, 21, 22, 41, 42, 43, 44, 73, 74, 75, 30, 76, 77, 78, 4, 5, 6, 8, 10, 79, 80, 81, 82, 83, 84, 85, 86, 57, 87, 88, 89, 90, 91, 23, 24, 25, 26, 92, 93, 94, 95, 96, 97, 98, 99, 100, 101, 102, 111, 103, 104, 105, 106, 107, 108, 109, 110] (by decide +kernel) (by decide +kernel)
set_option maxRecDepth 20000 in
theorem gX1_leastShift_X1_findSquares : GoodIn wsX1_leastShift (wsV RX1 127 RX1 yX1_findSquares wsX1_findSquares) := goodIn_app (goodIn_of _ (by decide +kernel)) ggX1_leastShift_X1_findSquares
set_option maxRecDepth 20000 in
theorem ggX1_leastShift_X2_degree : GoodIn wsX1_leastShift wsX2_degree := goodIn_r _ [35, 9, 111] (by decide +kernel) (by decide +kernel)
set_option maxRecDepth 20000 in
theorem gX1_leastShift_X2_degree : GoodIn wsX1_leastShift (wsV RX1 52 RX2 yX2_degree wsX2_degree) := goodIn_app (goodIn_of _ (by decide +kernel)) ggX1_leastShift_X2_degree
theorem dX1_leastShift_0 : decode cX1_leastShift 0 = .ok (.iconst 0, 1) := by decide +kernel
theorem dX1_leastShift_1 : decode cX1_leastShift 1 = .ok (.istore_n 2, 1) := by decide +kernel
theorem dX1_leastShift_2 : decode cX1_leastShift 2 = .ok (.iload_n 2, 1) := by decide +kernel
theorem dX1_leastShift_3 : decode cX1_leastShift 3 = .ok (.bipush 101, 2) := by decide +kernel
theorem dX1_leastShift_5 : decode cX1_leastShift 5 = .ok (.if_icmp .ge 76, 3) := by decide +kernel
theorem dX1_leastShift_8 : decode cX1_leastShift 8 = .ok (.aload_n 0, 1) := by decide +kernel
theorem dX1_leastShift_9 : decode cX1_leastShift 9 = .ok (.getfield 43, 3) := by decide +kernel
theorem dX1_leastShift_12 : decode cX1_leastShift 12 = .ok (.aload_n 1, 1) := by decide +kernel
theorem dX1_leastShift_13 : decode cX1_leastShift 13 = .ok (.invokevirtual 74, 3) := by decide +kernel
theorem dX1_leastShift_16 : decode cX1_leastShift 16 = .ok (.aload_n 0, 1) := by decide +kernel
theorem dX1_leastShift_17 : decode cX1_leastShift 17 = .ok (.aload_n 0, 1) := by decide +kernel
theorem dX1_leastShift_18 : decode cX1_leastShift 18 = .ok (.getfield 43, 3) := by decide +kernel
theorem dX1_leastShift_21 : decode cX1_leastShift 21 = .ok (.aload_n 0, 1) := by decide +kernel
theorem dX1_leastShift_22 : decode cX1_leastShift 22 = .ok (.getfield 12, 3) := by decide +kernel
theorem dX1_leastShift_25 : decode cX1_leastShift 25 = .ok (.iconst 0, 1) := by decide +kernel
theorem dX1_leastShift_26 : decode cX1_leastShift 26 = .ok (.aload_n 0, 1) := by decide +kernel
theorem dX1_leastShift_27 : decode cX1_leastShift 27 = .ok (.getfield 12, 3) := by decide +kernel
theorem dX1_leastShift_30 : decode cX1_leastShift 30 = .ok (.iload_n 2, 1) := by decide +kernel
theorem dX1_leastShift_31 : decode cX1_leastShift 31 = .ok (.aload_n 0, 1) := by decide +kernel
theorem dX1_leastShift_32 : decode cX1_leastShift 32 = .ok (.getfield 12, 3) := by decide +kernel
theorem dX1_leastShift_35 : decode cX1_leastShift 35 = .ok (.getfield 117, 3) := by decide +kernel
theorem dX1_leastShift_38 : decode cX1_leastShift 38 = .ok (.invokevirtual 56, 3) := by decide +kernel
theorem dX1_leastShift_41 : decode cX1_leastShift 41 = .ok (.invokevirtual 78, 3) := by decide +kernel
theorem dX1_leastShift_44 : decode cX1_leastShift 44 = .ok (.invokevirtual 120, 3) := by decide +kernel
theorem dX1_leastShift_47 : decode cX1_leastShift 47 = .ok (.aload_n 0, 1) := by decide +kernel
theorem dX1_leastShift_48 : decode cX1_leastShift 48 = .ok (.aload_n 0, 1) := by decide +kernel
theorem dX1_leastShift_49 : decode cX1_leastShift 49 = .ok (.aload_n 0, 1) := by decide +kernel
theorem dX1_leastShift_50 : decode cX1_leastShift 50 = .ok (.getfield 43, 3) := by decide +kernel
theorem dX1_leastShift_53 : decode cX1_leastShift 53 = .ok (.invokevirtual 123, 3) := by decide +kernel
theorem dX1_leastShift_56 : decode cX1_leastShift 56 = .ok (.aload_n 0, 1) := by decide +kernel
theorem dX1_leastShift_57 : decode cX1_leastShift 57 = .ok (.getfield 49, 3) := by decide +kernel
theorem dX1_leastShift_60 : decode cX1_leastShift 60 = .ok (.invokevirtual 127, 3) := by decide +kernel
theorem dX1_leastShift_63 : decode cX1_leastShift 63 = .ok (.aload_n 0, 1) := by decide +kernel
theorem dX1_leastShift_64 : decode cX1_leastShift 64 = .ok (.getfield 49, 3) := by decide +kernel
theorem dX1_leastShift_67 : decode cX1_leastShift 67 = .ok (.invokevirtual 52, 3) := by decide +kernel
theorem dX1_leastShift_70 : decode cX1_leastShift 70 = .ok (.ifCond .gt 5, 3) := by decide +kernel
theorem dX1_leastShift_73 : decode cX1_leastShift 73 = .ok (.iload_n 2, 1) := by decide +kernel
theorem dX1_leastShift_74 : decode cX1_leastShift 74 = .ok (.ireturn, 1) := by decide +kernel
theorem dX1_leastShift_75 : decode cX1_leastShift 75 = .ok (.iinc 2 1, 3) := by decide +kernel
theorem dX1_leastShift_78 : decode cX1_leastShift 78 = .ok (.goto (-76), 3) := by decide +kernel
theorem dX1_leastShift_81 : decode cX1_leastShift 81 = .ok (.iconst 0, 1) := by decide +kernel
theorem dX1_leastShift_82 : decode cX1_leastShift 82 = .ok (.ireturn, 1) := by decide +kernel
