theorem dX0_init_0 : decode cX0_init 0 = .ok (.aload_n 0, 1) := by decide +kernel
theorem dX0_init_1 : decode cX0_init 1 = .ok (.invokespecial 3, 3) := by decide +kernel
theorem dX0_init_4 : decode cX0_init 4 = .ok (.aload_n 0, 1) := by decide +kernel
theorem dX0_init_5 : decode cX0_init 5 = .ok (.iconst 1, 1) := by decide +kernel
theorem dX0_init_6 : decode cX0_init 6 = .ok (.putfield 9, 3) := by decide +kernel
theorem dX0_init_9 : decode cX0_init 9 = .ok (.aload_n 0, 1) := by decide +kernel
theorem dX0_init_10 : decode cX0_init 10 = .ok (.bipush 101, 2) := by decide +kernel
theorem dX0_init_12 : decode cX0_init 12 = .ok (.putfield 15, 3) := by decide +kernel
theorem dX0_init_15 : decode cX0_init 15 = .ok (.aload_n 0, 1) := by decide +kernel
theorem dX0_init_16 : decode cX0_init 16 = .ok (.iconst 0, 1) := by decide +kernel
theorem dX0_init_17 : decode cX0_init 17 = .ok (.putfield 18, 3) := by decide +kernel
theorem dX0_init_20 : decode cX0_init 20 = .ok (.aload_n 0, 1) := by decide +kernel
theorem dX0_init_21 : decode cX0_init 21 = .ok (.iconst 0, 1) := by decide +kernel
theorem dX0_init_22 : decode cX0_init 22 = .ok (.putfield 21, 3) := by decide +kernel
theorem dX0_init_25 : decode cX0_init 25 = .ok (.aload_n 0, 1) := by decide +kernel
theorem dX0_init_26 : decode cX0_init 26 = .ok (.iconst 0, 1) := by decide +kernel
theorem dX0_init_27 : decode cX0_init 27 = .ok (.putfield 24, 3) := by decide +kernel
theorem dX0_init_30 : decode cX0_init 30 = .ok (.aload_n 0, 1) := by decide +kernel
theorem dX0_init_31 : decode cX0_init 31 = .ok (.iconst 0, 1) := by decide +kernel
theorem dX0_init_32 : decode cX0_init 32 = .ok (.putfield 27, 3) := by decide +kernel
theorem dX0_init_35 : decode cX0_init 35 = .ok (.aload_n 0, 1) := by decide +kernel
theorem dX0_init_36 : decode cX0_init 36 = .ok (.iconst 0, 1) := by decide +kernel
theorem dX0_init_37 : decode cX0_init 37 = .ok (.putfield 30, 3) := by decide +kernel
theorem dX0_init_40 : decode cX0_init 40 = .ok (.aload_n 0, 1) := by decide +kernel
theorem dX0_init_41 : decode cX0_init 41 = .ok (.iconst 0, 1) := by decide +kernel
theorem dX0_init_42 : decode cX0_init 42 = .ok (.putfield 33, 3) := by decide +kernel
theorem dX0_init_45 : decode cX0_init 45 = .ok (.return_, 1) := by decide +kernel
set_option maxRecDepth 20000 in
theorem ggX0_become_X0_hasRoot : GoodIn wsX0_become wsX0_hasRoot := goodIn_r _ [13] (by decide +kernel) (by decide +kernel)
set_option maxRecDepth 20000 in
theorem gX0_become_X0_hasRoot : GoodIn wsX0_become (va_wsS RX0 36 yX0_hasRoot wsX0_hasRoot) := goodIn_app (goodIn_of _ (by decide +kernel)) ggX0_become_X0_hasRoot
set_option maxRecDepth 20000 in
theorem ggX0_become_X0_power : GoodIn wsX0_become wsX0_power := goodIn_r _ [17, 18, 19, 20, 12, 21, 1, 5, 4, 6, 22, 23, 24, 25, 26, 27, 28, 29] (by decide +kernel) (by decide +kernel)
set_option maxRecDepth 20000 in
theorem gX0_become_X0_power : GoodIn wsX0_become (wsV RX0 41 RX0 yX0_power wsX0_power) := goodIn_app (goodIn_of _ (by decide +kernel)) ggX0_become_X0_power
set_option maxRecDepth 20000 in
theorem ggX0_become_X0_times : GoodIn wsX0_become wsX0_times := goodIn_r _ [21, 1, 5, 4, 6, 22, 23, 24, 25, 26, 27, 28, 29] (by decide +kernel) (by decide +kernel)
set_option maxRecDepth 20000 in
theorem gX0_become_X0_times : GoodIn wsX0_become (wsV RX0 45 RX0 yX0_times wsX0_times) := goodIn_app (goodIn_of _ (by decide +kernel)) ggX0_become_X0_times
theorem dX0_become_0 : decode cX0_become 0 = .ok (.iload_n 1, 1) := by decide +kernel
theorem dX0_become_1 : decode cX0_become 1 = .ok (.iconst 1, 1) := by decide +kernel
theorem dX0_become_2 : decode cX0_become 2 = .ok (.if_icmp .le 7, 3) := by decide +kernel
theorem dX0_become_5 : decode cX0_become 5 = .ok (.iload_n 3, 1) := by decide +kernel
theorem dX0_become_6 : decode cX0_become 6 = .ok (.goto 4, 3) := by decide +kernel
theorem dX0_become_9 : decode cX0_become 9 = .ok (.iconst 0, 1) := by decide +kernel
theorem dX0_become_10 : decode cX0_become 10 = .ok (.istore 5, 2) := by decide +kernel
theorem dX0_become_12 : decode cX0_become 12 = .ok (.iload_n 1, 1) := by decide +kernel
theorem dX0_become_13 : decode cX0_become 13 = .ok (.iconst 2, 1) := by decide +kernel
theorem dX0_become_14 : decode cX0_become 14 = .ok (.if_icmp .le 8, 3) := by decide +kernel
theorem dX0_become_17 : decode cX0_become 17 = .ok (.iload 4, 2) := by decide +kernel
theorem dX0_become_19 : decode cX0_become 19 = .ok (.goto 4, 3) := by decide +kernel
theorem dX0_become_22 : decode cX0_become 22 = .ok (.iconst 0, 1) := by decide +kernel
theorem dX0_become_23 : decode cX0_become 23 = .ok (.istore 6, 2) := by decide +kernel
theorem dX0_become_25 : decode cX0_become 25 = .ok (.iload_n 1, 1) := by decide +kernel
theorem dX0_become_26 : decode cX0_become 26 = .ok (.iconst 1, 1) := by decide +kernel
theorem dX0_become_27 : decode cX0_become 27 = .ok (.if_icmp .le 17, 3) := by decide +kernel
theorem dX0_become_30 : decode cX0_become 30 = .ok (.iload_n 1, 1) := by decide +kernel
theorem dX0_become_31 : decode cX0_become 31 = .ok (.iload_n 2, 1) := by decide +kernel
theorem dX0_become_32 : decode cX0_become 32 = .ok (.iload 5, 2) := by decide +kernel
theorem dX0_become_34 : decode cX0_become 34 = .ok (.iload 6, 2) := by decide +kernel
theorem dX0_become_36 : decode cX0_become 36 = .ok (.invokestatic 36, 3) := by decide +kernel
theorem dX0_become_39 : decode cX0_become 39 = .ok (.ifCond .eq 5, 3) := by decide +kernel
theorem dX0_become_42 : decode cX0_become 42 = .ok (.iconst 0, 1) := by decide +kernel
theorem dX0_become_43 : decode cX0_become 43 = .ok (.ireturn, 1) := by decide +kernel
theorem dX0_become_44 : decode cX0_become 44 = .ok (.aload_n 0, 1) := by decide +kernel
theorem dX0_become_45 : decode cX0_become 45 = .ok (.iload_n 1, 1) := by decide +kernel
theorem dX0_become_46 : decode cX0_become 46 = .ok (.putfield 9, 3) := by decide +kernel
theorem dX0_become_49 : decode cX0_become 49 = .ok (.aload_n 0, 1) := by decide +kernel
theorem dX0_become_50 : decode cX0_become 50 = .ok (.iload_n 1, 1) := by decide +kernel
theorem dX0_become_51 : decode cX0_become 51 = .ok (.iconst 1, 1) := by decide +kernel
theorem dX0_become_52 : decode cX0_become 52 = .ok (.if_icmp .ne 8, 3) := by decide +kernel
theorem dX0_become_55 : decode cX0_become 55 = .ok (.bipush 101, 2) := by decide +kernel
theorem dX0_become_57 : decode cX0_become 57 = .ok (.goto 16, 3) := by decide +kernel
theorem dX0_become_60 : decode cX0_become 60 = .ok (.iload_n 1, 1) := by decide +kernel
theorem dX0_become_61 : decode cX0_become 61 = .ok (.iconst 2, 1) := by decide +kernel
theorem dX0_become_62 : decode cX0_become 62 = .ok (.if_icmp .ne 9, 3) := by decide +kernel
theorem dX0_become_65 : decode cX0_become 65 = .ok (.sipush 10201, 3) := by decide +kernel
theorem dX0_become_68 : decode cX0_become 68 = .ok (.goto 5, 3) := by decide +kernel
theorem dX0_become_71 : decode cX0_become 71 = .ok (.ldc 40, 2) := by decide +kernel
theorem dX0_become_73 : decode cX0_become 73 = .ok (.putfield 15, 3) := by decide +kernel
theorem dX0_become_76 : decode cX0_become 76 = .ok (.aload_n 0, 1) := by decide +kernel
theorem dX0_become_77 : decode cX0_become 77 = .ok (.iload_n 2, 1) := by decide +kernel
theorem dX0_become_78 : decode cX0_become 78 = .ok (.putfield 18, 3) := by decide +kernel
theorem dX0_become_81 : decode cX0_become 81 = .ok (.aload_n 0, 1) := by decide +kernel
theorem dX0_become_82 : decode cX0_become 82 = .ok (.iload 5, 2) := by decide +kernel
theorem dX0_become_84 : decode cX0_become 84 = .ok (.putfield 21, 3) := by decide +kernel
theorem dX0_become_87 : decode cX0_become 87 = .ok (.aload_n 0, 1) := by decide +kernel
theorem dX0_become_88 : decode cX0_become 88 = .ok (.iload 6, 2) := by decide +kernel
theorem dX0_become_90 : decode cX0_become 90 = .ok (.putfield 24, 3) := by decide +kernel
theorem dX0_become_93 : decode cX0_become 93 = .ok (.aload_n 0, 1) := by decide +kernel
theorem dX0_become_94 : decode cX0_become 94 = .ok (.iload_n 1, 1) := by decide +kernel
theorem dX0_become_95 : decode cX0_become 95 = .ok (.iconst 1, 1) := by decide +kernel
theorem dX0_become_96 : decode cX0_become 96 = .ok (.if_icmp .ne 13, 3) := by decide +kernel
theorem dX0_become_99 : decode cX0_become 99 = .ok (.bipush 101, 2) := by decide +kernel
theorem dX0_become_101 : decode cX0_become 101 = .ok (.iload_n 2, 1) := by decide +kernel
theorem dX0_become_102 : decode cX0_become 102 = .ok (.isub, 1) := by decide +kernel
theorem dX0_become_103 : decode cX0_become 103 = .ok (.bipush 101, 2) := by decide +kernel
theorem dX0_become_105 : decode cX0_become 105 = .ok (.irem, 1) := by decide +kernel
theorem dX0_become_106 : decode cX0_become 106 = .ok (.goto 5, 3) := by decide +kernel
theorem dX0_become_109 : decode cX0_become 109 = .ok (.bipush 101, 2) := by decide +kernel
theorem dX0_become_111 : decode cX0_become 111 = .ok (.putfield 27, 3) := by decide +kernel
theorem dX0_become_114 : decode cX0_become 114 = .ok (.aload_n 0, 1) := by decide +kernel
theorem dX0_become_115 : decode cX0_become 115 = .ok (.aload_n 0, 1) := by decide +kernel
theorem dX0_become_116 : decode cX0_become 116 = .ok (.aload_n 0, 1) := by decide +kernel
theorem dX0_become_117 : decode cX0_become 117 = .ok (.getfield 27, 3) := by decide +kernel
theorem dX0_become_120 : decode cX0_become 120 = .ok (.bipush 101, 2) := by decide +kernel
theorem dX0_become_122 : decode cX0_become 122 = .ok (.invokevirtual 41, 3) := by decide +kernel
theorem dX0_become_125 : decode cX0_become 125 = .ok (.putfield 30, 3) := by decide +kernel
theorem dX0_become_128 : decode cX0_become 128 = .ok (.aload_n 0, 1) := by decide +kernel
theorem dX0_become_129 : decode cX0_become 129 = .ok (.aload_n 0, 1) := by decide +kernel
theorem dX0_become_130 : decode cX0_become 130 = .ok (.aload_n 0, 1) := by decide +kernel
theorem dX0_become_131 : decode cX0_become 131 = .ok (.getfield 30, 3) := by decide +kernel
theorem dX0_become_134 : decode cX0_become 134 = .ok (.aload_n 0, 1) := by decide +kernel
theorem dX0_become_135 : decode cX0_become 135 = .ok (.getfield 30, 3) := by decide +kernel
theorem dX0_become_138 : decode cX0_become 138 = .ok (.invokevirtual 45, 3) := by decide +kernel
theorem dX0_become_141 : decode cX0_become 141 = .ok (.putfield 33, 3) := by decide +kernel
theorem dX0_become_144 : decode cX0_become 144 = .ok (.iconst 1, 1) := by decide +kernel
theorem dX0_become_145 : decode cX0_become 145 = .ok (.ireturn, 1) := by decide +kernel
theorem dX0_hasRoot_0 : decode cX0_hasRoot 0 = .ok (.iconst 0, 1) := by decide +kernel
theorem dX0_hasRoot_1 : decode cX0_hasRoot 1 = .ok (.istore 4, 2) := by decide +kernel
theorem dX0_hasRoot_3 : decode cX0_hasRoot 3 = .ok (.iload 4, 2) := by decide +kernel
theorem dX0_hasRoot_5 : decode cX0_hasRoot 5 = .ok (.bipush 101, 2) := by decide +kernel
theorem dX0_hasRoot_7 : decode cX0_hasRoot 7 = .ok (.if_icmp .ge 50, 3) := by decide +kernel
theorem dX0_hasRoot_10 : decode cX0_hasRoot 10 = .ok (.iload_n 0, 1) := by decide +kernel
theorem dX0_hasRoot_11 : decode cX0_hasRoot 11 = .ok (.iconst 2, 1) := by decide +kernel
theorem dX0_hasRoot_12 : decode cX0_hasRoot 12 = .ok (.if_icmp .ne 7, 3) := by decide +kernel
theorem dX0_hasRoot_15 : decode cX0_hasRoot 15 = .ok (.iconst 1, 1) := by decide +kernel
theorem dX0_hasRoot_16 : decode cX0_hasRoot 16 = .ok (.goto 10, 3) := by decide +kernel
theorem dX0_hasRoot_19 : decode cX0_hasRoot 19 = .ok (.iload 4, 2) := by decide +kernel
theorem dX0_hasRoot_21 : decode cX0_hasRoot 21 = .ok (.iload_n 3, 1) := by decide +kernel
theorem dX0_hasRoot_22 : decode cX0_hasRoot 22 = .ok (.iadd, 1) := by decide +kernel
theorem dX0_hasRoot_23 : decode cX0_hasRoot 23 = .ok (.bipush 101, 2) := by decide +kernel
theorem dX0_hasRoot_25 : decode cX0_hasRoot 25 = .ok (.irem, 1) := by decide +kernel
theorem dX0_hasRoot_26 : decode cX0_hasRoot 26 = .ok (.istore 5, 2) := by decide +kernel
theorem dX0_hasRoot_28 : decode cX0_hasRoot 28 = .ok (.iload 5, 2) := by decide +kernel
theorem dX0_hasRoot_30 : decode cX0_hasRoot 30 = .ok (.iload 4, 2) := by decide +kernel
theorem dX0_hasRoot_32 : decode cX0_hasRoot 32 = .ok (.imul, 1) := by decide +kernel
theorem dX0_hasRoot_33 : decode cX0_hasRoot 33 = .ok (.iload_n 2, 1) := by decide +kernel
theorem dX0_hasRoot_34 : decode cX0_hasRoot 34 = .ok (.iadd, 1) := by decide +kernel
theorem dX0_hasRoot_35 : decode cX0_hasRoot 35 = .ok (.bipush 101, 2) := by decide +kernel
theorem dX0_hasRoot_37 : decode cX0_hasRoot 37 = .ok (.irem, 1) := by decide +kernel
theorem dX0_hasRoot_38 : decode cX0_hasRoot 38 = .ok (.iload 4, 2) := by decide +kernel
theorem dX0_hasRoot_40 : decode cX0_hasRoot 40 = .ok (.imul, 1) := by decide +kernel
theorem dX0_hasRoot_41 : decode cX0_hasRoot 41 = .ok (.iload_n 1, 1) := by decide +kernel
theorem dX0_hasRoot_42 : decode cX0_hasRoot 42 = .ok (.iadd, 1) := by decide +kernel
theorem dX0_hasRoot_43 : decode cX0_hasRoot 43 = .ok (.bipush 101, 2) := by decide +kernel
theorem dX0_hasRoot_45 : decode cX0_hasRoot 45 = .ok (.irem, 1) := by decide +kernel
theorem dX0_hasRoot_46 : decode cX0_hasRoot 46 = .ok (.ifCond .ne 5, 3) := by decide +kernel
theorem dX0_hasRoot_49 : decode cX0_hasRoot 49 = .ok (.iconst 1, 1) := by decide +kernel
theorem dX0_hasRoot_50 : decode cX0_hasRoot 50 = .ok (.ireturn, 1) := by decide +kernel
theorem dX0_hasRoot_51 : decode cX0_hasRoot 51 = .ok (.iinc 4 1, 3) := by decide +kernel
theorem dX0_hasRoot_54 : decode cX0_hasRoot 54 = .ok (.goto (-51), 3) := by decide +kernel
theorem dX0_hasRoot_57 : decode cX0_hasRoot 57 = .ok (.iconst 0, 1) := by decide +kernel
theorem dX0_hasRoot_58 : decode cX0_hasRoot 58 = .ok (.ireturn, 1) := by decide +kernel
theorem dX0_modulusAt_0 : decode cX0_modulusAt 0 = .ok (.iload_n 1, 1) := by decide +kernel
theorem dX0_modulusAt_1 : decode cX0_modulusAt 1 = .ok (.aload_n 0, 1) := by decide +kernel
theorem dX0_modulusAt_2 : decode cX0_modulusAt 2 = .ok (.getfield 9, 3) := by decide +kernel
theorem dX0_modulusAt_5 : decode cX0_modulusAt 5 = .ok (.if_icmp .ne 5, 3) := by decide +kernel
theorem dX0_modulusAt_8 : decode cX0_modulusAt 8 = .ok (.iconst 1, 1) := by decide +kernel
theorem dX0_modulusAt_9 : decode cX0_modulusAt 9 = .ok (.ireturn, 1) := by decide +kernel
theorem dX0_modulusAt_10 : decode cX0_modulusAt 10 = .ok (.iload_n 1, 1) := by decide +kernel
theorem dX0_modulusAt_11 : decode cX0_modulusAt 11 = .ok (.tableswitch 40 0 2 #[25, 30, 35], 25) := by decide +kernel
theorem dX0_modulusAt_36 : decode cX0_modulusAt 36 = .ok (.aload_n 0, 1) := by decide +kernel
theorem dX0_modulusAt_37 : decode cX0_modulusAt 37 = .ok (.getfield 18, 3) := by decide +kernel
theorem dX0_modulusAt_40 : decode cX0_modulusAt 40 = .ok (.ireturn, 1) := by decide +kernel
theorem dX0_modulusAt_41 : decode cX0_modulusAt 41 = .ok (.aload_n 0, 1) := by decide +kernel
theorem dX0_modulusAt_42 : decode cX0_modulusAt 42 = .ok (.getfield 21, 3) := by decide +kernel
theorem dX0_modulusAt_45 : decode cX0_modulusAt 45 = .ok (.ireturn, 1) := by decide +kernel
theorem dX0_modulusAt_46 : decode cX0_modulusAt 46 = .ok (.aload_n 0, 1) := by decide +kernel
theorem dX0_modulusAt_47 : decode cX0_modulusAt 47 = .ok (.getfield 24, 3) := by decide +kernel
theorem dX0_modulusAt_50 : decode cX0_modulusAt 50 = .ok (.ireturn, 1) := by decide +kernel
theorem dX0_modulusAt_51 : decode cX0_modulusAt 51 = .ok (.iconst 0, 1) := by decide +kernel
theorem dX0_modulusAt_52 : decode cX0_modulusAt 52 = .ok (.ireturn, 1) := by decide +kernel
theorem dX0_plus_0 : decode cX0_plus 0 = .ok (.iload_n 1, 1) := by decide +kernel
theorem dX0_plus_1 : decode cX0_plus 1 = .ok (.bipush 101, 2) := by decide +kernel
theorem dX0_plus_3 : decode cX0_plus 3 = .ok (.irem, 1) := by decide +kernel
theorem dX0_plus_4 : decode cX0_plus 4 = .ok (.iload_n 2, 1) := by decide +kernel
theorem dX0_plus_5 : decode cX0_plus 5 = .ok (.bipush 101, 2) := by decide +kernel
theorem dX0_plus_7 : decode cX0_plus 7 = .ok (.irem, 1) := by decide +kernel
theorem dX0_plus_8 : decode cX0_plus 8 = .ok (.iadd, 1) := by decide +kernel
theorem dX0_plus_9 : decode cX0_plus 9 = .ok (.bipush 101, 2) := by decide +kernel
theorem dX0_plus_11 : decode cX0_plus 11 = .ok (.irem, 1) := by decide +kernel
theorem dX0_plus_12 : decode cX0_plus 12 = .ok (.istore_n 3, 1) := by decide +kernel
theorem dX0_plus_13 : decode cX0_plus 13 = .ok (.iload_n 1, 1) := by decide +kernel
theorem dX0_plus_14 : decode cX0_plus 14 = .ok (.bipush 101, 2) := by decide +kernel
theorem dX0_plus_16 : decode cX0_plus 16 = .ok (.idiv, 1) := by decide +kernel
theorem dX0_plus_17 : decode cX0_plus 17 = .ok (.bipush 101, 2) := by decide +kernel
theorem dX0_plus_19 : decode cX0_plus 19 = .ok (.irem, 1) := by decide +kernel
theorem dX0_plus_20 : decode cX0_plus 20 = .ok (.iload_n 2, 1) := by decide +kernel
theorem dX0_plus_21 : decode cX0_plus 21 = .ok (.bipush 101, 2) := by decide +kernel
theorem dX0_plus_23 : decode cX0_plus 23 = .ok (.idiv, 1) := by decide +kernel
theorem dX0_plus_24 : decode cX0_plus 24 = .ok (.bipush 101, 2) := by decide +kernel
theorem dX0_plus_26 : decode cX0_plus 26 = .ok (.irem, 1) := by decide +kernel
theorem dX0_plus_27 : decode cX0_plus 27 = .ok (.iadd, 1) := by decide +kernel
theorem dX0_plus_28 : decode cX0_plus 28 = .ok (.bipush 101, 2) := by decide +kernel
theorem dX0_plus_30 : decode cX0_plus 30 = .ok (.irem, 1) := by decide +kernel
theorem dX0_plus_31 : decode cX0_plus 31 = .ok (.istore 4, 2) := by decide +kernel
theorem dX0_plus_33 : decode cX0_plus 33 = .ok (.iload_n 1, 1) := by decide +kernel
theorem dX0_plus_34 : decode cX0_plus 34 = .ok (.sipush 10201, 3) := by decide +kernel
theorem dX0_plus_37 : decode cX0_plus 37 = .ok (.idiv, 1) := by decide +kernel
theorem dX0_plus_38 : decode cX0_plus 38 = .ok (.iload_n 2, 1) := by decide +kernel
theorem dX0_plus_39 : decode cX0_plus 39 = .ok (.sipush 10201, 3) := by decide +kernel
theorem dX0_plus_42 : decode cX0_plus 42 = .ok (.idiv, 1) := by decide +kernel
theorem dX0_plus_43 : decode cX0_plus 43 = .ok (.iadd, 1) := by decide +kernel
theorem dX0_plus_44 : decode cX0_plus 44 = .ok (.bipush 101, 2) := by decide +kernel
theorem dX0_plus_46 : decode cX0_plus 46 = .ok (.irem, 1) := by decide +kernel
theorem dX0_plus_47 : decode cX0_plus 47 = .ok (.istore 5, 2) := by decide +kernel
theorem dX0_plus_49 : decode cX0_plus 49 = .ok (.iload_n 3, 1) := by decide +kernel
theorem dX0_plus_50 : decode cX0_plus 50 = .ok (.bipush 101, 2) := by decide +kernel
theorem dX0_plus_52 : decode cX0_plus 52 = .ok (.iload 4, 2) := by decide +kernel
theorem dX0_plus_54 : decode cX0_plus 54 = .ok (.imul, 1) := by decide +kernel
theorem dX0_plus_55 : decode cX0_plus 55 = .ok (.iadd, 1) := by decide +kernel
theorem dX0_plus_56 : decode cX0_plus 56 = .ok (.sipush 10201, 3) := by decide +kernel
theorem dX0_plus_59 : decode cX0_plus 59 = .ok (.iload 5, 2) := by decide +kernel
theorem dX0_plus_61 : decode cX0_plus 61 = .ok (.imul, 1) := by decide +kernel
theorem dX0_plus_62 : decode cX0_plus 62 = .ok (.iadd, 1) := by decide +kernel
theorem dX0_plus_63 : decode cX0_plus 63 = .ok (.ireturn, 1) := by decide +kernel
theorem dX0_minus_0 : decode cX0_minus 0 = .ok (.iload_n 1, 1) := by decide +kernel
theorem dX0_minus_1 : decode cX0_minus 1 = .ok (.bipush 101, 2) := by decide +kernel
theorem dX0_minus_3 : decode cX0_minus 3 = .ok (.irem, 1) := by decide +kernel
theorem dX0_minus_4 : decode cX0_minus 4 = .ok (.iload_n 2, 1) := by decide +kernel
theorem dX0_minus_5 : decode cX0_minus 5 = .ok (.bipush 101, 2) := by decide +kernel
theorem dX0_minus_7 : decode cX0_minus 7 = .ok (.irem, 1) := by decide +kernel
theorem dX0_minus_8 : decode cX0_minus 8 = .ok (.isub, 1) := by decide +kernel
theorem dX0_minus_9 : decode cX0_minus 9 = .ok (.bipush 101, 2) := by decide +kernel
theorem dX0_minus_11 : decode cX0_minus 11 = .ok (.iadd, 1) := by decide +kernel
theorem dX0_minus_12 : decode cX0_minus 12 = .ok (.bipush 101, 2) := by decide +kernel
theorem dX0_minus_14 : decode cX0_minus 14 = .ok (.irem, 1) := by decide +kernel
theorem dX0_minus_15 : decode cX0_minus 15 = .ok (.istore_n 3, 1) := by decide +kernel
theorem dX0_minus_16 : decode cX0_minus 16 = .ok (.iload_n 1, 1) := by decide +kernel
theorem dX0_minus_17 : decode cX0_minus 17 = .ok (.bipush 101, 2) := by decide +kernel
theorem dX0_minus_19 : decode cX0_minus 19 = .ok (.idiv, 1) := by decide +kernel
theorem dX0_minus_20 : decode cX0_minus 20 = .ok (.bipush 101, 2) := by decide +kernel
theorem dX0_minus_22 : decode cX0_minus 22 = .ok (.irem, 1) := by decide +kernel
theorem dX0_minus_23 : decode cX0_minus 23 = .ok (.iload_n 2, 1) := by decide +kernel
theorem dX0_minus_24 : decode cX0_minus 24 = .ok (.bipush 101, 2) := by decide +kernel
theorem dX0_minus_26 : decode cX0_minus 26 = .ok (.idiv, 1) := by decide +kernel
theorem dX0_minus_27 : decode cX0_minus 27 = .ok (.bipush 101, 2) := by decide +kernel
theorem dX0_minus_29 : decode cX0_minus 29 = .ok (.irem, 1) := by decide +kernel
theorem dX0_minus_30 : decode cX0_minus 30 = .ok (.isub, 1) := by decide +kernel
theorem dX0_minus_31 : decode cX0_minus 31 = .ok (.bipush 101, 2) := by decide +kernel
theorem dX0_minus_33 : decode cX0_minus 33 = .ok (.iadd, 1) := by decide +kernel
theorem dX0_minus_34 : decode cX0_minus 34 = .ok (.bipush 101, 2) := by decide +kernel
theorem dX0_minus_36 : decode cX0_minus 36 = .ok (.irem, 1) := by decide +kernel
theorem dX0_minus_37 : decode cX0_minus 37 = .ok (.istore 4, 2) := by decide +kernel
theorem dX0_minus_39 : decode cX0_minus 39 = .ok (.iload_n 1, 1) := by decide +kernel
theorem dX0_minus_40 : decode cX0_minus 40 = .ok (.sipush 10201, 3) := by decide +kernel
theorem dX0_minus_43 : decode cX0_minus 43 = .ok (.idiv, 1) := by decide +kernel
theorem dX0_minus_44 : decode cX0_minus 44 = .ok (.iload_n 2, 1) := by decide +kernel
theorem dX0_minus_45 : decode cX0_minus 45 = .ok (.sipush 10201, 3) := by decide +kernel
theorem dX0_minus_48 : decode cX0_minus 48 = .ok (.idiv, 1) := by decide +kernel
theorem dX0_minus_49 : decode cX0_minus 49 = .ok (.isub, 1) := by decide +kernel
theorem dX0_minus_50 : decode cX0_minus 50 = .ok (.bipush 101, 2) := by decide +kernel
theorem dX0_minus_52 : decode cX0_minus 52 = .ok (.iadd, 1) := by decide +kernel
theorem dX0_minus_53 : decode cX0_minus 53 = .ok (.bipush 101, 2) := by decide +kernel
theorem dX0_minus_55 : decode cX0_minus 55 = .ok (.irem, 1) := by decide +kernel
theorem dX0_minus_56 : decode cX0_minus 56 = .ok (.istore 5, 2) := by decide +kernel
theorem dX0_minus_58 : decode cX0_minus 58 = .ok (.iload_n 3, 1) := by decide +kernel
theorem dX0_minus_59 : decode cX0_minus 59 = .ok (.bipush 101, 2) := by decide +kernel
theorem dX0_minus_61 : decode cX0_minus 61 = .ok (.iload 4, 2) := by decide +kernel
theorem dX0_minus_63 : decode cX0_minus 63 = .ok (.imul, 1) := by decide +kernel
theorem dX0_minus_64 : decode cX0_minus 64 = .ok (.iadd, 1) := by decide +kernel
theorem dX0_minus_65 : decode cX0_minus 65 = .ok (.sipush 10201, 3) := by decide +kernel
theorem dX0_minus_68 : decode cX0_minus 68 = .ok (.iload 5, 2) := by decide +kernel
theorem dX0_minus_70 : decode cX0_minus 70 = .ok (.imul, 1) := by decide +kernel
theorem dX0_minus_71 : decode cX0_minus 71 = .ok (.iadd, 1) := by decide +kernel
theorem dX0_minus_72 : decode cX0_minus 72 = .ok (.ireturn, 1) := by decide +kernel
theorem dX0_times_0 : decode cX0_times 0 = .ok (.iload_n 1, 1) := by decide +kernel
theorem dX0_times_1 : decode cX0_times 1 = .ok (.bipush 101, 2) := by decide +kernel
theorem dX0_times_3 : decode cX0_times 3 = .ok (.if_icmp .ge 16, 3) := by decide +kernel
theorem dX0_times_6 : decode cX0_times 6 = .ok (.iload_n 2, 1) := by decide +kernel
theorem dX0_times_7 : decode cX0_times 7 = .ok (.bipush 101, 2) := by decide +kernel
theorem dX0_times_9 : decode cX0_times 9 = .ok (.if_icmp .ge 10, 3) := by decide +kernel
theorem dX0_times_12 : decode cX0_times 12 = .ok (.iload_n 1, 1) := by decide +kernel
theorem dX0_times_13 : decode cX0_times 13 = .ok (.iload_n 2, 1) := by decide +kernel
theorem dX0_times_14 : decode cX0_times 14 = .ok (.imul, 1) := by decide +kernel
theorem dX0_times_15 : decode cX0_times 15 = .ok (.bipush 101, 2) := by decide +kernel
theorem dX0_times_17 : decode cX0_times 17 = .ok (.irem, 1) := by decide +kernel
theorem dX0_times_18 : decode cX0_times 18 = .ok (.ireturn, 1) := by decide +kernel
theorem dX0_times_19 : decode cX0_times 19 = .ok (.iload_n 1, 1) := by decide +kernel
theorem dX0_times_20 : decode cX0_times 20 = .ok (.bipush 101, 2) := by decide +kernel
theorem dX0_times_22 : decode cX0_times 22 = .ok (.irem, 1) := by decide +kernel
theorem dX0_times_23 : decode cX0_times 23 = .ok (.istore_n 3, 1) := by decide +kernel
theorem dX0_times_24 : decode cX0_times 24 = .ok (.iload_n 1, 1) := by decide +kernel
theorem dX0_times_25 : decode cX0_times 25 = .ok (.bipush 101, 2) := by decide +kernel
theorem dX0_times_27 : decode cX0_times 27 = .ok (.idiv, 1) := by decide +kernel
theorem dX0_times_28 : decode cX0_times 28 = .ok (.bipush 101, 2) := by decide +kernel
theorem dX0_times_30 : decode cX0_times 30 = .ok (.irem, 1) := by decide +kernel
theorem dX0_times_31 : decode cX0_times 31 = .ok (.istore 4, 2) := by decide +kernel
theorem dX0_times_33 : decode cX0_times 33 = .ok (.iload_n 1, 1) := by decide +kernel
theorem dX0_times_34 : decode cX0_times 34 = .ok (.sipush 10201, 3) := by decide +kernel
theorem dX0_times_37 : decode cX0_times 37 = .ok (.idiv, 1) := by decide +kernel
theorem dX0_times_38 : decode cX0_times 38 = .ok (.istore 5, 2) := by decide +kernel
theorem dX0_times_40 : decode cX0_times 40 = .ok (.iload_n 2, 1) := by decide +kernel
theorem dX0_times_41 : decode cX0_times 41 = .ok (.bipush 101, 2) := by decide +kernel
theorem dX0_times_43 : decode cX0_times 43 = .ok (.irem, 1) := by decide +kernel
theorem dX0_times_44 : decode cX0_times 44 = .ok (.istore 6, 2) := by decide +kernel
theorem dX0_times_46 : decode cX0_times 46 = .ok (.iload_n 2, 1) := by decide +kernel
theorem dX0_times_47 : decode cX0_times 47 = .ok (.bipush 101, 2) := by decide +kernel
theorem dX0_times_49 : decode cX0_times 49 = .ok (.idiv, 1) := by decide +kernel
theorem dX0_times_50 : decode cX0_times 50 = .ok (.bipush 101, 2) := by decide +kernel
theorem dX0_times_52 : decode cX0_times 52 = .ok (.irem, 1) := by decide +kernel
theorem dX0_times_53 : decode cX0_times 53 = .ok (.istore 7, 2) := by decide +kernel
theorem dX0_times_55 : decode cX0_times 55 = .ok (.iload_n 2, 1) := by decide +kernel
theorem dX0_times_56 : decode cX0_times 56 = .ok (.sipush 10201, 3) := by decide +kernel
theorem dX0_times_59 : decode cX0_times 59 = .ok (.idiv, 1) := by decide +kernel
theorem dX0_times_60 : decode cX0_times 60 = .ok (.istore 8, 2) := by decide +kernel
theorem dX0_times_62 : decode cX0_times 62 = .ok (.iload_n 3, 1) := by decide +kernel
theorem dX0_times_63 : decode cX0_times 63 = .ok (.iload 6, 2) := by decide +kernel
theorem dX0_times_65 : decode cX0_times 65 = .ok (.imul, 1) := by decide +kernel
theorem dX0_times_66 : decode cX0_times 66 = .ok (.istore 9, 2) := by decide +kernel
theorem dX0_times_68 : decode cX0_times 68 = .ok (.iload_n 3, 1) := by decide +kernel
theorem dX0_times_69 : decode cX0_times 69 = .ok (.iload 7, 2) := by decide +kernel
theorem dX0_times_71 : decode cX0_times 71 = .ok (.imul, 1) := by decide +kernel
theorem dX0_times_72 : decode cX0_times 72 = .ok (.iload 4, 2) := by decide +kernel
theorem dX0_times_74 : decode cX0_times 74 = .ok (.iload 6, 2) := by decide +kernel
theorem dX0_times_76 : decode cX0_times 76 = .ok (.imul, 1) := by decide +kernel
theorem dX0_times_77 : decode cX0_times 77 = .ok (.iadd, 1) := by decide +kernel
theorem dX0_times_78 : decode cX0_times 78 = .ok (.istore 10, 2) := by decide +kernel
theorem dX0_times_80 : decode cX0_times 80 = .ok (.iload_n 3, 1) := by decide +kernel
theorem dX0_times_81 : decode cX0_times 81 = .ok (.iload 8, 2) := by decide +kernel
theorem dX0_times_83 : decode cX0_times 83 = .ok (.imul, 1) := by decide +kernel
theorem dX0_times_84 : decode cX0_times 84 = .ok (.iload 4, 2) := by decide +kernel
theorem dX0_times_86 : decode cX0_times 86 = .ok (.iload 7, 2) := by decide +kernel
theorem dX0_times_88 : decode cX0_times 88 = .ok (.imul, 1) := by decide +kernel
theorem dX0_times_89 : decode cX0_times 89 = .ok (.iadd, 1) := by decide +kernel
theorem dX0_times_90 : decode cX0_times 90 = .ok (.iload 5, 2) := by decide +kernel
theorem dX0_times_92 : decode cX0_times 92 = .ok (.iload 6, 2) := by decide +kernel
theorem dX0_times_94 : decode cX0_times 94 = .ok (.imul, 1) := by decide +kernel
theorem dX0_times_95 : decode cX0_times 95 = .ok (.iadd, 1) := by decide +kernel
theorem dX0_times_96 : decode cX0_times 96 = .ok (.istore 11, 2) := by decide +kernel
theorem dX0_times_98 : decode cX0_times 98 = .ok (.aload_n 0, 1) := by decide +kernel
theorem dX0_times_99 : decode cX0_times 99 = .ok (.getfield 9, 3) := by decide +kernel
theorem dX0_times_102 : decode cX0_times 102 = .ok (.iconst 2, 1) := by decide +kernel
theorem dX0_times_103 : decode cX0_times 103 = .ok (.if_icmp .ne 55, 3) := by decide +kernel
theorem dX0_times_106 : decode cX0_times 106 = .ok (.bipush 101, 2) := by decide +kernel
theorem dX0_times_108 : decode cX0_times 108 = .ok (.iload 11, 2) := by decide +kernel
theorem dX0_times_110 : decode cX0_times 110 = .ok (.bipush 101, 2) := by decide +kernel
theorem dX0_times_112 : decode cX0_times 112 = .ok (.irem, 1) := by decide +kernel
theorem dX0_times_113 : decode cX0_times 113 = .ok (.isub, 1) := by decide +kernel
theorem dX0_times_114 : decode cX0_times 114 = .ok (.bipush 101, 2) := by decide +kernel
theorem dX0_times_116 : decode cX0_times 116 = .ok (.irem, 1) := by decide +kernel
theorem dX0_times_117 : decode cX0_times 117 = .ok (.istore 12, 2) := by decide +kernel
theorem dX0_times_119 : decode cX0_times 119 = .ok (.iload 10, 2) := by decide +kernel
theorem dX0_times_121 : decode cX0_times 121 = .ok (.iload 12, 2) := by decide +kernel
theorem dX0_times_123 : decode cX0_times 123 = .ok (.aload_n 0, 1) := by decide +kernel
theorem dX0_times_124 : decode cX0_times 124 = .ok (.getfield 21, 3) := by decide +kernel
theorem dX0_times_127 : decode cX0_times 127 = .ok (.imul, 1) := by decide +kernel
theorem dX0_times_128 : decode cX0_times 128 = .ok (.iadd, 1) := by decide +kernel
theorem dX0_times_129 : decode cX0_times 129 = .ok (.istore 10, 2) := by decide +kernel
theorem dX0_times_131 : decode cX0_times 131 = .ok (.iload 9, 2) := by decide +kernel
theorem dX0_times_133 : decode cX0_times 133 = .ok (.iload 12, 2) := by decide +kernel
theorem dX0_times_135 : decode cX0_times 135 = .ok (.aload_n 0, 1) := by decide +kernel
theorem dX0_times_136 : decode cX0_times 136 = .ok (.getfield 18, 3) := by decide +kernel
theorem dX0_times_139 : decode cX0_times 139 = .ok (.imul, 1) := by decide +kernel
theorem dX0_times_140 : decode cX0_times 140 = .ok (.iadd, 1) := by decide +kernel
theorem dX0_times_141 : decode cX0_times 141 = .ok (.istore 9, 2) := by decide +kernel
theorem dX0_times_143 : decode cX0_times 143 = .ok (.iload 9, 2) := by decide +kernel
theorem dX0_times_145 : decode cX0_times 145 = .ok (.bipush 101, 2) := by decide +kernel
theorem dX0_times_147 : decode cX0_times 147 = .ok (.irem, 1) := by decide +kernel
theorem dX0_times_148 : decode cX0_times 148 = .ok (.bipush 101, 2) := by decide +kernel
theorem dX0_times_150 : decode cX0_times 150 = .ok (.iload 10, 2) := by decide +kernel
theorem dX0_times_152 : decode cX0_times 152 = .ok (.bipush 101, 2) := by decide +kernel
theorem dX0_times_154 : decode cX0_times 154 = .ok (.irem, 1) := by decide +kernel
theorem dX0_times_155 : decode cX0_times 155 = .ok (.imul, 1) := by decide +kernel
theorem dX0_times_156 : decode cX0_times 156 = .ok (.iadd, 1) := by decide +kernel
theorem dX0_times_157 : decode cX0_times 157 = .ok (.ireturn, 1) := by decide +kernel
theorem dX0_times_158 : decode cX0_times 158 = .ok (.bipush 101, 2) := by decide +kernel
theorem dX0_times_160 : decode cX0_times 160 = .ok (.iload 5, 2) := by decide +kernel
theorem dX0_times_162 : decode cX0_times 162 = .ok (.iload 8, 2) := by decide +kernel
theorem dX0_times_164 : decode cX0_times 164 = .ok (.imul, 1) := by decide +kernel
theorem dX0_times_165 : decode cX0_times 165 = .ok (.bipush 101, 2) := by decide +kernel
theorem dX0_times_167 : decode cX0_times 167 = .ok (.irem, 1) := by decide +kernel
theorem dX0_times_168 : decode cX0_times 168 = .ok (.isub, 1) := by decide +kernel
theorem dX0_times_169 : decode cX0_times 169 = .ok (.bipush 101, 2) := by decide +kernel
theorem dX0_times_171 : decode cX0_times 171 = .ok (.irem, 1) := by decide +kernel
theorem dX0_times_172 : decode cX0_times 172 = .ok (.istore 12, 2) := by decide +kernel
theorem dX0_times_174 : decode cX0_times 174 = .ok (.iload 4, 2) := by decide +kernel
theorem dX0_times_176 : decode cX0_times 176 = .ok (.iload 8, 2) := by decide +kernel
theorem dX0_times_178 : decode cX0_times 178 = .ok (.imul, 1) := by decide +kernel
theorem dX0_times_179 : decode cX0_times 179 = .ok (.iload 5, 2) := by decide +kernel
theorem dX0_times_181 : decode cX0_times 181 = .ok (.iload 7, 2) := by decide +kernel
theorem dX0_times_183 : decode cX0_times 183 = .ok (.imul, 1) := by decide +kernel
theorem dX0_times_184 : decode cX0_times 184 = .ok (.iadd, 1) := by decide +kernel
theorem dX0_times_185 : decode cX0_times 185 = .ok (.iload 12, 2) := by decide +kernel
theorem dX0_times_187 : decode cX0_times 187 = .ok (.aload_n 0, 1) := by decide +kernel
theorem dX0_times_188 : decode cX0_times 188 = .ok (.getfield 24, 3) := by decide +kernel
theorem dX0_times_191 : decode cX0_times 191 = .ok (.imul, 1) := by decide +kernel
theorem dX0_times_192 : decode cX0_times 192 = .ok (.iadd, 1) := by decide +kernel
theorem dX0_times_193 : decode cX0_times 193 = .ok (.istore 13, 2) := by decide +kernel
theorem dX0_times_195 : decode cX0_times 195 = .ok (.bipush 101, 2) := by decide +kernel
theorem dX0_times_197 : decode cX0_times 197 = .ok (.iload 13, 2) := by decide +kernel
theorem dX0_times_199 : decode cX0_times 199 = .ok (.bipush 101, 2) := by decide +kernel
theorem dX0_times_201 : decode cX0_times 201 = .ok (.irem, 1) := by decide +kernel
theorem dX0_times_202 : decode cX0_times 202 = .ok (.isub, 1) := by decide +kernel
theorem dX0_times_203 : decode cX0_times 203 = .ok (.bipush 101, 2) := by decide +kernel
theorem dX0_times_205 : decode cX0_times 205 = .ok (.irem, 1) := by decide +kernel
theorem dX0_times_206 : decode cX0_times 206 = .ok (.istore 14, 2) := by decide +kernel
theorem dX0_times_208 : decode cX0_times 208 = .ok (.iload 11, 2) := by decide +kernel
theorem dX0_times_210 : decode cX0_times 210 = .ok (.iload 12, 2) := by decide +kernel
theorem dX0_times_212 : decode cX0_times 212 = .ok (.aload_n 0, 1) := by decide +kernel
theorem dX0_times_213 : decode cX0_times 213 = .ok (.getfield 21, 3) := by decide +kernel
theorem dX0_times_216 : decode cX0_times 216 = .ok (.imul, 1) := by decide +kernel
theorem dX0_times_217 : decode cX0_times 217 = .ok (.iload 14, 2) := by decide +kernel
theorem dX0_times_219 : decode cX0_times 219 = .ok (.aload_n 0, 1) := by decide +kernel
theorem dX0_times_220 : decode cX0_times 220 = .ok (.getfield 24, 3) := by decide +kernel
theorem dX0_times_223 : decode cX0_times 223 = .ok (.imul, 1) := by decide +kernel
theorem dX0_times_224 : decode cX0_times 224 = .ok (.iadd, 1) := by decide +kernel
theorem dX0_times_225 : decode cX0_times 225 = .ok (.iadd, 1) := by decide +kernel
theorem dX0_times_226 : decode cX0_times 226 = .ok (.istore 11, 2) := by decide +kernel
theorem dX0_times_228 : decode cX0_times 228 = .ok (.iload 10, 2) := by decide +kernel
theorem dX0_times_230 : decode cX0_times 230 = .ok (.iload 12, 2) := by decide +kernel
theorem dX0_times_232 : decode cX0_times 232 = .ok (.aload_n 0, 1) := by decide +kernel
theorem dX0_times_233 : decode cX0_times 233 = .ok (.getfield 18, 3) := by decide +kernel
theorem dX0_times_236 : decode cX0_times 236 = .ok (.imul, 1) := by decide +kernel
theorem dX0_times_237 : decode cX0_times 237 = .ok (.iload 14, 2) := by decide +kernel
theorem dX0_times_239 : decode cX0_times 239 = .ok (.aload_n 0, 1) := by decide +kernel
theorem dX0_times_240 : decode cX0_times 240 = .ok (.getfield 21, 3) := by decide +kernel
theorem dX0_times_243 : decode cX0_times 243 = .ok (.imul, 1) := by decide +kernel
theorem dX0_times_244 : decode cX0_times 244 = .ok (.iadd, 1) := by decide +kernel
theorem dX0_times_245 : decode cX0_times 245 = .ok (.iadd, 1) := by decide +kernel
theorem dX0_times_246 : decode cX0_times 246 = .ok (.istore 10, 2) := by decide +kernel
theorem dX0_times_248 : decode cX0_times 248 = .ok (.iload 9, 2) := by decide +kernel
theorem dX0_times_250 : decode cX0_times 250 = .ok (.iload 14, 2) := by decide +kernel
theorem dX0_times_252 : decode cX0_times 252 = .ok (.aload_n 0, 1) := by decide +kernel
theorem dX0_times_253 : decode cX0_times 253 = .ok (.getfield 18, 3) := by decide +kernel
theorem dX0_times_256 : decode cX0_times 256 = .ok (.imul, 1) := by decide +kernel
theorem dX0_times_257 : decode cX0_times 257 = .ok (.iadd, 1) := by decide +kernel
theorem dX0_times_258 : decode cX0_times 258 = .ok (.istore 9, 2) := by decide +kernel
theorem dX0_times_260 : decode cX0_times 260 = .ok (.iload 9, 2) := by decide +kernel
theorem dX0_times_262 : decode cX0_times 262 = .ok (.bipush 101, 2) := by decide +kernel
theorem dX0_times_264 : decode cX0_times 264 = .ok (.irem, 1) := by decide +kernel
theorem dX0_times_265 : decode cX0_times 265 = .ok (.bipush 101, 2) := by decide +kernel
theorem dX0_times_267 : decode cX0_times 267 = .ok (.iload 10, 2) := by decide +kernel
theorem dX0_times_269 : decode cX0_times 269 = .ok (.bipush 101, 2) := by decide +kernel
theorem dX0_times_271 : decode cX0_times 271 = .ok (.irem, 1) := by decide +kernel
theorem dX0_times_272 : decode cX0_times 272 = .ok (.imul, 1) := by decide +kernel
theorem dX0_times_273 : decode cX0_times 273 = .ok (.iadd, 1) := by decide +kernel
theorem dX0_times_274 : decode cX0_times 274 = .ok (.sipush 10201, 3) := by decide +kernel
theorem dX0_times_277 : decode cX0_times 277 = .ok (.iload 11, 2) := by decide +kernel
theorem dX0_times_279 : decode cX0_times 279 = .ok (.bipush 101, 2) := by decide +kernel
theorem dX0_times_281 : decode cX0_times 281 = .ok (.irem, 1) := by decide +kernel
theorem dX0_times_282 : decode cX0_times 282 = .ok (.imul, 1) := by decide +kernel
theorem dX0_times_283 : decode cX0_times 283 = .ok (.iadd, 1) := by decide +kernel
theorem dX0_times_284 : decode cX0_times 284 = .ok (.ireturn, 1) := by decide +kernel
set_option maxRecDepth 20000 in
theorem ggX0_power_X0_times : GoodIn wsX0_power wsX0_times := goodIn_r _ [5, 6, 7, 8, 9, 10, 11, 12, 13, 14, 15, 16, 17] (by decide +kernel) (by decide +kernel)
set_option maxRecDepth 20000 in
theorem gX0_power_X0_times : GoodIn wsX0_power (wsV RX0 45 RX0 yX0_times wsX0_times) := goodIn_app (goodIn_of _ (by decide +kernel)) ggX0_power_X0_times
theorem dX0_power_0 : decode cX0_power 0 = .ok (.iconst 1, 1) := by decide +kernel
theorem dX0_power_1 : decode cX0_power 1 = .ok (.istore_n 3, 1) := by decide +kernel
theorem dX0_power_2 : decode cX0_power 2 = .ok (.iload_n 1, 1) := by decide +kernel
theorem dX0_power_3 : decode cX0_power 3 = .ok (.istore 4, 2) := by decide +kernel
theorem dX0_power_5 : decode cX0_power 5 = .ok (.iload_n 2, 1) := by decide +kernel
theorem dX0_power_6 : decode cX0_power 6 = .ok (.istore 5, 2) := by decide +kernel
theorem dX0_power_8 : decode cX0_power 8 = .ok (.iload 5, 2) := by decide +kernel
theorem dX0_power_10 : decode cX0_power 10 = .ok (.ifCond .le 38, 3) := by decide +kernel
theorem dX0_power_13 : decode cX0_power 13 = .ok (.iload 5, 2) := by decide +kernel
theorem dX0_power_15 : decode cX0_power 15 = .ok (.iconst 1, 1) := by decide +kernel
theorem dX0_power_16 : decode cX0_power 16 = .ok (.iand, 1) := by decide +kernel
theorem dX0_power_17 : decode cX0_power 17 = .ok (.iconst 1, 1) := by decide +kernel
theorem dX0_power_18 : decode cX0_power 18 = .ok (.if_icmp .ne 11, 3) := by decide +kernel
theorem dX0_power_21 : decode cX0_power 21 = .ok (.aload_n 0, 1) := by decide +kernel
theorem dX0_power_22 : decode cX0_power 22 = .ok (.iload_n 3, 1) := by decide +kernel
theorem dX0_power_23 : decode cX0_power 23 = .ok (.iload 4, 2) := by decide +kernel
theorem dX0_power_25 : decode cX0_power 25 = .ok (.invokevirtual 45, 3) := by decide +kernel
theorem dX0_power_28 : decode cX0_power 28 = .ok (.istore_n 3, 1) := by decide +kernel
theorem dX0_power_29 : decode cX0_power 29 = .ok (.aload_n 0, 1) := by decide +kernel
theorem dX0_power_30 : decode cX0_power 30 = .ok (.iload 4, 2) := by decide +kernel
theorem dX0_power_32 : decode cX0_power 32 = .ok (.iload 4, 2) := by decide +kernel
theorem dX0_power_34 : decode cX0_power 34 = .ok (.invokevirtual 45, 3) := by decide +kernel
theorem dX0_power_37 : decode cX0_power 37 = .ok (.istore 4, 2) := by decide +kernel
theorem dX0_power_39 : decode cX0_power 39 = .ok (.iload 5, 2) := by decide +kernel
theorem dX0_power_41 : decode cX0_power 41 = .ok (.iconst 1, 1) := by decide +kernel
theorem dX0_power_42 : decode cX0_power 42 = .ok (.ishr, 1) := by decide +kernel
theorem dX0_power_43 : decode cX0_power 43 = .ok (.istore 5, 2) := by decide +kernel
theorem dX0_power_45 : decode cX0_power 45 = .ok (.goto (-37), 3) := by decide +kernel
theorem dX0_power_48 : decode cX0_power 48 = .ok (.iload_n 3, 1) := by decide +kernel
theorem dX0_power_49 : decode cX0_power 49 = .ok (.ireturn, 1) := by decide +kernel
set_option maxRecDepth 20000 in
theorem ggX0_mate_X0_times : GoodIn wsX0_mate wsX0_times := goodIn_r _ [7, 8, 9, 10, 11, 16, 17, 18, 19, 20, 21, 22, 23] (by decide +kernel) (by decide +kernel)
set_option maxRecDepth 20000 in
theorem gX0_mate_X0_times : GoodIn wsX0_mate (wsV RX0 45 RX0 yX0_times wsX0_times) := goodIn_app (goodIn_of _ (by decide +kernel)) ggX0_mate_X0_times
set_option maxRecDepth 20000 in
theorem ggX0_mate_X0_plus : GoodIn wsX0_mate wsX0_plus := goodIn_r _ [15] (by decide +kernel) (by decide +kernel)
set_option maxRecDepth 20000 in
theorem gX0_mate_X0_plus : GoodIn wsX0_mate (wsV RX0 48 RX0 yX0_plus wsX0_plus) := goodIn_app (goodIn_of _ (by decide +kernel)) ggX0_mate_X0_plus
theorem dX0_mate_0 : decode cX0_mate 0 = .ok (.aload_n 0, 1) := by decide +kernel
theorem dX0_mate_1 : decode cX0_mate 1 = .ok (.iload_n 1, 1) := by decide +kernel
theorem dX0_mate_2 : decode cX0_mate 2 = .ok (.sipush 10201, 3) := by decide +kernel
theorem dX0_mate_5 : decode cX0_mate 5 = .ok (.idiv, 1) := by decide +kernel
theorem dX0_mate_6 : decode cX0_mate 6 = .ok (.aload_n 0, 1) := by decide +kernel
theorem dX0_mate_7 : decode cX0_mate 7 = .ok (.getfield 33, 3) := by decide +kernel
theorem dX0_mate_10 : decode cX0_mate 10 = .ok (.invokevirtual 45, 3) := by decide +kernel
theorem dX0_mate_13 : decode cX0_mate 13 = .ok (.istore_n 2, 1) := by decide +kernel
theorem dX0_mate_14 : decode cX0_mate 14 = .ok (.aload_n 0, 1) := by decide +kernel
theorem dX0_mate_15 : decode cX0_mate 15 = .ok (.iload_n 1, 1) := by decide +kernel
theorem dX0_mate_16 : decode cX0_mate 16 = .ok (.bipush 101, 2) := by decide +kernel
theorem dX0_mate_18 : decode cX0_mate 18 = .ok (.idiv, 1) := by decide +kernel
theorem dX0_mate_19 : decode cX0_mate 19 = .ok (.bipush 101, 2) := by decide +kernel
theorem dX0_mate_21 : decode cX0_mate 21 = .ok (.irem, 1) := by decide +kernel
theorem dX0_mate_22 : decode cX0_mate 22 = .ok (.aload_n 0, 1) := by decide +kernel
theorem dX0_mate_23 : decode cX0_mate 23 = .ok (.getfield 30, 3) := by decide +kernel
theorem dX0_mate_26 : decode cX0_mate 26 = .ok (.invokevirtual 45, 3) := by decide +kernel
theorem dX0_mate_29 : decode cX0_mate 29 = .ok (.istore_n 3, 1) := by decide +kernel
theorem dX0_mate_30 : decode cX0_mate 30 = .ok (.aload_n 0, 1) := by decide +kernel
theorem dX0_mate_31 : decode cX0_mate 31 = .ok (.iload_n 1, 1) := by decide +kernel
theorem dX0_mate_32 : decode cX0_mate 32 = .ok (.bipush 101, 2) := by decide +kernel
theorem dX0_mate_34 : decode cX0_mate 34 = .ok (.irem, 1) := by decide +kernel
theorem dX0_mate_35 : decode cX0_mate 35 = .ok (.aload_n 0, 1) := by decide +kernel
theorem dX0_mate_36 : decode cX0_mate 36 = .ok (.iload_n 3, 1) := by decide +kernel
theorem dX0_mate_37 : decode cX0_mate 37 = .ok (.iload_n 2, 1) := by decide +kernel
theorem dX0_mate_38 : decode cX0_mate 38 = .ok (.invokevirtual 48, 3) := by decide +kernel
theorem dX0_mate_41 : decode cX0_mate 41 = .ok (.invokevirtual 48, 3) := by decide +kernel
theorem dX0_mate_44 : decode cX0_mate 44 = .ok (.ireturn, 1) := by decide +kernel
set_option maxRecDepth 20000 in
theorem ggX0_isSquare_X0_power : GoodIn wsX0_isSquare wsX0_power := goodIn_r _ [6, 7, 8, 9, 5, 10, 11, 12, 13, 14, 15, 16, 17, 18, 19, 20, 21, 22] (by decide +kernel) (by decide +kernel)
set_option maxRecDepth 20000 in
theorem gX0_isSquare_X0_power : GoodIn wsX0_isSquare (wsV RX0 41 RX0 yX0_power wsX0_power) := goodIn_app (goodIn_of _ (by decide +kernel)) ggX0_isSquare_X0_power
theorem dX0_isSquare_0 : decode cX0_isSquare 0 = .ok (.iload_n 1, 1) := by decide +kernel
theorem dX0_isSquare_1 : decode cX0_isSquare 1 = .ok (.ifCond .eq 18, 3) := by decide +kernel
theorem dX0_isSquare_4 : decode cX0_isSquare 4 = .ok (.aload_n 0, 1) := by decide +kernel
theorem dX0_isSquare_5 : decode cX0_isSquare 5 = .ok (.iload_n 1, 1) := by decide +kernel
theorem dX0_isSquare_6 : decode cX0_isSquare 6 = .ok (.aload_n 0, 1) := by decide +kernel
theorem dX0_isSquare_7 : decode cX0_isSquare 7 = .ok (.getfield 15, 3) := by decide +kernel
theorem dX0_isSquare_10 : decode cX0_isSquare 10 = .ok (.iconst 2, 1) := by decide +kernel
theorem dX0_isSquare_11 : decode cX0_isSquare 11 = .ok (.idiv, 1) := by decide +kernel
theorem dX0_isSquare_12 : decode cX0_isSquare 12 = .ok (.invokevirtual 41, 3) := by decide +kernel
theorem dX0_isSquare_15 : decode cX0_isSquare 15 = .ok (.iconst 1, 1) := by decide +kernel
theorem dX0_isSquare_16 : decode cX0_isSquare 16 = .ok (.if_icmp .ne 7, 3) := by decide +kernel
theorem dX0_isSquare_19 : decode cX0_isSquare 19 = .ok (.iconst 1, 1) := by decide +kernel
theorem dX0_isSquare_20 : decode cX0_isSquare 20 = .ok (.goto 4, 3) := by decide +kernel
theorem dX0_isSquare_23 : decode cX0_isSquare 23 = .ok (.iconst 0, 1) := by decide +kernel
theorem dX0_isSquare_24 : decode cX0_isSquare 24 = .ok (.ireturn, 1) := by decide +kernel
set_option maxRecDepth 20000 in
theorem ggX0_matesProduct_X0_mate : GoodIn wsX0_matesProduct wsX0_mate := goodIn_r _ [6, 7, 8, 9, 10, 11, 5, 12, 1, 13, 14, 15, 16, 17, 18, 19, 20, 21, 22, 23, 24, 25, 26, 27] (by decide +kernel) (by decide +kernel)
set_option maxRecDepth 20000 in
theorem gX0_matesProduct_X0_mate : GoodIn wsX0_matesProduct (wsV RX0 51 RX0 yX0_mate wsX0_mate) := goodIn_app (goodIn_of _ (by decide +kernel)) ggX0_matesProduct_X0_mate
set_option maxRecDepth 20000 in
theorem ggX0_matesProduct_X0_times : GoodIn wsX0_matesProduct wsX0_times := goodIn_r _ [12, 1, 13, 14, 15, 20, 21, 22, 23, 24, 25, 26, 27] (by decide +kernel) (by decide +kernel)
set_option maxRecDepth 20000 in
theorem gX0_matesProduct_X0_times : GoodIn wsX0_matesProduct (wsV RX0 45 RX0 yX0_times wsX0_times) := goodIn_app (goodIn_of _ (by decide +kernel)) ggX0_matesProduct_X0_times
theorem dX0_matesProduct_0 : decode cX0_matesProduct 0 = .ok (.iload_n 1, 1) := by decide +kernel
theorem dX0_matesProduct_1 : decode cX0_matesProduct 1 = .ok (.istore_n 2, 1) := by decide +kernel
theorem dX0_matesProduct_2 : decode cX0_matesProduct 2 = .ok (.iload_n 1, 1) := by decide +kernel
theorem dX0_matesProduct_3 : decode cX0_matesProduct 3 = .ok (.istore_n 3, 1) := by decide +kernel
theorem dX0_matesProduct_4 : decode cX0_matesProduct 4 = .ok (.iconst 1, 1) := by decide +kernel
theorem dX0_matesProduct_5 : decode cX0_matesProduct 5 = .ok (.istore 4, 2) := by decide +kernel
theorem dX0_matesProduct_7 : decode cX0_matesProduct 7 = .ok (.iload 4, 2) := by decide +kernel
theorem dX0_matesProduct_9 : decode cX0_matesProduct 9 = .ok (.aload_n 0, 1) := by decide +kernel
theorem dX0_matesProduct_10 : decode cX0_matesProduct 10 = .ok (.getfield 9, 3) := by decide +kernel
theorem dX0_matesProduct_13 : decode cX0_matesProduct 13 = .ok (.if_icmp .ge 22, 3) := by decide +kernel
theorem dX0_matesProduct_16 : decode cX0_matesProduct 16 = .ok (.aload_n 0, 1) := by decide +kernel
theorem dX0_matesProduct_17 : decode cX0_matesProduct 17 = .ok (.iload_n 3, 1) := by decide +kernel
theorem dX0_matesProduct_18 : decode cX0_matesProduct 18 = .ok (.invokevirtual 51, 3) := by decide +kernel
theorem dX0_matesProduct_21 : decode cX0_matesProduct 21 = .ok (.istore_n 3, 1) := by decide +kernel
theorem dX0_matesProduct_22 : decode cX0_matesProduct 22 = .ok (.aload_n 0, 1) := by decide +kernel
theorem dX0_matesProduct_23 : decode cX0_matesProduct 23 = .ok (.iload_n 2, 1) := by decide +kernel
theorem dX0_matesProduct_24 : decode cX0_matesProduct 24 = .ok (.iload_n 3, 1) := by decide +kernel
theorem dX0_matesProduct_25 : decode cX0_matesProduct 25 = .ok (.invokevirtual 45, 3) := by decide +kernel
theorem dX0_matesProduct_28 : decode cX0_matesProduct 28 = .ok (.istore_n 2, 1) := by decide +kernel
theorem dX0_matesProduct_29 : decode cX0_matesProduct 29 = .ok (.iinc 4 1, 3) := by decide +kernel
theorem dX0_matesProduct_32 : decode cX0_matesProduct 32 = .ok (.goto (-25), 3) := by decide +kernel
theorem dX0_matesProduct_35 : decode cX0_matesProduct 35 = .ok (.iload_n 2, 1) := by decide +kernel
theorem dX0_matesProduct_36 : decode cX0_matesProduct 36 = .ok (.ireturn, 1) := by decide +kernel
set_option maxRecDepth 20000 in
theorem ggX0_matesSum_X0_mate : GoodIn wsX0_matesSum wsX0_mate := goodIn_r _ [6, 7, 8, 9, 10, 11, 5, 12, 1, 13, 14, 15, 16, 17, 18, 19, 20, 21, 22, 23, 24, 25, 26, 27] (by decide +kernel) (by decide +kernel)
set_option maxRecDepth 20000 in
theorem gX0_matesSum_X0_mate : GoodIn wsX0_matesSum (wsV RX0 51 RX0 yX0_mate wsX0_mate) := goodIn_app (goodIn_of _ (by decide +kernel)) ggX0_matesSum_X0_mate
set_option maxRecDepth 20000 in
theorem ggX0_matesSum_X0_plus : GoodIn wsX0_matesSum wsX0_plus := goodIn_r _ [19] (by decide +kernel) (by decide +kernel)
set_option maxRecDepth 20000 in
theorem gX0_matesSum_X0_plus : GoodIn wsX0_matesSum (wsV RX0 48 RX0 yX0_plus wsX0_plus) := goodIn_app (goodIn_of _ (by decide +kernel)) ggX0_matesSum_X0_plus
theorem dX0_matesSum_0 : decode cX0_matesSum 0 = .ok (.iload_n 1, 1) := by decide +kernel
theorem dX0_matesSum_1 : decode cX0_matesSum 1 = .ok (.istore_n 2, 1) := by decide +kernel
theorem dX0_matesSum_2 : decode cX0_matesSum 2 = .ok (.iload_n 1, 1) := by decide +kernel
theorem dX0_matesSum_3 : decode cX0_matesSum 3 = .ok (.istore_n 3, 1) := by decide +kernel
theorem dX0_matesSum_4 : decode cX0_matesSum 4 = .ok (.iconst 1, 1) := by decide +kernel
theorem dX0_matesSum_5 : decode cX0_matesSum 5 = .ok (.istore 4, 2) := by decide +kernel
theorem dX0_matesSum_7 : decode cX0_matesSum 7 = .ok (.iload 4, 2) := by decide +kernel
theorem dX0_matesSum_9 : decode cX0_matesSum 9 = .ok (.aload_n 0, 1) := by decide +kernel
theorem dX0_matesSum_10 : decode cX0_matesSum 10 = .ok (.getfield 9, 3) := by decide +kernel
theorem dX0_matesSum_13 : decode cX0_matesSum 13 = .ok (.if_icmp .ge 22, 3) := by decide +kernel
theorem dX0_matesSum_16 : decode cX0_matesSum 16 = .ok (.aload_n 0, 1) := by decide +kernel
theorem dX0_matesSum_17 : decode cX0_matesSum 17 = .ok (.iload_n 3, 1) := by decide +kernel
theorem dX0_matesSum_18 : decode cX0_matesSum 18 = .ok (.invokevirtual 51, 3) := by decide +kernel
theorem dX0_matesSum_21 : decode cX0_matesSum 21 = .ok (.istore_n 3, 1) := by decide +kernel
theorem dX0_matesSum_22 : decode cX0_matesSum 22 = .ok (.aload_n 0, 1) := by decide +kernel
theorem dX0_matesSum_23 : decode cX0_matesSum 23 = .ok (.iload_n 2, 1) := by decide +kernel
theorem dX0_matesSum_24 : decode cX0_matesSum 24 = .ok (.iload_n 3, 1) := by decide +kernel
theorem dX0_matesSum_25 : decode cX0_matesSum 25 = .ok (.invokevirtual 48, 3) := by decide +kernel
theorem dX0_matesSum_28 : decode cX0_matesSum 28 = .ok (.istore_n 2, 1) := by decide +kernel
theorem dX0_matesSum_29 : decode cX0_matesSum 29 = .ok (.iinc 4 1, 3) := by decide +kernel
theorem dX0_matesSum_32 : decode cX0_matesSum 32 = .ok (.goto (-25), 3) := by decide +kernel
theorem dX0_matesSum_35 : decode cX0_matesSum 35 = .ok (.iload_n 2, 1) := by decide +kernel
theorem dX0_matesSum_36 : decode cX0_matesSum 36 = .ok (.ireturn, 1) := by decide +kernel
set_option maxRecDepth 20000 in
theorem ggX0_differentMates_X0_mate : GoodIn wsX0_differentMates wsX0_mate := goodIn_r _ [6, 7, 8, 9, 10, 11, 5, 12, 1, 13, 14, 15, 16, 17, 18, 19, 20, 21, 22, 23, 24, 25, 26, 27] (by decide +kernel) (by decide +kernel)
set_option maxRecDepth 20000 in
theorem gX0_differentMates_X0_mate : GoodIn wsX0_differentMates (wsV RX0 51 RX0 yX0_mate wsX0_mate) := goodIn_app (goodIn_of _ (by decide +kernel)) ggX0_differentMates_X0_mate
theorem dX0_differentMates_0 : decode cX0_differentMates 0 = .ok (.aload_n 0, 1) := by decide +kernel
theorem dX0_differentMates_1 : decode cX0_differentMates 1 = .ok (.iload_n 1, 1) := by decide +kernel
theorem dX0_differentMates_2 : decode cX0_differentMates 2 = .ok (.invokevirtual 51, 3) := by decide +kernel
theorem dX0_differentMates_5 : decode cX0_differentMates 5 = .ok (.iload_n 1, 1) := by decide +kernel
theorem dX0_differentMates_6 : decode cX0_differentMates 6 = .ok (.if_icmp .ne 7, 3) := by decide +kernel
theorem dX0_differentMates_9 : decode cX0_differentMates 9 = .ok (.iconst 1, 1) := by decide +kernel
theorem dX0_differentMates_10 : decode cX0_differentMates 10 = .ok (.goto 7, 3) := by decide +kernel
theorem dX0_differentMates_13 : decode cX0_differentMates 13 = .ok (.aload_n 0, 1) := by decide +kernel
theorem dX0_differentMates_14 : decode cX0_differentMates 14 = .ok (.getfield 9, 3) := by decide +kernel
theorem dX0_differentMates_17 : decode cX0_differentMates 17 = .ok (.ireturn, 1) := by decide +kernel
