theorem dX0_init_0 : decode cX0_init 0 = .ok (.aload_n 0, 1) := by decide +kernel
theorem dX0_init_1 : decode cX0_init 1 = .ok (.invokespecial 3, 3) := by decide +kernel
theorem dX0_init_4 : decode cX0_init 4 = .ok (.aload_n 0, 1) := by decide +kernel
theorem dX0_init_5 : decode cX0_init 5 = .ok (.iconst 1, 1) := by decide +kernel
theorem dX0_init_6 : decode cX0_init 6 = .ok (.putfield 9, 3) := by decide +kernel
theorem dX0_init_9 : decode cX0_init 9 = .ok (.aload_n 0, 1) := by decide +kernel
theorem dX0_init_10 : decode cX0_init 10 = .ok (.bipush 101, 2) := by decide +kernel
theorem dX0_init_12 : decode cX0_init 12 = .ok (.putfield 15, 3) := by decide +kernel
theorem dX0_init_15 : decode cX0_init 15 = .ok (.aload_n 0, 1) := by decide +kernel
theorem dX0_init_16 : decode cX0_init 16 = .ok (.iconst 0, 1) := by decide +kernel
theorem dX0_init_17 : decode cX0_init 17 = .ok (.putfield 18, 3) := by decide +kernel
theorem dX0_init_20 : decode cX0_init 20 = .ok (.aload_n 0, 1) := by decide +kernel
theorem dX0_init_21 : decode cX0_init 21 = .ok (.iconst 0, 1) := by decide +kernel
theorem dX0_init_22 : decode cX0_init 22 = .ok (.putfield 21, 3) := by decide +kernel
theorem dX0_init_25 : decode cX0_init 25 = .ok (.aload_n 0, 1) := by decide +kernel
theorem dX0_init_26 : decode cX0_init 26 = .ok (.iconst 0, 1) := by decide +kernel
theorem dX0_init_27 : decode cX0_init 27 = .ok (.putfield 24, 3) := by decide +kernel
theorem dX0_init_30 : decode cX0_init 30 = .ok (.aload_n 0, 1) := by decide +kernel
theorem dX0_init_31 : decode cX0_init 31 = .ok (.iconst 0, 1) := by decide +kernel
theorem dX0_init_32 : decode cX0_init 32 = .ok (.putfield 27, 3) := by decide +kernel
theorem dX0_init_35 : decode cX0_init 35 = .ok (.aload_n 0, 1) := by decide +kernel
theorem dX0_init_36 : decode cX0_init 36 = .ok (.iconst 0, 1) := by decide +kernel
theorem dX0_init_37 : decode cX0_init 37 = .ok (.putfield 30, 3) := by decide +kernel
theorem dX0_init_40 : decode cX0_init 40 = .ok (.aload_n 0, 1) := by decide +kernel
theorem dX0_init_41 : decode cX0_init 41 = .ok (.iconst 0, 1) := by decide +kernel
theorem dX0_init_42 : decode cX0_init 42 = .ok (.putfield 33, 3) := by decide +kernel
theorem dX0_init_45 : decode cX0_init 45 = .ok (.return_, 1) := by decide +kernel
theorem dX0_become_0 : decode cX0_become 0 = .ok (.iload_n 1, 1) := by decide +kernel
theorem dX0_become_1 : decode cX0_become 1 = .ok (.iconst 1, 1) := by decide +kernel
theorem dX0_become_2 : decode cX0_become 2 = .ok (.if_icmp .le 7, 3) := by decide +kernel
theorem dX0_become_5 : decode cX0_become 5 = .ok (.iload_n 3, 1) := by decide +kernel
theorem dX0_become_6 : decode cX0_become 6 = .ok (.goto 4, 3) := by decide +kernel
theorem dX0_become_9 : decode cX0_become 9 = .ok (.iconst 0, 1) := by decide +kernel
theorem dX0_become_10 : decode cX0_become 10 = .ok (.istore 5, 2) := by decide +kernel
theorem dX0_become_12 : decode cX0_become 12 = .ok (.iload_n 1, 1) := by decide +kernel
theorem dX0_become_13 : decode cX0_become 13 = .ok (.iconst 2, 1) := by decide +kernel
theorem dX0_become_14 : decode cX0_become 14 = .ok (.if_icmp .le 8, 3) := by decide +kernel
theorem dX0_become_17 : decode cX0_become 17 = .ok (.iload 4, 2) := by decide +kernel
theorem dX0_become_19 : decode cX0_become 19 = .ok (.goto 4, 3) := by decide +kernel
theorem dX0_become_22 : decode cX0_become 22 = .ok (.iconst 0, 1) := by decide +kernel
theorem dX0_become_23 : decode cX0_become 23 = .ok (.istore 6, 2) := by decide +kernel
theorem dX0_become_25 : decode cX0_become 25 = .ok (.iload_n 1, 1) := by decide +kernel
theorem dX0_become_26 : decode cX0_become 26 = .ok (.iconst 1, 1) := by decide +kernel
theorem dX0_become_27 : decode cX0_become 27 = .ok (.if_icmp .le 17, 3) := by decide +kernel
theorem dX0_become_30 : decode cX0_become 30 = .ok (.iload_n 1, 1) := by decide +kernel
theorem dX0_become_31 : decode cX0_become 31 = .ok (.iload_n 2, 1) := by decide +kernel
theorem dX0_become_32 : decode cX0_become 32 = .ok (.iload 5, 2) := by decide +kernel
theorem dX0_become_34 : decode cX0_become 34 = .ok (.iload 6, 2) := by decide +kernel
theorem dX0_become_36 : decode cX0_become 36 = .ok (.invokestatic 36, 3) := by decide +kernel
theorem dX0_become_39 : decode cX0_become 39 = .ok (.ifCond .eq 5, 3) := by decide +kernel
theorem dX0_become_42 : decode cX0_become 42 = .ok (.iconst 0, 1) := by decide +kernel
theorem dX0_become_43 : decode cX0_become 43 = .ok (.ireturn, 1) := by decide +kernel
theorem dX0_become_44 : decode cX0_become 44 = .ok (.aload_n 0, 1) := by decide +kernel
theorem dX0_become_45 : decode cX0_become 45 = .ok (.iload_n 1, 1) := by decide +kernel
theorem dX0_become_46 : decode cX0_become 46 = .ok (.putfield 9, 3) := by decide +kernel
theorem dX0_become_49 : decode cX0_become 49 = .ok (.aload_n 0, 1) := by decide +kernel
theorem dX0_become_50 : decode cX0_become 50 = .ok (.iload_n 1, 1) := by decide +kernel
theorem dX0_become_51 : decode cX0_become 51 = .ok (.iconst 1, 1) := by decide +kernel
theorem dX0_become_52 : decode cX0_become 52 = .ok (.if_icmp .ne 8, 3) := by decide +kernel
theorem dX0_become_55 : decode cX0_become 55 = .ok (.bipush 101, 2) := by decide +kernel
theorem dX0_become_57 : decode cX0_become 57 = .ok (.goto 16, 3) := by decide +kernel
theorem dX0_become_60 : decode cX0_become 60 = .ok (.iload_n 1, 1) := by decide +kernel
theorem dX0_become_61 : decode cX0_become 61 = .ok (.iconst 2, 1) := by decide +kernel
theorem dX0_become_62 : decode cX0_become 62 = .ok (.if_icmp .ne 9, 3) := by decide +kernel
theorem dX0_become_65 : decode cX0_become 65 = .ok (.sipush 10201, 3) := by decide +kernel
theorem dX0_become_68 : decode cX0_become 68 = .ok (.goto 5, 3) := by decide +kernel
theorem dX0_become_71 : decode cX0_become 71 = .ok (.ldc 40, 2) := by decide +kernel
theorem dX0_become_73 : decode cX0_become 73 = .ok (.putfield 15, 3) := by decide +kernel
theorem dX0_become_76 : decode cX0_become 76 = .ok (.aload_n 0, 1) := by decide +kernel
theorem dX0_become_77 : decode cX0_become 77 = .ok (.iload_n 2, 1) := by decide +kernel
theorem dX0_become_78 : decode cX0_become 78 = .ok (.putfield 18, 3) := by decide +kernel
theorem dX0_become_81 : decode cX0_become 81 = .ok (.aload_n 0, 1) := by decide +kernel
theorem dX0_become_82 : decode cX0_become 82 = .ok (.iload 5, 2) := by decide +kernel
theorem dX0_become_84 : decode cX0_become 84 = .ok (.putfield 21, 3) := by decide +kernel
theorem dX0_become_87 : decode cX0_become 87 = .ok (.aload_n 0, 1) := by decide +kernel
theorem dX0_become_88 : decode cX0_become 88 = .ok (.iload 6, 2) := by decide +kernel
theorem dX0_become_90 : decode cX0_become 90 = .ok (.putfield 24, 3) := by decide +kernel
theorem dX0_become_93 : decode cX0_become 93 = .ok (.aload_n 0, 1) := by decide +kernel
theorem dX0_become_94 : decode cX0_become 94 = .ok (.iload_n 1, 1) := by decide +kernel
theorem dX0_become_95 : decode cX0_become 95 = .ok (.iconst 1, 1) := by decide +kernel
theorem dX0_become_96 : decode cX0_become 96 = .ok (.if_icmp .ne 13, 3) := by decide +kernel
theorem dX0_become_99 : decode cX0_become 99 = .ok (.bipush 101, 2) := by decide +kernel
theorem dX0_become_101 : decode cX0_become 101 = .ok (.iload_n 2, 1) := by decide +kernel
theorem dX0_become_102 : decode cX0_become 102 = .ok (.isub, 1) := by decide +kernel
theorem dX0_become_103 : decode cX0_become 103 = .ok (.bipush 101, 2) := by decide +kernel
theorem dX0_become_105 : decode cX0_become 105 = .ok (.irem, 1) := by decide +kernel
theorem dX0_become_106 : decode cX0_become 106 = .ok (.goto 5, 3) := by decide +kernel
theorem dX0_become_109 : decode cX0_become 109 = .ok (.bipush 101, 2) := by decide +kernel
theorem dX0_become_111 : decode cX0_become 111 = .ok (.putfield 27, 3) := by decide +kernel
theorem dX0_become_114 : decode cX0_become 114 = .ok (.aload_n 0, 1) := by decide +kernel
theorem dX0_become_115 : decode cX0_become 115 = .ok (.aload_n 0, 1) := by decide +kernel
theorem dX0_become_116 : decode cX0_become 116 = .ok (.aload_n 0, 1) := by decide +kernel
theorem dX0_become_117 : decode cX0_become 117 = .ok (.getfield 27, 3) := by decide +kernel
theorem dX0_become_120 : decode cX0_become 120 = .ok (.bipush 101, 2) := by decide +kernel
theorem dX0_become_122 : decode cX0_become 122 = .ok (.invokevirtual 41, 3) := by decide +kernel
theorem dX0_become_125 : decode cX0_become 125 = .ok (.putfield 30, 3) := by decide +kernel
theorem dX0_become_128 : decode cX0_become 128 = .ok (.aload_n 0, 1) := by decide +kernel
theorem dX0_become_129 : decode cX0_become 129 = .ok (.aload_n 0, 1) := by decide +kernel
theorem dX0_become_130 : decode cX0_become 130 = .ok (.aload_n 0, 1) := by decide +kernel
theorem dX0_become_131 : decode cX0_become 131 = .ok (.getfield 30, 3) := by decide +kernel
theorem dX0_become_134 : decode cX0_become 134 = .ok (.aload_n 0, 1) := by decide +kernel
theorem dX0_become_135 : decode cX0_become 135 = .ok (.getfield 30, 3) := by decide +kernel
theorem dX0_become_138 : decode cX0_become 138 = .ok (.invokevirtual 45, 3) := by decide +kernel
theorem dX0_become_141 : decode cX0_become 141 = .ok (.putfield 33, 3) := by decide +kernel
theorem dX0_become_144 : decode cX0_become 144 = .ok (.iconst 1, 1) := by decide +kernel
theorem dX0_become_145 : decode cX0_become 145 = .ok (.ireturn, 1) := by decide +kernel
theorem dX0_hasRoot_0 : decode cX0_hasRoot 0 = .ok (.iconst 0, 1) := by decide +kernel
theorem dX0_hasRoot_1 : decode cX0_hasRoot 1 = .ok (.istore 4, 2) := by decide +kernel
theorem dX0_hasRoot_3 : decode cX0_hasRoot 3 = .ok (.iload 4, 2) := by decide +kernel
theorem dX0_hasRoot_5 : decode cX0_hasRoot 5 = .ok (.bipush 101, 2) := by decide +kernel
theorem dX0_hasRoot_7 : decode cX0_hasRoot 7 = .ok (.if_icmp .ge 50, 3) := by decide +kernel
theorem dX0_hasRoot_10 : decode cX0_hasRoot 10 = .ok (.iload_n 0, 1) := by decide +kernel
theorem dX0_hasRoot_11 : decode cX0_hasRoot 11 = .ok (.iconst 2, 1) := by decide +kernel
theorem dX0_hasRoot_12 : decode cX0_hasRoot 12 = .ok (.if_icmp .ne 7, 3) := by decide +kernel
theorem dX0_hasRoot_15 : decode cX0_hasRoot 15 = .ok (.iconst 1, 1) := by decide +kernel
theorem dX0_hasRoot_16 : decode cX0_hasRoot 16 = .ok (.goto 10, 3) := by decide +kernel
theorem dX0_hasRoot_19 : decode cX0_hasRoot 19 = .ok (.iload 4, 2) := by decide +kernel
theorem dX0_hasRoot_21 : decode cX0_hasRoot 21 = .ok (.iload_n 3, 1) := by decide +kernel
theorem dX0_hasRoot_22 : decode cX0_hasRoot 22 = .ok (.iadd, 1) := by decide +kernel
theorem dX0_hasRoot_23 : decode cX0_hasRoot 23 = .ok (.bipush 101, 2) := by decide +kernel
theorem dX0_hasRoot_25 : decode cX0_hasRoot 25 = .ok (.irem, 1) := by decide +kernel
theorem dX0_hasRoot_26 : decode cX0_hasRoot 26 = .ok (.istore 5, 2) := by decide +kernel
theorem dX0_hasRoot_28 : decode cX0_hasRoot 28 = .ok (.iload 5, 2) := by decide +kernel
theorem dX0_hasRoot_30 : decode cX0_hasRoot 30 = .ok (.iload 4, 2) := by decide +kernel
theorem dX0_hasRoot_32 : decode cX0_hasRoot 32 = .ok (.imul, 1) := by decide +kernel
theorem dX0_hasRoot_33 : decode cX0_hasRoot 33 = .ok (.iload_n 2, 1) := by decide +kernel
theorem dX0_hasRoot_34 : decode cX0_hasRoot 34 = .ok (.iadd, 1) := by decide +kernel
theorem dX0_hasRoot_35 : decode cX0_hasRoot 35 = .ok (.bipush 101, 2) := by decide +kernel
theorem dX0_hasRoot_37 : decode cX0_hasRoot 37 = .ok (.irem, 1) := by decide +kernel
theorem dX0_hasRoot_38 : decode cX0_hasRoot 38 = .ok (.iload 4, 2) := by decide +kernel
theorem dX0_hasRoot_40 : decode cX0_hasRoot 40 = .ok (.imul, 1) := by decide +kernel
theorem dX0_hasRoot_41 : decode cX0_hasRoot 41 = .ok (.iload_n 1, 1) := by decide +kernel
theorem dX0_hasRoot_42 : decode cX0_hasRoot 42 = .ok (.iadd, 1) := by decide +kernel
theorem dX0_hasRoot_43 : decode cX0_hasRoot 43 = .ok (.bipush 101, 2) := by decide +kernel
theorem dX0_hasRoot_45 : decode cX0_hasRoot 45 = .ok (.irem, 1) := by decide +kernel
theorem dX0_hasRoot_46 : decode cX0_hasRoot 46 = .ok (.ifCond .ne 5, 3) := by decide +kernel
theorem dX0_hasRoot_49 : decode cX0_hasRoot 49 = .ok (.iconst 1, 1) := by decide +kernel
theorem dX0_hasRoot_50 : decode cX0_hasRoot 50 = .ok (.ireturn, 1) := by decide +kernel
theorem dX0_hasRoot_51 : decode cX0_hasRoot 51 = .ok (.iinc 4 1, 3) := by decide +kernel
theorem dX0_hasRoot_54 : decode cX0_hasRoot 54 = .ok (.goto (-51), 3) := by decide +kernel
theorem dX0_hasRoot_57 : decode cX0_hasRoot 57 = .ok (.iconst 0, 1) := by decide +kernel
theorem dX0_hasRoot_58 : decode cX0_hasRoot 58 = .ok (.ireturn, 1) := by decide +kernel
theorem dX0_modulusAt_0 : decode cX0_modulusAt 0 = .ok (.iload_n 1, 1) := by decide +kernel
theorem dX0_modulusAt_1 : decode cX0_modulusAt 1 = .ok (.aload_n 0, 1) := by decide +kernel
theorem dX0_modulusAt_2 : decode cX0_modulusAt 2 = .ok (.getfield 9, 3) := by decide +kernel
theorem dX0_modulusAt_5 : decode cX0_modulusAt 5 = .ok (.if_icmp .ne 5, 3) := by decide +kernel
theorem dX0_modulusAt_8 : decode cX0_modulusAt 8 = .ok (.iconst 1, 1) := by decide +kernel
theorem dX0_modulusAt_9 : decode cX0_modulusAt 9 = .ok (.ireturn, 1) := by decide +kernel
theorem dX0_modulusAt_10 : decode cX0_modulusAt 10 = .ok (.iload_n 1, 1) := by decide +kernel
theorem dX0_modulusAt_11 : decode cX0_modulusAt 11 = .ok (.tableswitch 40 0 2 #[25, 30, 35], 25) := by decide +kernel
theorem dX0_modulusAt_36 : decode cX0_modulusAt 36 = .ok (.aload_n 0, 1) := by decide +kernel
theorem dX0_modulusAt_37 : decode cX0_modulusAt 37 = .ok (.getfield 18, 3) := by decide +kernel
theorem dX0_modulusAt_40 : decode cX0_modulusAt 40 = .ok (.ireturn, 1) := by decide +kernel
theorem dX0_modulusAt_41 : decode cX0_modulusAt 41 = .ok (.aload_n 0, 1) := by decide +kernel
theorem dX0_modulusAt_42 : decode cX0_modulusAt 42 = .ok (.getfield 21, 3) := by decide +kernel
theorem dX0_modulusAt_45 : decode cX0_modulusAt 45 = .ok (.ireturn, 1) := by decide +kernel
theorem dX0_modulusAt_46 : decode cX0_modulusAt 46 = .ok (.aload_n 0, 1) := by decide +kernel
theorem dX0_modulusAt_47 : decode cX0_modulusAt 47 = .ok (.getfield 24, 3) := by decide +kernel
theorem dX0_modulusAt_50 : decode cX0_modulusAt 50 = .ok (.ireturn, 1) := by decide +kernel
theorem dX0_modulusAt_51 : decode cX0_modulusAt 51 = .ok (.iconst 0, 1) := by decide +kernel
theorem dX0_modulusAt_52 : decode cX0_modulusAt 52 = .ok (.ireturn, 1) := by decide +kernel
theorem dX0_plus_0 : decode cX0_plus 0 = .ok (.iload_n 1, 1) := by decide +kernel
theorem dX0_plus_1 : decode cX0_plus 1 = .ok (.bipush 101, 2) := by decide +kernel
theorem dX0_plus_3 : decode cX0_plus 3 = .ok (.irem, 1) := by decide +kernel
theorem dX0_plus_4 : decode cX0_plus 4 = .ok (.iload_n 2, 1) := by decide +kernel
theorem dX0_plus_5 : decode cX0_plus 5 = .ok (.bipush 101, 2) := by decide +kernel
theorem dX0_plus_7 : decode cX0_plus 7 = .ok (.irem, 1) := by decide +kernel
theorem dX0_plus_8 : decode cX0_plus 8 = .ok (.iadd, 1) := by decide +kernel
theorem dX0_plus_9 : decode cX0_plus 9 = .ok (.bipush 101, 2) := by decide +kernel
theorem dX0_plus_11 : decode cX0_plus 11 = .ok (.irem, 1) := by decide +kernel
theorem dX0_plus_12 : decode cX0_plus 12 = .ok (.istore_n 3, 1) := by decide +kernel
theorem dX0_plus_13 : decode cX0_plus 13 = .ok (.iload_n 1, 1) := by decide +kernel
theorem dX0_plus_14 : decode cX0_plus 14 = .ok (.bipush 101, 2) := by decide +kernel
theorem dX0_plus_16 : decode cX0_plus 16 = .ok (.idiv, 1) := by decide +kernel
theorem dX0_plus_17 : decode cX0_plus 17 = .ok (.bipush 101, 2) := by decide +kernel
theorem dX0_plus_19 : decode cX0_plus 19 = .ok (.irem, 1) := by decide +kernel
theorem dX0_plus_20 : decode cX0_plus 20 = .ok (.iload_n 2, 1) := by decide +kernel
theorem dX0_plus_21 : decode cX0_plus 21 = .ok (.bipush 101, 2) := by decide +kernel
theorem dX0_plus_23 : decode cX0_plus 23 = .ok (.idiv, 1) := by decide +kernel
theorem dX0_plus_24 : decode cX0_plus 24 = .ok (.bipush 101, 2) := by decide +kernel
theorem dX0_plus_26 : decode cX0_plus 26 = .ok (.irem, 1) := by decide +kernel
theorem dX0_plus_27 : decode cX0_plus 27 = .ok (.iadd, 1) := by decide +kernel
theorem dX0_plus_28 : decode cX0_plus 28 = .ok (.bipush 101, 2) := by decide +kernel
theorem dX0_plus_30 : decode cX0_plus 30 = .ok (.irem, 1) := by decide +kernel
theorem dX0_plus_31 : decode cX0_plus 31 = .ok (.istore 4, 2) := by decide +kernel
theorem dX0_plus_33 : decode cX0_plus 33 = .ok (.iload_n 1, 1) := by decide +kernel
theorem dX0_plus_34 : decode cX0_plus 34 = .ok (.sipush 10201, 3) := by decide +kernel
theorem dX0_plus_37 : decode cX0_plus 37 = .ok (.idiv, 1) := by decide +kernel
theorem dX0_plus_38 : decode cX0_plus 38 = .ok (.iload_n 2, 1) := by decide +kernel
theorem dX0_plus_39 : decode cX0_plus 39 = .ok (.sipush 10201, 3) := by decide +kernel
theorem dX0_plus_42 : decode cX0_plus 42 = .ok (.idiv, 1) := by decide +kernel
theorem dX0_plus_43 : decode cX0_plus 43 = .ok (.iadd, 1) := by decide +kernel
theorem dX0_plus_44 : decode cX0_plus 44 = .ok (.bipush 101, 2) := by decide +kernel
theorem dX0_plus_46 : decode cX0_plus 46 = .ok (.irem, 1) := by decide +kernel
theorem dX0_plus_47 : decode cX0_plus 47 = .ok (.istore 5, 2) := by decide +kernel
theorem dX0_plus_49 : decode cX0_plus 49 = .ok (.iload_n 3, 1) := by decide +kernel
theorem dX0_plus_50 : decode cX0_plus 50 = .ok (.bipush 101, 2) := by decide +kernel
theorem dX0_plus_52 : decode cX0_plus 52 = .ok (.iload 4, 2) := by decide +kernel
theorem dX0_plus_54 : decode cX0_plus 54 = .ok (.imul, 1) := by decide +kernel
theorem dX0_plus_55 : decode cX0_plus 55 = .ok (.iadd, 1) := by decide +kernel
theorem dX0_plus_56 : decode cX0_plus 56 = .ok (.sipush 10201, 3) := by decide +kernel
theorem dX0_plus_59 : decode cX0_plus 59 = .ok (.iload 5, 2) := by decide +kernel
theorem dX0_plus_61 : decode cX0_plus 61 = .ok (.imul, 1) := by decide +kernel
theorem dX0_plus_62 : decode cX0_plus 62 = .ok (.iadd, 1) := by decide +kernel
theorem dX0_plus_63 : decode cX0_plus 63 = .ok (.ireturn, 1) := by decide +kernel
theorem dX0_minus_0 : decode cX0_minus 0 = .ok (.iload_n 1, 1) := by decide +kernel
theorem dX0_minus_1 : decode cX0_minus 1 = .ok (.bipush 101, 2) := by decide +kernel
theorem dX0_minus_3 : decode cX0_minus 3 = .ok (.irem, 1) := by decide +kernel
theorem dX0_minus_4 : decode cX0_minus 4 = .ok (.iload_n 2, 1) := by decide +kernel
theorem dX0_minus_5 : decode cX0_minus 5 = .ok (.bipush 101, 2) := by decide +kernel
theorem dX0_minus_7 : decode cX0_minus 7 = .ok (.irem, 1) := by decide +kernel
theorem dX0_minus_8 : decode cX0_minus 8 = .ok (.isub, 1) := by decide +kernel
theorem dX0_minus_9 : decode cX0_minus 9 = .ok (.bipush 101, 2) := by decide +kernel
theorem dX0_minus_11 : decode cX0_minus 11 = .ok (.iadd, 1) := by decide +kernel
theorem dX0_minus_12 : decode cX0_minus 12 = .ok (.bipush 101, 2) := by decide +kernel
theorem dX0_minus_14 : decode cX0_minus 14 = .ok (.irem, 1) := by decide +kernel
theorem dX0_minus_15 : decode cX0_minus 15 = .ok (.istore_n 3, 1) := by decide +kernel
theorem dX0_minus_16 : decode cX0_minus 16 = .ok (.iload_n 1, 1) := by decide +kernel
theorem dX0_minus_17 : decode cX0_minus 17 = .ok (.bipush 101, 2) := by decide +kernel
theorem dX0_minus_19 : decode cX0_minus 19 = .ok (.idiv, 1) := by decide +kernel
theorem dX0_minus_20 : decode cX0_minus 20 = .ok (.bipush 101, 2) := by decide +kernel
theorem dX0_minus_22 : decode cX0_minus 22 = .ok (.irem, 1) := by decide +kernel
theorem dX0_minus_23 : decode cX0_minus 23 = .ok (.iload_n 2, 1) := by decide +kernel
theorem dX0_minus_24 : decode cX0_minus 24 = .ok (.bipush 101, 2) := by decide +kernel
theorem dX0_minus_26 : decode cX0_minus 26 = .ok (.idiv, 1) := by decide +kernel
theorem dX0_minus_27 : decode cX0_minus 27 = .ok (.bipush 101, 2) := by decide +kernel
theorem dX0_minus_29 : decode cX0_minus 29 = .ok (.irem, 1) := by decide +kernel
theorem dX0_minus_30 : decode cX0_minus 30 = .ok (.isub, 1) := by decide +kernel
theorem dX0_minus_31 : decode cX0_minus 31 = .ok (.bipush 101, 2) := by decide +kernel
theorem dX0_minus_33 : decode cX0_minus 33 = .ok (.iadd, 1) := by decide +kernel
theorem dX0_minus_34 : decode cX0_minus 34 = .ok (.bipush 101, 2) := by decide +kernel
theorem dX0_minus_36 : decode cX0_minus 36 = .ok (.irem, 1) := by decide +kernel
theorem dX0_minus_37 : decode cX0_minus 37 = .ok (.istore 4, 2) := by decide +kernel
theorem dX0_minus_39 : decode cX0_minus 39 = .ok (.iload_n 1, 1) := by decide +kernel
theorem dX0_minus_40 : decode cX0_minus 40 = .ok (.sipush 10201, 3) := by decide +kernel
theorem dX0_minus_43 : decode cX0_minus 43 = .ok (.idiv, 1) := by decide +kernel
theorem dX0_minus_44 : decode cX0_minus 44 = .ok (.iload_n 2, 1) := by decide +kernel
theorem dX0_minus_45 : decode cX0_minus 45 = .ok (.sipush 10201, 3) := by decide +kernel
theorem dX0_minus_48 : decode cX0_minus 48 = .ok (.idiv, 1) := by decide +kernel
theorem dX0_minus_49 : decode cX0_minus 49 = .ok (.isub, 1) := by decide +kernel
theorem dX0_minus_50 : decode cX0_minus 50 = .ok (.bipush 101, 2) := by decide +kernel
theorem dX0_minus_52 : decode cX0_minus 52 = .ok (.iadd, 1) := by decide +kernel
theorem dX0_minus_53 : decode cX0_minus 53 = .ok (.bipush 101, 2) := by decide +kernel
theorem dX0_minus_55 : decode cX0_minus 55 = .ok (.irem, 1) := by decide +kernel
theorem dX0_minus_56 : decode cX0_minus 56 = .ok (.istore 5, 2) := by decide +kernel
theorem dX0_minus_58 : decode cX0_minus 58 = .ok (.iload_n 3, 1) := by decide +kernel
theorem dX0_minus_59 : decode cX0_minus 59 = .ok (.bipush 101, 2) := by decide +kernel
theorem dX0_minus_61 : decode cX0_minus 61 = .ok (.iload 4, 2) := by decide +kernel
theorem dX0_minus_63 : decode cX0_minus 63 = .ok (.imul, 1) := by decide +kernel
theorem dX0_minus_64 : decode cX0_minus 64 = .ok (.iadd, 1) := by decide +kernel
theorem dX0_minus_65 : decode cX0_minus 65 = .ok (.sipush 10201, 3) := by decide +kernel
theorem dX0_minus_68 : decode cX0_minus 68 = .ok (.iload 5, 2) := by decide +kernel
theorem dX0_minus_70 : decode cX0_minus 70 = .ok (.imul, 1) := by decide +kernel
theorem dX0_minus_71 : decode cX0_minus 71 = .ok (.iadd, 1) := by decide +kernel
theorem dX0_minus_72 : decode cX0_minus 72 = .ok (.ireturn, 1) := by decide +kernel
theorem dX0_times_0 : decode cX0_times 0 = .ok (.iload_n 1, 1) := by decide +kernel
theorem dX0_times_1 : decode cX0_times 1 = .ok (.bipush 101, 2) := by decide +kernel
theorem dX0_times_3 : decode cX0_times 3 = .ok (.if_icmp .ge 16, 3) := by decide +kernel
theorem dX0_times_6 : decode cX0_times 6 = .ok (.iload_n 2, 1) := by decide +kernel
theorem dX0_times_7 : decode cX0_times 7 = .ok (.bipush 101, 2) := by decide +kernel
theorem dX0_times_9 : decode cX0_times 9 = .ok (.if_icmp .ge 10, 3) := by decide +kernel
theorem dX0_times_12 : decode cX0_times 12 = .ok (.iload_n 1, 1) := by decide +kernel
theorem dX0_times_13 : decode cX0_times 13 = .ok (.iload_n 2, 1) := by decide +kernel
theorem dX0_times_14 : decode cX0_times 14 = .ok (.imul, 1) := by decide +kernel
theorem dX0_times_15 : decode cX0_times 15 = .ok (.bipush 101, 2) := by decide +kernel
theorem dX0_times_17 : decode cX0_times 17 = .ok (.irem, 1) := by decide +kernel
theorem dX0_times_18 : decode cX0_times 18 = .ok (.ireturn, 1) := by decide +kernel
theorem dX0_times_19 : decode cX0_times 19 = .ok (.iload_n 1, 1) := by decide +kernel
theorem dX0_times_20 : decode cX0_times 20 = .ok (.bipush 101, 2) := by decide +kernel
theorem dX0_times_22 : decode cX0_times 22 = .ok (.irem, 1) := by decide +kernel
theorem dX0_times_23 : decode cX0_times 23 = .ok (.istore_n 3, 1) := by decide +kernel
theorem dX0_times_24 : decode cX0_times 24 = .ok (.iload_n 1, 1) := by decide +kernel
theorem dX0_times_25 : decode cX0_times 25 = .ok (.bipush 101, 2) := by decide +kernel
theorem dX0_times_27 : decode cX0_times 27 = .ok (.idiv, 1) := by decide +kernel
theorem dX0_times_28 : decode cX0_times 28 = .ok (.bipush 101, 2) := by decide +kernel
theorem dX0_times_30 : decode cX0_times 30 = .ok (.irem, 1) := by decide +kernel
theorem dX0_times_31 : decode cX0_times 31 = .ok (.istore 4, 2) := by decide +kernel
theorem dX0_times_33 : decode cX0_times 33 = .ok (.iload_n 1, 1) := by decide +kernel
theorem dX0_times_34 : decode cX0_times 34 = .ok (.sipush 10201, 3) := by decide +kernel
theorem dX0_times_37 : decode cX0_times 37 = .ok (.idiv, 1) := by decide +kernel
theorem dX0_times_38 : decode cX0_times 38 = .ok (.istore 5, 2) := by decide +kernel
theorem dX0_times_40 : decode cX0_times 40 = .ok (.iload_n 2, 1) := by decide +kernel
theorem dX0_times_41 : decode cX0_times 41 = .ok (.bipush 101, 2) := by decide +kernel
theorem dX0_times_43 : decode cX0_times 43 = .ok (.irem, 1) := by decide +kernel
theorem dX0_times_44 : decode cX0_times 44 = .ok (.istore 6, 2) := by decide +kernel
theorem dX0_times_46 : decode cX0_times 46 = .ok (.iload_n 2, 1) := by decide +kernel
theorem dX0_times_47 : decode cX0_times 47 = .ok (.bipush 101, 2) := by decide +kernel
theorem dX0_times_49 : decode cX0_times 49 = .ok (.idiv, 1) := by decide +kernel
theorem dX0_times_50 : decode cX0_times 50 = .ok (.bipush 101, 2) := by decide +kernel
theorem dX0_times_52 : decode cX0_times 52 = .ok (.irem, 1) := by decide +kernel
theorem dX0_times_53 : decode cX0_times 53 = .ok (.istore 7, 2) := by decide +kernel
theorem dX0_times_55 : decode cX0_times 55 = .ok (.iload_n 2, 1) := by decide +kernel
theorem dX0_times_56 : decode cX0_times 56 = .ok (.sipush 10201, 3) := by decide +kernel
theorem dX0_times_59 : decode cX0_times 59 = .ok (.idiv, 1) := by decide +kernel
theorem dX0_times_60 : decode cX0_times 60 = .ok (.istore 8, 2) := by decide +kernel
theorem dX0_times_62 : decode cX0_times 62 = .ok (.iload_n 3, 1) := by decide +kernel
theorem dX0_times_63 : decode cX0_times 63 = .ok (.iload 6, 2) := by decide +kernel
theorem dX0_times_65 : decode cX0_times 65 = .ok (.imul, 1) := by decide +kernel
theorem dX0_times_66 : decode cX0_times 66 = .ok (.istore 9, 2) := by decide +kernel
theorem dX0_times_68 : decode cX0_times 68 = .ok (.iload_n 3, 1) := by decide +kernel
theorem dX0_times_69 : decode cX0_times 69 = .ok (.iload 7, 2) := by decide +kernel
theorem dX0_times_71 : decode cX0_times 71 = .ok (.imul, 1) := by decide +kernel
theorem dX0_times_72 : decode cX0_times 72 = .ok (.iload 4, 2) := by decide +kernel
theorem dX0_times_74 : decode cX0_times 74 = .ok (.iload 6, 2) := by decide +kernel
theorem dX0_times_76 : decode cX0_times 76 = .ok (.imul, 1) := by decide +kernel
theorem dX0_times_77 : decode cX0_times 77 = .ok (.iadd, 1) := by decide +kernel
theorem dX0_times_78 : decode cX0_times 78 = .ok (.istore 10, 2) := by decide +kernel
theorem dX0_times_80 : decode cX0_times 80 = .ok (.iload_n 3, 1) := by decide +kernel
theorem dX0_times_81 : decode cX0_times 81 = .ok (.iload 8, 2) := by decide +kernel
theorem dX0_times_83 : decode cX0_times 83 = .ok (.imul, 1) := by decide +kernel
theorem dX0_times_84 : decode cX0_times 84 = .ok (.iload 4, 2) := by decide +kernel
theorem dX0_times_86 : decode cX0_times 86 = .ok (.iload 7, 2) := by decide +kernel
theorem dX0_times_88 : decode cX0_times 88 = .ok (.imul, 1) := by decide +kernel
theorem dX0_times_89 : decode cX0_times 89 = .ok (.iadd, 1) := by decide +kernel
theorem dX0_times_90 : decode cX0_times 90 = .ok (.iload 5, 2) := by decide +kernel
theorem dX0_times_92 : decode cX0_times 92 = .ok (.iload 6, 2) := by decide +kernel
theorem dX0_times_94 : decode cX0_times 94 = .ok (.imul, 1) := by decide +kernel
theorem dX0_times_95 : decode cX0_times 95 = .ok (.iadd, 1) := by decide +kernel
theorem dX0_times_96 : decode cX0_times 96 = .ok (.istore 11, 2) := by decide +kernel
theorem dX0_times_98 : decode cX0_times 98 = .ok (.aload_n 0, 1) := by decide +kernel
theorem dX0_times_99 : decode cX0_times 99 = .ok (.getfield 9, 3) := by decide +kernel
theorem dX0_times_102 : decode cX0_times 102 = .ok (.iconst 2, 1) := by decide +kernel
theorem dX0_times_103 : decode cX0_times 103 = .ok (.if_icmp .ne 55, 3) := by decide +kernel
theorem dX0_times_106 : decode cX0_times 106 = .ok (.bipush 101, 2) := by decide +kernel
theorem dX0_times_108 : decode cX0_times 108 = .ok (.iload 11, 2) := by decide +kernel
theorem dX0_times_110 : decode cX0_times 110 = .ok (.bipush 101, 2) := by decide +kernel
theorem dX0_times_112 : decode cX0_times 112 = .ok (.irem, 1) := by decide +kernel
theorem dX0_times_113 : decode cX0_times 113 = .ok (.isub, 1) := by decide +kernel
theorem dX0_times_114 : decode cX0_times 114 = .ok (.bipush 101, 2) := by decide +kernel
theorem dX0_times_116 : decode cX0_times 116 = .ok (.irem, 1) := by decide +kernel
theorem dX0_times_117 : decode cX0_times 117 = .ok (.istore 12, 2) := by decide +kernel
theorem dX0_times_119 : decode cX0_times 119 = .ok (.iload 10, 2) := by decide +kernel
theorem dX0_times_121 : decode cX0_times 121 = .ok (.iload 12, 2) := by decide +kernel
theorem dX0_times_123 : decode cX0_times 123 = .ok (.aload_n 0, 1) := by decide +kernel
theorem dX0_times_124 : decode cX0_times 124 = .ok (.getfield 21, 3) := by decide +kernel
theorem dX0_times_127 : decode cX0_times 127 = .ok (.imul, 1) := by decide +kernel
theorem dX0_times_128 : decode cX0_times 128 = .ok (.iadd, 1) := by decide +kernel
theorem dX0_times_129 : decode cX0_times 129 = .ok (.istore 10, 2) := by decide +kernel
theorem dX0_times_131 : decode cX0_times 131 = .ok (.iload 9, 2) := by decide +kernel
theorem dX0_times_133 : decode cX0_times 133 = .ok (.iload 12, 2) := by decide +kernel
theorem dX0_times_135 : decode cX0_times 135 = .ok (.aload_n 0, 1) := by decide +kernel
theorem dX0_times_136 : decode cX0_times 136 = .ok (.getfield 18, 3) := by decide +kernel
theorem dX0_times_139 : decode cX0_times 139 = .ok (.imul, 1) := by decide +kernel
theorem dX0_times_140 : decode cX0_times 140 = .ok (.iadd, 1) := by decide +kernel
theorem dX0_times_141 : decode cX0_times 141 = .ok (.istore 9, 2) := by decide +kernel
theorem dX0_times_143 : decode cX0_times 143 = .ok (.iload 9, 2) := by decide +kernel
theorem dX0_times_145 : decode cX0_times 145 = .ok (.bipush 101, 2) := by decide +kernel
theorem dX0_times_147 : decode cX0_times 147 = .ok (.irem, 1) := by decide +kernel
theorem dX0_times_148 : decode cX0_times 148 = .ok (.bipush 101, 2) := by decide +kernel
theorem dX0_times_150 : decode cX0_times 150 = .ok (.iload 10, 2) := by decide +kernel
theorem dX0_times_152 : decode cX0_times 152 = .ok (.bipush 101, 2) := by decide +kernel
theorem dX0_times_154 : decode cX0_times 154 = .ok (.irem, 1) := by decide +kernel
theorem dX0_times_155 : decode cX0_times 155 = .ok (.imul, 1) := by decide +kernel
theorem dX0_times_156 : decode cX0_times 156 = .ok (.iadd, 1) := by decide +kernel
theorem dX0_times_157 : decode cX0_times 157 = .ok (.ireturn, 1) := by decide +kernel
theorem dX0_times_158 : decode cX0_times 158 = .ok (.bipush 101, 2) := by decide +kernel
theorem dX0_times_160 : decode cX0_times 160 = .ok (.iload 5, 2) := by decide +kernel
theorem dX0_times_162 : decode cX0_times 162 = .ok (.iload 8, 2) := by decide +kernel
theorem dX0_times_164 : decode cX0_times 164 = .ok (.imul, 1) := by decide +kernel
theorem dX0_times_165 : decode cX0_times 165 = .ok (.bipush 101, 2) := by decide +kernel
theorem dX0_times_167 : decode cX0_times 167 = .ok (.irem, 1) := by decide +kernel
theorem dX0_times_168 : decode cX0_times 168 = .ok (.isub, 1) := by decide +kernel
theorem dX0_times_169 : decode cX0_times 169 = .ok (.bipush 101, 2) := by decide +kernel
theorem dX0_times_171 : decode cX0_times 171 = .ok (.irem, 1) := by decide +kernel
theorem dX0_times_172 : decode cX0_times 172 = .ok (.istore 12, 2) := by decide +kernel
theorem dX0_times_174 : decode cX0_times 174 = .ok (.iload 4, 2) := by decide +kernel
theorem dX0_times_176 : decode cX0_times 176 = .ok (.iload 8, 2) := by decide +kernel
theorem dX0_times_178 : decode cX0_times 178 = .ok (.imul, 1) := by decide +kernel
theorem dX0_times_179 : decode cX0_times 179 = .ok (.iload 5, 2) := by decide +kernel
theorem dX0_times_181 : decode cX0_times 181 = .ok (.iload 7, 2) := by decide +kernel
theorem dX0_times_183 : decode cX0_times 183 = .ok (.imul, 1) := by decide +kernel
theorem dX0_times_184 : decode cX0_times 184 = .ok (.iadd, 1) := by decide +kernel
theorem dX0_times_185 : decode cX0_times 185 = .ok (.iload 12, 2) := by decide +kernel
theorem dX0_times_187 : decode cX0_times 187 = .ok (.aload_n 0, 1) := by decide +kernel
theorem dX0_times_188 : decode cX0_times 188 = .ok (.getfield 24, 3) := by decide +kernel
theorem dX0_times_191 : decode cX0_times 191 = .ok (.imul, 1) := by decide +kernel
theorem dX0_times_192 : decode cX0_times 192 = .ok (.iadd, 1) := by decide +kernel
theorem dX0_times_193 : decode cX0_times 193 = .ok (.istore 13, 2) := by decide +kernel
theorem dX0_times_195 : decode cX0_times 195 = .ok (.bipush 101, 2) := by decide +kernel
theorem dX0_times_197 : decode cX0_times 197 = .ok (.iload 13, 2) := by decide +kernel
theorem dX0_times_199 : decode cX0_times 199 = .ok (.bipush 101, 2) := by decide +kernel
theorem dX0_times_201 : decode cX0_times 201 = .ok (.irem, 1) := by decide +kernel
theorem dX0_times_202 : decode cX0_times 202 = .ok (.isub, 1) := by decide +kernel
theorem dX0_times_203 : decode cX0_times 203 = .ok (.bipush 101, 2) := by decide +kernel
theorem dX0_times_205 : decode cX0_times 205 = .ok (.irem, 1) := by decide +kernel
theorem dX0_times_206 : decode cX0_times 206 = .ok (.istore 14, 2) := by decide +kernel
theorem dX0_times_208 : decode cX0_times 208 = .ok (.iload 11, 2) := by decide +kernel
theorem dX0_times_210 : decode cX0_times 210 = .ok (.iload 12, 2) := by decide +kernel
theorem dX0_times_212 : decode cX0_times 212 = .ok (.aload_n 0, 1) := by decide +kernel
theorem dX0_times_213 : decode cX0_times 213 = .ok (.getfield 21, 3) := by decide +kernel
theorem dX0_times_216 : decode cX0_times 216 = .ok (.imul, 1) := by decide +kernel
theorem dX0_times_217 : decode cX0_times 217 = .ok (.iload 14, 2) := by decide +kernel
theorem dX0_times_219 : decode cX0_times 219 = .ok (.aload_n 0, 1) := by decide +kernel
theorem dX0_times_220 : decode cX0_times 220 = .ok (.getfield 24, 3) := by decide +kernel
theorem dX0_times_223 : decode cX0_times 223 = .ok (.imul, 1) := by decide +kernel
theorem dX0_times_224 : decode cX0_times 224 = .ok (.iadd, 1) := by decide +kernel
theorem dX0_times_225 : decode cX0_times 225 = .ok (.iadd, 1) := by decide +kernel
theorem dX0_times_226 : decode cX0_times 226 = .ok (.istore 11, 2) := by decide +kernel
theorem dX0_times_228 : decode cX0_times 228 = .ok (.iload 10, 2) := by decide +kernel
theorem dX0_times_230 : decode cX0_times 230 = .ok (.iload 12, 2) := by decide +kernel
theorem dX0_times_232 : decode cX0_times 232 = .ok (.aload_n 0, 1) := by decide +kernel
theorem dX0_times_233 : decode cX0_times 233 = .ok (.getfield 18, 3) := by decide +kernel
theorem dX0_times_236 : decode cX0_times 236 = .ok (.imul, 1) := by decide +kernel
theorem dX0_times_237 : decode cX0_times 237 = .ok (.iload 14, 2) := by decide +kernel
theorem dX0_times_239 : decode cX0_times 239 = .ok (.aload_n 0, 1) := by decide +kernel
theorem dX0_times_240 : decode cX0_times 240 = .ok (.getfield 21, 3) := by decide +kernel
theorem dX0_times_243 : decode cX0_times 243 = .ok (.imul, 1) := by decide +kernel
theorem dX0_times_244 : decode cX0_times 244 = .ok (.iadd, 1) := by decide +kernel
theorem dX0_times_245 : decode cX0_times 245 = .ok (.iadd, 1) := by decide +kernel
theorem dX0_times_246 : decode cX0_times 246 = .ok (.istore 10, 2) := by decide +kernel
theorem dX0_times_248 : decode cX0_times 248 = .ok (.iload 9, 2) := by decide +kernel
theorem dX0_times_250 : decode cX0_times 250 = .ok (.iload 14, 2) := by decide +kernel
theorem dX0_times_252 : decode cX0_times 252 = .ok (.aload_n 0, 1) := by decide +kernel
theorem dX0_times_253 : decode cX0_times 253 = .ok (.getfield 18, 3) := by decide +kernel
theorem dX0_times_256 : decode cX0_times 256 = .ok (.imul, 1) := by decide +kernel
theorem dX0_times_257 : decode cX0_times 257 = .ok (.iadd, 1) := by decide +kernel
theorem dX0_times_258 : decode cX0_times 258 = .ok (.istore 9, 2) := by decide +kernel
theorem dX0_times_260 : decode cX0_times 260 = .ok (.iload 9, 2) := by decide +kernel
theorem dX0_times_262 : decode cX0_times 262 = .ok (.bipush 101, 2) := by decide +kernel
theorem dX0_times_264 : decode cX0_times 264 = .ok (.irem, 1) := by decide +kernel
theorem dX0_times_265 : decode cX0_times 265 = .ok (.bipush 101, 2) := by decide +kernel
theorem dX0_times_267 : decode cX0_times 267 = .ok (.iload 10, 2) := by decide +kernel
theorem dX0_times_269 : decode cX0_times 269 = .ok (.bipush 101, 2) := by decide +kernel
theorem dX0_times_271 : decode cX0_times 271 = .ok (.irem, 1) := by decide +kernel
theorem dX0_times_272 : decode cX0_times 272 = .ok (.imul, 1) := by decide +kernel
theorem dX0_times_273 : decode cX0_times 273 = .ok (.iadd, 1) := by decide +kernel
theorem dX0_times_274 : decode cX0_times 274 = .ok (.sipush 10201, 3) := by decide +kernel
theorem dX0_times_277 : decode cX0_times 277 = .ok (.iload 11, 2) := by decide +kernel
theorem dX0_times_279 : decode cX0_times 279 = .ok (.bipush 101, 2) := by decide +kernel
theorem dX0_times_281 : decode cX0_times 281 = .ok (.irem, 1) := by decide +kernel
theorem dX0_times_282 : decode cX0_times 282 = .ok (.imul, 1) := by decide +kernel
theorem dX0_times_283 : decode cX0_times 283 = .ok (.iadd, 1) := by decide +kernel
theorem dX0_times_284 : decode cX0_times 284 = .ok (.ireturn, 1) := by decide +kernel
theorem dX0_power_0 : decode cX0_power 0 = .ok (.iconst 1, 1) := by decide +kernel
theorem dX0_power_1 : decode cX0_power 1 = .ok (.istore_n 3, 1) := by decide +kernel
theorem dX0_power_2 : decode cX0_power 2 = .ok (.iload_n 1, 1) := by decide +kernel
theorem dX0_power_3 : decode cX0_power 3 = .ok (.istore 4, 2) := by decide +kernel
theorem dX0_power_5 : decode cX0_power 5 = .ok (.iload_n 2, 1) := by decide +kernel
theorem dX0_power_6 : decode cX0_power 6 = .ok (.istore 5, 2) := by decide +kernel
theorem dX0_power_8 : decode cX0_power 8 = .ok (.iload 5, 2) := by decide +kernel
theorem dX0_power_10 : decode cX0_power 10 = .ok (.ifCond .le 38, 3) := by decide +kernel
theorem dX0_power_13 : decode cX0_power 13 = .ok (.iload 5, 2) := by decide +kernel
theorem dX0_power_15 : decode cX0_power 15 = .ok (.iconst 1, 1) := by decide +kernel
theorem dX0_power_16 : decode cX0_power 16 = .ok (.iand, 1) := by decide +kernel
theorem dX0_power_17 : decode cX0_power 17 = .ok (.iconst 1, 1) := by decide +kernel
theorem dX0_power_18 : decode cX0_power 18 = .ok (.if_icmp .ne 11, 3) := by decide +kernel
theorem dX0_power_21 : decode cX0_power 21 = .ok (.aload_n 0, 1) := by decide +kernel
theorem dX0_power_22 : decode cX0_power 22 = .ok (.iload_n 3, 1) := by decide +kernel
theorem dX0_power_23 : decode cX0_power 23 = .ok (.iload 4, 2) := by decide +kernel
theorem dX0_power_25 : decode cX0_power 25 = .ok (.invokevirtual 45, 3) := by decide +kernel
theorem dX0_power_28 : decode cX0_power 28 = .ok (.istore_n 3, 1) := by decide +kernel
theorem dX0_power_29 : decode cX0_power 29 = .ok (.aload_n 0, 1) := by decide +kernel
theorem dX0_power_30 : decode cX0_power 30 = .ok (.iload 4, 2) := by decide +kernel
theorem dX0_power_32 : decode cX0_power 32 = .ok (.iload 4, 2) := by decide +kernel
theorem dX0_power_34 : decode cX0_power 34 = .ok (.invokevirtual 45, 3) := by decide +kernel
theorem dX0_power_37 : decode cX0_power 37 = .ok (.istore 4, 2) := by decide +kernel
theorem dX0_power_39 : decode cX0_power 39 = .ok (.iload 5, 2) := by decide +kernel
theorem dX0_power_41 : decode cX0_power 41 = .ok (.iconst 1, 1) := by decide +kernel
theorem dX0_power_42 : decode cX0_power 42 = .ok (.ishr, 1) := by decide +kernel
theorem dX0_power_43 : decode cX0_power 43 = .ok (.istore 5, 2) := by decide +kernel
theorem dX0_power_45 : decode cX0_power 45 = .ok (.goto (-37), 3) := by decide +kernel
theorem dX0_power_48 : decode cX0_power 48 = .ok (.iload_n 3, 1) := by decide +kernel
theorem dX0_power_49 : decode cX0_power 49 = .ok (.ireturn, 1) := by decide +kernel
theorem dX0_mate_0 : decode cX0_mate 0 = .ok (.aload_n 0, 1) := by decide +kernel
theorem dX0_mate_1 : decode cX0_mate 1 = .ok (.iload_n 1, 1) := by decide +kernel
theorem dX0_mate_2 : decode cX0_mate 2 = .ok (.sipush 10201, 3) := by decide +kernel
theorem dX0_mate_5 : decode cX0_mate 5 = .ok (.idiv, 1) := by decide +kernel
theorem dX0_mate_6 : decode cX0_mate 6 = .ok (.aload_n 0, 1) := by decide +kernel
theorem dX0_mate_7 : decode cX0_mate 7 = .ok (.getfield 33, 3) := by decide +kernel
theorem dX0_mate_10 : decode cX0_mate 10 = .ok (.invokevirtual 45, 3) := by decide +kernel
theorem dX0_mate_13 : decode cX0_mate 13 = .ok (.istore_n 2, 1) := by decide +kernel
theorem dX0_mate_14 : decode cX0_mate 14 = .ok (.aload_n 0, 1) := by decide +kernel
theorem dX0_mate_15 : decode cX0_mate 15 = .ok (.iload_n 1, 1) := by decide +kernel
theorem dX0_mate_16 : decode cX0_mate 16 = .ok (.bipush 101, 2) := by decide +kernel
theorem dX0_mate_18 : decode cX0_mate 18 = .ok (.idiv, 1) := by decide +kernel
theorem dX0_mate_19 : decode cX0_mate 19 = .ok (.bipush 101, 2) := by decide +kernel
theorem dX0_mate_21 : decode cX0_mate 21 = .ok (.irem, 1) := by decide +kernel
theorem dX0_mate_22 : decode cX0_mate 22 = .ok (.aload_n 0, 1) := by decide +kernel
theorem dX0_mate_23 : decode cX0_mate 23 = .ok (.getfield 30, 3) := by decide +kernel
theorem dX0_mate_26 : decode cX0_mate 26 = .ok (.invokevirtual 45, 3) := by decide +kernel
theorem dX0_mate_29 : decode cX0_mate 29 = .ok (.istore_n 3, 1) := by decide +kernel
theorem dX0_mate_30 : decode cX0_mate 30 = .ok (.aload_n 0, 1) := by decide +kernel
theorem dX0_mate_31 : decode cX0_mate 31 = .ok (.iload_n 1, 1) := by decide +kernel
theorem dX0_mate_32 : decode cX0_mate 32 = .ok (.bipush 101, 2) := by decide +kernel
theorem dX0_mate_34 : decode cX0_mate 34 = .ok (.irem, 1) := by decide +kernel
theorem dX0_mate_35 : decode cX0_mate 35 = .ok (.aload_n 0, 1) := by decide +kernel
theorem dX0_mate_36 : decode cX0_mate 36 = .ok (.iload_n 3, 1) := by decide +kernel
theorem dX0_mate_37 : decode cX0_mate 37 = .ok (.iload_n 2, 1) := by decide +kernel
theorem dX0_mate_38 : decode cX0_mate 38 = .ok (.invokevirtual 48, 3) := by decide +kernel
theorem dX0_mate_41 : decode cX0_mate 41 = .ok (.invokevirtual 48, 3) := by decide +kernel
theorem dX0_mate_44 : decode cX0_mate 44 = .ok (.ireturn, 1) := by decide +kernel
theorem dX0_isSquare_0 : decode cX0_isSquare 0 = .ok (.iload_n 1, 1) := by decide +kernel
theorem dX0_isSquare_1 : decode cX0_isSquare 1 = .ok (.ifCond .eq 18, 3) := by decide +kernel
theorem dX0_isSquare_4 : decode cX0_isSquare 4 = .ok (.aload_n 0, 1) := by decide +kernel
theorem dX0_isSquare_5 : decode cX0_isSquare 5 = .ok (.iload_n 1, 1) := by decide +kernel
theorem dX0_isSquare_6 : decode cX0_isSquare 6 = .ok (.aload_n 0, 1) := by decide +kernel
theorem dX0_isSquare_7 : decode cX0_isSquare 7 = .ok (.getfield 15, 3) := by decide +kernel
theorem dX0_isSquare_10 : decode cX0_isSquare 10 = .ok (.iconst 2, 1) := by decide +kernel
theorem dX0_isSquare_11 : decode cX0_isSquare 11 = .ok (.idiv, 1) := by decide +kernel
theorem dX0_isSquare_12 : decode cX0_isSquare 12 = .ok (.invokevirtual 41, 3) := by decide +kernel
theorem dX0_isSquare_15 : decode cX0_isSquare 15 = .ok (.iconst 1, 1) := by decide +kernel
theorem dX0_isSquare_16 : decode cX0_isSquare 16 = .ok (.if_icmp .ne 7, 3) := by decide +kernel
theorem dX0_isSquare_19 : decode cX0_isSquare 19 = .ok (.iconst 1, 1) := by decide +kernel
theorem dX0_isSquare_20 : decode cX0_isSquare 20 = .ok (.goto 4, 3) := by decide +kernel
theorem dX0_isSquare_23 : decode cX0_isSquare 23 = .ok (.iconst 0, 1) := by decide +kernel
theorem dX0_isSquare_24 : decode cX0_isSquare 24 = .ok (.ireturn, 1) := by decide +kernel
theorem dX0_matesProduct_0 : decode cX0_matesProduct 0 = .ok (.iload_n 1, 1) := by decide +kernel
theorem dX0_matesProduct_1 : decode cX0_matesProduct 1 = .ok (.istore_n 2, 1) := by decide +kernel
theorem dX0_matesProduct_2 : decode cX0_matesProduct 2 = .ok (.iload_n 1, 1) := by decide +kernel
theorem dX0_matesProduct_3 : decode cX0_matesProduct 3 = .ok (.istore_n 3, 1) := by decide +kernel
theorem dX0_matesProduct_4 : decode cX0_matesProduct 4 = .ok (.iconst 1, 1) := by decide +kernel
theorem dX0_matesProduct_5 : decode cX0_matesProduct 5 = .ok (.istore 4, 2) := by decide +kernel
theorem dX0_matesProduct_7 : decode cX0_matesProduct 7 = .ok (.iload 4, 2) := by decide +kernel
theorem dX0_matesProduct_9 : decode cX0_matesProduct 9 = .ok (.aload_n 0, 1) := by decide +kernel
theorem dX0_matesProduct_10 : decode cX0_matesProduct 10 = .ok (.getfield 9, 3) := by decide +kernel
theorem dX0_matesProduct_13 : decode cX0_matesProduct 13 = .ok (.if_icmp .ge 22, 3) := by decide +kernel
theorem dX0_matesProduct_16 : decode cX0_matesProduct 16 = .ok (.aload_n 0, 1) := by decide +kernel
theorem dX0_matesProduct_17 : decode cX0_matesProduct 17 = .ok (.iload_n 3, 1) := by decide +kernel
theorem dX0_matesProduct_18 : decode cX0_matesProduct 18 = .ok (.invokevirtual 51, 3) := by decide +kernel
theorem dX0_matesProduct_21 : decode cX0_matesProduct 21 = .ok (.istore_n 3, 1) := by decide +kernel
theorem dX0_matesProduct_22 : decode cX0_matesProduct 22 = .ok (.aload_n 0, 1) := by decide +kernel
theorem dX0_matesProduct_23 : decode cX0_matesProduct 23 = .ok (.iload_n 2, 1) := by decide +kernel
theorem dX0_matesProduct_24 : decode cX0_matesProduct 24 = .ok (.iload_n 3, 1) := by decide +kernel
theorem dX0_matesProduct_25 : decode cX0_matesProduct 25 = .ok (.invokevirtual 45, 3) := by decide +kernel
theorem dX0_matesProduct_28 : decode cX0_matesProduct 28 = .ok (.istore_n 2, 1) := by decide +kernel
theorem dX0_matesProduct_29 : decode cX0_matesProduct 29 = .ok (.iinc 4 1, 3) := by decide +kernel
theorem dX0_matesProduct_32 : decode cX0_matesProduct 32 = .ok (.goto (-25), 3) := by decide +kernel
theorem dX0_matesProduct_35 : decode cX0_matesProduct 35 = .ok (.iload_n 2, 1) := by decide +kernel
theorem dX0_matesProduct_36 : decode cX0_matesProduct 36 = .ok (.ireturn, 1) := by decide +kernel
theorem dX0_matesSum_0 : decode cX0_matesSum 0 = .ok (.iload_n 1, 1) := by decide +kernel
theorem dX0_matesSum_1 : decode cX0_matesSum 1 = .ok (.istore_n 2, 1) := by decide +kernel
theorem dX0_matesSum_2 : decode cX0_matesSum 2 = .ok (.iload_n 1, 1) := by decide +kernel
theorem dX0_matesSum_3 : decode cX0_matesSum 3 = .ok (.istore_n 3, 1) := by decide +kernel
theorem dX0_matesSum_4 : decode cX0_matesSum 4 = .ok (.iconst 1, 1) := by decide +kernel
theorem dX0_matesSum_5 : decode cX0_matesSum 5 = .ok (.istore 4, 2) := by decide +kernel
theorem dX0_matesSum_7 : decode cX0_matesSum 7 = .ok (.iload 4, 2) := by decide +kernel
theorem dX0_matesSum_9 : decode cX0_matesSum 9 = .ok (.aload_n 0, 1) := by decide +kernel
theorem dX0_matesSum_10 : decode cX0_matesSum 10 = .ok (.getfield 9, 3) := by decide +kernel
theorem dX0_matesSum_13 : decode cX0_matesSum 13 = .ok (.if_icmp .ge 22, 3) := by decide +kernel
theorem dX0_matesSum_16 : decode cX0_matesSum 16 = .ok (.aload_n 0, 1) := by decide +kernel
theorem dX0_matesSum_17 : decode cX0_matesSum 17 = .ok (.iload_n 3, 1) := by decide +kernel
theorem dX0_matesSum_18 : decode cX0_matesSum 18 = .ok (.invokevirtual 51, 3) := by decide +kernel
theorem dX0_matesSum_21 : decode cX0_matesSum 21 = .ok (.istore_n 3, 1) := by decide +kernel
theorem dX0_matesSum_22 : decode cX0_matesSum 22 = .ok (.aload_n 0, 1) := by decide +kernel
theorem dX0_matesSum_23 : decode cX0_matesSum 23 = .ok (.iload_n 2, 1) := by decide +kernel
theorem dX0_matesSum_24 : decode cX0_matesSum 24 = .ok (.iload_n 3, 1) := by decide +kernel
theorem dX0_matesSum_25 : decode cX0_matesSum 25 = .ok (.invokevirtual 48, 3) := by decide +kernel
theorem dX0_matesSum_28 : decode cX0_matesSum 28 = .ok (.istore_n 2, 1) := by decide +kernel
theorem dX0_matesSum_29 : decode cX0_matesSum 29 = .ok (.iinc 4 1, 3) := by decide +kernel
theorem dX0_matesSum_32 : decode cX0_matesSum 32 = .ok (.goto (-25), 3) := by decide +kernel
theorem dX0_matesSum_35 : decode cX0_matesSum 35 = .ok (.iload_n 2, 1) := by decide +kernel
theorem dX0_matesSum_36 : decode cX0_matesSum 36 = .ok (.ireturn, 1) := by decide +kernel
theorem dX0_differentMates_0 : decode cX0_differentMates 0 = .ok (.aload_n 0, 1) := by decide +kernel
theorem dX0_differentMates_1 : decode cX0_differentMates 1 = .ok (.iload_n 1, 1) := by decide +kernel
theorem dX0_differentMates_2 : decode cX0_differentMates 2 = .ok (.invokevirtual 51, 3) := by decide +kernel
theorem dX0_differentMates_5 : decode cX0_differentMates 5 = .ok (.iload_n 1, 1) := by decide +kernel
theorem dX0_differentMates_6 : decode cX0_differentMates 6 = .ok (.if_icmp .ne 7, 3) := by decide +kernel
theorem dX0_differentMates_9 : decode cX0_differentMates 9 = .ok (.iconst 1, 1) := by decide +kernel
theorem dX0_differentMates_10 : decode cX0_differentMates 10 = .ok (.goto 7, 3) := by decide +kernel
theorem dX0_differentMates_13 : decode cX0_differentMates 13 = .ok (.aload_n 0, 1) := by decide +kernel
theorem dX0_differentMates_14 : decode cX0_differentMates 14 = .ok (.getfield 9, 3) := by decide +kernel
theorem dX0_differentMates_17 : decode cX0_differentMates 17 = .ok (.ireturn, 1) := by decide +kernel
theorem dX1_init_0 : decode cX1_init 0 = .ok (.aload_n 0, 1) := by decide +kernel
theorem dX1_init_1 : decode cX1_init 1 = .ok (.invokespecial 3, 3) := by decide +kernel
theorem dX1_init_4 : decode cX1_init 4 = .ok (.aload_n 0, 1) := by decide +kernel
theorem dX1_init_5 : decode cX1_init 5 = .ok (.new 9, 3) := by decide +kernel
theorem dX1_init_8 : decode cX1_init 8 = .ok (.dup, 1) := by decide +kernel
theorem dX1_init_9 : decode cX1_init 9 = .ok (.invokespecial 11, 3) := by decide +kernel
theorem dX1_init_12 : decode cX1_init 12 = .ok (.putfield 12, 3) := by decide +kernel
theorem dX1_init_15 : decode cX1_init 15 = .ok (.aload_n 0, 1) := by decide +kernel
theorem dX1_init_16 : decode cX1_init 16 = .ok (.new 18, 3) := by decide +kernel
theorem dX1_init_19 : decode cX1_init 19 = .ok (.dup, 1) := by decide +kernel
theorem dX1_init_20 : decode cX1_init 20 = .ok (.invokespecial 20, 3) := by decide +kernel
theorem dX1_init_23 : decode cX1_init 23 = .ok (.putfield 21, 3) := by decide +kernel
theorem dX1_init_26 : decode cX1_init 26 = .ok (.aload_n 0, 1) := by decide +kernel
theorem dX1_init_27 : decode cX1_init 27 = .ok (.new 18, 3) := by decide +kernel
theorem dX1_init_30 : decode cX1_init 30 = .ok (.dup, 1) := by decide +kernel
theorem dX1_init_31 : decode cX1_init 31 = .ok (.invokespecial 20, 3) := by decide +kernel
theorem dX1_init_34 : decode cX1_init 34 = .ok (.putfield 25, 3) := by decide +kernel
theorem dX1_init_37 : decode cX1_init 37 = .ok (.aload_n 0, 1) := by decide +kernel
theorem dX1_init_38 : decode cX1_init 38 = .ok (.new 18, 3) := by decide +kernel
theorem dX1_init_41 : decode cX1_init 41 = .ok (.dup, 1) := by decide +kernel
theorem dX1_init_42 : decode cX1_init 42 = .ok (.invokespecial 20, 3) := by decide +kernel
theorem dX1_init_45 : decode cX1_init 45 = .ok (.putfield 28, 3) := by decide +kernel
theorem dX1_init_48 : decode cX1_init 48 = .ok (.aload_n 0, 1) := by decide +kernel
theorem dX1_init_49 : decode cX1_init 49 = .ok (.new 18, 3) := by decide +kernel
theorem dX1_init_52 : decode cX1_init 52 = .ok (.dup, 1) := by decide +kernel
theorem dX1_init_53 : decode cX1_init 53 = .ok (.invokespecial 20, 3) := by decide +kernel
theorem dX1_init_56 : decode cX1_init 56 = .ok (.putfield 31, 3) := by decide +kernel
theorem dX1_init_59 : decode cX1_init 59 = .ok (.aload_n 0, 1) := by decide +kernel
theorem dX1_init_60 : decode cX1_init 60 = .ok (.new 18, 3) := by decide +kernel
theorem dX1_init_63 : decode cX1_init 63 = .ok (.dup, 1) := by decide +kernel
theorem dX1_init_64 : decode cX1_init 64 = .ok (.invokespecial 20, 3) := by decide +kernel
theorem dX1_init_67 : decode cX1_init 67 = .ok (.putfield 34, 3) := by decide +kernel
theorem dX1_init_70 : decode cX1_init 70 = .ok (.aload_n 0, 1) := by decide +kernel
theorem dX1_init_71 : decode cX1_init 71 = .ok (.new 18, 3) := by decide +kernel
theorem dX1_init_74 : decode cX1_init 74 = .ok (.dup, 1) := by decide +kernel
theorem dX1_init_75 : decode cX1_init 75 = .ok (.invokespecial 20, 3) := by decide +kernel
theorem dX1_init_78 : decode cX1_init 78 = .ok (.putfield 37, 3) := by decide +kernel
theorem dX1_init_81 : decode cX1_init 81 = .ok (.aload_n 0, 1) := by decide +kernel
theorem dX1_init_82 : decode cX1_init 82 = .ok (.new 18, 3) := by decide +kernel
theorem dX1_init_85 : decode cX1_init 85 = .ok (.dup, 1) := by decide +kernel
theorem dX1_init_86 : decode cX1_init 86 = .ok (.invokespecial 20, 3) := by decide +kernel
theorem dX1_init_89 : decode cX1_init 89 = .ok (.putfield 40, 3) := by decide +kernel
theorem dX1_init_92 : decode cX1_init 92 = .ok (.aload_n 0, 1) := by decide +kernel
theorem dX1_init_93 : decode cX1_init 93 = .ok (.new 18, 3) := by decide +kernel
theorem dX1_init_96 : decode cX1_init 96 = .ok (.dup, 1) := by decide +kernel
theorem dX1_init_97 : decode cX1_init 97 = .ok (.invokespecial 20, 3) := by decide +kernel
theorem dX1_init_100 : decode cX1_init 100 = .ok (.putfield 43, 3) := by decide +kernel
theorem dX1_init_103 : decode cX1_init 103 = .ok (.aload_n 0, 1) := by decide +kernel
theorem dX1_init_104 : decode cX1_init 104 = .ok (.new 18, 3) := by decide +kernel
theorem dX1_init_107 : decode cX1_init 107 = .ok (.dup, 1) := by decide +kernel
theorem dX1_init_108 : decode cX1_init 108 = .ok (.invokespecial 20, 3) := by decide +kernel
theorem dX1_init_111 : decode cX1_init 111 = .ok (.putfield 46, 3) := by decide +kernel
theorem dX1_init_114 : decode cX1_init 114 = .ok (.aload_n 0, 1) := by decide +kernel
theorem dX1_init_115 : decode cX1_init 115 = .ok (.new 18, 3) := by decide +kernel
theorem dX1_init_118 : decode cX1_init 118 = .ok (.dup, 1) := by decide +kernel
theorem dX1_init_119 : decode cX1_init 119 = .ok (.invokespecial 20, 3) := by decide +kernel
theorem dX1_init_122 : decode cX1_init 122 = .ok (.putfield 49, 3) := by decide +kernel
theorem dX1_init_125 : decode cX1_init 125 = .ok (.return_, 1) := by decide +kernel
theorem dX1_valueOf_0 : decode cX1_valueOf 0 = .ok (.iconst 0, 1) := by decide +kernel
theorem dX1_valueOf_1 : decode cX1_valueOf 1 = .ok (.istore_n 3, 1) := by decide +kernel
theorem dX1_valueOf_2 : decode cX1_valueOf 2 = .ok (.aload_n 1, 1) := by decide +kernel
theorem dX1_valueOf_3 : decode cX1_valueOf 3 = .ok (.invokevirtual 52, 3) := by decide +kernel
theorem dX1_valueOf_6 : decode cX1_valueOf 6 = .ok (.istore 4, 2) := by decide +kernel
theorem dX1_valueOf_8 : decode cX1_valueOf 8 = .ok (.iload 4, 2) := by decide +kernel
theorem dX1_valueOf_10 : decode cX1_valueOf 10 = .ok (.ifCond .lt 32, 3) := by decide +kernel
theorem dX1_valueOf_13 : decode cX1_valueOf 13 = .ok (.aload_n 0, 1) := by decide +kernel
theorem dX1_valueOf_14 : decode cX1_valueOf 14 = .ok (.getfield 12, 3) := by decide +kernel
theorem dX1_valueOf_17 : decode cX1_valueOf 17 = .ok (.aload_n 0, 1) := by decide +kernel
theorem dX1_valueOf_18 : decode cX1_valueOf 18 = .ok (.getfield 12, 3) := by decide +kernel
theorem dX1_valueOf_21 : decode cX1_valueOf 21 = .ok (.iload_n 3, 1) := by decide +kernel
theorem dX1_valueOf_22 : decode cX1_valueOf 22 = .ok (.iload_n 2, 1) := by decide +kernel
theorem dX1_valueOf_23 : decode cX1_valueOf 23 = .ok (.invokevirtual 56, 3) := by decide +kernel
theorem dX1_valueOf_26 : decode cX1_valueOf 26 = .ok (.aload_n 1, 1) := by decide +kernel
theorem dX1_valueOf_27 : decode cX1_valueOf 27 = .ok (.iload 4, 2) := by decide +kernel
theorem dX1_valueOf_29 : decode cX1_valueOf 29 = .ok (.invokevirtual 60, 3) := by decide +kernel
theorem dX1_valueOf_32 : decode cX1_valueOf 32 = .ok (.invokevirtual 64, 3) := by decide +kernel
theorem dX1_valueOf_35 : decode cX1_valueOf 35 = .ok (.istore_n 3, 1) := by decide +kernel
theorem dX1_valueOf_36 : decode cX1_valueOf 36 = .ok (.iinc 4 (-1), 3) := by decide +kernel
theorem dX1_valueOf_39 : decode cX1_valueOf 39 = .ok (.goto (-31), 3) := by decide +kernel
theorem dX1_valueOf_42 : decode cX1_valueOf 42 = .ok (.iload_n 3, 1) := by decide +kernel
theorem dX1_valueOf_43 : decode cX1_valueOf 43 = .ok (.ireturn, 1) := by decide +kernel
theorem dX1_displace_0 : decode cX1_displace 0 = .ok (.aload_n 1, 1) := by decide +kernel
theorem dX1_displace_1 : decode cX1_displace 1 = .ok (.invokevirtual 52, 3) := by decide +kernel
theorem dX1_displace_4 : decode cX1_displace 4 = .ok (.istore_n 3, 1) := by decide +kernel
theorem dX1_displace_5 : decode cX1_displace 5 = .ok (.iconst 0, 1) := by decide +kernel
theorem dX1_displace_6 : decode cX1_displace 6 = .ok (.istore 4, 2) := by decide +kernel
theorem dX1_displace_8 : decode cX1_displace 8 = .ok (.iload 4, 2) := by decide +kernel
theorem dX1_displace_10 : decode cX1_displace 10 = .ok (.iload_n 3, 1) := by decide +kernel
theorem dX1_displace_11 : decode cX1_displace 11 = .ok (.if_icmp .ge 62, 3) := by decide +kernel
theorem dX1_displace_14 : decode cX1_displace 14 = .ok (.iload_n 3, 1) := by decide +kernel
theorem dX1_displace_15 : decode cX1_displace 15 = .ok (.iconst 1, 1) := by decide +kernel
theorem dX1_displace_16 : decode cX1_displace 16 = .ok (.isub, 1) := by decide +kernel
theorem dX1_displace_17 : decode cX1_displace 17 = .ok (.istore 5, 2) := by decide +kernel
theorem dX1_displace_19 : decode cX1_displace 19 = .ok (.iload 5, 2) := by decide +kernel
theorem dX1_displace_21 : decode cX1_displace 21 = .ok (.iload 4, 2) := by decide +kernel
theorem dX1_displace_23 : decode cX1_displace 23 = .ok (.if_icmp .lt 44, 3) := by decide +kernel
theorem dX1_displace_26 : decode cX1_displace 26 = .ok (.aload_n 1, 1) := by decide +kernel
theorem dX1_displace_27 : decode cX1_displace 27 = .ok (.iload 5, 2) := by decide +kernel
theorem dX1_displace_29 : decode cX1_displace 29 = .ok (.aload_n 0, 1) := by decide +kernel
theorem dX1_displace_30 : decode cX1_displace 30 = .ok (.getfield 12, 3) := by decide +kernel
theorem dX1_displace_33 : decode cX1_displace 33 = .ok (.aload_n 1, 1) := by decide +kernel
theorem dX1_displace_34 : decode cX1_displace 34 = .ok (.iload 5, 2) := by decide +kernel
theorem dX1_displace_36 : decode cX1_displace 36 = .ok (.invokevirtual 60, 3) := by decide +kernel
theorem dX1_displace_39 : decode cX1_displace 39 = .ok (.aload_n 0, 1) := by decide +kernel
theorem dX1_displace_40 : decode cX1_displace 40 = .ok (.getfield 12, 3) := by decide +kernel
theorem dX1_displace_43 : decode cX1_displace 43 = .ok (.iload_n 2, 1) := by decide +kernel
theorem dX1_displace_44 : decode cX1_displace 44 = .ok (.aload_n 1, 1) := by decide +kernel
theorem dX1_displace_45 : decode cX1_displace 45 = .ok (.iload 5, 2) := by decide +kernel
theorem dX1_displace_47 : decode cX1_displace 47 = .ok (.iconst 1, 1) := by decide +kernel
theorem dX1_displace_48 : decode cX1_displace 48 = .ok (.iadd, 1) := by decide +kernel
theorem dX1_displace_49 : decode cX1_displace 49 = .ok (.invokevirtual 60, 3) := by decide +kernel
theorem dX1_displace_52 : decode cX1_displace 52 = .ok (.invokevirtual 56, 3) := by decide +kernel
theorem dX1_displace_55 : decode cX1_displace 55 = .ok (.invokevirtual 64, 3) := by decide +kernel
theorem dX1_displace_58 : decode cX1_displace 58 = .ok (.invokevirtual 67, 3) := by decide +kernel
theorem dX1_displace_61 : decode cX1_displace 61 = .ok (.iinc 5 (-1), 3) := by decide +kernel
theorem dX1_displace_64 : decode cX1_displace 64 = .ok (.goto (-45), 3) := by decide +kernel
theorem dX1_displace_67 : decode cX1_displace 67 = .ok (.iinc 4 1, 3) := by decide +kernel
theorem dX1_displace_70 : decode cX1_displace 70 = .ok (.goto (-62), 3) := by decide +kernel
theorem dX1_displace_73 : decode cX1_displace 73 = .ok (.return_, 1) := by decide +kernel
theorem dX1_multiply_0 : decode cX1_multiply 0 = .ok (.aload_n 1, 1) := by decide +kernel
theorem dX1_multiply_1 : decode cX1_multiply 1 = .ok (.invokevirtual 52, 3) := by decide +kernel
theorem dX1_multiply_4 : decode cX1_multiply 4 = .ok (.istore_n 3, 1) := by decide +kernel
theorem dX1_multiply_5 : decode cX1_multiply 5 = .ok (.aload_n 2, 1) := by decide +kernel
theorem dX1_multiply_6 : decode cX1_multiply 6 = .ok (.invokevirtual 52, 3) := by decide +kernel
theorem dX1_multiply_9 : decode cX1_multiply 9 = .ok (.istore 4, 2) := by decide +kernel
theorem dX1_multiply_11 : decode cX1_multiply 11 = .ok (.aload_n 0, 1) := by decide +kernel
theorem dX1_multiply_12 : decode cX1_multiply 12 = .ok (.getfield 21, 3) := by decide +kernel
theorem dX1_multiply_15 : decode cX1_multiply 15 = .ok (.invokevirtual 71, 3) := by decide +kernel
theorem dX1_multiply_18 : decode cX1_multiply 18 = .ok (.iconst 0, 1) := by decide +kernel
theorem dX1_multiply_19 : decode cX1_multiply 19 = .ok (.istore 5, 2) := by decide +kernel
theorem dX1_multiply_21 : decode cX1_multiply 21 = .ok (.iload 5, 2) := by decide +kernel
theorem dX1_multiply_23 : decode cX1_multiply 23 = .ok (.iload_n 3, 1) := by decide +kernel
theorem dX1_multiply_24 : decode cX1_multiply 24 = .ok (.if_icmp .gt 84, 3) := by decide +kernel
theorem dX1_multiply_27 : decode cX1_multiply 27 = .ok (.aload_n 1, 1) := by decide +kernel
theorem dX1_multiply_28 : decode cX1_multiply 28 = .ok (.iload 5, 2) := by decide +kernel
theorem dX1_multiply_30 : decode cX1_multiply 30 = .ok (.invokevirtual 60, 3) := by decide +kernel
theorem dX1_multiply_33 : decode cX1_multiply 33 = .ok (.istore 6, 2) := by decide +kernel
theorem dX1_multiply_35 : decode cX1_multiply 35 = .ok (.iconst 0, 1) := by decide +kernel
theorem dX1_multiply_36 : decode cX1_multiply 36 = .ok (.istore 7, 2) := by decide +kernel
theorem dX1_multiply_38 : decode cX1_multiply 38 = .ok (.iload 6, 2) := by decide +kernel
theorem dX1_multiply_40 : decode cX1_multiply 40 = .ok (.ifCond .eq 62, 3) := by decide +kernel
theorem dX1_multiply_43 : decode cX1_multiply 43 = .ok (.iload 7, 2) := by decide +kernel
theorem dX1_multiply_45 : decode cX1_multiply 45 = .ok (.iload 4, 2) := by decide +kernel
theorem dX1_multiply_47 : decode cX1_multiply 47 = .ok (.if_icmp .gt 55, 3) := by decide +kernel
theorem dX1_multiply_50 : decode cX1_multiply 50 = .ok (.aload_n 0, 1) := by decide +kernel
theorem dX1_multiply_51 : decode cX1_multiply 51 = .ok (.getfield 21, 3) := by decide +kernel
theorem dX1_multiply_54 : decode cX1_multiply 54 = .ok (.iload 5, 2) := by decide +kernel
theorem dX1_multiply_56 : decode cX1_multiply 56 = .ok (.iload 7, 2) := by decide +kernel
theorem dX1_multiply_58 : decode cX1_multiply 58 = .ok (.iadd, 1) := by decide +kernel
theorem dX1_multiply_59 : decode cX1_multiply 59 = .ok (.aload_n 0, 1) := by decide +kernel
theorem dX1_multiply_60 : decode cX1_multiply 60 = .ok (.getfield 12, 3) := by decide +kernel
theorem dX1_multiply_63 : decode cX1_multiply 63 = .ok (.aload_n 0, 1) := by decide +kernel
theorem dX1_multiply_64 : decode cX1_multiply 64 = .ok (.getfield 21, 3) := by decide +kernel
theorem dX1_multiply_67 : decode cX1_multiply 67 = .ok (.iload 5, 2) := by decide +kernel
theorem dX1_multiply_69 : decode cX1_multiply 69 = .ok (.iload 7, 2) := by decide +kernel
theorem dX1_multiply_71 : decode cX1_multiply 71 = .ok (.iadd, 1) := by decide +kernel
theorem dX1_multiply_72 : decode cX1_multiply 72 = .ok (.invokevirtual 60, 3) := by decide +kernel
theorem dX1_multiply_75 : decode cX1_multiply 75 = .ok (.aload_n 0, 1) := by decide +kernel
theorem dX1_multiply_76 : decode cX1_multiply 76 = .ok (.getfield 12, 3) := by decide +kernel
theorem dX1_multiply_79 : decode cX1_multiply 79 = .ok (.iload 6, 2) := by decide +kernel
theorem dX1_multiply_81 : decode cX1_multiply 81 = .ok (.aload_n 2, 1) := by decide +kernel
theorem dX1_multiply_82 : decode cX1_multiply 82 = .ok (.iload 7, 2) := by decide +kernel
theorem dX1_multiply_84 : decode cX1_multiply 84 = .ok (.invokevirtual 60, 3) := by decide +kernel
theorem dX1_multiply_87 : decode cX1_multiply 87 = .ok (.invokevirtual 56, 3) := by decide +kernel
theorem dX1_multiply_90 : decode cX1_multiply 90 = .ok (.invokevirtual 64, 3) := by decide +kernel
theorem dX1_multiply_93 : decode cX1_multiply 93 = .ok (.invokevirtual 67, 3) := by decide +kernel
theorem dX1_multiply_96 : decode cX1_multiply 96 = .ok (.iinc 7 1, 3) := by decide +kernel
theorem dX1_multiply_99 : decode cX1_multiply 99 = .ok (.goto (-61), 3) := by decide +kernel
theorem dX1_multiply_102 : decode cX1_multiply 102 = .ok (.iinc 5 1, 3) := by decide +kernel
theorem dX1_multiply_105 : decode cX1_multiply 105 = .ok (.goto (-84), 3) := by decide +kernel
theorem dX1_multiply_108 : decode cX1_multiply 108 = .ok (.aload_n 1, 1) := by decide +kernel
theorem dX1_multiply_109 : decode cX1_multiply 109 = .ok (.aload_n 0, 1) := by decide +kernel
theorem dX1_multiply_110 : decode cX1_multiply 110 = .ok (.getfield 21, 3) := by decide +kernel
theorem dX1_multiply_113 : decode cX1_multiply 113 = .ok (.invokevirtual 74, 3) := by decide +kernel
theorem dX1_multiply_116 : decode cX1_multiply 116 = .ok (.return_, 1) := by decide +kernel
theorem dX1_multiplyLinear_0 : decode cX1_multiplyLinear 0 = .ok (.aload_n 1, 1) := by decide +kernel
theorem dX1_multiplyLinear_1 : decode cX1_multiplyLinear 1 = .ok (.invokevirtual 52, 3) := by decide +kernel
theorem dX1_multiplyLinear_4 : decode cX1_multiplyLinear 4 = .ok (.iconst 1, 1) := by decide +kernel
theorem dX1_multiplyLinear_5 : decode cX1_multiplyLinear 5 = .ok (.iadd, 1) := by decide +kernel
theorem dX1_multiplyLinear_6 : decode cX1_multiplyLinear 6 = .ok (.istore_n 3, 1) := by decide +kernel
theorem dX1_multiplyLinear_7 : decode cX1_multiplyLinear 7 = .ok (.iload_n 3, 1) := by decide +kernel
theorem dX1_multiplyLinear_8 : decode cX1_multiplyLinear 8 = .ok (.ifCond .lt 41, 3) := by decide +kernel
theorem dX1_multiplyLinear_11 : decode cX1_multiplyLinear 11 = .ok (.aload_n 1, 1) := by decide +kernel
theorem dX1_multiplyLinear_12 : decode cX1_multiplyLinear 12 = .ok (.iload_n 3, 1) := by decide +kernel
theorem dX1_multiplyLinear_13 : decode cX1_multiplyLinear 13 = .ok (.aload_n 0, 1) := by decide +kernel
theorem dX1_multiplyLinear_14 : decode cX1_multiplyLinear 14 = .ok (.getfield 12, 3) := by decide +kernel
theorem dX1_multiplyLinear_17 : decode cX1_multiplyLinear 17 = .ok (.aload_n 1, 1) := by decide +kernel
theorem dX1_multiplyLinear_18 : decode cX1_multiplyLinear 18 = .ok (.iload_n 3, 1) := by decide +kernel
theorem dX1_multiplyLinear_19 : decode cX1_multiplyLinear 19 = .ok (.iconst 1, 1) := by decide +kernel
theorem dX1_multiplyLinear_20 : decode cX1_multiplyLinear 20 = .ok (.isub, 1) := by decide +kernel
theorem dX1_multiplyLinear_21 : decode cX1_multiplyLinear 21 = .ok (.invokevirtual 60, 3) := by decide +kernel
theorem dX1_multiplyLinear_24 : decode cX1_multiplyLinear 24 = .ok (.aload_n 0, 1) := by decide +kernel
theorem dX1_multiplyLinear_25 : decode cX1_multiplyLinear 25 = .ok (.getfield 12, 3) := by decide +kernel
theorem dX1_multiplyLinear_28 : decode cX1_multiplyLinear 28 = .ok (.iload_n 2, 1) := by decide +kernel
theorem dX1_multiplyLinear_29 : decode cX1_multiplyLinear 29 = .ok (.aload_n 1, 1) := by decide +kernel
theorem dX1_multiplyLinear_30 : decode cX1_multiplyLinear 30 = .ok (.iload_n 3, 1) := by decide +kernel
theorem dX1_multiplyLinear_31 : decode cX1_multiplyLinear 31 = .ok (.invokevirtual 60, 3) := by decide +kernel
theorem dX1_multiplyLinear_34 : decode cX1_multiplyLinear 34 = .ok (.invokevirtual 56, 3) := by decide +kernel
theorem dX1_multiplyLinear_37 : decode cX1_multiplyLinear 37 = .ok (.invokevirtual 64, 3) := by decide +kernel
theorem dX1_multiplyLinear_40 : decode cX1_multiplyLinear 40 = .ok (.invokevirtual 67, 3) := by decide +kernel
theorem dX1_multiplyLinear_43 : decode cX1_multiplyLinear 43 = .ok (.iinc 3 (-1), 3) := by decide +kernel
theorem dX1_multiplyLinear_46 : decode cX1_multiplyLinear 46 = .ok (.goto (-39), 3) := by decide +kernel
theorem dX1_multiplyLinear_49 : decode cX1_multiplyLinear 49 = .ok (.return_, 1) := by decide +kernel
theorem dX1_divide_0 : decode cX1_divide 0 = .ok (.aload_n 2, 1) := by decide +kernel
theorem dX1_divide_1 : decode cX1_divide 1 = .ok (.invokevirtual 52, 3) := by decide +kernel
theorem dX1_divide_4 : decode cX1_divide 4 = .ok (.istore_n 3, 1) := by decide +kernel
theorem dX1_divide_5 : decode cX1_divide 5 = .ok (.aload_n 0, 1) := by decide +kernel
theorem dX1_divide_6 : decode cX1_divide 6 = .ok (.getfield 25, 3) := by decide +kernel
theorem dX1_divide_9 : decode cX1_divide 9 = .ok (.invokevirtual 71, 3) := by decide +kernel
theorem dX1_divide_12 : decode cX1_divide 12 = .ok (.aload_n 1, 1) := by decide +kernel
theorem dX1_divide_13 : decode cX1_divide 13 = .ok (.invokevirtual 52, 3) := by decide +kernel
theorem dX1_divide_16 : decode cX1_divide 16 = .ok (.istore 4, 2) := by decide +kernel
theorem dX1_divide_18 : decode cX1_divide 18 = .ok (.iload_n 3, 1) := by decide +kernel
theorem dX1_divide_19 : decode cX1_divide 19 = .ok (.ifCond .lt 99, 3) := by decide +kernel
theorem dX1_divide_22 : decode cX1_divide 22 = .ok (.iload 4, 2) := by decide +kernel
theorem dX1_divide_24 : decode cX1_divide 24 = .ok (.iload_n 3, 1) := by decide +kernel
theorem dX1_divide_25 : decode cX1_divide 25 = .ok (.if_icmp .lt 93, 3) := by decide +kernel
theorem dX1_divide_28 : decode cX1_divide 28 = .ok (.aload_n 1, 1) := by decide +kernel
theorem dX1_divide_29 : decode cX1_divide 29 = .ok (.iload 4, 2) := by decide +kernel
theorem dX1_divide_31 : decode cX1_divide 31 = .ok (.invokevirtual 60, 3) := by decide +kernel
theorem dX1_divide_34 : decode cX1_divide 34 = .ok (.istore 5, 2) := by decide +kernel
theorem dX1_divide_36 : decode cX1_divide 36 = .ok (.aload_n 0, 1) := by decide +kernel
theorem dX1_divide_37 : decode cX1_divide 37 = .ok (.getfield 25, 3) := by decide +kernel
theorem dX1_divide_40 : decode cX1_divide 40 = .ok (.iload 4, 2) := by decide +kernel
theorem dX1_divide_42 : decode cX1_divide 42 = .ok (.iload_n 3, 1) := by decide +kernel
theorem dX1_divide_43 : decode cX1_divide 43 = .ok (.isub, 1) := by decide +kernel
theorem dX1_divide_44 : decode cX1_divide 44 = .ok (.iload 5, 2) := by decide +kernel
theorem dX1_divide_46 : decode cX1_divide 46 = .ok (.invokevirtual 67, 3) := by decide +kernel
theorem dX1_divide_49 : decode cX1_divide 49 = .ok (.iconst 0, 1) := by decide +kernel
theorem dX1_divide_50 : decode cX1_divide 50 = .ok (.istore 6, 2) := by decide +kernel
theorem dX1_divide_52 : decode cX1_divide 52 = .ok (.iload 5, 2) := by decide +kernel
theorem dX1_divide_54 : decode cX1_divide 54 = .ok (.ifCond .eq 58, 3) := by decide +kernel
theorem dX1_divide_57 : decode cX1_divide 57 = .ok (.iload 6, 2) := by decide +kernel
theorem dX1_divide_59 : decode cX1_divide 59 = .ok (.iload_n 3, 1) := by decide +kernel
theorem dX1_divide_60 : decode cX1_divide 60 = .ok (.if_icmp .gt 52, 3) := by decide +kernel
theorem dX1_divide_63 : decode cX1_divide 63 = .ok (.iload 4, 2) := by decide +kernel
theorem dX1_divide_65 : decode cX1_divide 65 = .ok (.iload_n 3, 1) := by decide +kernel
theorem dX1_divide_66 : decode cX1_divide 66 = .ok (.isub, 1) := by decide +kernel
theorem dX1_divide_67 : decode cX1_divide 67 = .ok (.iload 6, 2) := by decide +kernel
theorem dX1_divide_69 : decode cX1_divide 69 = .ok (.iadd, 1) := by decide +kernel
theorem dX1_divide_70 : decode cX1_divide 70 = .ok (.istore 7, 2) := by decide +kernel
theorem dX1_divide_72 : decode cX1_divide 72 = .ok (.aload_n 1, 1) := by decide +kernel
theorem dX1_divide_73 : decode cX1_divide 73 = .ok (.iload 7, 2) := by decide +kernel
theorem dX1_divide_75 : decode cX1_divide 75 = .ok (.aload_n 0, 1) := by decide +kernel
theorem dX1_divide_76 : decode cX1_divide 76 = .ok (.getfield 12, 3) := by decide +kernel
theorem dX1_divide_79 : decode cX1_divide 79 = .ok (.aload_n 1, 1) := by decide +kernel
theorem dX1_divide_80 : decode cX1_divide 80 = .ok (.iload 7, 2) := by decide +kernel
theorem dX1_divide_82 : decode cX1_divide 82 = .ok (.invokevirtual 60, 3) := by decide +kernel
theorem dX1_divide_85 : decode cX1_divide 85 = .ok (.aload_n 0, 1) := by decide +kernel
theorem dX1_divide_86 : decode cX1_divide 86 = .ok (.getfield 12, 3) := by decide +kernel
theorem dX1_divide_89 : decode cX1_divide 89 = .ok (.iload 5, 2) := by decide +kernel
theorem dX1_divide_91 : decode cX1_divide 91 = .ok (.aload_n 2, 1) := by decide +kernel
theorem dX1_divide_92 : decode cX1_divide 92 = .ok (.iload 6, 2) := by decide +kernel
theorem dX1_divide_94 : decode cX1_divide 94 = .ok (.invokevirtual 60, 3) := by decide +kernel
theorem dX1_divide_97 : decode cX1_divide 97 = .ok (.invokevirtual 56, 3) := by decide +kernel
theorem dX1_divide_100 : decode cX1_divide 100 = .ok (.invokevirtual 78, 3) := by decide +kernel
theorem dX1_divide_103 : decode cX1_divide 103 = .ok (.invokevirtual 67, 3) := by decide +kernel
theorem dX1_divide_106 : decode cX1_divide 106 = .ok (.iinc 6 1, 3) := by decide +kernel
theorem dX1_divide_109 : decode cX1_divide 109 = .ok (.goto (-57), 3) := by decide +kernel
theorem dX1_divide_112 : decode cX1_divide 112 = .ok (.iinc 4 (-1), 3) := by decide +kernel
theorem dX1_divide_115 : decode cX1_divide 115 = .ok (.goto (-97), 3) := by decide +kernel
theorem dX1_divide_118 : decode cX1_divide 118 = .ok (.return_, 1) := by decide +kernel
theorem dX1_makeMonic_0 : decode cX1_makeMonic 0 = .ok (.aload_n 1, 1) := by decide +kernel
theorem dX1_makeMonic_1 : decode cX1_makeMonic 1 = .ok (.invokevirtual 52, 3) := by decide +kernel
theorem dX1_makeMonic_4 : decode cX1_makeMonic 4 = .ok (.istore_n 2, 1) := by decide +kernel
theorem dX1_makeMonic_5 : decode cX1_makeMonic 5 = .ok (.aload_n 1, 1) := by decide +kernel
theorem dX1_makeMonic_6 : decode cX1_makeMonic 6 = .ok (.iload_n 2, 1) := by decide +kernel
theorem dX1_makeMonic_7 : decode cX1_makeMonic 7 = .ok (.invokevirtual 60, 3) := by decide +kernel
theorem dX1_makeMonic_10 : decode cX1_makeMonic 10 = .ok (.istore_n 3, 1) := by decide +kernel
theorem dX1_makeMonic_11 : decode cX1_makeMonic 11 = .ok (.iload_n 3, 1) := by decide +kernel
theorem dX1_makeMonic_12 : decode cX1_makeMonic 12 = .ok (.ifCond .eq 8, 3) := by decide +kernel
theorem dX1_makeMonic_15 : decode cX1_makeMonic 15 = .ok (.iload_n 3, 1) := by decide +kernel
theorem dX1_makeMonic_16 : decode cX1_makeMonic 16 = .ok (.iconst 1, 1) := by decide +kernel
theorem dX1_makeMonic_17 : decode cX1_makeMonic 17 = .ok (.if_icmp .ne 4, 3) := by decide +kernel
theorem dX1_makeMonic_20 : decode cX1_makeMonic 20 = .ok (.return_, 1) := by decide +kernel
theorem dX1_makeMonic_21 : decode cX1_makeMonic 21 = .ok (.aload_n 0, 1) := by decide +kernel
theorem dX1_makeMonic_22 : decode cX1_makeMonic 22 = .ok (.getfield 12, 3) := by decide +kernel
theorem dX1_makeMonic_25 : decode cX1_makeMonic 25 = .ok (.iload_n 3, 1) := by decide +kernel
theorem dX1_makeMonic_26 : decode cX1_makeMonic 26 = .ok (.aload_n 0, 1) := by decide +kernel
theorem dX1_makeMonic_27 : decode cX1_makeMonic 27 = .ok (.getfield 12, 3) := by decide +kernel
theorem dX1_makeMonic_30 : decode cX1_makeMonic 30 = .ok (.getfield 81, 3) := by decide +kernel
theorem dX1_makeMonic_33 : decode cX1_makeMonic 33 = .ok (.iconst 2, 1) := by decide +kernel
theorem dX1_makeMonic_34 : decode cX1_makeMonic 34 = .ok (.isub, 1) := by decide +kernel
theorem dX1_makeMonic_35 : decode cX1_makeMonic 35 = .ok (.invokevirtual 85, 3) := by decide +kernel
theorem dX1_makeMonic_38 : decode cX1_makeMonic 38 = .ok (.istore 4, 2) := by decide +kernel
theorem dX1_makeMonic_40 : decode cX1_makeMonic 40 = .ok (.iconst 0, 1) := by decide +kernel
theorem dX1_makeMonic_41 : decode cX1_makeMonic 41 = .ok (.istore 5, 2) := by decide +kernel
theorem dX1_makeMonic_43 : decode cX1_makeMonic 43 = .ok (.iload 5, 2) := by decide +kernel
theorem dX1_makeMonic_45 : decode cX1_makeMonic 45 = .ok (.iload_n 2, 1) := by decide +kernel
theorem dX1_makeMonic_46 : decode cX1_makeMonic 46 = .ok (.if_icmp .gt 30, 3) := by decide +kernel
theorem dX1_makeMonic_49 : decode cX1_makeMonic 49 = .ok (.aload_n 1, 1) := by decide +kernel
theorem dX1_makeMonic_50 : decode cX1_makeMonic 50 = .ok (.iload 5, 2) := by decide +kernel
theorem dX1_makeMonic_52 : decode cX1_makeMonic 52 = .ok (.aload_n 0, 1) := by decide +kernel
theorem dX1_makeMonic_53 : decode cX1_makeMonic 53 = .ok (.getfield 12, 3) := by decide +kernel
theorem dX1_makeMonic_56 : decode cX1_makeMonic 56 = .ok (.aload_n 1, 1) := by decide +kernel
theorem dX1_makeMonic_57 : decode cX1_makeMonic 57 = .ok (.iload 5, 2) := by decide +kernel
theorem dX1_makeMonic_59 : decode cX1_makeMonic 59 = .ok (.invokevirtual 60, 3) := by decide +kernel
theorem dX1_makeMonic_62 : decode cX1_makeMonic 62 = .ok (.iload 4, 2) := by decide +kernel
theorem dX1_makeMonic_64 : decode cX1_makeMonic 64 = .ok (.invokevirtual 56, 3) := by decide +kernel
theorem dX1_makeMonic_67 : decode cX1_makeMonic 67 = .ok (.invokevirtual 67, 3) := by decide +kernel
theorem dX1_makeMonic_70 : decode cX1_makeMonic 70 = .ok (.iinc 5 1, 3) := by decide +kernel
theorem dX1_makeMonic_73 : decode cX1_makeMonic 73 = .ok (.goto (-30), 3) := by decide +kernel
theorem dX1_makeMonic_76 : decode cX1_makeMonic 76 = .ok (.return_, 1) := by decide +kernel
theorem dX1_findCommon_0 : decode cX1_findCommon 0 = .ok (.aload_n 0, 1) := by decide +kernel
theorem dX1_findCommon_1 : decode cX1_findCommon 1 = .ok (.getfield 28, 3) := by decide +kernel
theorem dX1_findCommon_4 : decode cX1_findCommon 4 = .ok (.aload_n 1, 1) := by decide +kernel
theorem dX1_findCommon_5 : decode cX1_findCommon 5 = .ok (.invokevirtual 74, 3) := by decide +kernel
theorem dX1_findCommon_8 : decode cX1_findCommon 8 = .ok (.aload_n 0, 1) := by decide +kernel
theorem dX1_findCommon_9 : decode cX1_findCommon 9 = .ok (.getfield 31, 3) := by decide +kernel
theorem dX1_findCommon_12 : decode cX1_findCommon 12 = .ok (.aload_n 2, 1) := by decide +kernel
theorem dX1_findCommon_13 : decode cX1_findCommon 13 = .ok (.invokevirtual 74, 3) := by decide +kernel
theorem dX1_findCommon_16 : decode cX1_findCommon 16 = .ok (.aload_n 0, 1) := by decide +kernel
theorem dX1_findCommon_17 : decode cX1_findCommon 17 = .ok (.getfield 28, 3) := by decide +kernel
theorem dX1_findCommon_20 : decode cX1_findCommon 20 = .ok (.astore 4, 2) := by decide +kernel
theorem dX1_findCommon_22 : decode cX1_findCommon 22 = .ok (.aload_n 0, 1) := by decide +kernel
theorem dX1_findCommon_23 : decode cX1_findCommon 23 = .ok (.getfield 31, 3) := by decide +kernel
theorem dX1_findCommon_26 : decode cX1_findCommon 26 = .ok (.astore 5, 2) := by decide +kernel
theorem dX1_findCommon_28 : decode cX1_findCommon 28 = .ok (.iconst 0, 1) := by decide +kernel
theorem dX1_findCommon_29 : decode cX1_findCommon 29 = .ok (.istore 6, 2) := by decide +kernel
theorem dX1_findCommon_31 : decode cX1_findCommon 31 = .ok (.iload 6, 2) := by decide +kernel
theorem dX1_findCommon_33 : decode cX1_findCommon 33 = .ok (.bipush 17, 2) := by decide +kernel
theorem dX1_findCommon_35 : decode cX1_findCommon 35 = .ok (.if_icmp .gt 43, 3) := by decide +kernel
theorem dX1_findCommon_38 : decode cX1_findCommon 38 = .ok (.aload 5, 2) := by decide +kernel
theorem dX1_findCommon_40 : decode cX1_findCommon 40 = .ok (.invokevirtual 52, 3) := by decide +kernel
theorem dX1_findCommon_43 : decode cX1_findCommon 43 = .ok (.ifCond .lt 35, 3) := by decide +kernel
theorem dX1_findCommon_46 : decode cX1_findCommon 46 = .ok (.aload_n 0, 1) := by decide +kernel
theorem dX1_findCommon_47 : decode cX1_findCommon 47 = .ok (.aload 5, 2) := by decide +kernel
theorem dX1_findCommon_49 : decode cX1_findCommon 49 = .ok (.invokevirtual 88, 3) := by decide +kernel
theorem dX1_findCommon_52 : decode cX1_findCommon 52 = .ok (.aload_n 0, 1) := by decide +kernel
theorem dX1_findCommon_53 : decode cX1_findCommon 53 = .ok (.aload 4, 2) := by decide +kernel
theorem dX1_findCommon_55 : decode cX1_findCommon 55 = .ok (.aload 5, 2) := by decide +kernel
theorem dX1_findCommon_57 : decode cX1_findCommon 57 = .ok (.invokevirtual 91, 3) := by decide +kernel
theorem dX1_findCommon_60 : decode cX1_findCommon 60 = .ok (.aload 4, 2) := by decide +kernel
theorem dX1_findCommon_62 : decode cX1_findCommon 62 = .ok (.astore 7, 2) := by decide +kernel
theorem dX1_findCommon_64 : decode cX1_findCommon 64 = .ok (.aload 5, 2) := by decide +kernel
theorem dX1_findCommon_66 : decode cX1_findCommon 66 = .ok (.astore 4, 2) := by decide +kernel
theorem dX1_findCommon_68 : decode cX1_findCommon 68 = .ok (.aload 7, 2) := by decide +kernel
theorem dX1_findCommon_70 : decode cX1_findCommon 70 = .ok (.astore 5, 2) := by decide +kernel
theorem dX1_findCommon_72 : decode cX1_findCommon 72 = .ok (.iinc 6 1, 3) := by decide +kernel
theorem dX1_findCommon_75 : decode cX1_findCommon 75 = .ok (.goto (-44), 3) := by decide +kernel
theorem dX1_findCommon_78 : decode cX1_findCommon 78 = .ok (.aload_n 0, 1) := by decide +kernel
theorem dX1_findCommon_79 : decode cX1_findCommon 79 = .ok (.aload 4, 2) := by decide +kernel
theorem dX1_findCommon_81 : decode cX1_findCommon 81 = .ok (.invokevirtual 88, 3) := by decide +kernel
theorem dX1_findCommon_84 : decode cX1_findCommon 84 = .ok (.aload_n 3, 1) := by decide +kernel
theorem dX1_findCommon_85 : decode cX1_findCommon 85 = .ok (.aload 4, 2) := by decide +kernel
theorem dX1_findCommon_87 : decode cX1_findCommon 87 = .ok (.invokevirtual 74, 3) := by decide +kernel
theorem dX1_findCommon_90 : decode cX1_findCommon 90 = .ok (.return_, 1) := by decide +kernel
theorem dX1_findSquares_0 : decode cX1_findSquares 0 = .ok (.aload_n 0, 1) := by decide +kernel
theorem dX1_findSquares_1 : decode cX1_findSquares 1 = .ok (.getfield 34, 3) := by decide +kernel
theorem dX1_findSquares_4 : decode cX1_findSquares 4 = .ok (.invokevirtual 71, 3) := by decide +kernel
theorem dX1_findSquares_7 : decode cX1_findSquares 7 = .ok (.aload_n 1, 1) := by decide +kernel
theorem dX1_findSquares_8 : decode cX1_findSquares 8 = .ok (.invokevirtual 52, 3) := by decide +kernel
theorem dX1_findSquares_11 : decode cX1_findSquares 11 = .ok (.istore_n 3, 1) := by decide +kernel
theorem dX1_findSquares_12 : decode cX1_findSquares 12 = .ok (.iload_n 3, 1) := by decide +kernel
theorem dX1_findSquares_13 : decode cX1_findSquares 13 = .ok (.ifCond .le 32, 3) := by decide +kernel
theorem dX1_findSquares_16 : decode cX1_findSquares 16 = .ok (.aload_n 0, 1) := by decide +kernel
theorem dX1_findSquares_17 : decode cX1_findSquares 17 = .ok (.getfield 34, 3) := by decide +kernel
theorem dX1_findSquares_20 : decode cX1_findSquares 20 = .ok (.iload_n 3, 1) := by decide +kernel
theorem dX1_findSquares_21 : decode cX1_findSquares 21 = .ok (.iconst 1, 1) := by decide +kernel
theorem dX1_findSquares_22 : decode cX1_findSquares 22 = .ok (.isub, 1) := by decide +kernel
theorem dX1_findSquares_23 : decode cX1_findSquares 23 = .ok (.aload_n 0, 1) := by decide +kernel
theorem dX1_findSquares_24 : decode cX1_findSquares 24 = .ok (.getfield 12, 3) := by decide +kernel
theorem dX1_findSquares_27 : decode cX1_findSquares 27 = .ok (.iload_n 3, 1) := by decide +kernel
theorem dX1_findSquares_28 : decode cX1_findSquares 28 = .ok (.aload_n 1, 1) := by decide +kernel
theorem dX1_findSquares_29 : decode cX1_findSquares 29 = .ok (.iload_n 3, 1) := by decide +kernel
theorem dX1_findSquares_30 : decode cX1_findSquares 30 = .ok (.invokevirtual 60, 3) := by decide +kernel
theorem dX1_findSquares_33 : decode cX1_findSquares 33 = .ok (.invokevirtual 56, 3) := by decide +kernel
theorem dX1_findSquares_36 : decode cX1_findSquares 36 = .ok (.invokevirtual 67, 3) := by decide +kernel
theorem dX1_findSquares_39 : decode cX1_findSquares 39 = .ok (.iinc 3 (-1), 3) := by decide +kernel
theorem dX1_findSquares_42 : decode cX1_findSquares 42 = .ok (.goto (-30), 3) := by decide +kernel
theorem dX1_findSquares_45 : decode cX1_findSquares 45 = .ok (.aload_n 0, 1) := by decide +kernel
theorem dX1_findSquares_46 : decode cX1_findSquares 46 = .ok (.aload_n 1, 1) := by decide +kernel
theorem dX1_findSquares_47 : decode cX1_findSquares 47 = .ok (.aload_n 0, 1) := by decide +kernel
theorem dX1_findSquares_48 : decode cX1_findSquares 48 = .ok (.getfield 34, 3) := by decide +kernel
theorem dX1_findSquares_51 : decode cX1_findSquares 51 = .ok (.aload_n 2, 1) := by decide +kernel
theorem dX1_findSquares_52 : decode cX1_findSquares 52 = .ok (.invokevirtual 95, 3) := by decide +kernel
theorem dX1_findSquares_55 : decode cX1_findSquares 55 = .ok (.return_, 1) := by decide +kernel
theorem dX1_raiseLinear_0 : decode cX1_raiseLinear 0 = .ok (.aload 5, 2) := by decide +kernel
theorem dX1_raiseLinear_2 : decode cX1_raiseLinear 2 = .ok (.invokevirtual 99, 3) := by decide +kernel
theorem dX1_raiseLinear_5 : decode cX1_raiseLinear 5 = .ok (.bipush 40, 2) := by decide +kernel
theorem dX1_raiseLinear_7 : decode cX1_raiseLinear 7 = .ok (.istore 6, 2) := by decide +kernel
theorem dX1_raiseLinear_9 : decode cX1_raiseLinear 9 = .ok (.iload 6, 2) := by decide +kernel
theorem dX1_raiseLinear_11 : decode cX1_raiseLinear 11 = .ok (.ifCond .lt 55, 3) := by decide +kernel
theorem dX1_raiseLinear_14 : decode cX1_raiseLinear 14 = .ok (.lload_n 2, 1) := by decide +kernel
theorem dX1_raiseLinear_15 : decode cX1_raiseLinear 15 = .ok (.iload 6, 2) := by decide +kernel
theorem dX1_raiseLinear_17 : decode cX1_raiseLinear 17 = .ok (.lshr, 1) := by decide +kernel
theorem dX1_raiseLinear_18 : decode cX1_raiseLinear 18 = .ok (.lconst 0, 1) := by decide +kernel
theorem dX1_raiseLinear_19 : decode cX1_raiseLinear 19 = .ok (.lcmp, 1) := by decide +kernel
theorem dX1_raiseLinear_20 : decode cX1_raiseLinear 20 = .ok (.ifCond .ne 6, 3) := by decide +kernel
theorem dX1_raiseLinear_23 : decode cX1_raiseLinear 23 = .ok (.goto 37, 3) := by decide +kernel
theorem dX1_raiseLinear_26 : decode cX1_raiseLinear 26 = .ok (.aload_n 0, 1) := by decide +kernel
theorem dX1_raiseLinear_27 : decode cX1_raiseLinear 27 = .ok (.aload 5, 2) := by decide +kernel
theorem dX1_raiseLinear_29 : decode cX1_raiseLinear 29 = .ok (.aload 5, 2) := by decide +kernel
theorem dX1_raiseLinear_31 : decode cX1_raiseLinear 31 = .ok (.invokevirtual 102, 3) := by decide +kernel
theorem dX1_raiseLinear_34 : decode cX1_raiseLinear 34 = .ok (.lload_n 2, 1) := by decide +kernel
theorem dX1_raiseLinear_35 : decode cX1_raiseLinear 35 = .ok (.iload 6, 2) := by decide +kernel
theorem dX1_raiseLinear_37 : decode cX1_raiseLinear 37 = .ok (.lshr, 1) := by decide +kernel
theorem dX1_raiseLinear_38 : decode cX1_raiseLinear 38 = .ok (.lconst 1, 1) := by decide +kernel
theorem dX1_raiseLinear_39 : decode cX1_raiseLinear 39 = .ok (.land, 1) := by decide +kernel
theorem dX1_raiseLinear_40 : decode cX1_raiseLinear 40 = .ok (.lconst 1, 1) := by decide +kernel
theorem dX1_raiseLinear_41 : decode cX1_raiseLinear 41 = .ok (.lcmp, 1) := by decide +kernel
theorem dX1_raiseLinear_42 : decode cX1_raiseLinear 42 = .ok (.ifCond .ne 10, 3) := by decide +kernel
theorem dX1_raiseLinear_45 : decode cX1_raiseLinear 45 = .ok (.aload_n 0, 1) := by decide +kernel
theorem dX1_raiseLinear_46 : decode cX1_raiseLinear 46 = .ok (.aload 5, 2) := by decide +kernel
theorem dX1_raiseLinear_48 : decode cX1_raiseLinear 48 = .ok (.iload_n 1, 1) := by decide +kernel
theorem dX1_raiseLinear_49 : decode cX1_raiseLinear 49 = .ok (.invokevirtual 105, 3) := by decide +kernel
theorem dX1_raiseLinear_52 : decode cX1_raiseLinear 52 = .ok (.aload_n 0, 1) := by decide +kernel
theorem dX1_raiseLinear_53 : decode cX1_raiseLinear 53 = .ok (.aload 5, 2) := by decide +kernel
theorem dX1_raiseLinear_55 : decode cX1_raiseLinear 55 = .ok (.aload 4, 2) := by decide +kernel
theorem dX1_raiseLinear_57 : decode cX1_raiseLinear 57 = .ok (.invokevirtual 91, 3) := by decide +kernel
theorem dX1_raiseLinear_60 : decode cX1_raiseLinear 60 = .ok (.iinc 6 (-1), 3) := by decide +kernel
theorem dX1_raiseLinear_63 : decode cX1_raiseLinear 63 = .ok (.goto (-54), 3) := by decide +kernel
theorem dX1_raiseLinear_66 : decode cX1_raiseLinear 66 = .ok (.return_, 1) := by decide +kernel
theorem dX1_normOf_0 : decode cX1_normOf 0 = .ok (.aload_n 0, 1) := by decide +kernel
theorem dX1_normOf_1 : decode cX1_normOf 1 = .ok (.getfield 40, 3) := by decide +kernel
theorem dX1_normOf_4 : decode cX1_normOf 4 = .ok (.aload_n 1, 1) := by decide +kernel
theorem dX1_normOf_5 : decode cX1_normOf 5 = .ok (.invokevirtual 74, 3) := by decide +kernel
theorem dX1_normOf_8 : decode cX1_normOf 8 = .ok (.aload_n 0, 1) := by decide +kernel
theorem dX1_normOf_9 : decode cX1_normOf 9 = .ok (.getfield 37, 3) := by decide +kernel
theorem dX1_normOf_12 : decode cX1_normOf 12 = .ok (.aload_n 1, 1) := by decide +kernel
theorem dX1_normOf_13 : decode cX1_normOf 13 = .ok (.invokevirtual 74, 3) := by decide +kernel
theorem dX1_normOf_16 : decode cX1_normOf 16 = .ok (.aload_n 1, 1) := by decide +kernel
theorem dX1_normOf_17 : decode cX1_normOf 17 = .ok (.invokevirtual 52, 3) := by decide +kernel
theorem dX1_normOf_20 : decode cX1_normOf 20 = .ok (.istore_n 2, 1) := by decide +kernel
theorem dX1_normOf_21 : decode cX1_normOf 21 = .ok (.iconst 1, 1) := by decide +kernel
theorem dX1_normOf_22 : decode cX1_normOf 22 = .ok (.istore_n 3, 1) := by decide +kernel
theorem dX1_normOf_23 : decode cX1_normOf 23 = .ok (.iload_n 3, 1) := by decide +kernel
theorem dX1_normOf_24 : decode cX1_normOf 24 = .ok (.aload_n 0, 1) := by decide +kernel
theorem dX1_normOf_25 : decode cX1_normOf 25 = .ok (.getfield 12, 3) := by decide +kernel
theorem dX1_normOf_28 : decode cX1_normOf 28 = .ok (.getfield 109, 3) := by decide +kernel
theorem dX1_normOf_31 : decode cX1_normOf 31 = .ok (.if_icmp .ge 61, 3) := by decide +kernel
theorem dX1_normOf_34 : decode cX1_normOf 34 = .ok (.iconst 0, 1) := by decide +kernel
theorem dX1_normOf_35 : decode cX1_normOf 35 = .ok (.istore 4, 2) := by decide +kernel
theorem dX1_normOf_37 : decode cX1_normOf 37 = .ok (.iload 4, 2) := by decide +kernel
theorem dX1_normOf_39 : decode cX1_normOf 39 = .ok (.iload_n 2, 1) := by decide +kernel
theorem dX1_normOf_40 : decode cX1_normOf 40 = .ok (.if_icmp .gt 34, 3) := by decide +kernel
theorem dX1_normOf_43 : decode cX1_normOf 43 = .ok (.aload_n 0, 1) := by decide +kernel
theorem dX1_normOf_44 : decode cX1_normOf 44 = .ok (.getfield 37, 3) := by decide +kernel
theorem dX1_normOf_47 : decode cX1_normOf 47 = .ok (.iload 4, 2) := by decide +kernel
theorem dX1_normOf_49 : decode cX1_normOf 49 = .ok (.aload_n 0, 1) := by decide +kernel
theorem dX1_normOf_50 : decode cX1_normOf 50 = .ok (.getfield 12, 3) := by decide +kernel
theorem dX1_normOf_53 : decode cX1_normOf 53 = .ok (.aload_n 0, 1) := by decide +kernel
theorem dX1_normOf_54 : decode cX1_normOf 54 = .ok (.getfield 37, 3) := by decide +kernel
theorem dX1_normOf_57 : decode cX1_normOf 57 = .ok (.iload 4, 2) := by decide +kernel
theorem dX1_normOf_59 : decode cX1_normOf 59 = .ok (.invokevirtual 60, 3) := by decide +kernel
theorem dX1_normOf_62 : decode cX1_normOf 62 = .ok (.invokevirtual 111, 3) := by decide +kernel
theorem dX1_normOf_65 : decode cX1_normOf 65 = .ok (.invokevirtual 67, 3) := by decide +kernel
theorem dX1_normOf_68 : decode cX1_normOf 68 = .ok (.iinc 4 1, 3) := by decide +kernel
theorem dX1_normOf_71 : decode cX1_normOf 71 = .ok (.goto (-34), 3) := by decide +kernel
theorem dX1_normOf_74 : decode cX1_normOf 74 = .ok (.aload_n 0, 1) := by decide +kernel
theorem dX1_normOf_75 : decode cX1_normOf 75 = .ok (.aload_n 0, 1) := by decide +kernel
theorem dX1_normOf_76 : decode cX1_normOf 76 = .ok (.getfield 40, 3) := by decide +kernel
theorem dX1_normOf_79 : decode cX1_normOf 79 = .ok (.aload_n 0, 1) := by decide +kernel
theorem dX1_normOf_80 : decode cX1_normOf 80 = .ok (.getfield 37, 3) := by decide +kernel
theorem dX1_normOf_83 : decode cX1_normOf 83 = .ok (.invokevirtual 102, 3) := by decide +kernel
theorem dX1_normOf_86 : decode cX1_normOf 86 = .ok (.iinc 3 1, 3) := by decide +kernel
theorem dX1_normOf_89 : decode cX1_normOf 89 = .ok (.goto (-66), 3) := by decide +kernel
theorem dX1_normOf_92 : decode cX1_normOf 92 = .ok (.aload_n 0, 1) := by decide +kernel
theorem dX1_normOf_93 : decode cX1_normOf 93 = .ok (.getfield 40, 3) := by decide +kernel
theorem dX1_normOf_96 : decode cX1_normOf 96 = .ok (.areturn, 1) := by decide +kernel
theorem dX1_leastPolynomial_0 : decode cX1_leastPolynomial 0 = .ok (.aload_n 0, 1) := by decide +kernel
theorem dX1_leastPolynomial_1 : decode cX1_leastPolynomial 1 = .ok (.getfield 12, 3) := by decide +kernel
theorem dX1_leastPolynomial_4 : decode cX1_leastPolynomial 4 = .ok (.iload_n 1, 1) := by decide +kernel
theorem dX1_leastPolynomial_5 : decode cX1_leastPolynomial 5 = .ok (.invokevirtual 114, 3) := by decide +kernel
theorem dX1_leastPolynomial_8 : decode cX1_leastPolynomial 8 = .ok (.istore_n 2, 1) := by decide +kernel
theorem dX1_leastPolynomial_9 : decode cX1_leastPolynomial 9 = .ok (.iload_n 1, 1) := by decide +kernel
theorem dX1_leastPolynomial_10 : decode cX1_leastPolynomial 10 = .ok (.istore_n 3, 1) := by decide +kernel
theorem dX1_leastPolynomial_11 : decode cX1_leastPolynomial 11 = .ok (.aload_n 0, 1) := by decide +kernel
theorem dX1_leastPolynomial_12 : decode cX1_leastPolynomial 12 = .ok (.getfield 46, 3) := by decide +kernel
theorem dX1_leastPolynomial_15 : decode cX1_leastPolynomial 15 = .ok (.invokevirtual 99, 3) := by decide +kernel
theorem dX1_leastPolynomial_18 : decode cX1_leastPolynomial 18 = .ok (.iconst 0, 1) := by decide +kernel
theorem dX1_leastPolynomial_19 : decode cX1_leastPolynomial 19 = .ok (.istore 4, 2) := by decide +kernel
theorem dX1_leastPolynomial_21 : decode cX1_leastPolynomial 21 = .ok (.iload 4, 2) := by decide +kernel
theorem dX1_leastPolynomial_23 : decode cX1_leastPolynomial 23 = .ok (.iload_n 2, 1) := by decide +kernel
theorem dX1_leastPolynomial_24 : decode cX1_leastPolynomial 24 = .ok (.if_icmp .ge 35, 3) := by decide +kernel
theorem dX1_leastPolynomial_27 : decode cX1_leastPolynomial 27 = .ok (.aload_n 0, 1) := by decide +kernel
theorem dX1_leastPolynomial_28 : decode cX1_leastPolynomial 28 = .ok (.aload_n 0, 1) := by decide +kernel
theorem dX1_leastPolynomial_29 : decode cX1_leastPolynomial 29 = .ok (.getfield 46, 3) := by decide +kernel
theorem dX1_leastPolynomial_32 : decode cX1_leastPolynomial 32 = .ok (.aload_n 0, 1) := by decide +kernel
theorem dX1_leastPolynomial_33 : decode cX1_leastPolynomial 33 = .ok (.getfield 12, 3) := by decide +kernel
theorem dX1_leastPolynomial_36 : decode cX1_leastPolynomial 36 = .ok (.iconst 0, 1) := by decide +kernel
theorem dX1_leastPolynomial_37 : decode cX1_leastPolynomial 37 = .ok (.iload_n 3, 1) := by decide +kernel
theorem dX1_leastPolynomial_38 : decode cX1_leastPolynomial 38 = .ok (.invokevirtual 78, 3) := by decide +kernel
theorem dX1_leastPolynomial_41 : decode cX1_leastPolynomial 41 = .ok (.invokevirtual 105, 3) := by decide +kernel
theorem dX1_leastPolynomial_44 : decode cX1_leastPolynomial 44 = .ok (.aload_n 0, 1) := by decide +kernel
theorem dX1_leastPolynomial_45 : decode cX1_leastPolynomial 45 = .ok (.getfield 12, 3) := by decide +kernel
theorem dX1_leastPolynomial_48 : decode cX1_leastPolynomial 48 = .ok (.iload_n 3, 1) := by decide +kernel
theorem dX1_leastPolynomial_49 : decode cX1_leastPolynomial 49 = .ok (.invokevirtual 111, 3) := by decide +kernel
theorem dX1_leastPolynomial_52 : decode cX1_leastPolynomial 52 = .ok (.istore_n 3, 1) := by decide +kernel
theorem dX1_leastPolynomial_53 : decode cX1_leastPolynomial 53 = .ok (.iinc 4 1, 3) := by decide +kernel
theorem dX1_leastPolynomial_56 : decode cX1_leastPolynomial 56 = .ok (.goto (-35), 3) := by decide +kernel
theorem dX1_leastPolynomial_59 : decode cX1_leastPolynomial 59 = .ok (.aload_n 0, 1) := by decide +kernel
theorem dX1_leastPolynomial_60 : decode cX1_leastPolynomial 60 = .ok (.getfield 46, 3) := by decide +kernel
theorem dX1_leastPolynomial_63 : decode cX1_leastPolynomial 63 = .ok (.areturn, 1) := by decide +kernel
theorem dX1_leastShift_0 : decode cX1_leastShift 0 = .ok (.iconst 0, 1) := by decide +kernel
theorem dX1_leastShift_1 : decode cX1_leastShift 1 = .ok (.istore_n 2, 1) := by decide +kernel
theorem dX1_leastShift_2 : decode cX1_leastShift 2 = .ok (.iload_n 2, 1) := by decide +kernel
theorem dX1_leastShift_3 : decode cX1_leastShift 3 = .ok (.bipush 101, 2) := by decide +kernel
theorem dX1_leastShift_5 : decode cX1_leastShift 5 = .ok (.if_icmp .ge 76, 3) := by decide +kernel
theorem dX1_leastShift_8 : decode cX1_leastShift 8 = .ok (.aload_n 0, 1) := by decide +kernel
theorem dX1_leastShift_9 : decode cX1_leastShift 9 = .ok (.getfield 43, 3) := by decide +kernel
theorem dX1_leastShift_12 : decode cX1_leastShift 12 = .ok (.aload_n 1, 1) := by decide +kernel
theorem dX1_leastShift_13 : decode cX1_leastShift 13 = .ok (.invokevirtual 74, 3) := by decide +kernel
theorem dX1_leastShift_16 : decode cX1_leastShift 16 = .ok (.aload_n 0, 1) := by decide +kernel
theorem dX1_leastShift_17 : decode cX1_leastShift 17 = .ok (.aload_n 0, 1) := by decide +kernel
theorem dX1_leastShift_18 : decode cX1_leastShift 18 = .ok (.getfield 43, 3) := by decide +kernel
theorem dX1_leastShift_21 : decode cX1_leastShift 21 = .ok (.aload_n 0, 1) := by decide +kernel
theorem dX1_leastShift_22 : decode cX1_leastShift 22 = .ok (.getfield 12, 3) := by decide +kernel
theorem dX1_leastShift_25 : decode cX1_leastShift 25 = .ok (.iconst 0, 1) := by decide +kernel
theorem dX1_leastShift_26 : decode cX1_leastShift 26 = .ok (.aload_n 0, 1) := by decide +kernel
theorem dX1_leastShift_27 : decode cX1_leastShift 27 = .ok (.getfield 12, 3) := by decide +kernel
theorem dX1_leastShift_30 : decode cX1_leastShift 30 = .ok (.iload_n 2, 1) := by decide +kernel
theorem dX1_leastShift_31 : decode cX1_leastShift 31 = .ok (.aload_n 0, 1) := by decide +kernel
theorem dX1_leastShift_32 : decode cX1_leastShift 32 = .ok (.getfield 12, 3) := by decide +kernel
theorem dX1_leastShift_35 : decode cX1_leastShift 35 = .ok (.getfield 117, 3) := by decide +kernel
theorem dX1_leastShift_38 : decode cX1_leastShift 38 = .ok (.invokevirtual 56, 3) := by decide +kernel
theorem dX1_leastShift_41 : decode cX1_leastShift 41 = .ok (.invokevirtual 78, 3) := by decide +kernel
theorem dX1_leastShift_44 : decode cX1_leastShift 44 = .ok (.invokevirtual 120, 3) := by decide +kernel
theorem dX1_leastShift_47 : decode cX1_leastShift 47 = .ok (.aload_n 0, 1) := by decide +kernel
theorem dX1_leastShift_48 : decode cX1_leastShift 48 = .ok (.aload_n 0, 1) := by decide +kernel
theorem dX1_leastShift_49 : decode cX1_leastShift 49 = .ok (.aload_n 0, 1) := by decide +kernel
theorem dX1_leastShift_50 : decode cX1_leastShift 50 = .ok (.getfield 43, 3) := by decide +kernel
theorem dX1_leastShift_53 : decode cX1_leastShift 53 = .ok (.invokevirtual 123, 3) := by decide +kernel
theorem dX1_leastShift_56 : decode cX1_leastShift 56 = .ok (.aload_n 0, 1) := by decide +kernel
theorem dX1_leastShift_57 : decode cX1_leastShift 57 = .ok (.getfield 49, 3) := by decide +kernel
theorem dX1_leastShift_60 : decode cX1_leastShift 60 = .ok (.invokevirtual 127, 3) := by decide +kernel
theorem dX1_leastShift_63 : decode cX1_leastShift 63 = .ok (.aload_n 0, 1) := by decide +kernel
theorem dX1_leastShift_64 : decode cX1_leastShift 64 = .ok (.getfield 49, 3) := by decide +kernel
theorem dX1_leastShift_67 : decode cX1_leastShift 67 = .ok (.invokevirtual 52, 3) := by decide +kernel
theorem dX1_leastShift_70 : decode cX1_leastShift 70 = .ok (.ifCond .gt 5, 3) := by decide +kernel
theorem dX1_leastShift_73 : decode cX1_leastShift 73 = .ok (.iload_n 2, 1) := by decide +kernel
theorem dX1_leastShift_74 : decode cX1_leastShift 74 = .ok (.ireturn, 1) := by decide +kernel
theorem dX1_leastShift_75 : decode cX1_leastShift 75 = .ok (.iinc 2 1, 3) := by decide +kernel
theorem dX1_leastShift_78 : decode cX1_leastShift 78 = .ok (.goto (-76), 3) := by decide +kernel
theorem dX1_leastShift_81 : decode cX1_leastShift 81 = .ok (.iconst 0, 1) := by decide +kernel
theorem dX1_leastShift_82 : decode cX1_leastShift 82 = .ok (.ireturn, 1) := by decide +kernel
theorem dX2_init_0 : decode cX2_init 0 = .ok (.aload_n 0, 1) := by decide +kernel
theorem dX2_init_1 : decode cX2_init 1 = .ok (.invokespecial 3, 3) := by decide +kernel
theorem dX2_init_4 : decode cX2_init 4 = .ok (.aload_n 0, 1) := by decide +kernel
theorem dX2_init_5 : decode cX2_init 5 = .ok (.bipush 16, 2) := by decide +kernel
theorem dX2_init_7 : decode cX2_init 7 = .ok (.newarray .int, 2) := by decide +kernel
theorem dX2_init_9 : decode cX2_init 9 = .ok (.putfield 9, 3) := by decide +kernel
theorem dX2_init_12 : decode cX2_init 12 = .ok (.return_, 1) := by decide +kernel
theorem dX2_get_0 : decode cX2_get 0 = .ok (.iload_n 1, 1) := by decide +kernel
theorem dX2_get_1 : decode cX2_get 1 = .ok (.ifCond .lt 21, 3) := by decide +kernel
theorem dX2_get_4 : decode cX2_get 4 = .ok (.iload_n 1, 1) := by decide +kernel
theorem dX2_get_5 : decode cX2_get 5 = .ok (.aload_n 0, 1) := by decide +kernel
theorem dX2_get_6 : decode cX2_get 6 = .ok (.getfield 9, 3) := by decide +kernel
theorem dX2_get_9 : decode cX2_get 9 = .ok (.arraylength, 1) := by decide +kernel
theorem dX2_get_10 : decode cX2_get 10 = .ok (.if_icmp .ge 12, 3) := by decide +kernel
theorem dX2_get_13 : decode cX2_get 13 = .ok (.aload_n 0, 1) := by decide +kernel
theorem dX2_get_14 : decode cX2_get 14 = .ok (.getfield 9, 3) := by decide +kernel
theorem dX2_get_17 : decode cX2_get 17 = .ok (.iload_n 1, 1) := by decide +kernel
theorem dX2_get_18 : decode cX2_get 18 = .ok (.iaload, 1) := by decide +kernel
theorem dX2_get_19 : decode cX2_get 19 = .ok (.goto 4, 3) := by decide +kernel
theorem dX2_get_22 : decode cX2_get 22 = .ok (.iconst 0, 1) := by decide +kernel
theorem dX2_get_23 : decode cX2_get 23 = .ok (.ireturn, 1) := by decide +kernel
theorem dX2_set_0 : decode cX2_set 0 = .ok (.iload_n 1, 1) := by decide +kernel
theorem dX2_set_1 : decode cX2_set 1 = .ok (.ifCond .lt 19, 3) := by decide +kernel
theorem dX2_set_4 : decode cX2_set 4 = .ok (.iload_n 1, 1) := by decide +kernel
theorem dX2_set_5 : decode cX2_set 5 = .ok (.aload_n 0, 1) := by decide +kernel
theorem dX2_set_6 : decode cX2_set 6 = .ok (.getfield 9, 3) := by decide +kernel
theorem dX2_set_9 : decode cX2_set 9 = .ok (.arraylength, 1) := by decide +kernel
theorem dX2_set_10 : decode cX2_set 10 = .ok (.if_icmp .ge 10, 3) := by decide +kernel
theorem dX2_set_13 : decode cX2_set 13 = .ok (.aload_n 0, 1) := by decide +kernel
theorem dX2_set_14 : decode cX2_set 14 = .ok (.getfield 9, 3) := by decide +kernel
theorem dX2_set_17 : decode cX2_set 17 = .ok (.iload_n 1, 1) := by decide +kernel
theorem dX2_set_18 : decode cX2_set 18 = .ok (.iload_n 2, 1) := by decide +kernel
theorem dX2_set_19 : decode cX2_set 19 = .ok (.iastore, 1) := by decide +kernel
theorem dX2_set_20 : decode cX2_set 20 = .ok (.return_, 1) := by decide +kernel
theorem dX2_degree_0 : decode cX2_degree 0 = .ok (.aload_n 0, 1) := by decide +kernel
theorem dX2_degree_1 : decode cX2_degree 1 = .ok (.getfield 9, 3) := by decide +kernel
theorem dX2_degree_4 : decode cX2_degree 4 = .ok (.arraylength, 1) := by decide +kernel
theorem dX2_degree_5 : decode cX2_degree 5 = .ok (.iconst 1, 1) := by decide +kernel
theorem dX2_degree_6 : decode cX2_degree 6 = .ok (.isub, 1) := by decide +kernel
theorem dX2_degree_7 : decode cX2_degree 7 = .ok (.istore_n 1, 1) := by decide +kernel
theorem dX2_degree_8 : decode cX2_degree 8 = .ok (.iload_n 1, 1) := by decide +kernel
theorem dX2_degree_9 : decode cX2_degree 9 = .ok (.ifCond .lt 18, 3) := by decide +kernel
theorem dX2_degree_12 : decode cX2_degree 12 = .ok (.aload_n 0, 1) := by decide +kernel
theorem dX2_degree_13 : decode cX2_degree 13 = .ok (.getfield 9, 3) := by decide +kernel
theorem dX2_degree_16 : decode cX2_degree 16 = .ok (.iload_n 1, 1) := by decide +kernel
theorem dX2_degree_17 : decode cX2_degree 17 = .ok (.iaload, 1) := by decide +kernel
theorem dX2_degree_18 : decode cX2_degree 18 = .ok (.ifCond .ne 9, 3) := by decide +kernel
theorem dX2_degree_21 : decode cX2_degree 21 = .ok (.iinc 1 (-1), 3) := by decide +kernel
theorem dX2_degree_24 : decode cX2_degree 24 = .ok (.goto (-16), 3) := by decide +kernel
theorem dX2_degree_27 : decode cX2_degree 27 = .ok (.iload_n 1, 1) := by decide +kernel
theorem dX2_degree_28 : decode cX2_degree 28 = .ok (.ireturn, 1) := by decide +kernel
theorem dX2_clear_0 : decode cX2_clear 0 = .ok (.iconst 0, 1) := by decide +kernel
theorem dX2_clear_1 : decode cX2_clear 1 = .ok (.istore_n 1, 1) := by decide +kernel
theorem dX2_clear_2 : decode cX2_clear 2 = .ok (.iload_n 1, 1) := by decide +kernel
theorem dX2_clear_3 : decode cX2_clear 3 = .ok (.aload_n 0, 1) := by decide +kernel
theorem dX2_clear_4 : decode cX2_clear 4 = .ok (.getfield 9, 3) := by decide +kernel
theorem dX2_clear_7 : decode cX2_clear 7 = .ok (.arraylength, 1) := by decide +kernel
theorem dX2_clear_8 : decode cX2_clear 8 = .ok (.if_icmp .ge 16, 3) := by decide +kernel
theorem dX2_clear_11 : decode cX2_clear 11 = .ok (.aload_n 0, 1) := by decide +kernel
theorem dX2_clear_12 : decode cX2_clear 12 = .ok (.getfield 9, 3) := by decide +kernel
theorem dX2_clear_15 : decode cX2_clear 15 = .ok (.iload_n 1, 1) := by decide +kernel
theorem dX2_clear_16 : decode cX2_clear 16 = .ok (.iconst 0, 1) := by decide +kernel
theorem dX2_clear_17 : decode cX2_clear 17 = .ok (.iastore, 1) := by decide +kernel
theorem dX2_clear_18 : decode cX2_clear 18 = .ok (.iinc 1 1, 3) := by decide +kernel
theorem dX2_clear_21 : decode cX2_clear 21 = .ok (.goto (-19), 3) := by decide +kernel
theorem dX2_clear_24 : decode cX2_clear 24 = .ok (.return_, 1) := by decide +kernel
theorem dX2_copy_0 : decode cX2_copy 0 = .ok (.iconst 0, 1) := by decide +kernel
theorem dX2_copy_1 : decode cX2_copy 1 = .ok (.istore_n 2, 1) := by decide +kernel
theorem dX2_copy_2 : decode cX2_copy 2 = .ok (.iload_n 2, 1) := by decide +kernel
theorem dX2_copy_3 : decode cX2_copy 3 = .ok (.aload_n 0, 1) := by decide +kernel
theorem dX2_copy_4 : decode cX2_copy 4 = .ok (.getfield 9, 3) := by decide +kernel
theorem dX2_copy_7 : decode cX2_copy 7 = .ok (.arraylength, 1) := by decide +kernel
theorem dX2_copy_8 : decode cX2_copy 8 = .ok (.if_icmp .ge 20, 3) := by decide +kernel
theorem dX2_copy_11 : decode cX2_copy 11 = .ok (.aload_n 0, 1) := by decide +kernel
theorem dX2_copy_12 : decode cX2_copy 12 = .ok (.getfield 9, 3) := by decide +kernel
theorem dX2_copy_15 : decode cX2_copy 15 = .ok (.iload_n 2, 1) := by decide +kernel
theorem dX2_copy_16 : decode cX2_copy 16 = .ok (.aload_n 1, 1) := by decide +kernel
theorem dX2_copy_17 : decode cX2_copy 17 = .ok (.iload_n 2, 1) := by decide +kernel
theorem dX2_copy_18 : decode cX2_copy 18 = .ok (.invokevirtual 15, 3) := by decide +kernel
theorem dX2_copy_21 : decode cX2_copy 21 = .ok (.iastore, 1) := by decide +kernel
theorem dX2_copy_22 : decode cX2_copy 22 = .ok (.iinc 2 1, 3) := by decide +kernel
theorem dX2_copy_25 : decode cX2_copy 25 = .ok (.goto (-23), 3) := by decide +kernel
theorem dX2_copy_28 : decode cX2_copy 28 = .ok (.return_, 1) := by decide +kernel
theorem dX2_becomeOne_0 : decode cX2_becomeOne 0 = .ok (.aload_n 0, 1) := by decide +kernel
theorem dX2_becomeOne_1 : decode cX2_becomeOne 1 = .ok (.invokevirtual 19, 3) := by decide +kernel
theorem dX2_becomeOne_4 : decode cX2_becomeOne 4 = .ok (.aload_n 0, 1) := by decide +kernel
theorem dX2_becomeOne_5 : decode cX2_becomeOne 5 = .ok (.iconst 0, 1) := by decide +kernel
theorem dX2_becomeOne_6 : decode cX2_becomeOne 6 = .ok (.iconst 1, 1) := by decide +kernel
theorem dX2_becomeOne_7 : decode cX2_becomeOne 7 = .ok (.invokevirtual 22, 3) := by decide +kernel
theorem dX2_becomeOne_10 : decode cX2_becomeOne 10 = .ok (.return_, 1) := by decide +kernel
theorem dX2_isBefore_0 : decode cX2_isBefore 0 = .ok (.aload_n 0, 1) := by decide +kernel
theorem dX2_isBefore_1 : decode cX2_isBefore 1 = .ok (.invokevirtual 26, 3) := by decide +kernel
theorem dX2_isBefore_4 : decode cX2_isBefore 4 = .ok (.istore_n 2, 1) := by decide +kernel
theorem dX2_isBefore_5 : decode cX2_isBefore 5 = .ok (.aload_n 1, 1) := by decide +kernel
theorem dX2_isBefore_6 : decode cX2_isBefore 6 = .ok (.invokevirtual 26, 3) := by decide +kernel
theorem dX2_isBefore_9 : decode cX2_isBefore 9 = .ok (.istore_n 3, 1) := by decide +kernel
theorem dX2_isBefore_10 : decode cX2_isBefore 10 = .ok (.iload_n 2, 1) := by decide +kernel
theorem dX2_isBefore_11 : decode cX2_isBefore 11 = .ok (.iload_n 3, 1) := by decide +kernel
theorem dX2_isBefore_12 : decode cX2_isBefore 12 = .ok (.if_icmp .eq 14, 3) := by decide +kernel
theorem dX2_isBefore_15 : decode cX2_isBefore 15 = .ok (.iload_n 2, 1) := by decide +kernel
theorem dX2_isBefore_16 : decode cX2_isBefore 16 = .ok (.iload_n 3, 1) := by decide +kernel
theorem dX2_isBefore_17 : decode cX2_isBefore 17 = .ok (.if_icmp .ge 7, 3) := by decide +kernel
theorem dX2_isBefore_20 : decode cX2_isBefore 20 = .ok (.iconst 1, 1) := by decide +kernel
theorem dX2_isBefore_21 : decode cX2_isBefore 21 = .ok (.goto 4, 3) := by decide +kernel
theorem dX2_isBefore_24 : decode cX2_isBefore 24 = .ok (.iconst 0, 1) := by decide +kernel
theorem dX2_isBefore_25 : decode cX2_isBefore 25 = .ok (.ireturn, 1) := by decide +kernel
theorem dX2_isBefore_26 : decode cX2_isBefore 26 = .ok (.iload_n 2, 1) := by decide +kernel
theorem dX2_isBefore_27 : decode cX2_isBefore 27 = .ok (.istore 4, 2) := by decide +kernel
theorem dX2_isBefore_29 : decode cX2_isBefore 29 = .ok (.iload 4, 2) := by decide +kernel
theorem dX2_isBefore_31 : decode cX2_isBefore 31 = .ok (.ifCond .lt 45, 3) := by decide +kernel
theorem dX2_isBefore_34 : decode cX2_isBefore 34 = .ok (.aload_n 0, 1) := by decide +kernel
theorem dX2_isBefore_35 : decode cX2_isBefore 35 = .ok (.iload 4, 2) := by decide +kernel
theorem dX2_isBefore_37 : decode cX2_isBefore 37 = .ok (.invokevirtual 15, 3) := by decide +kernel
theorem dX2_isBefore_40 : decode cX2_isBefore 40 = .ok (.aload_n 1, 1) := by decide +kernel
theorem dX2_isBefore_41 : decode cX2_isBefore 41 = .ok (.iload 4, 2) := by decide +kernel
theorem dX2_isBefore_43 : decode cX2_isBefore 43 = .ok (.invokevirtual 15, 3) := by decide +kernel
theorem dX2_isBefore_46 : decode cX2_isBefore 46 = .ok (.if_icmp .eq 24, 3) := by decide +kernel
theorem dX2_isBefore_49 : decode cX2_isBefore 49 = .ok (.aload_n 0, 1) := by decide +kernel
theorem dX2_isBefore_50 : decode cX2_isBefore 50 = .ok (.iload 4, 2) := by decide +kernel
theorem dX2_isBefore_52 : decode cX2_isBefore 52 = .ok (.invokevirtual 15, 3) := by decide +kernel
theorem dX2_isBefore_55 : decode cX2_isBefore 55 = .ok (.aload_n 1, 1) := by decide +kernel
theorem dX2_isBefore_56 : decode cX2_isBefore 56 = .ok (.iload 4, 2) := by decide +kernel
theorem dX2_isBefore_58 : decode cX2_isBefore 58 = .ok (.invokevirtual 15, 3) := by decide +kernel
theorem dX2_isBefore_61 : decode cX2_isBefore 61 = .ok (.if_icmp .ge 7, 3) := by decide +kernel
theorem dX2_isBefore_64 : decode cX2_isBefore 64 = .ok (.iconst 1, 1) := by decide +kernel
theorem dX2_isBefore_65 : decode cX2_isBefore 65 = .ok (.goto 4, 3) := by decide +kernel
theorem dX2_isBefore_68 : decode cX2_isBefore 68 = .ok (.iconst 0, 1) := by decide +kernel
theorem dX2_isBefore_69 : decode cX2_isBefore 69 = .ok (.ireturn, 1) := by decide +kernel
theorem dX2_isBefore_70 : decode cX2_isBefore 70 = .ok (.iinc 4 (-1), 3) := by decide +kernel
theorem dX2_isBefore_73 : decode cX2_isBefore 73 = .ok (.goto (-44), 3) := by decide +kernel
theorem dX2_isBefore_76 : decode cX2_isBefore 76 = .ok (.iconst 0, 1) := by decide +kernel
theorem dX2_isBefore_77 : decode cX2_isBefore 77 = .ok (.ireturn, 1) := by decide +kernel
theorem dX3_init_0 : decode cX3_init 0 = .ok (.aload_n 0, 1) := by decide +kernel
theorem dX3_init_1 : decode cX3_init 1 = .ok (.invokespecial 3, 3) := by decide +kernel
theorem dX3_init_4 : decode cX3_init 4 = .ok (.aload_n 0, 1) := by decide +kernel
theorem dX3_init_5 : decode cX3_init 5 = .ok (.iconst 5, 1) := by decide +kernel
theorem dX3_init_6 : decode cX3_init 6 = .ok (.anewarray 9, 3) := by decide +kernel
theorem dX3_init_9 : decode cX3_init 9 = .ok (.putfield 11, 3) := by decide +kernel
theorem dX3_init_12 : decode cX3_init 12 = .ok (.aload_n 0, 1) := by decide +kernel
theorem dX3_init_13 : decode cX3_init 13 = .ok (.iconst 5, 1) := by decide +kernel
theorem dX3_init_14 : decode cX3_init 14 = .ok (.newarray .int, 2) := by decide +kernel
theorem dX3_init_16 : decode cX3_init 16 = .ok (.putfield 17, 3) := by decide +kernel
theorem dX3_init_19 : decode cX3_init 19 = .ok (.aload_n 0, 1) := by decide +kernel
theorem dX3_init_20 : decode cX3_init 20 = .ok (.iconst 0, 1) := by decide +kernel
theorem dX3_init_21 : decode cX3_init 21 = .ok (.putfield 21, 3) := by decide +kernel
theorem dX3_init_24 : decode cX3_init 24 = .ok (.aload_n 0, 1) := by decide +kernel
theorem dX3_init_25 : decode cX3_init 25 = .ok (.iconst 0, 1) := by decide +kernel
theorem dX3_init_26 : decode cX3_init 26 = .ok (.putfield 25, 3) := by decide +kernel
theorem dX3_init_29 : decode cX3_init 29 = .ok (.aload_n 0, 1) := by decide +kernel
theorem dX3_init_30 : decode cX3_init 30 = .ok (.new 9, 3) := by decide +kernel
theorem dX3_init_33 : decode cX3_init 33 = .ok (.dup, 1) := by decide +kernel
theorem dX3_init_34 : decode cX3_init 34 = .ok (.invokespecial 29, 3) := by decide +kernel
theorem dX3_init_37 : decode cX3_init 37 = .ok (.putfield 30, 3) := by decide +kernel
theorem dX3_init_40 : decode cX3_init 40 = .ok (.aload_n 0, 1) := by decide +kernel
theorem dX3_init_41 : decode cX3_init 41 = .ok (.new 9, 3) := by decide +kernel
theorem dX3_init_44 : decode cX3_init 44 = .ok (.dup, 1) := by decide +kernel
theorem dX3_init_45 : decode cX3_init 45 = .ok (.invokespecial 29, 3) := by decide +kernel
theorem dX3_init_48 : decode cX3_init 48 = .ok (.putfield 34, 3) := by decide +kernel
theorem dX3_init_51 : decode cX3_init 51 = .ok (.aload_n 0, 1) := by decide +kernel
theorem dX3_init_52 : decode cX3_init 52 = .ok (.new 9, 3) := by decide +kernel
theorem dX3_init_55 : decode cX3_init 55 = .ok (.dup, 1) := by decide +kernel
theorem dX3_init_56 : decode cX3_init 56 = .ok (.invokespecial 29, 3) := by decide +kernel
theorem dX3_init_59 : decode cX3_init 59 = .ok (.putfield 37, 3) := by decide +kernel
theorem dX3_init_62 : decode cX3_init 62 = .ok (.aload_n 0, 1) := by decide +kernel
theorem dX3_init_63 : decode cX3_init 63 = .ok (.new 9, 3) := by decide +kernel
theorem dX3_init_66 : decode cX3_init 66 = .ok (.dup, 1) := by decide +kernel
theorem dX3_init_67 : decode cX3_init 67 = .ok (.invokespecial 29, 3) := by decide +kernel
theorem dX3_init_70 : decode cX3_init 70 = .ok (.putfield 40, 3) := by decide +kernel
theorem dX3_init_73 : decode cX3_init 73 = .ok (.iconst 0, 1) := by decide +kernel
theorem dX3_init_74 : decode cX3_init 74 = .ok (.istore_n 1, 1) := by decide +kernel
theorem dX3_init_75 : decode cX3_init 75 = .ok (.iload_n 1, 1) := by decide +kernel
theorem dX3_init_76 : decode cX3_init 76 = .ok (.aload_n 0, 1) := by decide +kernel
theorem dX3_init_77 : decode cX3_init 77 = .ok (.getfield 11, 3) := by decide +kernel
theorem dX3_init_80 : decode cX3_init 80 = .ok (.arraylength, 1) := by decide +kernel
theorem dX3_init_81 : decode cX3_init 81 = .ok (.if_icmp .ge 22, 3) := by decide +kernel
theorem dX3_init_84 : decode cX3_init 84 = .ok (.aload_n 0, 1) := by decide +kernel
theorem dX3_init_85 : decode cX3_init 85 = .ok (.getfield 11, 3) := by decide +kernel
theorem dX3_init_88 : decode cX3_init 88 = .ok (.iload_n 1, 1) := by decide +kernel
theorem dX3_init_89 : decode cX3_init 89 = .ok (.new 9, 3) := by decide +kernel
theorem dX3_init_92 : decode cX3_init 92 = .ok (.dup, 1) := by decide +kernel
theorem dX3_init_93 : decode cX3_init 93 = .ok (.invokespecial 29, 3) := by decide +kernel
theorem dX3_init_96 : decode cX3_init 96 = .ok (.aastore, 1) := by decide +kernel
theorem dX3_init_97 : decode cX3_init 97 = .ok (.iinc 1 1, 3) := by decide +kernel
theorem dX3_init_100 : decode cX3_init 100 = .ok (.goto (-25), 3) := by decide +kernel
theorem dX3_init_103 : decode cX3_init 103 = .ok (.return_, 1) := by decide +kernel
theorem dX3_forget_0 : decode cX3_forget 0 = .ok (.aload_n 0, 1) := by decide +kernel
theorem dX3_forget_1 : decode cX3_forget 1 = .ok (.iconst 0, 1) := by decide +kernel
theorem dX3_forget_2 : decode cX3_forget 2 = .ok (.putfield 25, 3) := by decide +kernel
theorem dX3_forget_5 : decode cX3_forget 5 = .ok (.return_, 1) := by decide +kernel
theorem dX3_part_0 : decode cX3_part 0 = .ok (.iload_n 1, 1) := by decide +kernel
theorem dX3_part_1 : decode cX3_part 1 = .ok (.ifCond .lt 21, 3) := by decide +kernel
theorem dX3_part_4 : decode cX3_part 4 = .ok (.iload_n 1, 1) := by decide +kernel
theorem dX3_part_5 : decode cX3_part 5 = .ok (.aload_n 0, 1) := by decide +kernel
theorem dX3_part_6 : decode cX3_part 6 = .ok (.getfield 11, 3) := by decide +kernel
theorem dX3_part_9 : decode cX3_part 9 = .ok (.arraylength, 1) := by decide +kernel
theorem dX3_part_10 : decode cX3_part 10 = .ok (.if_icmp .ge 12, 3) := by decide +kernel
theorem dX3_part_13 : decode cX3_part 13 = .ok (.aload_n 0, 1) := by decide +kernel
theorem dX3_part_14 : decode cX3_part 14 = .ok (.getfield 11, 3) := by decide +kernel
theorem dX3_part_17 : decode cX3_part 17 = .ok (.iload_n 1, 1) := by decide +kernel
theorem dX3_part_18 : decode cX3_part 18 = .ok (.aaload, 1) := by decide +kernel
theorem dX3_part_19 : decode cX3_part 19 = .ok (.goto 7, 3) := by decide +kernel
theorem dX3_part_22 : decode cX3_part 22 = .ok (.aload_n 0, 1) := by decide +kernel
theorem dX3_part_23 : decode cX3_part 23 = .ok (.getfield 30, 3) := by decide +kernel
theorem dX3_part_26 : decode cX3_part 26 = .ok (.areturn, 1) := by decide +kernel
theorem dX3_timesOf_0 : decode cX3_timesOf 0 = .ok (.iload_n 1, 1) := by decide +kernel
theorem dX3_timesOf_1 : decode cX3_timesOf 1 = .ok (.ifCond .lt 21, 3) := by decide +kernel
theorem dX3_timesOf_4 : decode cX3_timesOf 4 = .ok (.iload_n 1, 1) := by decide +kernel
theorem dX3_timesOf_5 : decode cX3_timesOf 5 = .ok (.aload_n 0, 1) := by decide +kernel
theorem dX3_timesOf_6 : decode cX3_timesOf 6 = .ok (.getfield 17, 3) := by decide +kernel
theorem dX3_timesOf_9 : decode cX3_timesOf 9 = .ok (.arraylength, 1) := by decide +kernel
theorem dX3_timesOf_10 : decode cX3_timesOf 10 = .ok (.if_icmp .ge 12, 3) := by decide +kernel
theorem dX3_timesOf_13 : decode cX3_timesOf 13 = .ok (.aload_n 0, 1) := by decide +kernel
theorem dX3_timesOf_14 : decode cX3_timesOf 14 = .ok (.getfield 17, 3) := by decide +kernel
theorem dX3_timesOf_17 : decode cX3_timesOf 17 = .ok (.iload_n 1, 1) := by decide +kernel
theorem dX3_timesOf_18 : decode cX3_timesOf 18 = .ok (.iaload, 1) := by decide +kernel
theorem dX3_timesOf_19 : decode cX3_timesOf 19 = .ok (.goto 4, 3) := by decide +kernel
theorem dX3_timesOf_22 : decode cX3_timesOf 22 = .ok (.iconst 0, 1) := by decide +kernel
theorem dX3_timesOf_23 : decode cX3_timesOf 23 = .ok (.ireturn, 1) := by decide +kernel
theorem dX3_commonDegree_0 : decode cX3_commonDegree 0 = .ok (.iconst 1, 1) := by decide +kernel
theorem dX3_commonDegree_1 : decode cX3_commonDegree 1 = .ok (.istore_n 1, 1) := by decide +kernel
theorem dX3_commonDegree_2 : decode cX3_commonDegree 2 = .ok (.iload_n 1, 1) := by decide +kernel
theorem dX3_commonDegree_3 : decode cX3_commonDegree 3 = .ok (.bipush 60, 2) := by decide +kernel
theorem dX3_commonDegree_5 : decode cX3_commonDegree 5 = .ok (.if_icmp .gt 65, 3) := by decide +kernel
theorem dX3_commonDegree_8 : decode cX3_commonDegree 8 = .ok (.iconst 1, 1) := by decide +kernel
theorem dX3_commonDegree_9 : decode cX3_commonDegree 9 = .ok (.istore_n 2, 1) := by decide +kernel
theorem dX3_commonDegree_10 : decode cX3_commonDegree 10 = .ok (.iconst 0, 1) := by decide +kernel
theorem dX3_commonDegree_11 : decode cX3_commonDegree 11 = .ok (.istore_n 3, 1) := by decide +kernel
theorem dX3_commonDegree_12 : decode cX3_commonDegree 12 = .ok (.iload_n 3, 1) := by decide +kernel
theorem dX3_commonDegree_13 : decode cX3_commonDegree 13 = .ok (.aload_n 0, 1) := by decide +kernel
theorem dX3_commonDegree_14 : decode cX3_commonDegree 14 = .ok (.getfield 21, 3) := by decide +kernel
theorem dX3_commonDegree_17 : decode cX3_commonDegree 17 = .ok (.if_icmp .ge 41, 3) := by decide +kernel
theorem dX3_commonDegree_20 : decode cX3_commonDegree 20 = .ok (.aload_n 0, 1) := by decide +kernel
theorem dX3_commonDegree_21 : decode cX3_commonDegree 21 = .ok (.iload_n 3, 1) := by decide +kernel
theorem dX3_commonDegree_22 : decode cX3_commonDegree 22 = .ok (.invokevirtual 43, 3) := by decide +kernel
theorem dX3_commonDegree_25 : decode cX3_commonDegree 25 = .ok (.invokevirtual 47, 3) := by decide +kernel
theorem dX3_commonDegree_28 : decode cX3_commonDegree 28 = .ok (.istore 4, 2) := by decide +kernel
theorem dX3_commonDegree_30 : decode cX3_commonDegree 30 = .ok (.iload_n 2, 1) := by decide +kernel
theorem dX3_commonDegree_31 : decode cX3_commonDegree 31 = .ok (.ifCond .eq 19, 3) := by decide +kernel
theorem dX3_commonDegree_34 : decode cX3_commonDegree 34 = .ok (.iload 4, 2) := by decide +kernel
theorem dX3_commonDegree_36 : decode cX3_commonDegree 36 = .ok (.ifCond .le 14, 3) := by decide +kernel
theorem dX3_commonDegree_39 : decode cX3_commonDegree 39 = .ok (.iload_n 1, 1) := by decide +kernel
theorem dX3_commonDegree_40 : decode cX3_commonDegree 40 = .ok (.iload 4, 2) := by decide +kernel
theorem dX3_commonDegree_42 : decode cX3_commonDegree 42 = .ok (.irem, 1) := by decide +kernel
theorem dX3_commonDegree_43 : decode cX3_commonDegree 43 = .ok (.ifCond .ne 7, 3) := by decide +kernel
theorem dX3_commonDegree_46 : decode cX3_commonDegree 46 = .ok (.iconst 1, 1) := by decide +kernel
theorem dX3_commonDegree_47 : decode cX3_commonDegree 47 = .ok (.goto 4, 3) := by decide +kernel
theorem dX3_commonDegree_50 : decode cX3_commonDegree 50 = .ok (.iconst 0, 1) := by decide +kernel
theorem dX3_commonDegree_51 : decode cX3_commonDegree 51 = .ok (.istore_n 2, 1) := by decide +kernel
theorem dX3_commonDegree_52 : decode cX3_commonDegree 52 = .ok (.iinc 3 1, 3) := by decide +kernel
theorem dX3_commonDegree_55 : decode cX3_commonDegree 55 = .ok (.goto (-43), 3) := by decide +kernel
theorem dX3_commonDegree_58 : decode cX3_commonDegree 58 = .ok (.iload_n 2, 1) := by decide +kernel
theorem dX3_commonDegree_59 : decode cX3_commonDegree 59 = .ok (.ifCond .eq 5, 3) := by decide +kernel
theorem dX3_commonDegree_62 : decode cX3_commonDegree 62 = .ok (.iload_n 1, 1) := by decide +kernel
theorem dX3_commonDegree_63 : decode cX3_commonDegree 63 = .ok (.ireturn, 1) := by decide +kernel
theorem dX3_commonDegree_64 : decode cX3_commonDegree 64 = .ok (.iinc 1 1, 3) := by decide +kernel
theorem dX3_commonDegree_67 : decode cX3_commonDegree 67 = .ok (.goto (-65), 3) := by decide +kernel
theorem dX3_commonDegree_70 : decode cX3_commonDegree 70 = .ok (.iconst 0, 1) := by decide +kernel
theorem dX3_commonDegree_71 : decode cX3_commonDegree 71 = .ok (.ireturn, 1) := by decide +kernel
theorem dX3_find_0 : decode cX3_find 0 = .ok (.aload_n 0, 1) := by decide +kernel
theorem dX3_find_1 : decode cX3_find 1 = .ok (.getfield 25, 3) := by decide +kernel
theorem dX3_find_4 : decode cX3_find 4 = .ok (.ifCond .eq 4, 3) := by decide +kernel
theorem dX3_find_7 : decode cX3_find 7 = .ok (.return_, 1) := by decide +kernel
theorem dX3_find_8 : decode cX3_find 8 = .ok (.aload_n 0, 1) := by decide +kernel
theorem dX3_find_9 : decode cX3_find 9 = .ok (.iconst 0, 1) := by decide +kernel
theorem dX3_find_10 : decode cX3_find 10 = .ok (.putfield 21, 3) := by decide +kernel
theorem dX3_find_13 : decode cX3_find 13 = .ok (.aload_n 1, 1) := by decide +kernel
theorem dX3_find_14 : decode cX3_find 14 = .ok (.aload_n 2, 1) := by decide +kernel
theorem dX3_find_15 : decode cX3_find 15 = .ok (.aload_n 0, 1) := by decide +kernel
theorem dX3_find_16 : decode cX3_find 16 = .ok (.getfield 40, 3) := by decide +kernel
theorem dX3_find_19 : decode cX3_find 19 = .ok (.invokevirtual 51, 3) := by decide +kernel
theorem dX3_find_22 : decode cX3_find 22 = .ok (.aload_n 0, 1) := by decide +kernel
theorem dX3_find_23 : decode cX3_find 23 = .ok (.aload_n 1, 1) := by decide +kernel
theorem dX3_find_24 : decode cX3_find 24 = .ok (.aload_n 2, 1) := by decide +kernel
theorem dX3_find_25 : decode cX3_find 25 = .ok (.invokevirtual 57, 3) := by decide +kernel
theorem dX3_find_28 : decode cX3_find 28 = .ok (.aload_n 0, 1) := by decide +kernel
theorem dX3_find_29 : decode cX3_find 29 = .ok (.getfield 34, 3) := by decide +kernel
theorem dX3_find_32 : decode cX3_find 32 = .ok (.aload_n 0, 1) := by decide +kernel
theorem dX3_find_33 : decode cX3_find 33 = .ok (.getfield 30, 3) := by decide +kernel
theorem dX3_find_36 : decode cX3_find 36 = .ok (.invokevirtual 61, 3) := by decide +kernel
theorem dX3_find_39 : decode cX3_find 39 = .ok (.iconst 1, 1) := by decide +kernel
theorem dX3_find_40 : decode cX3_find 40 = .ok (.istore_n 3, 1) := by decide +kernel
theorem dX3_find_41 : decode cX3_find 41 = .ok (.iload_n 3, 1) := by decide +kernel
theorem dX3_find_42 : decode cX3_find 42 = .ok (.iconst 5, 1) := by decide +kernel
theorem dX3_find_43 : decode cX3_find 43 = .ok (.if_icmp .gt 42, 3) := by decide +kernel
theorem dX3_find_46 : decode cX3_find 46 = .ok (.aload_n 0, 1) := by decide +kernel
theorem dX3_find_47 : decode cX3_find 47 = .ok (.getfield 34, 3) := by decide +kernel
theorem dX3_find_50 : decode cX3_find 50 = .ok (.invokevirtual 47, 3) := by decide +kernel
theorem dX3_find_53 : decode cX3_find 53 = .ok (.iconst 2, 1) := by decide +kernel
theorem dX3_find_54 : decode cX3_find 54 = .ok (.iload_n 3, 1) := by decide +kernel
theorem dX3_find_55 : decode cX3_find 55 = .ok (.imul, 1) := by decide +kernel
theorem dX3_find_56 : decode cX3_find 56 = .ok (.if_icmp .lt 29, 3) := by decide +kernel
theorem dX3_find_59 : decode cX3_find 59 = .ok (.aload_n 0, 1) := by decide +kernel
theorem dX3_find_60 : decode cX3_find 60 = .ok (.getfield 21, 3) := by decide +kernel
theorem dX3_find_63 : decode cX3_find 63 = .ok (.istore 4, 2) := by decide +kernel
theorem dX3_find_65 : decode cX3_find 65 = .ok (.aload_n 0, 1) := by decide +kernel
theorem dX3_find_66 : decode cX3_find 66 = .ok (.aload_n 1, 1) := by decide +kernel
theorem dX3_find_67 : decode cX3_find 67 = .ok (.iload_n 3, 1) := by decide +kernel
theorem dX3_find_68 : decode cX3_find 68 = .ok (.invokevirtual 65, 3) := by decide +kernel
theorem dX3_find_71 : decode cX3_find 71 = .ok (.aload_n 0, 1) := by decide +kernel
theorem dX3_find_72 : decode cX3_find 72 = .ok (.aload_n 1, 1) := by decide +kernel
theorem dX3_find_73 : decode cX3_find 73 = .ok (.iload 4, 2) := by decide +kernel
theorem dX3_find_75 : decode cX3_find 75 = .ok (.iload_n 3, 1) := by decide +kernel
theorem dX3_find_76 : decode cX3_find 76 = .ok (.invokevirtual 69, 3) := by decide +kernel
theorem dX3_find_79 : decode cX3_find 79 = .ok (.iinc 3 1, 3) := by decide +kernel
theorem dX3_find_82 : decode cX3_find 82 = .ok (.goto (-41), 3) := by decide +kernel
theorem dX3_find_85 : decode cX3_find 85 = .ok (.aload_n 0, 1) := by decide +kernel
theorem dX3_find_86 : decode cX3_find 86 = .ok (.getfield 34, 3) := by decide +kernel
theorem dX3_find_89 : decode cX3_find 89 = .ok (.invokevirtual 47, 3) := by decide +kernel
theorem dX3_find_92 : decode cX3_find 92 = .ok (.ifCond .le 11, 3) := by decide +kernel
theorem dX3_find_95 : decode cX3_find 95 = .ok (.aload_n 0, 1) := by decide +kernel
theorem dX3_find_96 : decode cX3_find 96 = .ok (.aload_n 0, 1) := by decide +kernel
theorem dX3_find_97 : decode cX3_find 97 = .ok (.getfield 34, 3) := by decide +kernel
theorem dX3_find_100 : decode cX3_find 100 = .ok (.invokevirtual 73, 3) := by decide +kernel
theorem dX3_find_103 : decode cX3_find 103 = .ok (.aload_n 0, 1) := by decide +kernel
theorem dX3_find_104 : decode cX3_find 104 = .ok (.invokevirtual 76, 3) := by decide +kernel
theorem dX3_find_107 : decode cX3_find 107 = .ok (.aload_n 0, 1) := by decide +kernel
theorem dX3_find_108 : decode cX3_find 108 = .ok (.aload_n 1, 1) := by decide +kernel
theorem dX3_find_109 : decode cX3_find 109 = .ok (.aload_n 2, 1) := by decide +kernel
theorem dX3_find_110 : decode cX3_find 110 = .ok (.invokevirtual 79, 3) := by decide +kernel
theorem dX3_find_113 : decode cX3_find 113 = .ok (.aload_n 0, 1) := by decide +kernel
theorem dX3_find_114 : decode cX3_find 114 = .ok (.iconst 1, 1) := by decide +kernel
theorem dX3_find_115 : decode cX3_find 115 = .ok (.putfield 25, 3) := by decide +kernel
theorem dX3_find_118 : decode cX3_find 118 = .ok (.return_, 1) := by decide +kernel
theorem dX3_keepRoot_0 : decode cX3_keepRoot 0 = .ok (.aload_n 0, 1) := by decide +kernel
theorem dX3_keepRoot_1 : decode cX3_keepRoot 1 = .ok (.getfield 30, 3) := by decide +kernel
theorem dX3_keepRoot_4 : decode cX3_keepRoot 4 = .ok (.aload_n 2, 1) := by decide +kernel
theorem dX3_keepRoot_5 : decode cX3_keepRoot 5 = .ok (.invokevirtual 61, 3) := by decide +kernel
theorem dX3_keepRoot_8 : decode cX3_keepRoot 8 = .ok (.aload_n 1, 1) := by decide +kernel
theorem dX3_keepRoot_9 : decode cX3_keepRoot 9 = .ok (.aload_n 0, 1) := by decide +kernel
theorem dX3_keepRoot_10 : decode cX3_keepRoot 10 = .ok (.getfield 30, 3) := by decide +kernel
theorem dX3_keepRoot_13 : decode cX3_keepRoot 13 = .ok (.aload_n 0, 1) := by decide +kernel
theorem dX3_keepRoot_14 : decode cX3_keepRoot 14 = .ok (.getfield 40, 3) := by decide +kernel
theorem dX3_keepRoot_17 : decode cX3_keepRoot 17 = .ok (.invokevirtual 82, 3) := by decide +kernel
theorem dX3_keepRoot_20 : decode cX3_keepRoot 20 = .ok (.aload_n 0, 1) := by decide +kernel
theorem dX3_keepRoot_21 : decode cX3_keepRoot 21 = .ok (.getfield 30, 3) := by decide +kernel
theorem dX3_keepRoot_24 : decode cX3_keepRoot 24 = .ok (.aload_n 1, 1) := by decide +kernel
theorem dX3_keepRoot_25 : decode cX3_keepRoot 25 = .ok (.getfield 85, 3) := by decide +kernel
theorem dX3_keepRoot_28 : decode cX3_keepRoot 28 = .ok (.invokevirtual 61, 3) := by decide +kernel
theorem dX3_keepRoot_31 : decode cX3_keepRoot 31 = .ok (.aload_n 1, 1) := by decide +kernel
theorem dX3_keepRoot_32 : decode cX3_keepRoot 32 = .ok (.aload_n 0, 1) := by decide +kernel
theorem dX3_keepRoot_33 : decode cX3_keepRoot 33 = .ok (.getfield 30, 3) := by decide +kernel
theorem dX3_keepRoot_36 : decode cX3_keepRoot 36 = .ok (.invokevirtual 88, 3) := by decide +kernel
theorem dX3_keepRoot_39 : decode cX3_keepRoot 39 = .ok (.return_, 1) := by decide +kernel
theorem dX3_add_0 : decode cX3_add 0 = .ok (.aload_n 0, 1) := by decide +kernel
theorem dX3_add_1 : decode cX3_add 1 = .ok (.getfield 21, 3) := by decide +kernel
theorem dX3_add_4 : decode cX3_add 4 = .ok (.aload_n 0, 1) := by decide +kernel
theorem dX3_add_5 : decode cX3_add 5 = .ok (.getfield 11, 3) := by decide +kernel
theorem dX3_add_8 : decode cX3_add 8 = .ok (.arraylength, 1) := by decide +kernel
theorem dX3_add_9 : decode cX3_add 9 = .ok (.if_icmp .ge 26, 3) := by decide +kernel
theorem dX3_add_12 : decode cX3_add 12 = .ok (.aload_n 0, 1) := by decide +kernel
theorem dX3_add_13 : decode cX3_add 13 = .ok (.getfield 11, 3) := by decide +kernel
theorem dX3_add_16 : decode cX3_add 16 = .ok (.aload_n 0, 1) := by decide +kernel
theorem dX3_add_17 : decode cX3_add 17 = .ok (.getfield 21, 3) := by decide +kernel
theorem dX3_add_20 : decode cX3_add 20 = .ok (.aaload, 1) := by decide +kernel
theorem dX3_add_21 : decode cX3_add 21 = .ok (.aload_n 1, 1) := by decide +kernel
theorem dX3_add_22 : decode cX3_add 22 = .ok (.invokevirtual 61, 3) := by decide +kernel
theorem dX3_add_25 : decode cX3_add 25 = .ok (.aload_n 0, 1) := by decide +kernel
theorem dX3_add_26 : decode cX3_add 26 = .ok (.dup, 1) := by decide +kernel
theorem dX3_add_27 : decode cX3_add 27 = .ok (.getfield 21, 3) := by decide +kernel
theorem dX3_add_30 : decode cX3_add 30 = .ok (.iconst 1, 1) := by decide +kernel
theorem dX3_add_31 : decode cX3_add 31 = .ok (.iadd, 1) := by decide +kernel
theorem dX3_add_32 : decode cX3_add 32 = .ok (.putfield 21, 3) := by decide +kernel
theorem dX3_add_35 : decode cX3_add 35 = .ok (.return_, 1) := by decide +kernel
theorem dX3_sizeToThe_0 : decode cX3_sizeToThe 0 = .ok (.aload_n 0, 1) := by decide +kernel
theorem dX3_sizeToThe_1 : decode cX3_sizeToThe 1 = .ok (.getfield 91, 3) := by decide +kernel
theorem dX3_sizeToThe_4 : decode cX3_sizeToThe 4 = .ok (.getfield 95, 3) := by decide +kernel
theorem dX3_sizeToThe_7 : decode cX3_sizeToThe 7 = .ok (.i2l, 1) := by decide +kernel
theorem dX3_sizeToThe_8 : decode cX3_sizeToThe 8 = .ok (.lstore_n 2, 1) := by decide +kernel
theorem dX3_sizeToThe_9 : decode cX3_sizeToThe 9 = .ok (.iload_n 1, 1) := by decide +kernel
theorem dX3_sizeToThe_10 : decode cX3_sizeToThe 10 = .ok (.iconst 1, 1) := by decide +kernel
theorem dX3_sizeToThe_11 : decode cX3_sizeToThe 11 = .ok (.if_icmp .ne 7, 3) := by decide +kernel
theorem dX3_sizeToThe_14 : decode cX3_sizeToThe 14 = .ok (.lload_n 2, 1) := by decide +kernel
theorem dX3_sizeToThe_15 : decode cX3_sizeToThe 15 = .ok (.goto 6, 3) := by decide +kernel
theorem dX3_sizeToThe_18 : decode cX3_sizeToThe 18 = .ok (.lload_n 2, 1) := by decide +kernel
theorem dX3_sizeToThe_19 : decode cX3_sizeToThe 19 = .ok (.lload_n 2, 1) := by decide +kernel
theorem dX3_sizeToThe_20 : decode cX3_sizeToThe 20 = .ok (.lmul, 1) := by decide +kernel
theorem dX3_sizeToThe_21 : decode cX3_sizeToThe 21 = .ok (.lreturn, 1) := by decide +kernel
theorem dX3_collect_0 : decode cX3_collect 0 = .ok (.aload_n 1, 1) := by decide +kernel
theorem dX3_collect_1 : decode cX3_collect 1 = .ok (.iconst 0, 1) := by decide +kernel
theorem dX3_collect_2 : decode cX3_collect 2 = .ok (.aload_n 1, 1) := by decide +kernel
theorem dX3_collect_3 : decode cX3_collect 3 = .ok (.iload_n 2, 1) := by decide +kernel
theorem dX3_collect_4 : decode cX3_collect 4 = .ok (.invokestatic 100, 3) := by decide +kernel
theorem dX3_collect_7 : decode cX3_collect 7 = .ok (.aload_n 0, 1) := by decide +kernel
theorem dX3_collect_8 : decode cX3_collect 8 = .ok (.getfield 34, 3) := by decide +kernel
theorem dX3_collect_11 : decode cX3_collect 11 = .ok (.aload_n 0, 1) := by decide +kernel
theorem dX3_collect_12 : decode cX3_collect 12 = .ok (.getfield 37, 3) := by decide +kernel
theorem dX3_collect_15 : decode cX3_collect 15 = .ok (.invokevirtual 104, 3) := by decide +kernel
theorem dX3_collect_18 : decode cX3_collect 18 = .ok (.aload_n 0, 1) := by decide +kernel
theorem dX3_collect_19 : decode cX3_collect 19 = .ok (.getfield 37, 3) := by decide +kernel
theorem dX3_collect_22 : decode cX3_collect 22 = .ok (.iconst 1, 1) := by decide +kernel
theorem dX3_collect_23 : decode cX3_collect 23 = .ok (.aload_n 1, 1) := by decide +kernel
theorem dX3_collect_24 : decode cX3_collect 24 = .ok (.getfield 91, 3) := by decide +kernel
theorem dX3_collect_27 : decode cX3_collect 27 = .ok (.aload_n 0, 1) := by decide +kernel
theorem dX3_collect_28 : decode cX3_collect 28 = .ok (.getfield 37, 3) := by decide +kernel
theorem dX3_collect_31 : decode cX3_collect 31 = .ok (.iconst 1, 1) := by decide +kernel
theorem dX3_collect_32 : decode cX3_collect 32 = .ok (.invokevirtual 108, 3) := by decide +kernel
theorem dX3_collect_35 : decode cX3_collect 35 = .ok (.iconst 1, 1) := by decide +kernel
theorem dX3_collect_36 : decode cX3_collect 36 = .ok (.invokevirtual 112, 3) := by decide +kernel
theorem dX3_collect_39 : decode cX3_collect 39 = .ok (.invokevirtual 116, 3) := by decide +kernel
theorem dX3_collect_42 : decode cX3_collect 42 = .ok (.aload_n 1, 1) := by decide +kernel
theorem dX3_collect_43 : decode cX3_collect 43 = .ok (.aload_n 0, 1) := by decide +kernel
theorem dX3_collect_44 : decode cX3_collect 44 = .ok (.getfield 34, 3) := by decide +kernel
theorem dX3_collect_47 : decode cX3_collect 47 = .ok (.aload_n 0, 1) := by decide +kernel
theorem dX3_collect_48 : decode cX3_collect 48 = .ok (.getfield 37, 3) := by decide +kernel
theorem dX3_collect_51 : decode cX3_collect 51 = .ok (.aload_n 0, 1) := by decide +kernel
theorem dX3_collect_52 : decode cX3_collect 52 = .ok (.getfield 40, 3) := by decide +kernel
theorem dX3_collect_55 : decode cX3_collect 55 = .ok (.invokevirtual 120, 3) := by decide +kernel
theorem dX3_collect_58 : decode cX3_collect 58 = .ok (.aload_n 0, 1) := by decide +kernel
theorem dX3_collect_59 : decode cX3_collect 59 = .ok (.getfield 40, 3) := by decide +kernel
theorem dX3_collect_62 : decode cX3_collect 62 = .ok (.invokevirtual 47, 3) := by decide +kernel
theorem dX3_collect_65 : decode cX3_collect 65 = .ok (.ifCond .le 34, 3) := by decide +kernel
theorem dX3_collect_68 : decode cX3_collect 68 = .ok (.aload_n 0, 1) := by decide +kernel
theorem dX3_collect_69 : decode cX3_collect 69 = .ok (.aload_n 0, 1) := by decide +kernel
theorem dX3_collect_70 : decode cX3_collect 70 = .ok (.getfield 40, 3) := by decide +kernel
theorem dX3_collect_73 : decode cX3_collect 73 = .ok (.invokevirtual 73, 3) := by decide +kernel
theorem dX3_collect_76 : decode cX3_collect 76 = .ok (.aload_n 1, 1) := by decide +kernel
theorem dX3_collect_77 : decode cX3_collect 77 = .ok (.aload_n 0, 1) := by decide +kernel
theorem dX3_collect_78 : decode cX3_collect 78 = .ok (.getfield 34, 3) := by decide +kernel
theorem dX3_collect_81 : decode cX3_collect 81 = .ok (.aload_n 0, 1) := by decide +kernel
theorem dX3_collect_82 : decode cX3_collect 82 = .ok (.getfield 40, 3) := by decide +kernel
theorem dX3_collect_85 : decode cX3_collect 85 = .ok (.invokevirtual 82, 3) := by decide +kernel
theorem dX3_collect_88 : decode cX3_collect 88 = .ok (.aload_n 0, 1) := by decide +kernel
theorem dX3_collect_89 : decode cX3_collect 89 = .ok (.getfield 34, 3) := by decide +kernel
theorem dX3_collect_92 : decode cX3_collect 92 = .ok (.aload_n 1, 1) := by decide +kernel
theorem dX3_collect_93 : decode cX3_collect 93 = .ok (.getfield 85, 3) := by decide +kernel
theorem dX3_collect_96 : decode cX3_collect 96 = .ok (.invokevirtual 61, 3) := by decide +kernel
theorem dX3_collect_99 : decode cX3_collect 99 = .ok (.return_, 1) := by decide +kernel
theorem dX3_separate_0 : decode cX3_separate 0 = .ok (.aload_n 1, 1) := by decide +kernel
theorem dX3_separate_1 : decode cX3_separate 1 = .ok (.getfield 91, 3) := by decide +kernel
theorem dX3_separate_4 : decode cX3_separate 4 = .ok (.getfield 95, 3) := by decide +kernel
theorem dX3_separate_7 : decode cX3_separate 7 = .ok (.istore 4, 2) := by decide +kernel
theorem dX3_separate_9 : decode cX3_separate 9 = .ok (.iload 4, 2) := by decide +kernel
theorem dX3_separate_11 : decode cX3_separate 11 = .ok (.sipush 382, 3) := by decide +kernel
theorem dX3_separate_14 : decode cX3_separate 14 = .ok (.imul, 1) := by decide +kernel
theorem dX3_separate_15 : decode cX3_separate 15 = .ok (.sipush 1000, 3) := by decide +kernel
theorem dX3_separate_18 : decode cX3_separate 18 = .ok (.idiv, 1) := by decide +kernel
theorem dX3_separate_19 : decode cX3_separate 19 = .ok (.istore 5, 2) := by decide +kernel
theorem dX3_separate_21 : decode cX3_separate 21 = .ok (.aload_n 1, 1) := by decide +kernel
theorem dX3_separate_22 : decode cX3_separate 22 = .ok (.iload_n 3, 1) := by decide +kernel
theorem dX3_separate_23 : decode cX3_separate 23 = .ok (.invokestatic 100, 3) := by decide +kernel
theorem dX3_separate_26 : decode cX3_separate 26 = .ok (.lconst 1, 1) := by decide +kernel
theorem dX3_separate_27 : decode cX3_separate 27 = .ok (.lsub, 1) := by decide +kernel
theorem dX3_separate_28 : decode cX3_separate 28 = .ok (.ldc2_w 124, 3) := by decide +kernel
theorem dX3_separate_31 : decode cX3_separate 31 = .ok (.ldiv, 1) := by decide +kernel
theorem dX3_separate_32 : decode cX3_separate 32 = .ok (.lstore 6, 2) := by decide +kernel
theorem dX3_separate_34 : decode cX3_separate 34 = .ok (.iload 5, 2) := by decide +kernel
theorem dX3_separate_36 : decode cX3_separate 36 = .ok (.istore 8, 2) := by decide +kernel
theorem dX3_separate_38 : decode cX3_separate 38 = .ok (.iconst 1, 1) := by decide +kernel
theorem dX3_separate_39 : decode cX3_separate 39 = .ok (.istore 9, 2) := by decide +kernel
theorem dX3_separate_41 : decode cX3_separate 41 = .ok (.iconst 0, 1) := by decide +kernel
theorem dX3_separate_42 : decode cX3_separate 42 = .ok (.istore 10, 2) := by decide +kernel
theorem dX3_separate_44 : decode cX3_separate 44 = .ok (.iload 10, 2) := by decide +kernel
theorem dX3_separate_46 : decode cX3_separate 46 = .ok (.iload 4, 2) := by decide +kernel
theorem dX3_separate_48 : decode cX3_separate 48 = .ok (.if_icmp .ge 205, 3) := by decide +kernel
theorem dX3_separate_51 : decode cX3_separate 51 = .ok (.iload 9, 2) := by decide +kernel
theorem dX3_separate_53 : decode cX3_separate 53 = .ok (.ifCond .eq 200, 3) := by decide +kernel
theorem dX3_separate_56 : decode cX3_separate 56 = .ok (.iconst 0, 1) := by decide +kernel
theorem dX3_separate_57 : decode cX3_separate 57 = .ok (.istore 9, 2) := by decide +kernel
theorem dX3_separate_59 : decode cX3_separate 59 = .ok (.aload_n 0, 1) := by decide +kernel
theorem dX3_separate_60 : decode cX3_separate 60 = .ok (.getfield 21, 3) := by decide +kernel
theorem dX3_separate_63 : decode cX3_separate 63 = .ok (.istore 11, 2) := by decide +kernel
theorem dX3_separate_65 : decode cX3_separate 65 = .ok (.iload_n 2, 1) := by decide +kernel
theorem dX3_separate_66 : decode cX3_separate 66 = .ok (.istore 12, 2) := by decide +kernel
theorem dX3_separate_68 : decode cX3_separate 68 = .ok (.iload 12, 2) := by decide +kernel
theorem dX3_separate_70 : decode cX3_separate 70 = .ok (.iload 11, 2) := by decide +kernel
theorem dX3_separate_72 : decode cX3_separate 72 = .ok (.if_icmp .ge 149, 3) := by decide +kernel
theorem dX3_separate_75 : decode cX3_separate 75 = .ok (.aload_n 0, 1) := by decide +kernel
theorem dX3_separate_76 : decode cX3_separate 76 = .ok (.iload 12, 2) := by decide +kernel
theorem dX3_separate_78 : decode cX3_separate 78 = .ok (.invokevirtual 43, 3) := by decide +kernel
theorem dX3_separate_81 : decode cX3_separate 81 = .ok (.invokevirtual 47, 3) := by decide +kernel
theorem dX3_separate_84 : decode cX3_separate 84 = .ok (.iload_n 3, 1) := by decide +kernel
theorem dX3_separate_85 : decode cX3_separate 85 = .ok (.if_icmp .le 130, 3) := by decide +kernel
theorem dX3_separate_88 : decode cX3_separate 88 = .ok (.iconst 1, 1) := by decide +kernel
theorem dX3_separate_89 : decode cX3_separate 89 = .ok (.istore 9, 2) := by decide +kernel
theorem dX3_separate_91 : decode cX3_separate 91 = .ok (.aload_n 1, 1) := by decide +kernel
theorem dX3_separate_92 : decode cX3_separate 92 = .ok (.iload 8, 2) := by decide +kernel
theorem dX3_separate_94 : decode cX3_separate 94 = .ok (.lload 6, 2) := by decide +kernel
theorem dX3_separate_96 : decode cX3_separate 96 = .ok (.aload_n 0, 1) := by decide +kernel
theorem dX3_separate_97 : decode cX3_separate 97 = .ok (.iload 12, 2) := by decide +kernel
theorem dX3_separate_99 : decode cX3_separate 99 = .ok (.invokevirtual 43, 3) := by decide +kernel
theorem dX3_separate_102 : decode cX3_separate 102 = .ok (.aload_n 0, 1) := by decide +kernel
theorem dX3_separate_103 : decode cX3_separate 103 = .ok (.getfield 37, 3) := by decide +kernel
theorem dX3_separate_106 : decode cX3_separate 106 = .ok (.invokevirtual 104, 3) := by decide +kernel
theorem dX3_separate_109 : decode cX3_separate 109 = .ok (.aload_n 0, 1) := by decide +kernel
theorem dX3_separate_110 : decode cX3_separate 110 = .ok (.getfield 37, 3) := by decide +kernel
theorem dX3_separate_113 : decode cX3_separate 113 = .ok (.iconst 0, 1) := by decide +kernel
theorem dX3_separate_114 : decode cX3_separate 114 = .ok (.aload_n 1, 1) := by decide +kernel
theorem dX3_separate_115 : decode cX3_separate 115 = .ok (.getfield 91, 3) := by decide +kernel
theorem dX3_separate_118 : decode cX3_separate 118 = .ok (.aload_n 0, 1) := by decide +kernel
theorem dX3_separate_119 : decode cX3_separate 119 = .ok (.getfield 37, 3) := by decide +kernel
theorem dX3_separate_122 : decode cX3_separate 122 = .ok (.iconst 0, 1) := by decide +kernel
theorem dX3_separate_123 : decode cX3_separate 123 = .ok (.invokevirtual 108, 3) := by decide +kernel
theorem dX3_separate_126 : decode cX3_separate 126 = .ok (.iconst 1, 1) := by decide +kernel
theorem dX3_separate_127 : decode cX3_separate 127 = .ok (.invokevirtual 112, 3) := by decide +kernel
theorem dX3_separate_130 : decode cX3_separate 130 = .ok (.invokevirtual 116, 3) := by decide +kernel
theorem dX3_separate_133 : decode cX3_separate 133 = .ok (.aload_n 1, 1) := by decide +kernel
theorem dX3_separate_134 : decode cX3_separate 134 = .ok (.aload_n 0, 1) := by decide +kernel
theorem dX3_separate_135 : decode cX3_separate 135 = .ok (.iload 12, 2) := by decide +kernel
theorem dX3_separate_137 : decode cX3_separate 137 = .ok (.invokevirtual 43, 3) := by decide +kernel
theorem dX3_separate_140 : decode cX3_separate 140 = .ok (.aload_n 0, 1) := by decide +kernel
theorem dX3_separate_141 : decode cX3_separate 141 = .ok (.getfield 37, 3) := by decide +kernel
theorem dX3_separate_144 : decode cX3_separate 144 = .ok (.aload_n 0, 1) := by decide +kernel
theorem dX3_separate_145 : decode cX3_separate 145 = .ok (.getfield 40, 3) := by decide +kernel
theorem dX3_separate_148 : decode cX3_separate 148 = .ok (.invokevirtual 120, 3) := by decide +kernel
theorem dX3_separate_151 : decode cX3_separate 151 = .ok (.aload_n 0, 1) := by decide +kernel
theorem dX3_separate_152 : decode cX3_separate 152 = .ok (.getfield 40, 3) := by decide +kernel
theorem dX3_separate_155 : decode cX3_separate 155 = .ok (.invokevirtual 47, 3) := by decide +kernel
theorem dX3_separate_158 : decode cX3_separate 158 = .ok (.ifCond .le 57, 3) := by decide +kernel
theorem dX3_separate_161 : decode cX3_separate 161 = .ok (.aload_n 0, 1) := by decide +kernel
theorem dX3_separate_162 : decode cX3_separate 162 = .ok (.getfield 40, 3) := by decide +kernel
theorem dX3_separate_165 : decode cX3_separate 165 = .ok (.invokevirtual 47, 3) := by decide +kernel
theorem dX3_separate_168 : decode cX3_separate 168 = .ok (.aload_n 0, 1) := by decide +kernel
theorem dX3_separate_169 : decode cX3_separate 169 = .ok (.iload 12, 2) := by decide +kernel
theorem dX3_separate_171 : decode cX3_separate 171 = .ok (.invokevirtual 43, 3) := by decide +kernel
theorem dX3_separate_174 : decode cX3_separate 174 = .ok (.invokevirtual 47, 3) := by decide +kernel
theorem dX3_separate_177 : decode cX3_separate 177 = .ok (.if_icmp .ge 38, 3) := by decide +kernel
theorem dX3_separate_180 : decode cX3_separate 180 = .ok (.aload_n 1, 1) := by decide +kernel
theorem dX3_separate_181 : decode cX3_separate 181 = .ok (.aload_n 0, 1) := by decide +kernel
theorem dX3_separate_182 : decode cX3_separate 182 = .ok (.iload 12, 2) := by decide +kernel
theorem dX3_separate_184 : decode cX3_separate 184 = .ok (.invokevirtual 43, 3) := by decide +kernel
theorem dX3_separate_187 : decode cX3_separate 187 = .ok (.aload_n 0, 1) := by decide +kernel
theorem dX3_separate_188 : decode cX3_separate 188 = .ok (.getfield 40, 3) := by decide +kernel
theorem dX3_separate_191 : decode cX3_separate 191 = .ok (.invokevirtual 82, 3) := by decide +kernel
theorem dX3_separate_194 : decode cX3_separate 194 = .ok (.aload_n 0, 1) := by decide +kernel
theorem dX3_separate_195 : decode cX3_separate 195 = .ok (.iload 12, 2) := by decide +kernel
theorem dX3_separate_197 : decode cX3_separate 197 = .ok (.invokevirtual 43, 3) := by decide +kernel
theorem dX3_separate_200 : decode cX3_separate 200 = .ok (.aload_n 1, 1) := by decide +kernel
theorem dX3_separate_201 : decode cX3_separate 201 = .ok (.getfield 85, 3) := by decide +kernel
theorem dX3_separate_204 : decode cX3_separate 204 = .ok (.invokevirtual 61, 3) := by decide +kernel
theorem dX3_separate_207 : decode cX3_separate 207 = .ok (.aload_n 0, 1) := by decide +kernel
theorem dX3_separate_208 : decode cX3_separate 208 = .ok (.aload_n 0, 1) := by decide +kernel
theorem dX3_separate_209 : decode cX3_separate 209 = .ok (.getfield 40, 3) := by decide +kernel
theorem dX3_separate_212 : decode cX3_separate 212 = .ok (.invokevirtual 73, 3) := by decide +kernel
theorem dX3_separate_215 : decode cX3_separate 215 = .ok (.iinc 12 1, 3) := by decide +kernel
theorem dX3_separate_218 : decode cX3_separate 218 = .ok (.goto (-150), 3) := by decide +kernel
theorem dX3_separate_221 : decode cX3_separate 221 = .ok (.iload 8, 2) := by decide +kernel
theorem dX3_separate_223 : decode cX3_separate 223 = .ok (.iload 5, 2) := by decide +kernel
theorem dX3_separate_225 : decode cX3_separate 225 = .ok (.iadd, 1) := by decide +kernel
theorem dX3_separate_226 : decode cX3_separate 226 = .ok (.istore 8, 2) := by decide +kernel
theorem dX3_separate_228 : decode cX3_separate 228 = .ok (.iload 8, 2) := by decide +kernel
theorem dX3_separate_230 : decode cX3_separate 230 = .ok (.iload 4, 2) := by decide +kernel
theorem dX3_separate_232 : decode cX3_separate 232 = .ok (.if_icmp .lt 11, 3) := by decide +kernel
theorem dX3_separate_235 : decode cX3_separate 235 = .ok (.iload 8, 2) := by decide +kernel
theorem dX3_separate_237 : decode cX3_separate 237 = .ok (.iload 4, 2) := by decide +kernel
theorem dX3_separate_239 : decode cX3_separate 239 = .ok (.isub, 1) := by decide +kernel
theorem dX3_separate_240 : decode cX3_separate 240 = .ok (.goto 5, 3) := by decide +kernel
theorem dX3_separate_243 : decode cX3_separate 243 = .ok (.iload 8, 2) := by decide +kernel
theorem dX3_separate_245 : decode cX3_separate 245 = .ok (.istore 8, 2) := by decide +kernel
theorem dX3_separate_247 : decode cX3_separate 247 = .ok (.iinc 10 1, 3) := by decide +kernel
theorem dX3_separate_250 : decode cX3_separate 250 = .ok (.goto (-206), 3) := by decide +kernel
theorem dX3_separate_253 : decode cX3_separate 253 = .ok (.return_, 1) := by decide +kernel
theorem dX3_sort_0 : decode cX3_sort 0 = .ok (.iconst 1, 1) := by decide +kernel
theorem dX3_sort_1 : decode cX3_sort 1 = .ok (.istore_n 1, 1) := by decide +kernel
theorem dX3_sort_2 : decode cX3_sort 2 = .ok (.iload_n 1, 1) := by decide +kernel
theorem dX3_sort_3 : decode cX3_sort 3 = .ok (.aload_n 0, 1) := by decide +kernel
theorem dX3_sort_4 : decode cX3_sort 4 = .ok (.getfield 21, 3) := by decide +kernel
theorem dX3_sort_7 : decode cX3_sort 7 = .ok (.if_icmp .ge 73, 3) := by decide +kernel
theorem dX3_sort_10 : decode cX3_sort 10 = .ok (.iload_n 1, 1) := by decide +kernel
theorem dX3_sort_11 : decode cX3_sort 11 = .ok (.aload_n 0, 1) := by decide +kernel
theorem dX3_sort_12 : decode cX3_sort 12 = .ok (.getfield 11, 3) := by decide +kernel
theorem dX3_sort_15 : decode cX3_sort 15 = .ok (.arraylength, 1) := by decide +kernel
theorem dX3_sort_16 : decode cX3_sort 16 = .ok (.if_icmp .ge 64, 3) := by decide +kernel
theorem dX3_sort_19 : decode cX3_sort 19 = .ok (.aload_n 0, 1) := by decide +kernel
theorem dX3_sort_20 : decode cX3_sort 20 = .ok (.getfield 11, 3) := by decide +kernel
theorem dX3_sort_23 : decode cX3_sort 23 = .ok (.iload_n 1, 1) := by decide +kernel
theorem dX3_sort_24 : decode cX3_sort 24 = .ok (.aaload, 1) := by decide +kernel
theorem dX3_sort_25 : decode cX3_sort 25 = .ok (.astore_n 2, 1) := by decide +kernel
theorem dX3_sort_26 : decode cX3_sort 26 = .ok (.iload_n 1, 1) := by decide +kernel
theorem dX3_sort_27 : decode cX3_sort 27 = .ok (.istore_n 3, 1) := by decide +kernel
theorem dX3_sort_28 : decode cX3_sort 28 = .ok (.iload_n 3, 1) := by decide +kernel
theorem dX3_sort_29 : decode cX3_sort 29 = .ok (.ifCond .le 38, 3) := by decide +kernel
theorem dX3_sort_32 : decode cX3_sort 32 = .ok (.aload_n 2, 1) := by decide +kernel
theorem dX3_sort_33 : decode cX3_sort 33 = .ok (.aload_n 0, 1) := by decide +kernel
theorem dX3_sort_34 : decode cX3_sort 34 = .ok (.getfield 11, 3) := by decide +kernel
theorem dX3_sort_37 : decode cX3_sort 37 = .ok (.iload_n 3, 1) := by decide +kernel
theorem dX3_sort_38 : decode cX3_sort 38 = .ok (.iconst 1, 1) := by decide +kernel
theorem dX3_sort_39 : decode cX3_sort 39 = .ok (.isub, 1) := by decide +kernel
theorem dX3_sort_40 : decode cX3_sort 40 = .ok (.aaload, 1) := by decide +kernel
theorem dX3_sort_41 : decode cX3_sort 41 = .ok (.invokevirtual 126, 3) := by decide +kernel
theorem dX3_sort_44 : decode cX3_sort 44 = .ok (.ifCond .eq 23, 3) := by decide +kernel
theorem dX3_sort_47 : decode cX3_sort 47 = .ok (.aload_n 0, 1) := by decide +kernel
theorem dX3_sort_48 : decode cX3_sort 48 = .ok (.getfield 11, 3) := by decide +kernel
theorem dX3_sort_51 : decode cX3_sort 51 = .ok (.iload_n 3, 1) := by decide +kernel
theorem dX3_sort_52 : decode cX3_sort 52 = .ok (.aload_n 0, 1) := by decide +kernel
theorem dX3_sort_53 : decode cX3_sort 53 = .ok (.getfield 11, 3) := by decide +kernel
theorem dX3_sort_56 : decode cX3_sort 56 = .ok (.iload_n 3, 1) := by decide +kernel
theorem dX3_sort_57 : decode cX3_sort 57 = .ok (.iconst 1, 1) := by decide +kernel
theorem dX3_sort_58 : decode cX3_sort 58 = .ok (.isub, 1) := by decide +kernel
theorem dX3_sort_59 : decode cX3_sort 59 = .ok (.aaload, 1) := by decide +kernel
theorem dX3_sort_60 : decode cX3_sort 60 = .ok (.aastore, 1) := by decide +kernel
theorem dX3_sort_61 : decode cX3_sort 61 = .ok (.iinc 3 (-1), 3) := by decide +kernel
theorem dX3_sort_64 : decode cX3_sort 64 = .ok (.goto (-36), 3) := by decide +kernel
theorem dX3_sort_67 : decode cX3_sort 67 = .ok (.aload_n 0, 1) := by decide +kernel
theorem dX3_sort_68 : decode cX3_sort 68 = .ok (.getfield 11, 3) := by decide +kernel
theorem dX3_sort_71 : decode cX3_sort 71 = .ok (.iload_n 3, 1) := by decide +kernel
theorem dX3_sort_72 : decode cX3_sort 72 = .ok (.aload_n 2, 1) := by decide +kernel
theorem dX3_sort_73 : decode cX3_sort 73 = .ok (.aastore, 1) := by decide +kernel
theorem dX3_sort_74 : decode cX3_sort 74 = .ok (.iinc 1 1, 3) := by decide +kernel
theorem dX3_sort_77 : decode cX3_sort 77 = .ok (.goto (-75), 3) := by decide +kernel
theorem dX3_sort_80 : decode cX3_sort 80 = .ok (.return_, 1) := by decide +kernel
theorem dX3_countTimes_0 : decode cX3_countTimes 0 = .ok (.iconst 0, 1) := by decide +kernel
theorem dX3_countTimes_1 : decode cX3_countTimes 1 = .ok (.istore_n 3, 1) := by decide +kernel
theorem dX3_countTimes_2 : decode cX3_countTimes 2 = .ok (.iload_n 3, 1) := by decide +kernel
theorem dX3_countTimes_3 : decode cX3_countTimes 3 = .ok (.aload_n 0, 1) := by decide +kernel
theorem dX3_countTimes_4 : decode cX3_countTimes 4 = .ok (.getfield 21, 3) := by decide +kernel
theorem dX3_countTimes_7 : decode cX3_countTimes 7 = .ok (.if_icmp .ge 95, 3) := by decide +kernel
theorem dX3_countTimes_10 : decode cX3_countTimes 10 = .ok (.iload_n 3, 1) := by decide +kernel
theorem dX3_countTimes_11 : decode cX3_countTimes 11 = .ok (.aload_n 0, 1) := by decide +kernel
theorem dX3_countTimes_12 : decode cX3_countTimes 12 = .ok (.getfield 17, 3) := by decide +kernel
theorem dX3_countTimes_15 : decode cX3_countTimes 15 = .ok (.arraylength, 1) := by decide +kernel
theorem dX3_countTimes_16 : decode cX3_countTimes 16 = .ok (.if_icmp .ge 86, 3) := by decide +kernel
theorem dX3_countTimes_19 : decode cX3_countTimes 19 = .ok (.aload_n 0, 1) := by decide +kernel
theorem dX3_countTimes_20 : decode cX3_countTimes 20 = .ok (.getfield 17, 3) := by decide +kernel
theorem dX3_countTimes_23 : decode cX3_countTimes 23 = .ok (.iload_n 3, 1) := by decide +kernel
theorem dX3_countTimes_24 : decode cX3_countTimes 24 = .ok (.iconst 0, 1) := by decide +kernel
theorem dX3_countTimes_25 : decode cX3_countTimes 25 = .ok (.iastore, 1) := by decide +kernel
theorem dX3_countTimes_26 : decode cX3_countTimes 26 = .ok (.aload_n 0, 1) := by decide +kernel
theorem dX3_countTimes_27 : decode cX3_countTimes 27 = .ok (.getfield 34, 3) := by decide +kernel
theorem dX3_countTimes_30 : decode cX3_countTimes 30 = .ok (.aload_n 2, 1) := by decide +kernel
theorem dX3_countTimes_31 : decode cX3_countTimes 31 = .ok (.invokevirtual 61, 3) := by decide +kernel
theorem dX3_countTimes_34 : decode cX3_countTimes 34 = .ok (.iconst 0, 1) := by decide +kernel
theorem dX3_countTimes_35 : decode cX3_countTimes 35 = .ok (.istore 4, 2) := by decide +kernel
theorem dX3_countTimes_37 : decode cX3_countTimes 37 = .ok (.iload 4, 2) := by decide +kernel
theorem dX3_countTimes_39 : decode cX3_countTimes 39 = .ok (.iconst 5, 1) := by decide +kernel
theorem dX3_countTimes_40 : decode cX3_countTimes 40 = .ok (.if_icmp .gt 56, 3) := by decide +kernel
theorem dX3_countTimes_43 : decode cX3_countTimes 43 = .ok (.aload_n 1, 1) := by decide +kernel
theorem dX3_countTimes_44 : decode cX3_countTimes 44 = .ok (.aload_n 0, 1) := by decide +kernel
theorem dX3_countTimes_45 : decode cX3_countTimes 45 = .ok (.getfield 34, 3) := by decide +kernel
theorem dX3_countTimes_48 : decode cX3_countTimes 48 = .ok (.aload_n 0, 1) := by decide +kernel
theorem dX3_countTimes_49 : decode cX3_countTimes 49 = .ok (.iload_n 3, 1) := by decide +kernel
theorem dX3_countTimes_50 : decode cX3_countTimes 50 = .ok (.invokevirtual 43, 3) := by decide +kernel
theorem dX3_countTimes_53 : decode cX3_countTimes 53 = .ok (.invokevirtual 82, 3) := by decide +kernel
theorem dX3_countTimes_56 : decode cX3_countTimes 56 = .ok (.aload_n 0, 1) := by decide +kernel
theorem dX3_countTimes_57 : decode cX3_countTimes 57 = .ok (.getfield 34, 3) := by decide +kernel
theorem dX3_countTimes_60 : decode cX3_countTimes 60 = .ok (.invokevirtual 47, 3) := by decide +kernel
theorem dX3_countTimes_63 : decode cX3_countTimes 63 = .ok (.ifCond .lt 6, 3) := by decide +kernel
theorem dX3_countTimes_66 : decode cX3_countTimes 66 = .ok (.goto 30, 3) := by decide +kernel
theorem dX3_countTimes_69 : decode cX3_countTimes 69 = .ok (.aload_n 0, 1) := by decide +kernel
theorem dX3_countTimes_70 : decode cX3_countTimes 70 = .ok (.getfield 17, 3) := by decide +kernel
theorem dX3_countTimes_73 : decode cX3_countTimes 73 = .ok (.iload_n 3, 1) := by decide +kernel
theorem dX3_countTimes_74 : decode cX3_countTimes 74 = .ok (.dup2, 1) := by decide +kernel
theorem dX3_countTimes_75 : decode cX3_countTimes 75 = .ok (.iaload, 1) := by decide +kernel
theorem dX3_countTimes_76 : decode cX3_countTimes 76 = .ok (.iconst 1, 1) := by decide +kernel
theorem dX3_countTimes_77 : decode cX3_countTimes 77 = .ok (.iadd, 1) := by decide +kernel
theorem dX3_countTimes_78 : decode cX3_countTimes 78 = .ok (.iastore, 1) := by decide +kernel
theorem dX3_countTimes_79 : decode cX3_countTimes 79 = .ok (.aload_n 0, 1) := by decide +kernel
theorem dX3_countTimes_80 : decode cX3_countTimes 80 = .ok (.getfield 34, 3) := by decide +kernel
theorem dX3_countTimes_83 : decode cX3_countTimes 83 = .ok (.aload_n 1, 1) := by decide +kernel
theorem dX3_countTimes_84 : decode cX3_countTimes 84 = .ok (.getfield 85, 3) := by decide +kernel
theorem dX3_countTimes_87 : decode cX3_countTimes 87 = .ok (.invokevirtual 61, 3) := by decide +kernel
theorem dX3_countTimes_90 : decode cX3_countTimes 90 = .ok (.iinc 4 1, 3) := by decide +kernel
theorem dX3_countTimes_93 : decode cX3_countTimes 93 = .ok (.goto (-56), 3) := by decide +kernel
theorem dX3_countTimes_96 : decode cX3_countTimes 96 = .ok (.iinc 3 1, 3) := by decide +kernel
theorem dX3_countTimes_99 : decode cX3_countTimes 99 = .ok (.goto (-97), 3) := by decide +kernel
theorem dX3_countTimes_102 : decode cX3_countTimes 102 = .ok (.return_, 1) := by decide +kernel
