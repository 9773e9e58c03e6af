theorem dX5_init_0 : decode cX5_init 0 = .ok (.aload_n 0, 1) := by decide +kernel
theorem dX5_init_1 : decode cX5_init 1 = .ok (.invokespecial 1, 3) := by decide +kernel
theorem dX5_init_4 : decode cX5_init 4 = .ok (.aload_n 0, 1) := by decide +kernel
theorem dX5_init_5 : decode cX5_init 5 = .ok (.iconst 1, 1) := by decide +kernel
theorem dX5_init_6 : decode cX5_init 6 = .ok (.putfield 7, 3) := by decide +kernel
theorem dX5_init_9 : decode cX5_init 9 = .ok (.aload_n 0, 1) := by decide +kernel
theorem dX5_init_10 : decode cX5_init 10 = .ok (.ldc2_w 13, 3) := by decide +kernel
theorem dX5_init_13 : decode cX5_init 13 = .ok (.putfield 15, 3) := by decide +kernel
theorem dX5_init_16 : decode cX5_init 16 = .ok (.aload_n 0, 1) := by decide +kernel
theorem dX5_init_17 : decode cX5_init 17 = .ok (.iconst 4, 1) := by decide +kernel
theorem dX5_init_18 : decode cX5_init 18 = .ok (.newarray .int, 2) := by decide +kernel
theorem dX5_init_20 : decode cX5_init 20 = .ok (.putfield 19, 3) := by decide +kernel
theorem dX5_init_23 : decode cX5_init 23 = .ok (.aload_n 0, 1) := by decide +kernel
theorem dX5_init_24 : decode cX5_init 24 = .ok (.bipush 6, 2) := by decide +kernel
theorem dX5_init_26 : decode cX5_init 26 = .ok (.newarray .int, 2) := by decide +kernel
theorem dX5_init_28 : decode cX5_init 28 = .ok (.putfield 23, 3) := by decide +kernel
theorem dX5_init_31 : decode cX5_init 31 = .ok (.aload_n 0, 1) := by decide +kernel
theorem dX5_init_32 : decode cX5_init 32 = .ok (.sipush 400, 3) := by decide +kernel
theorem dX5_init_35 : decode cX5_init 35 = .ok (.newarray .int, 2) := by decide +kernel
theorem dX5_init_37 : decode cX5_init 37 = .ok (.putfield 26, 3) := by decide +kernel
theorem dX5_init_40 : decode cX5_init 40 = .ok (.aload_n 0, 1) := by decide +kernel
theorem dX5_init_41 : decode cX5_init 41 = .ok (.bipush 25, 2) := by decide +kernel
theorem dX5_init_43 : decode cX5_init 43 = .ok (.newarray .int, 2) := by decide +kernel
theorem dX5_init_45 : decode cX5_init 45 = .ok (.putfield 29, 3) := by decide +kernel
theorem dX5_init_48 : decode cX5_init 48 = .ok (.aload_n 0, 1) := by decide +kernel
theorem dX5_init_49 : decode cX5_init 49 = .ok (.iconst 5, 1) := by decide +kernel
theorem dX5_init_50 : decode cX5_init 50 = .ok (.newarray .int, 2) := by decide +kernel
theorem dX5_init_52 : decode cX5_init 52 = .ok (.putfield 32, 3) := by decide +kernel
theorem dX5_init_55 : decode cX5_init 55 = .ok (.aload_n 0, 1) := by decide +kernel
theorem dX5_init_56 : decode cX5_init 56 = .ok (.getfield 19, 3) := by decide +kernel
theorem dX5_init_59 : decode cX5_init 59 = .ok (.iconst 1, 1) := by decide +kernel
theorem dX5_init_60 : decode cX5_init 60 = .ok (.iconst 1, 1) := by decide +kernel
theorem dX5_init_61 : decode cX5_init 61 = .ok (.iastore, 1) := by decide +kernel
theorem dX5_init_62 : decode cX5_init 62 = .ok (.iconst 0, 1) := by decide +kernel
theorem dX5_init_63 : decode cX5_init 63 = .ok (.istore_n 1, 1) := by decide +kernel
theorem dX5_init_64 : decode cX5_init 64 = .ok (.iload_n 1, 1) := by decide +kernel
theorem dX5_init_65 : decode cX5_init 65 = .ok (.bipush 25, 2) := by decide +kernel
theorem dX5_init_67 : decode cX5_init 67 = .ok (.if_icmp .ge 16, 3) := by decide +kernel
theorem dX5_init_70 : decode cX5_init 70 = .ok (.aload_n 0, 1) := by decide +kernel
theorem dX5_init_71 : decode cX5_init 71 = .ok (.getfield 29, 3) := by decide +kernel
theorem dX5_init_74 : decode cX5_init 74 = .ok (.iload_n 1, 1) := by decide +kernel
theorem dX5_init_75 : decode cX5_init 75 = .ok (.iconst (-1), 1) := by decide +kernel
theorem dX5_init_76 : decode cX5_init 76 = .ok (.iastore, 1) := by decide +kernel
theorem dX5_init_77 : decode cX5_init 77 = .ok (.iinc 1 1, 3) := by decide +kernel
theorem dX5_init_80 : decode cX5_init 80 = .ok (.goto (-16), 3) := by decide +kernel
theorem dX5_init_83 : decode cX5_init 83 = .ok (.return_, 1) := by decide +kernel
theorem dX5_thrown_0 : decode cX5_thrown 0 = .ok (.aload_n 0, 1) := by decide +kernel
theorem dX5_thrown_1 : decode cX5_thrown 1 = .ok (.getfield 35, 3) := by decide +kernel
theorem dX5_thrown_4 : decode cX5_thrown 4 = .ok (.ireturn, 1) := by decide +kernel
theorem dX5_fails_0 : decode cX5_fails 0 = .ok (.aload_n 0, 1) := by decide +kernel
theorem dX5_fails_1 : decode cX5_fails 1 = .ok (.iload_n 1, 1) := by decide +kernel
theorem dX5_fails_2 : decode cX5_fails 2 = .ok (.ifCond .eq 7, 3) := by decide +kernel
theorem dX5_fails_5 : decode cX5_fails 5 = .ok (.iconst 1, 1) := by decide +kernel
theorem dX5_fails_6 : decode cX5_fails 6 = .ok (.goto 12, 3) := by decide +kernel
theorem dX5_fails_9 : decode cX5_fails 9 = .ok (.iload_n 2, 1) := by decide +kernel
theorem dX5_fails_10 : decode cX5_fails 10 = .ok (.ifCond .eq 7, 3) := by decide +kernel
theorem dX5_fails_13 : decode cX5_fails 13 = .ok (.iconst 2, 1) := by decide +kernel
theorem dX5_fails_14 : decode cX5_fails 14 = .ok (.goto 4, 3) := by decide +kernel
theorem dX5_fails_17 : decode cX5_fails 17 = .ok (.iconst 0, 1) := by decide +kernel
theorem dX5_fails_18 : decode cX5_fails 18 = .ok (.putfield 35, 3) := by decide +kernel
theorem dX5_fails_21 : decode cX5_fails 21 = .ok (.aload_n 0, 1) := by decide +kernel
theorem dX5_fails_22 : decode cX5_fails 22 = .ok (.getfield 35, 3) := by decide +kernel
theorem dX5_fails_25 : decode cX5_fails 25 = .ok (.ifCond .le 7, 3) := by decide +kernel
theorem dX5_fails_28 : decode cX5_fails 28 = .ok (.iconst 1, 1) := by decide +kernel
theorem dX5_fails_29 : decode cX5_fails 29 = .ok (.goto 4, 3) := by decide +kernel
theorem dX5_fails_32 : decode cX5_fails 32 = .ok (.iconst 0, 1) := by decide +kernel
theorem dX5_fails_33 : decode cX5_fails 33 = .ok (.ireturn, 1) := by decide +kernel
theorem dX5_isElement_0 : decode cX5_isElement 0 = .ok (.iload_n 1, 1) := by decide +kernel
theorem dX5_isElement_1 : decode cX5_isElement 1 = .ok (.ifCond .lt 17, 3) := by decide +kernel
theorem dX5_isElement_4 : decode cX5_isElement 4 = .ok (.iload_n 1, 1) := by decide +kernel
theorem dX5_isElement_5 : decode cX5_isElement 5 = .ok (.i2l, 1) := by decide +kernel
theorem dX5_isElement_6 : decode cX5_isElement 6 = .ok (.aload_n 0, 1) := by decide +kernel
theorem dX5_isElement_7 : decode cX5_isElement 7 = .ok (.getfield 15, 3) := by decide +kernel
theorem dX5_isElement_10 : decode cX5_isElement 10 = .ok (.lcmp, 1) := by decide +kernel
theorem dX5_isElement_11 : decode cX5_isElement 11 = .ok (.ifCond .ge 7, 3) := by decide +kernel
theorem dX5_isElement_14 : decode cX5_isElement 14 = .ok (.iconst 1, 1) := by decide +kernel
theorem dX5_isElement_15 : decode cX5_isElement 15 = .ok (.goto 4, 3) := by decide +kernel
theorem dX5_isElement_18 : decode cX5_isElement 18 = .ok (.iconst 0, 1) := by decide +kernel
theorem dX5_isElement_19 : decode cX5_isElement 19 = .ok (.ireturn, 1) := by decide +kernel
theorem dX5_digit_0 : decode cX5_digit 0 = .ok (.iload_n 1, 1) := by decide +kernel
theorem dX5_digit_1 : decode cX5_digit 1 = .ok (.ifCond .ne 10, 3) := by decide +kernel
theorem dX5_digit_4 : decode cX5_digit 4 = .ok (.iload_n 0, 1) := by decide +kernel
theorem dX5_digit_5 : decode cX5_digit 5 = .ok (.bipush 101, 2) := by decide +kernel
theorem dX5_digit_7 : decode cX5_digit 7 = .ok (.irem, 1) := by decide +kernel
theorem dX5_digit_8 : decode cX5_digit 8 = .ok (.goto 23, 3) := by decide +kernel
theorem dX5_digit_11 : decode cX5_digit 11 = .ok (.iload_n 1, 1) := by decide +kernel
theorem dX5_digit_12 : decode cX5_digit 12 = .ok (.iconst 1, 1) := by decide +kernel
theorem dX5_digit_13 : decode cX5_digit 13 = .ok (.if_icmp .ne 13, 3) := by decide +kernel
theorem dX5_digit_16 : decode cX5_digit 16 = .ok (.iload_n 0, 1) := by decide +kernel
theorem dX5_digit_17 : decode cX5_digit 17 = .ok (.bipush 101, 2) := by decide +kernel
theorem dX5_digit_19 : decode cX5_digit 19 = .ok (.idiv, 1) := by decide +kernel
theorem dX5_digit_20 : decode cX5_digit 20 = .ok (.bipush 101, 2) := by decide +kernel
theorem dX5_digit_22 : decode cX5_digit 22 = .ok (.irem, 1) := by decide +kernel
theorem dX5_digit_23 : decode cX5_digit 23 = .ok (.goto 8, 3) := by decide +kernel
theorem dX5_digit_26 : decode cX5_digit 26 = .ok (.iload_n 0, 1) := by decide +kernel
theorem dX5_digit_27 : decode cX5_digit 27 = .ok (.sipush 10201, 3) := by decide +kernel
theorem dX5_digit_30 : decode cX5_digit 30 = .ok (.idiv, 1) := by decide +kernel
theorem dX5_digit_31 : decode cX5_digit 31 = .ok (.ireturn, 1) := by decide +kernel
theorem dX5_add_0 : decode cX5_add 0 = .ok (.iload_n 0, 1) := by decide +kernel
theorem dX5_add_1 : decode cX5_add 1 = .ok (.bipush 101, 2) := by decide +kernel
theorem dX5_add_3 : decode cX5_add 3 = .ok (.irem, 1) := by decide +kernel
theorem dX5_add_4 : decode cX5_add 4 = .ok (.iload_n 1, 1) := by decide +kernel
theorem dX5_add_5 : decode cX5_add 5 = .ok (.bipush 101, 2) := by decide +kernel
theorem dX5_add_7 : decode cX5_add 7 = .ok (.irem, 1) := by decide +kernel
theorem dX5_add_8 : decode cX5_add 8 = .ok (.iadd, 1) := by decide +kernel
theorem dX5_add_9 : decode cX5_add 9 = .ok (.bipush 101, 2) := by decide +kernel
theorem dX5_add_11 : decode cX5_add 11 = .ok (.irem, 1) := by decide +kernel
theorem dX5_add_12 : decode cX5_add 12 = .ok (.istore_n 2, 1) := by decide +kernel
theorem dX5_add_13 : decode cX5_add 13 = .ok (.iload_n 0, 1) := by decide +kernel
theorem dX5_add_14 : decode cX5_add 14 = .ok (.bipush 101, 2) := by decide +kernel
theorem dX5_add_16 : decode cX5_add 16 = .ok (.idiv, 1) := by decide +kernel
theorem dX5_add_17 : decode cX5_add 17 = .ok (.bipush 101, 2) := by decide +kernel
theorem dX5_add_19 : decode cX5_add 19 = .ok (.irem, 1) := by decide +kernel
theorem dX5_add_20 : decode cX5_add 20 = .ok (.iload_n 1, 1) := by decide +kernel
theorem dX5_add_21 : decode cX5_add 21 = .ok (.bipush 101, 2) := by decide +kernel
theorem dX5_add_23 : decode cX5_add 23 = .ok (.idiv, 1) := by decide +kernel
theorem dX5_add_24 : decode cX5_add 24 = .ok (.bipush 101, 2) := by decide +kernel
theorem dX5_add_26 : decode cX5_add 26 = .ok (.irem, 1) := by decide +kernel
theorem dX5_add_27 : decode cX5_add 27 = .ok (.iadd, 1) := by decide +kernel
theorem dX5_add_28 : decode cX5_add 28 = .ok (.bipush 101, 2) := by decide +kernel
theorem dX5_add_30 : decode cX5_add 30 = .ok (.irem, 1) := by decide +kernel
theorem dX5_add_31 : decode cX5_add 31 = .ok (.istore_n 3, 1) := by decide +kernel
theorem dX5_add_32 : decode cX5_add 32 = .ok (.iload_n 0, 1) := by decide +kernel
theorem dX5_add_33 : decode cX5_add 33 = .ok (.sipush 10201, 3) := by decide +kernel
theorem dX5_add_36 : decode cX5_add 36 = .ok (.idiv, 1) := by decide +kernel
theorem dX5_add_37 : decode cX5_add 37 = .ok (.iload_n 1, 1) := by decide +kernel
theorem dX5_add_38 : decode cX5_add 38 = .ok (.sipush 10201, 3) := by decide +kernel
theorem dX5_add_41 : decode cX5_add 41 = .ok (.idiv, 1) := by decide +kernel
theorem dX5_add_42 : decode cX5_add 42 = .ok (.iadd, 1) := by decide +kernel
theorem dX5_add_43 : decode cX5_add 43 = .ok (.bipush 101, 2) := by decide +kernel
theorem dX5_add_45 : decode cX5_add 45 = .ok (.irem, 1) := by decide +kernel
theorem dX5_add_46 : decode cX5_add 46 = .ok (.istore 4, 2) := by decide +kernel
theorem dX5_add_48 : decode cX5_add 48 = .ok (.iload_n 2, 1) := by decide +kernel
theorem dX5_add_49 : decode cX5_add 49 = .ok (.bipush 101, 2) := by decide +kernel
theorem dX5_add_51 : decode cX5_add 51 = .ok (.iload_n 3, 1) := by decide +kernel
theorem dX5_add_52 : decode cX5_add 52 = .ok (.imul, 1) := by decide +kernel
theorem dX5_add_53 : decode cX5_add 53 = .ok (.iadd, 1) := by decide +kernel
theorem dX5_add_54 : decode cX5_add 54 = .ok (.sipush 10201, 3) := by decide +kernel
theorem dX5_add_57 : decode cX5_add 57 = .ok (.iload 4, 2) := by decide +kernel
theorem dX5_add_59 : decode cX5_add 59 = .ok (.imul, 1) := by decide +kernel
theorem dX5_add_60 : decode cX5_add 60 = .ok (.iadd, 1) := by decide +kernel
theorem dX5_add_61 : decode cX5_add 61 = .ok (.ireturn, 1) := by decide +kernel
theorem dX5_negative_0 : decode cX5_negative 0 = .ok (.bipush 101, 2) := by decide +kernel
theorem dX5_negative_2 : decode cX5_negative 2 = .ok (.iload_n 0, 1) := by decide +kernel
theorem dX5_negative_3 : decode cX5_negative 3 = .ok (.bipush 101, 2) := by decide +kernel
theorem dX5_negative_5 : decode cX5_negative 5 = .ok (.irem, 1) := by decide +kernel
theorem dX5_negative_6 : decode cX5_negative 6 = .ok (.isub, 1) := by decide +kernel
theorem dX5_negative_7 : decode cX5_negative 7 = .ok (.bipush 101, 2) := by decide +kernel
theorem dX5_negative_9 : decode cX5_negative 9 = .ok (.irem, 1) := by decide +kernel
theorem dX5_negative_10 : decode cX5_negative 10 = .ok (.istore_n 1, 1) := by decide +kernel
theorem dX5_negative_11 : decode cX5_negative 11 = .ok (.bipush 101, 2) := by decide +kernel
theorem dX5_negative_13 : decode cX5_negative 13 = .ok (.iload_n 0, 1) := by decide +kernel
theorem dX5_negative_14 : decode cX5_negative 14 = .ok (.bipush 101, 2) := by decide +kernel
theorem dX5_negative_16 : decode cX5_negative 16 = .ok (.idiv, 1) := by decide +kernel
theorem dX5_negative_17 : decode cX5_negative 17 = .ok (.bipush 101, 2) := by decide +kernel
theorem dX5_negative_19 : decode cX5_negative 19 = .ok (.irem, 1) := by decide +kernel
theorem dX5_negative_20 : decode cX5_negative 20 = .ok (.isub, 1) := by decide +kernel
theorem dX5_negative_21 : decode cX5_negative 21 = .ok (.bipush 101, 2) := by decide +kernel
theorem dX5_negative_23 : decode cX5_negative 23 = .ok (.irem, 1) := by decide +kernel
theorem dX5_negative_24 : decode cX5_negative 24 = .ok (.istore_n 2, 1) := by decide +kernel
theorem dX5_negative_25 : decode cX5_negative 25 = .ok (.bipush 101, 2) := by decide +kernel
theorem dX5_negative_27 : decode cX5_negative 27 = .ok (.iload_n 0, 1) := by decide +kernel
theorem dX5_negative_28 : decode cX5_negative 28 = .ok (.sipush 10201, 3) := by decide +kernel
theorem dX5_negative_31 : decode cX5_negative 31 = .ok (.idiv, 1) := by decide +kernel
theorem dX5_negative_32 : decode cX5_negative 32 = .ok (.isub, 1) := by decide +kernel
theorem dX5_negative_33 : decode cX5_negative 33 = .ok (.bipush 101, 2) := by decide +kernel
theorem dX5_negative_35 : decode cX5_negative 35 = .ok (.irem, 1) := by decide +kernel
theorem dX5_negative_36 : decode cX5_negative 36 = .ok (.istore_n 3, 1) := by decide +kernel
theorem dX5_negative_37 : decode cX5_negative 37 = .ok (.iload_n 1, 1) := by decide +kernel
theorem dX5_negative_38 : decode cX5_negative 38 = .ok (.bipush 101, 2) := by decide +kernel
theorem dX5_negative_40 : decode cX5_negative 40 = .ok (.iload_n 2, 1) := by decide +kernel
theorem dX5_negative_41 : decode cX5_negative 41 = .ok (.imul, 1) := by decide +kernel
theorem dX5_negative_42 : decode cX5_negative 42 = .ok (.iadd, 1) := by decide +kernel
theorem dX5_negative_43 : decode cX5_negative 43 = .ok (.sipush 10201, 3) := by decide +kernel
theorem dX5_negative_46 : decode cX5_negative 46 = .ok (.iload_n 3, 1) := by decide +kernel
theorem dX5_negative_47 : decode cX5_negative 47 = .ok (.imul, 1) := by decide +kernel
theorem dX5_negative_48 : decode cX5_negative 48 = .ok (.iadd, 1) := by decide +kernel
theorem dX5_negative_49 : decode cX5_negative 49 = .ok (.ireturn, 1) := by decide +kernel
theorem dX5_less_0 : decode cX5_less 0 = .ok (.iload_n 0, 1) := by decide +kernel
theorem dX5_less_1 : decode cX5_less 1 = .ok (.iload_n 1, 1) := by decide +kernel
theorem dX5_less_2 : decode cX5_less 2 = .ok (.invokestatic 38, 3) := by decide +kernel
theorem dX5_less_5 : decode cX5_less 5 = .ok (.invokestatic 42, 3) := by decide +kernel
theorem dX5_less_8 : decode cX5_less 8 = .ok (.ireturn, 1) := by decide +kernel
theorem dX5_times_0 : decode cX5_times 0 = .ok (.iconst 0, 1) := by decide +kernel
theorem dX5_times_1 : decode cX5_times 1 = .ok (.istore_n 3, 1) := by decide +kernel
theorem dX5_times_2 : decode cX5_times 2 = .ok (.iload_n 3, 1) := by decide +kernel
theorem dX5_times_3 : decode cX5_times 3 = .ok (.iconst 5, 1) := by decide +kernel
theorem dX5_times_4 : decode cX5_times 4 = .ok (.if_icmp .ge 16, 3) := by decide +kernel
theorem dX5_times_7 : decode cX5_times 7 = .ok (.aload_n 0, 1) := by decide +kernel
theorem dX5_times_8 : decode cX5_times 8 = .ok (.getfield 23, 3) := by decide +kernel
theorem dX5_times_11 : decode cX5_times 11 = .ok (.iload_n 3, 1) := by decide +kernel
theorem dX5_times_12 : decode cX5_times 12 = .ok (.iconst 0, 1) := by decide +kernel
theorem dX5_times_13 : decode cX5_times 13 = .ok (.iastore, 1) := by decide +kernel
theorem dX5_times_14 : decode cX5_times 14 = .ok (.iinc 3 1, 3) := by decide +kernel
theorem dX5_times_17 : decode cX5_times 17 = .ok (.goto (-15), 3) := by decide +kernel
theorem dX5_times_20 : decode cX5_times 20 = .ok (.iconst 0, 1) := by decide +kernel
theorem dX5_times_21 : decode cX5_times 21 = .ok (.istore_n 3, 1) := by decide +kernel
theorem dX5_times_22 : decode cX5_times 22 = .ok (.iload_n 3, 1) := by decide +kernel
theorem dX5_times_23 : decode cX5_times 23 = .ok (.iconst 3, 1) := by decide +kernel
theorem dX5_times_24 : decode cX5_times 24 = .ok (.if_icmp .ge 58, 3) := by decide +kernel
theorem dX5_times_27 : decode cX5_times 27 = .ok (.iconst 0, 1) := by decide +kernel
theorem dX5_times_28 : decode cX5_times 28 = .ok (.istore 4, 2) := by decide +kernel
theorem dX5_times_30 : decode cX5_times 30 = .ok (.iload 4, 2) := by decide +kernel
theorem dX5_times_32 : decode cX5_times 32 = .ok (.iconst 3, 1) := by decide +kernel
theorem dX5_times_33 : decode cX5_times 33 = .ok (.if_icmp .ge 43, 3) := by decide +kernel
theorem dX5_times_36 : decode cX5_times 36 = .ok (.aload_n 0, 1) := by decide +kernel
theorem dX5_times_37 : decode cX5_times 37 = .ok (.getfield 23, 3) := by decide +kernel
theorem dX5_times_40 : decode cX5_times 40 = .ok (.iload_n 3, 1) := by decide +kernel
theorem dX5_times_41 : decode cX5_times 41 = .ok (.iload 4, 2) := by decide +kernel
theorem dX5_times_43 : decode cX5_times 43 = .ok (.iadd, 1) := by decide +kernel
theorem dX5_times_44 : decode cX5_times 44 = .ok (.aload_n 0, 1) := by decide +kernel
theorem dX5_times_45 : decode cX5_times 45 = .ok (.getfield 23, 3) := by decide +kernel
theorem dX5_times_48 : decode cX5_times 48 = .ok (.iload_n 3, 1) := by decide +kernel
theorem dX5_times_49 : decode cX5_times 49 = .ok (.iload 4, 2) := by decide +kernel
theorem dX5_times_51 : decode cX5_times 51 = .ok (.iadd, 1) := by decide +kernel
theorem dX5_times_52 : decode cX5_times 52 = .ok (.iaload, 1) := by decide +kernel
theorem dX5_times_53 : decode cX5_times 53 = .ok (.iload_n 1, 1) := by decide +kernel
theorem dX5_times_54 : decode cX5_times 54 = .ok (.iload_n 3, 1) := by decide +kernel
theorem dX5_times_55 : decode cX5_times 55 = .ok (.invokestatic 46, 3) := by decide +kernel
theorem dX5_times_58 : decode cX5_times 58 = .ok (.iload_n 2, 1) := by decide +kernel
theorem dX5_times_59 : decode cX5_times 59 = .ok (.iload 4, 2) := by decide +kernel
theorem dX5_times_61 : decode cX5_times 61 = .ok (.invokestatic 46, 3) := by decide +kernel
theorem dX5_times_64 : decode cX5_times 64 = .ok (.imul, 1) := by decide +kernel
theorem dX5_times_65 : decode cX5_times 65 = .ok (.iadd, 1) := by decide +kernel
theorem dX5_times_66 : decode cX5_times 66 = .ok (.bipush 101, 2) := by decide +kernel
theorem dX5_times_68 : decode cX5_times 68 = .ok (.irem, 1) := by decide +kernel
theorem dX5_times_69 : decode cX5_times 69 = .ok (.iastore, 1) := by decide +kernel
theorem dX5_times_70 : decode cX5_times 70 = .ok (.iinc 4 1, 3) := by decide +kernel
theorem dX5_times_73 : decode cX5_times 73 = .ok (.goto (-43), 3) := by decide +kernel
theorem dX5_times_76 : decode cX5_times 76 = .ok (.iinc 3 1, 3) := by decide +kernel
theorem dX5_times_79 : decode cX5_times 79 = .ok (.goto (-57), 3) := by decide +kernel
theorem dX5_times_82 : decode cX5_times 82 = .ok (.iconst 4, 1) := by decide +kernel
theorem dX5_times_83 : decode cX5_times 83 = .ok (.istore_n 3, 1) := by decide +kernel
theorem dX5_times_84 : decode cX5_times 84 = .ok (.iload_n 3, 1) := by decide +kernel
theorem dX5_times_85 : decode cX5_times 85 = .ok (.aload_n 0, 1) := by decide +kernel
theorem dX5_times_86 : decode cX5_times 86 = .ok (.getfield 7, 3) := by decide +kernel
theorem dX5_times_89 : decode cX5_times 89 = .ok (.if_icmp .lt 87, 3) := by decide +kernel
theorem dX5_times_92 : decode cX5_times 92 = .ok (.aload_n 0, 1) := by decide +kernel
theorem dX5_times_93 : decode cX5_times 93 = .ok (.getfield 23, 3) := by decide +kernel
theorem dX5_times_96 : decode cX5_times 96 = .ok (.iload_n 3, 1) := by decide +kernel
theorem dX5_times_97 : decode cX5_times 97 = .ok (.iaload, 1) := by decide +kernel
theorem dX5_times_98 : decode cX5_times 98 = .ok (.istore 4, 2) := by decide +kernel
theorem dX5_times_100 : decode cX5_times 100 = .ok (.aload_n 0, 1) := by decide +kernel
theorem dX5_times_101 : decode cX5_times 101 = .ok (.getfield 23, 3) := by decide +kernel
theorem dX5_times_104 : decode cX5_times 104 = .ok (.iload_n 3, 1) := by decide +kernel
theorem dX5_times_105 : decode cX5_times 105 = .ok (.iconst 0, 1) := by decide +kernel
theorem dX5_times_106 : decode cX5_times 106 = .ok (.iastore, 1) := by decide +kernel
theorem dX5_times_107 : decode cX5_times 107 = .ok (.iconst 0, 1) := by decide +kernel
theorem dX5_times_108 : decode cX5_times 108 = .ok (.istore 5, 2) := by decide +kernel
theorem dX5_times_110 : decode cX5_times 110 = .ok (.iload 5, 2) := by decide +kernel
theorem dX5_times_112 : decode cX5_times 112 = .ok (.aload_n 0, 1) := by decide +kernel
theorem dX5_times_113 : decode cX5_times 113 = .ok (.getfield 7, 3) := by decide +kernel
theorem dX5_times_116 : decode cX5_times 116 = .ok (.if_icmp .ge 54, 3) := by decide +kernel
theorem dX5_times_119 : decode cX5_times 119 = .ok (.aload_n 0, 1) := by decide +kernel
theorem dX5_times_120 : decode cX5_times 120 = .ok (.getfield 23, 3) := by decide +kernel
theorem dX5_times_123 : decode cX5_times 123 = .ok (.iload_n 3, 1) := by decide +kernel
theorem dX5_times_124 : decode cX5_times 124 = .ok (.aload_n 0, 1) := by decide +kernel
theorem dX5_times_125 : decode cX5_times 125 = .ok (.getfield 7, 3) := by decide +kernel
theorem dX5_times_128 : decode cX5_times 128 = .ok (.isub, 1) := by decide +kernel
theorem dX5_times_129 : decode cX5_times 129 = .ok (.iload 5, 2) := by decide +kernel
theorem dX5_times_131 : decode cX5_times 131 = .ok (.iadd, 1) := by decide +kernel
theorem dX5_times_132 : decode cX5_times 132 = .ok (.aload_n 0, 1) := by decide +kernel
theorem dX5_times_133 : decode cX5_times 133 = .ok (.getfield 23, 3) := by decide +kernel
theorem dX5_times_136 : decode cX5_times 136 = .ok (.iload_n 3, 1) := by decide +kernel
theorem dX5_times_137 : decode cX5_times 137 = .ok (.aload_n 0, 1) := by decide +kernel
theorem dX5_times_138 : decode cX5_times 138 = .ok (.getfield 7, 3) := by decide +kernel
theorem dX5_times_141 : decode cX5_times 141 = .ok (.isub, 1) := by decide +kernel
theorem dX5_times_142 : decode cX5_times 142 = .ok (.iload 5, 2) := by decide +kernel
theorem dX5_times_144 : decode cX5_times 144 = .ok (.iadd, 1) := by decide +kernel
theorem dX5_times_145 : decode cX5_times 145 = .ok (.iaload, 1) := by decide +kernel
theorem dX5_times_146 : decode cX5_times 146 = .ok (.bipush 101, 2) := by decide +kernel
theorem dX5_times_148 : decode cX5_times 148 = .ok (.aload_n 0, 1) := by decide +kernel
theorem dX5_times_149 : decode cX5_times 149 = .ok (.getfield 19, 3) := by decide +kernel
theorem dX5_times_152 : decode cX5_times 152 = .ok (.iload 5, 2) := by decide +kernel
theorem dX5_times_154 : decode cX5_times 154 = .ok (.iaload, 1) := by decide +kernel
theorem dX5_times_155 : decode cX5_times 155 = .ok (.isub, 1) := by decide +kernel
theorem dX5_times_156 : decode cX5_times 156 = .ok (.iload 4, 2) := by decide +kernel
theorem dX5_times_158 : decode cX5_times 158 = .ok (.imul, 1) := by decide +kernel
theorem dX5_times_159 : decode cX5_times 159 = .ok (.iadd, 1) := by decide +kernel
theorem dX5_times_160 : decode cX5_times 160 = .ok (.bipush 101, 2) := by decide +kernel
theorem dX5_times_162 : decode cX5_times 162 = .ok (.irem, 1) := by decide +kernel
theorem dX5_times_163 : decode cX5_times 163 = .ok (.iastore, 1) := by decide +kernel
theorem dX5_times_164 : decode cX5_times 164 = .ok (.iinc 5 1, 3) := by decide +kernel
theorem dX5_times_167 : decode cX5_times 167 = .ok (.goto (-57), 3) := by decide +kernel
theorem dX5_times_170 : decode cX5_times 170 = .ok (.iinc 3 (-1), 3) := by decide +kernel
theorem dX5_times_173 : decode cX5_times 173 = .ok (.goto (-89), 3) := by decide +kernel
theorem dX5_times_176 : decode cX5_times 176 = .ok (.aload_n 0, 1) := by decide +kernel
theorem dX5_times_177 : decode cX5_times 177 = .ok (.getfield 23, 3) := by decide +kernel
theorem dX5_times_180 : decode cX5_times 180 = .ok (.iconst 0, 1) := by decide +kernel
theorem dX5_times_181 : decode cX5_times 181 = .ok (.iaload, 1) := by decide +kernel
theorem dX5_times_182 : decode cX5_times 182 = .ok (.bipush 101, 2) := by decide +kernel
theorem dX5_times_184 : decode cX5_times 184 = .ok (.aload_n 0, 1) := by decide +kernel
theorem dX5_times_185 : decode cX5_times 185 = .ok (.getfield 23, 3) := by decide +kernel
theorem dX5_times_188 : decode cX5_times 188 = .ok (.iconst 1, 1) := by decide +kernel
theorem dX5_times_189 : decode cX5_times 189 = .ok (.iaload, 1) := by decide +kernel
theorem dX5_times_190 : decode cX5_times 190 = .ok (.imul, 1) := by decide +kernel
theorem dX5_times_191 : decode cX5_times 191 = .ok (.iadd, 1) := by decide +kernel
theorem dX5_times_192 : decode cX5_times 192 = .ok (.sipush 10201, 3) := by decide +kernel
theorem dX5_times_195 : decode cX5_times 195 = .ok (.aload_n 0, 1) := by decide +kernel
theorem dX5_times_196 : decode cX5_times 196 = .ok (.getfield 23, 3) := by decide +kernel
theorem dX5_times_199 : decode cX5_times 199 = .ok (.iconst 2, 1) := by decide +kernel
theorem dX5_times_200 : decode cX5_times 200 = .ok (.iaload, 1) := by decide +kernel
theorem dX5_times_201 : decode cX5_times 201 = .ok (.imul, 1) := by decide +kernel
theorem dX5_times_202 : decode cX5_times 202 = .ok (.iadd, 1) := by decide +kernel
theorem dX5_times_203 : decode cX5_times 203 = .ok (.ireturn, 1) := by decide +kernel
theorem dX5_power_0 : decode cX5_power 0 = .ok (.iconst 1, 1) := by decide +kernel
theorem dX5_power_1 : decode cX5_power 1 = .ok (.istore 4, 2) := by decide +kernel
theorem dX5_power_3 : decode cX5_power 3 = .ok (.iload_n 1, 1) := by decide +kernel
theorem dX5_power_4 : decode cX5_power 4 = .ok (.istore 5, 2) := by decide +kernel
theorem dX5_power_6 : decode cX5_power 6 = .ok (.lload_n 2, 1) := by decide +kernel
theorem dX5_power_7 : decode cX5_power 7 = .ok (.lstore 6, 2) := by decide +kernel
theorem dX5_power_9 : decode cX5_power 9 = .ok (.lload 6, 2) := by decide +kernel
theorem dX5_power_11 : decode cX5_power 11 = .ok (.lconst 0, 1) := by decide +kernel
theorem dX5_power_12 : decode cX5_power 12 = .ok (.lcmp, 1) := by decide +kernel
theorem dX5_power_13 : decode cX5_power 13 = .ok (.ifCond .le 46, 3) := by decide +kernel
theorem dX5_power_16 : decode cX5_power 16 = .ok (.lload 6, 2) := by decide +kernel
theorem dX5_power_18 : decode cX5_power 18 = .ok (.lconst 1, 1) := by decide +kernel
theorem dX5_power_19 : decode cX5_power 19 = .ok (.land, 1) := by decide +kernel
theorem dX5_power_20 : decode cX5_power 20 = .ok (.lconst 1, 1) := by decide +kernel
theorem dX5_power_21 : decode cX5_power 21 = .ok (.lcmp, 1) := by decide +kernel
theorem dX5_power_22 : decode cX5_power 22 = .ok (.ifCond .ne 14, 3) := by decide +kernel
theorem dX5_power_25 : decode cX5_power 25 = .ok (.aload_n 0, 1) := by decide +kernel
theorem dX5_power_26 : decode cX5_power 26 = .ok (.iload 4, 2) := by decide +kernel
theorem dX5_power_28 : decode cX5_power 28 = .ok (.iload 5, 2) := by decide +kernel
theorem dX5_power_30 : decode cX5_power 30 = .ok (.invokevirtual 49, 3) := by decide +kernel
theorem dX5_power_33 : decode cX5_power 33 = .ok (.goto 5, 3) := by decide +kernel
theorem dX5_power_36 : decode cX5_power 36 = .ok (.iload 4, 2) := by decide +kernel
theorem dX5_power_38 : decode cX5_power 38 = .ok (.istore 4, 2) := by decide +kernel
theorem dX5_power_40 : decode cX5_power 40 = .ok (.aload_n 0, 1) := by decide +kernel
theorem dX5_power_41 : decode cX5_power 41 = .ok (.iload 5, 2) := by decide +kernel
theorem dX5_power_43 : decode cX5_power 43 = .ok (.iload 5, 2) := by decide +kernel
theorem dX5_power_45 : decode cX5_power 45 = .ok (.invokevirtual 49, 3) := by decide +kernel
theorem dX5_power_48 : decode cX5_power 48 = .ok (.istore 5, 2) := by decide +kernel
theorem dX5_power_50 : decode cX5_power 50 = .ok (.lload 6, 2) := by decide +kernel
theorem dX5_power_52 : decode cX5_power 52 = .ok (.iconst 1, 1) := by decide +kernel
theorem dX5_power_53 : decode cX5_power 53 = .ok (.lshr, 1) := by decide +kernel
theorem dX5_power_54 : decode cX5_power 54 = .ok (.lstore 6, 2) := by decide +kernel
theorem dX5_power_56 : decode cX5_power 56 = .ok (.goto (-47), 3) := by decide +kernel
theorem dX5_power_59 : decode cX5_power 59 = .ok (.iload 4, 2) := by decide +kernel
theorem dX5_power_61 : decode cX5_power 61 = .ok (.ireturn, 1) := by decide +kernel
theorem dX5_inverse_0 : decode cX5_inverse 0 = .ok (.aload_n 0, 1) := by decide +kernel
theorem dX5_inverse_1 : decode cX5_inverse 1 = .ok (.iload_n 1, 1) := by decide +kernel
theorem dX5_inverse_2 : decode cX5_inverse 2 = .ok (.aload_n 0, 1) := by decide +kernel
theorem dX5_inverse_3 : decode cX5_inverse 3 = .ok (.getfield 15, 3) := by decide +kernel
theorem dX5_inverse_6 : decode cX5_inverse 6 = .ok (.ldc2_w 52, 3) := by decide +kernel
theorem dX5_inverse_9 : decode cX5_inverse 9 = .ok (.lsub, 1) := by decide +kernel
theorem dX5_inverse_10 : decode cX5_inverse 10 = .ok (.invokevirtual 54, 3) := by decide +kernel
theorem dX5_inverse_13 : decode cX5_inverse 13 = .ok (.ireturn, 1) := by decide +kernel
theorem dX5_mate_0 : decode cX5_mate 0 = .ok (.iload_n 1, 1) := by decide +kernel
theorem dX5_mate_1 : decode cX5_mate 1 = .ok (.istore_n 3, 1) := by decide +kernel
theorem dX5_mate_2 : decode cX5_mate 2 = .ok (.iconst 0, 1) := by decide +kernel
theorem dX5_mate_3 : decode cX5_mate 3 = .ok (.istore 4, 2) := by decide +kernel
theorem dX5_mate_5 : decode cX5_mate 5 = .ok (.iload 4, 2) := by decide +kernel
theorem dX5_mate_7 : decode cX5_mate 7 = .ok (.iload_n 2, 1) := by decide +kernel
theorem dX5_mate_8 : decode cX5_mate 8 = .ok (.if_icmp .ge 18, 3) := by decide +kernel
theorem dX5_mate_11 : decode cX5_mate 11 = .ok (.aload_n 0, 1) := by decide +kernel
theorem dX5_mate_12 : decode cX5_mate 12 = .ok (.iload_n 3, 1) := by decide +kernel
theorem dX5_mate_13 : decode cX5_mate 13 = .ok (.ldc2_w 13, 3) := by decide +kernel
theorem dX5_mate_16 : decode cX5_mate 16 = .ok (.invokevirtual 54, 3) := by decide +kernel
theorem dX5_mate_19 : decode cX5_mate 19 = .ok (.istore_n 3, 1) := by decide +kernel
theorem dX5_mate_20 : decode cX5_mate 20 = .ok (.iinc 4 1, 3) := by decide +kernel
theorem dX5_mate_23 : decode cX5_mate 23 = .ok (.goto (-18), 3) := by decide +kernel
theorem dX5_mate_26 : decode cX5_mate 26 = .ok (.iload_n 3, 1) := by decide +kernel
theorem dX5_mate_27 : decode cX5_mate 27 = .ok (.ireturn, 1) := by decide +kernel
theorem dX5_mates_0 : decode cX5_mates 0 = .ok (.iconst 1, 1) := by decide +kernel
theorem dX5_mates_1 : decode cX5_mates 1 = .ok (.istore_n 2, 1) := by decide +kernel
theorem dX5_mates_2 : decode cX5_mates 2 = .ok (.iload_n 2, 1) := by decide +kernel
theorem dX5_mates_3 : decode cX5_mates 3 = .ok (.aload_n 0, 1) := by decide +kernel
theorem dX5_mates_4 : decode cX5_mates 4 = .ok (.getfield 7, 3) := by decide +kernel
theorem dX5_mates_7 : decode cX5_mates 7 = .ok (.if_icmp .ge 19, 3) := by decide +kernel
theorem dX5_mates_10 : decode cX5_mates 10 = .ok (.aload_n 0, 1) := by decide +kernel
theorem dX5_mates_11 : decode cX5_mates 11 = .ok (.iload_n 1, 1) := by decide +kernel
theorem dX5_mates_12 : decode cX5_mates 12 = .ok (.iload_n 2, 1) := by decide +kernel
theorem dX5_mates_13 : decode cX5_mates 13 = .ok (.invokevirtual 58, 3) := by decide +kernel
theorem dX5_mates_16 : decode cX5_mates 16 = .ok (.iload_n 1, 1) := by decide +kernel
theorem dX5_mates_17 : decode cX5_mates 17 = .ok (.if_icmp .eq 9, 3) := by decide +kernel
theorem dX5_mates_20 : decode cX5_mates 20 = .ok (.iinc 2 1, 3) := by decide +kernel
theorem dX5_mates_23 : decode cX5_mates 23 = .ok (.goto (-21), 3) := by decide +kernel
theorem dX5_mates_26 : decode cX5_mates 26 = .ok (.iload_n 2, 1) := by decide +kernel
theorem dX5_mates_27 : decode cX5_mates 27 = .ok (.ireturn, 1) := by decide +kernel
theorem dX5_number_0 : decode cX5_number 0 = .ok (.lload_n 0, 1) := by decide +kernel
theorem dX5_number_1 : decode cX5_number 1 = .ok (.ldc2_w 13, 3) := by decide +kernel
theorem dX5_number_4 : decode cX5_number 4 = .ok (.lrem, 1) := by decide +kernel
theorem dX5_number_5 : decode cX5_number 5 = .ok (.l2i, 1) := by decide +kernel
theorem dX5_number_6 : decode cX5_number 6 = .ok (.istore_n 2, 1) := by decide +kernel
theorem dX5_number_7 : decode cX5_number 7 = .ok (.iload_n 2, 1) := by decide +kernel
theorem dX5_number_8 : decode cX5_number 8 = .ok (.ifCond .ge 10, 3) := by decide +kernel
theorem dX5_number_11 : decode cX5_number 11 = .ok (.iload_n 2, 1) := by decide +kernel
theorem dX5_number_12 : decode cX5_number 12 = .ok (.bipush 101, 2) := by decide +kernel
theorem dX5_number_14 : decode cX5_number 14 = .ok (.iadd, 1) := by decide +kernel
theorem dX5_number_15 : decode cX5_number 15 = .ok (.goto 4, 3) := by decide +kernel
theorem dX5_number_18 : decode cX5_number 18 = .ok (.iload_n 2, 1) := by decide +kernel
theorem dX5_number_19 : decode cX5_number 19 = .ok (.ireturn, 1) := by decide +kernel
theorem dX5_field_0 : decode cX5_field 0 = .ok (.aload_n 0, 1) := by decide +kernel
theorem dX5_field_1 : decode cX5_field 1 = .ok (.iload_n 1, 1) := by decide +kernel
theorem dX5_field_2 : decode cX5_field 2 = .ok (.iconst 1, 1) := by decide +kernel
theorem dX5_field_3 : decode cX5_field 3 = .ok (.if_icmp .lt 8, 3) := by decide +kernel
theorem dX5_field_6 : decode cX5_field 6 = .ok (.iload_n 1, 1) := by decide +kernel
theorem dX5_field_7 : decode cX5_field 7 = .ok (.iconst 3, 1) := by decide +kernel
theorem dX5_field_8 : decode cX5_field 8 = .ok (.if_icmp .le 7, 3) := by decide +kernel
theorem dX5_field_11 : decode cX5_field 11 = .ok (.iconst 1, 1) := by decide +kernel
theorem dX5_field_12 : decode cX5_field 12 = .ok (.goto 4, 3) := by decide +kernel
theorem dX5_field_15 : decode cX5_field 15 = .ok (.iconst 0, 1) := by decide +kernel
theorem dX5_field_16 : decode cX5_field 16 = .ok (.iconst 0, 1) := by decide +kernel
theorem dX5_field_17 : decode cX5_field 17 = .ok (.invokevirtual 61, 3) := by decide +kernel
theorem dX5_field_20 : decode cX5_field 20 = .ok (.ifCond .eq 5, 3) := by decide +kernel
theorem dX5_field_23 : decode cX5_field 23 = .ok (.iconst 0, 1) := by decide +kernel
theorem dX5_field_24 : decode cX5_field 24 = .ok (.ireturn, 1) := by decide +kernel
theorem dX5_field_25 : decode cX5_field 25 = .ok (.lload_n 2, 1) := by decide +kernel
theorem dX5_field_26 : decode cX5_field 26 = .ok (.invokestatic 65, 3) := by decide +kernel
theorem dX5_field_29 : decode cX5_field 29 = .ok (.istore 8, 2) := by decide +kernel
theorem dX5_field_31 : decode cX5_field 31 = .ok (.iload_n 1, 1) := by decide +kernel
theorem dX5_field_32 : decode cX5_field 32 = .ok (.iconst 1, 1) := by decide +kernel
theorem dX5_field_33 : decode cX5_field 33 = .ok (.if_icmp .le 11, 3) := by decide +kernel
theorem dX5_field_36 : decode cX5_field 36 = .ok (.lload 4, 2) := by decide +kernel
theorem dX5_field_38 : decode cX5_field 38 = .ok (.invokestatic 65, 3) := by decide +kernel
theorem dX5_field_41 : decode cX5_field 41 = .ok (.goto 4, 3) := by decide +kernel
theorem dX5_field_44 : decode cX5_field 44 = .ok (.iconst 0, 1) := by decide +kernel
theorem dX5_field_45 : decode cX5_field 45 = .ok (.istore 9, 2) := by decide +kernel
theorem dX5_field_47 : decode cX5_field 47 = .ok (.iload_n 1, 1) := by decide +kernel
theorem dX5_field_48 : decode cX5_field 48 = .ok (.iconst 2, 1) := by decide +kernel
theorem dX5_field_49 : decode cX5_field 49 = .ok (.if_icmp .le 11, 3) := by decide +kernel
theorem dX5_field_52 : decode cX5_field 52 = .ok (.lload 6, 2) := by decide +kernel
theorem dX5_field_54 : decode cX5_field 54 = .ok (.invokestatic 65, 3) := by decide +kernel
theorem dX5_field_57 : decode cX5_field 57 = .ok (.goto 4, 3) := by decide +kernel
theorem dX5_field_60 : decode cX5_field 60 = .ok (.iconst 0, 1) := by decide +kernel
theorem dX5_field_61 : decode cX5_field 61 = .ok (.istore 10, 2) := by decide +kernel
theorem dX5_field_63 : decode cX5_field 63 = .ok (.iconst 0, 1) := by decide +kernel
theorem dX5_field_64 : decode cX5_field 64 = .ok (.istore 11, 2) := by decide +kernel
theorem dX5_field_66 : decode cX5_field 66 = .ok (.iload 11, 2) := by decide +kernel
theorem dX5_field_68 : decode cX5_field 68 = .ok (.bipush 101, 2) := by decide +kernel
theorem dX5_field_70 : decode cX5_field 70 = .ok (.if_icmp .ge 80, 3) := by decide +kernel
theorem dX5_field_73 : decode cX5_field 73 = .ok (.iload_n 1, 1) := by decide +kernel
theorem dX5_field_74 : decode cX5_field 74 = .ok (.iconst 1, 1) := by decide +kernel
theorem dX5_field_75 : decode cX5_field 75 = .ok (.if_icmp .le 75, 3) := by decide +kernel
theorem dX5_field_78 : decode cX5_field 78 = .ok (.iload_n 1, 1) := by decide +kernel
theorem dX5_field_79 : decode cX5_field 79 = .ok (.iconst 2, 1) := by decide +kernel
theorem dX5_field_80 : decode cX5_field 80 = .ok (.if_icmp .ne 20, 3) := by decide +kernel
theorem dX5_field_83 : decode cX5_field 83 = .ok (.iload 11, 2) := by decide +kernel
theorem dX5_field_85 : decode cX5_field 85 = .ok (.iload 11, 2) := by decide +kernel
theorem dX5_field_87 : decode cX5_field 87 = .ok (.imul, 1) := by decide +kernel
theorem dX5_field_88 : decode cX5_field 88 = .ok (.iload 9, 2) := by decide +kernel
theorem dX5_field_90 : decode cX5_field 90 = .ok (.iload 11, 2) := by decide +kernel
theorem dX5_field_92 : decode cX5_field 92 = .ok (.imul, 1) := by decide +kernel
theorem dX5_field_93 : decode cX5_field 93 = .ok (.iadd, 1) := by decide +kernel
theorem dX5_field_94 : decode cX5_field 94 = .ok (.iload 8, 2) := by decide +kernel
theorem dX5_field_96 : decode cX5_field 96 = .ok (.iadd, 1) := by decide +kernel
theorem dX5_field_97 : decode cX5_field 97 = .ok (.goto 35, 3) := by decide +kernel
theorem dX5_field_100 : decode cX5_field 100 = .ok (.iload 11, 2) := by decide +kernel
theorem dX5_field_102 : decode cX5_field 102 = .ok (.iload 11, 2) := by decide +kernel
theorem dX5_field_104 : decode cX5_field 104 = .ok (.imul, 1) := by decide +kernel
theorem dX5_field_105 : decode cX5_field 105 = .ok (.bipush 101, 2) := by decide +kernel
theorem dX5_field_107 : decode cX5_field 107 = .ok (.irem, 1) := by decide +kernel
theorem dX5_field_108 : decode cX5_field 108 = .ok (.iload 11, 2) := by decide +kernel
theorem dX5_field_110 : decode cX5_field 110 = .ok (.imul, 1) := by decide +kernel
theorem dX5_field_111 : decode cX5_field 111 = .ok (.iload 10, 2) := by decide +kernel
theorem dX5_field_113 : decode cX5_field 113 = .ok (.iload 11, 2) := by decide +kernel
theorem dX5_field_115 : decode cX5_field 115 = .ok (.iload 11, 2) := by decide +kernel
theorem dX5_field_117 : decode cX5_field 117 = .ok (.imul, 1) := by decide +kernel
theorem dX5_field_118 : decode cX5_field 118 = .ok (.bipush 101, 2) := by decide +kernel
theorem dX5_field_120 : decode cX5_field 120 = .ok (.irem, 1) := by decide +kernel
theorem dX5_field_121 : decode cX5_field 121 = .ok (.imul, 1) := by decide +kernel
theorem dX5_field_122 : decode cX5_field 122 = .ok (.iadd, 1) := by decide +kernel
theorem dX5_field_123 : decode cX5_field 123 = .ok (.iload 9, 2) := by decide +kernel
theorem dX5_field_125 : decode cX5_field 125 = .ok (.iload 11, 2) := by decide +kernel
theorem dX5_field_127 : decode cX5_field 127 = .ok (.imul, 1) := by decide +kernel
theorem dX5_field_128 : decode cX5_field 128 = .ok (.iadd, 1) := by decide +kernel
theorem dX5_field_129 : decode cX5_field 129 = .ok (.iload 8, 2) := by decide +kernel
theorem dX5_field_131 : decode cX5_field 131 = .ok (.iadd, 1) := by decide +kernel
theorem dX5_field_132 : decode cX5_field 132 = .ok (.istore 12, 2) := by decide +kernel
theorem dX5_field_134 : decode cX5_field 134 = .ok (.iload 12, 2) := by decide +kernel
theorem dX5_field_136 : decode cX5_field 136 = .ok (.bipush 101, 2) := by decide +kernel
theorem dX5_field_138 : decode cX5_field 138 = .ok (.irem, 1) := by decide +kernel
theorem dX5_field_139 : decode cX5_field 139 = .ok (.ifCond .ne 5, 3) := by decide +kernel
theorem dX5_field_142 : decode cX5_field 142 = .ok (.iconst 0, 1) := by decide +kernel
theorem dX5_field_143 : decode cX5_field 143 = .ok (.ireturn, 1) := by decide +kernel
theorem dX5_field_144 : decode cX5_field 144 = .ok (.iinc 11 1, 3) := by decide +kernel
theorem dX5_field_147 : decode cX5_field 147 = .ok (.goto (-81), 3) := by decide +kernel
theorem dX5_field_150 : decode cX5_field 150 = .ok (.aload_n 0, 1) := by decide +kernel
theorem dX5_field_151 : decode cX5_field 151 = .ok (.iload_n 1, 1) := by decide +kernel
theorem dX5_field_152 : decode cX5_field 152 = .ok (.putfield 7, 3) := by decide +kernel
theorem dX5_field_155 : decode cX5_field 155 = .ok (.aload_n 0, 1) := by decide +kernel
theorem dX5_field_156 : decode cX5_field 156 = .ok (.iload_n 1, 1) := by decide +kernel
theorem dX5_field_157 : decode cX5_field 157 = .ok (.iconst 1, 1) := by decide +kernel
theorem dX5_field_158 : decode cX5_field 158 = .ok (.if_icmp .ne 9, 3) := by decide +kernel
theorem dX5_field_161 : decode cX5_field 161 = .ok (.ldc2_w 13, 3) := by decide +kernel
theorem dX5_field_164 : decode cX5_field 164 = .ok (.goto 17, 3) := by decide +kernel
theorem dX5_field_167 : decode cX5_field 167 = .ok (.iload_n 1, 1) := by decide +kernel
theorem dX5_field_168 : decode cX5_field 168 = .ok (.iconst 2, 1) := by decide +kernel
theorem dX5_field_169 : decode cX5_field 169 = .ok (.if_icmp .ne 9, 3) := by decide +kernel
theorem dX5_field_172 : decode cX5_field 172 = .ok (.ldc2_w 69, 3) := by decide +kernel
theorem dX5_field_175 : decode cX5_field 175 = .ok (.goto 6, 3) := by decide +kernel
theorem dX5_field_178 : decode cX5_field 178 = .ok (.ldc2_w 71, 3) := by decide +kernel
theorem dX5_field_181 : decode cX5_field 181 = .ok (.putfield 15, 3) := by decide +kernel
theorem dX5_field_184 : decode cX5_field 184 = .ok (.aload_n 0, 1) := by decide +kernel
theorem dX5_field_185 : decode cX5_field 185 = .ok (.getfield 19, 3) := by decide +kernel
theorem dX5_field_188 : decode cX5_field 188 = .ok (.iconst 0, 1) := by decide +kernel
theorem dX5_field_189 : decode cX5_field 189 = .ok (.iload 8, 2) := by decide +kernel
theorem dX5_field_191 : decode cX5_field 191 = .ok (.iastore, 1) := by decide +kernel
theorem dX5_field_192 : decode cX5_field 192 = .ok (.aload_n 0, 1) := by decide +kernel
theorem dX5_field_193 : decode cX5_field 193 = .ok (.getfield 19, 3) := by decide +kernel
theorem dX5_field_196 : decode cX5_field 196 = .ok (.iconst 1, 1) := by decide +kernel
theorem dX5_field_197 : decode cX5_field 197 = .ok (.iload_n 1, 1) := by decide +kernel
theorem dX5_field_198 : decode cX5_field 198 = .ok (.iconst 1, 1) := by decide +kernel
theorem dX5_field_199 : decode cX5_field 199 = .ok (.if_icmp .ne 7, 3) := by decide +kernel
theorem dX5_field_202 : decode cX5_field 202 = .ok (.iconst 1, 1) := by decide +kernel
theorem dX5_field_203 : decode cX5_field 203 = .ok (.goto 5, 3) := by decide +kernel
theorem dX5_field_206 : decode cX5_field 206 = .ok (.iload 9, 2) := by decide +kernel
theorem dX5_field_208 : decode cX5_field 208 = .ok (.iastore, 1) := by decide +kernel
theorem dX5_field_209 : decode cX5_field 209 = .ok (.aload_n 0, 1) := by decide +kernel
theorem dX5_field_210 : decode cX5_field 210 = .ok (.getfield 19, 3) := by decide +kernel
theorem dX5_field_213 : decode cX5_field 213 = .ok (.iconst 2, 1) := by decide +kernel
theorem dX5_field_214 : decode cX5_field 214 = .ok (.iload_n 1, 1) := by decide +kernel
theorem dX5_field_215 : decode cX5_field 215 = .ok (.iconst 2, 1) := by decide +kernel
theorem dX5_field_216 : decode cX5_field 216 = .ok (.if_icmp .ne 7, 3) := by decide +kernel
theorem dX5_field_219 : decode cX5_field 219 = .ok (.iconst 1, 1) := by decide +kernel
theorem dX5_field_220 : decode cX5_field 220 = .ok (.goto 5, 3) := by decide +kernel
theorem dX5_field_223 : decode cX5_field 223 = .ok (.iload 10, 2) := by decide +kernel
theorem dX5_field_225 : decode cX5_field 225 = .ok (.iastore, 1) := by decide +kernel
theorem dX5_field_226 : decode cX5_field 226 = .ok (.aload_n 0, 1) := by decide +kernel
theorem dX5_field_227 : decode cX5_field 227 = .ok (.getfield 19, 3) := by decide +kernel
theorem dX5_field_230 : decode cX5_field 230 = .ok (.iconst 3, 1) := by decide +kernel
theorem dX5_field_231 : decode cX5_field 231 = .ok (.iload_n 1, 1) := by decide +kernel
theorem dX5_field_232 : decode cX5_field 232 = .ok (.iconst 3, 1) := by decide +kernel
theorem dX5_field_233 : decode cX5_field 233 = .ok (.if_icmp .ne 7, 3) := by decide +kernel
theorem dX5_field_236 : decode cX5_field 236 = .ok (.iconst 1, 1) := by decide +kernel
theorem dX5_field_237 : decode cX5_field 237 = .ok (.goto 4, 3) := by decide +kernel
theorem dX5_field_240 : decode cX5_field 240 = .ok (.iconst 0, 1) := by decide +kernel
theorem dX5_field_241 : decode cX5_field 241 = .ok (.iastore, 1) := by decide +kernel
theorem dX5_field_242 : decode cX5_field 242 = .ok (.aload_n 0, 1) := by decide +kernel
theorem dX5_field_243 : decode cX5_field 243 = .ok (.iconst 0, 1) := by decide +kernel
theorem dX5_field_244 : decode cX5_field 244 = .ok (.invokevirtual 73, 3) := by decide +kernel
theorem dX5_field_247 : decode cX5_field 247 = .ok (.aload_n 0, 1) := by decide +kernel
theorem dX5_field_248 : decode cX5_field 248 = .ok (.iconst 0, 1) := by decide +kernel
theorem dX5_field_249 : decode cX5_field 249 = .ok (.putfield 77, 3) := by decide +kernel
theorem dX5_field_252 : decode cX5_field 252 = .ok (.iconst 1, 1) := by decide +kernel
theorem dX5_field_253 : decode cX5_field 253 = .ok (.ireturn, 1) := by decide +kernel
theorem dX5_modulus_0 : decode cX5_modulus 0 = .ok (.aload_n 0, 1) := by decide +kernel
theorem dX5_modulus_1 : decode cX5_modulus 1 = .ok (.iload_n 1, 1) := by decide +kernel
theorem dX5_modulus_2 : decode cX5_modulus 2 = .ok (.ifCond .lt 8, 3) := by decide +kernel
theorem dX5_modulus_5 : decode cX5_modulus 5 = .ok (.iload_n 1, 1) := by decide +kernel
theorem dX5_modulus_6 : decode cX5_modulus 6 = .ok (.iconst 3, 1) := by decide +kernel
theorem dX5_modulus_7 : decode cX5_modulus 7 = .ok (.if_icmp .le 7, 3) := by decide +kernel
theorem dX5_modulus_10 : decode cX5_modulus 10 = .ok (.iconst 1, 1) := by decide +kernel
theorem dX5_modulus_11 : decode cX5_modulus 11 = .ok (.goto 4, 3) := by decide +kernel
theorem dX5_modulus_14 : decode cX5_modulus 14 = .ok (.iconst 0, 1) := by decide +kernel
theorem dX5_modulus_15 : decode cX5_modulus 15 = .ok (.iconst 0, 1) := by decide +kernel
theorem dX5_modulus_16 : decode cX5_modulus 16 = .ok (.invokevirtual 61, 3) := by decide +kernel
theorem dX5_modulus_19 : decode cX5_modulus 19 = .ok (.ifCond .eq 5, 3) := by decide +kernel
theorem dX5_modulus_22 : decode cX5_modulus 22 = .ok (.iconst 0, 1) := by decide +kernel
theorem dX5_modulus_23 : decode cX5_modulus 23 = .ok (.ireturn, 1) := by decide +kernel
theorem dX5_modulus_24 : decode cX5_modulus 24 = .ok (.aload_n 0, 1) := by decide +kernel
theorem dX5_modulus_25 : decode cX5_modulus 25 = .ok (.getfield 19, 3) := by decide +kernel
theorem dX5_modulus_28 : decode cX5_modulus 28 = .ok (.iload_n 1, 1) := by decide +kernel
theorem dX5_modulus_29 : decode cX5_modulus 29 = .ok (.iaload, 1) := by decide +kernel
theorem dX5_modulus_30 : decode cX5_modulus 30 = .ok (.ireturn, 1) := by decide +kernel
theorem dX5_clear_0 : decode cX5_clear 0 = .ok (.iconst 0, 1) := by decide +kernel
theorem dX5_clear_1 : decode cX5_clear 1 = .ok (.istore_n 2, 1) := by decide +kernel
theorem dX5_clear_2 : decode cX5_clear 2 = .ok (.iload_n 2, 1) := by decide +kernel
theorem dX5_clear_3 : decode cX5_clear 3 = .ok (.bipush 16, 2) := by decide +kernel
theorem dX5_clear_5 : decode cX5_clear 5 = .ok (.if_icmp .ge 21, 3) := by decide +kernel
theorem dX5_clear_8 : decode cX5_clear 8 = .ok (.aload_n 0, 1) := by decide +kernel
theorem dX5_clear_9 : decode cX5_clear 9 = .ok (.getfield 26, 3) := by decide +kernel
theorem dX5_clear_12 : decode cX5_clear 12 = .ok (.bipush 16, 2) := by decide +kernel
theorem dX5_clear_14 : decode cX5_clear 14 = .ok (.iload_n 1, 1) := by decide +kernel
theorem dX5_clear_15 : decode cX5_clear 15 = .ok (.imul, 1) := by decide +kernel
theorem dX5_clear_16 : decode cX5_clear 16 = .ok (.iload_n 2, 1) := by decide +kernel
theorem dX5_clear_17 : decode cX5_clear 17 = .ok (.iadd, 1) := by decide +kernel
theorem dX5_clear_18 : decode cX5_clear 18 = .ok (.iconst 0, 1) := by decide +kernel
theorem dX5_clear_19 : decode cX5_clear 19 = .ok (.iastore, 1) := by decide +kernel
theorem dX5_clear_20 : decode cX5_clear 20 = .ok (.iinc 2 1, 3) := by decide +kernel
theorem dX5_clear_23 : decode cX5_clear 23 = .ok (.goto (-21), 3) := by decide +kernel
theorem dX5_clear_26 : decode cX5_clear 26 = .ok (.aload_n 0, 1) := by decide +kernel
theorem dX5_clear_27 : decode cX5_clear 27 = .ok (.getfield 29, 3) := by decide +kernel
theorem dX5_clear_30 : decode cX5_clear 30 = .ok (.iload_n 1, 1) := by decide +kernel
theorem dX5_clear_31 : decode cX5_clear 31 = .ok (.iconst (-1), 1) := by decide +kernel
theorem dX5_clear_32 : decode cX5_clear 32 = .ok (.iastore, 1) := by decide +kernel
theorem dX5_clear_33 : decode cX5_clear 33 = .ok (.return_, 1) := by decide +kernel
theorem dX5_copy_0 : decode cX5_copy 0 = .ok (.iconst 0, 1) := by decide +kernel
theorem dX5_copy_1 : decode cX5_copy 1 = .ok (.istore_n 3, 1) := by decide +kernel
theorem dX5_copy_2 : decode cX5_copy 2 = .ok (.iload_n 3, 1) := by decide +kernel
theorem dX5_copy_3 : decode cX5_copy 3 = .ok (.bipush 16, 2) := by decide +kernel
theorem dX5_copy_5 : decode cX5_copy 5 = .ok (.if_icmp .ge 31, 3) := by decide +kernel
theorem dX5_copy_8 : decode cX5_copy 8 = .ok (.aload_n 0, 1) := by decide +kernel
theorem dX5_copy_9 : decode cX5_copy 9 = .ok (.getfield 26, 3) := by decide +kernel
theorem dX5_copy_12 : decode cX5_copy 12 = .ok (.bipush 16, 2) := by decide +kernel
theorem dX5_copy_14 : decode cX5_copy 14 = .ok (.iload_n 2, 1) := by decide +kernel
theorem dX5_copy_15 : decode cX5_copy 15 = .ok (.imul, 1) := by decide +kernel
theorem dX5_copy_16 : decode cX5_copy 16 = .ok (.iload_n 3, 1) := by decide +kernel
theorem dX5_copy_17 : decode cX5_copy 17 = .ok (.iadd, 1) := by decide +kernel
theorem dX5_copy_18 : decode cX5_copy 18 = .ok (.aload_n 0, 1) := by decide +kernel
theorem dX5_copy_19 : decode cX5_copy 19 = .ok (.getfield 26, 3) := by decide +kernel
theorem dX5_copy_22 : decode cX5_copy 22 = .ok (.bipush 16, 2) := by decide +kernel
theorem dX5_copy_24 : decode cX5_copy 24 = .ok (.iload_n 1, 1) := by decide +kernel
theorem dX5_copy_25 : decode cX5_copy 25 = .ok (.imul, 1) := by decide +kernel
theorem dX5_copy_26 : decode cX5_copy 26 = .ok (.iload_n 3, 1) := by decide +kernel
theorem dX5_copy_27 : decode cX5_copy 27 = .ok (.iadd, 1) := by decide +kernel
theorem dX5_copy_28 : decode cX5_copy 28 = .ok (.iaload, 1) := by decide +kernel
theorem dX5_copy_29 : decode cX5_copy 29 = .ok (.iastore, 1) := by decide +kernel
theorem dX5_copy_30 : decode cX5_copy 30 = .ok (.iinc 3 1, 3) := by decide +kernel
theorem dX5_copy_33 : decode cX5_copy 33 = .ok (.goto (-31), 3) := by decide +kernel
theorem dX5_copy_36 : decode cX5_copy 36 = .ok (.aload_n 0, 1) := by decide +kernel
theorem dX5_copy_37 : decode cX5_copy 37 = .ok (.getfield 29, 3) := by decide +kernel
theorem dX5_copy_40 : decode cX5_copy 40 = .ok (.iload_n 2, 1) := by decide +kernel
theorem dX5_copy_41 : decode cX5_copy 41 = .ok (.aload_n 0, 1) := by decide +kernel
theorem dX5_copy_42 : decode cX5_copy 42 = .ok (.getfield 29, 3) := by decide +kernel
theorem dX5_copy_45 : decode cX5_copy 45 = .ok (.iload_n 1, 1) := by decide +kernel
theorem dX5_copy_46 : decode cX5_copy 46 = .ok (.iaload, 1) := by decide +kernel
theorem dX5_copy_47 : decode cX5_copy 47 = .ok (.iastore, 1) := by decide +kernel
theorem dX5_copy_48 : decode cX5_copy 48 = .ok (.return_, 1) := by decide +kernel
theorem dX5_set_0 : decode cX5_set 0 = .ok (.aload_n 0, 1) := by decide +kernel
theorem dX5_set_1 : decode cX5_set 1 = .ok (.getfield 26, 3) := by decide +kernel
theorem dX5_set_4 : decode cX5_set 4 = .ok (.bipush 16, 2) := by decide +kernel
theorem dX5_set_6 : decode cX5_set 6 = .ok (.iload_n 1, 1) := by decide +kernel
theorem dX5_set_7 : decode cX5_set 7 = .ok (.imul, 1) := by decide +kernel
theorem dX5_set_8 : decode cX5_set 8 = .ok (.iload_n 2, 1) := by decide +kernel
theorem dX5_set_9 : decode cX5_set 9 = .ok (.iadd, 1) := by decide +kernel
theorem dX5_set_10 : decode cX5_set 10 = .ok (.iload_n 3, 1) := by decide +kernel
theorem dX5_set_11 : decode cX5_set 11 = .ok (.iastore, 1) := by decide +kernel
theorem dX5_set_12 : decode cX5_set 12 = .ok (.bipush 15, 2) := by decide +kernel
theorem dX5_set_14 : decode cX5_set 14 = .ok (.istore 4, 2) := by decide +kernel
theorem dX5_set_16 : decode cX5_set 16 = .ok (.iload 4, 2) := by decide +kernel
theorem dX5_set_18 : decode cX5_set 18 = .ok (.ifCond .lt 24, 3) := by decide +kernel
theorem dX5_set_21 : decode cX5_set 21 = .ok (.aload_n 0, 1) := by decide +kernel
theorem dX5_set_22 : decode cX5_set 22 = .ok (.getfield 26, 3) := by decide +kernel
theorem dX5_set_25 : decode cX5_set 25 = .ok (.bipush 16, 2) := by decide +kernel
theorem dX5_set_27 : decode cX5_set 27 = .ok (.iload_n 1, 1) := by decide +kernel
theorem dX5_set_28 : decode cX5_set 28 = .ok (.imul, 1) := by decide +kernel
theorem dX5_set_29 : decode cX5_set 29 = .ok (.iload 4, 2) := by decide +kernel
theorem dX5_set_31 : decode cX5_set 31 = .ok (.iadd, 1) := by decide +kernel
theorem dX5_set_32 : decode cX5_set 32 = .ok (.iaload, 1) := by decide +kernel
theorem dX5_set_33 : decode cX5_set 33 = .ok (.ifCond .ne 9, 3) := by decide +kernel
theorem dX5_set_36 : decode cX5_set 36 = .ok (.iinc 4 (-1), 3) := by decide +kernel
theorem dX5_set_39 : decode cX5_set 39 = .ok (.goto (-23), 3) := by decide +kernel
theorem dX5_set_42 : decode cX5_set 42 = .ok (.aload_n 0, 1) := by decide +kernel
theorem dX5_set_43 : decode cX5_set 43 = .ok (.getfield 29, 3) := by decide +kernel
theorem dX5_set_46 : decode cX5_set 46 = .ok (.iload_n 1, 1) := by decide +kernel
theorem dX5_set_47 : decode cX5_set 47 = .ok (.iload 4, 2) := by decide +kernel
theorem dX5_set_49 : decode cX5_set 49 = .ok (.iastore, 1) := by decide +kernel
theorem dX5_set_50 : decode cX5_set 50 = .ok (.return_, 1) := by decide +kernel
theorem dX5_cell_0 : decode cX5_cell 0 = .ok (.aload_n 0, 1) := by decide +kernel
theorem dX5_cell_1 : decode cX5_cell 1 = .ok (.getfield 26, 3) := by decide +kernel
theorem dX5_cell_4 : decode cX5_cell 4 = .ok (.bipush 16, 2) := by decide +kernel
theorem dX5_cell_6 : decode cX5_cell 6 = .ok (.iload_n 1, 1) := by decide +kernel
theorem dX5_cell_7 : decode cX5_cell 7 = .ok (.imul, 1) := by decide +kernel
theorem dX5_cell_8 : decode cX5_cell 8 = .ok (.iload_n 2, 1) := by decide +kernel
theorem dX5_cell_9 : decode cX5_cell 9 = .ok (.iadd, 1) := by decide +kernel
theorem dX5_cell_10 : decode cX5_cell 10 = .ok (.iaload, 1) := by decide +kernel
theorem dX5_cell_11 : decode cX5_cell 11 = .ok (.ireturn, 1) := by decide +kernel
theorem dX5_product_0 : decode cX5_product 0 = .ok (.aload_n 0, 1) := by decide +kernel
theorem dX5_product_1 : decode cX5_product 1 = .ok (.iload_n 3, 1) := by decide +kernel
theorem dX5_product_2 : decode cX5_product 2 = .ok (.invokevirtual 73, 3) := by decide +kernel
theorem dX5_product_5 : decode cX5_product 5 = .ok (.iconst 0, 1) := by decide +kernel
theorem dX5_product_6 : decode cX5_product 6 = .ok (.istore 4, 2) := by decide +kernel
theorem dX5_product_8 : decode cX5_product 8 = .ok (.iload 4, 2) := by decide +kernel
theorem dX5_product_10 : decode cX5_product 10 = .ok (.aload_n 0, 1) := by decide +kernel
theorem dX5_product_11 : decode cX5_product 11 = .ok (.getfield 29, 3) := by decide +kernel
theorem dX5_product_14 : decode cX5_product 14 = .ok (.iload_n 1, 1) := by decide +kernel
theorem dX5_product_15 : decode cX5_product 15 = .ok (.iaload, 1) := by decide +kernel
theorem dX5_product_16 : decode cX5_product 16 = .ok (.if_icmp .gt 80, 3) := by decide +kernel
theorem dX5_product_19 : decode cX5_product 19 = .ok (.iconst 0, 1) := by decide +kernel
theorem dX5_product_20 : decode cX5_product 20 = .ok (.istore 5, 2) := by decide +kernel
theorem dX5_product_22 : decode cX5_product 22 = .ok (.iload 5, 2) := by decide +kernel
theorem dX5_product_24 : decode cX5_product 24 = .ok (.aload_n 0, 1) := by decide +kernel
theorem dX5_product_25 : decode cX5_product 25 = .ok (.getfield 29, 3) := by decide +kernel
theorem dX5_product_28 : decode cX5_product 28 = .ok (.iload_n 2, 1) := by decide +kernel
theorem dX5_product_29 : decode cX5_product 29 = .ok (.iaload, 1) := by decide +kernel
theorem dX5_product_30 : decode cX5_product 30 = .ok (.if_icmp .gt 60, 3) := by decide +kernel
theorem dX5_product_33 : decode cX5_product 33 = .ok (.aload_n 0, 1) := by decide +kernel
theorem dX5_product_34 : decode cX5_product 34 = .ok (.getfield 26, 3) := by decide +kernel
theorem dX5_product_37 : decode cX5_product 37 = .ok (.bipush 16, 2) := by decide +kernel
theorem dX5_product_39 : decode cX5_product 39 = .ok (.iload_n 3, 1) := by decide +kernel
theorem dX5_product_40 : decode cX5_product 40 = .ok (.imul, 1) := by decide +kernel
theorem dX5_product_41 : decode cX5_product 41 = .ok (.iload 4, 2) := by decide +kernel
theorem dX5_product_43 : decode cX5_product 43 = .ok (.iadd, 1) := by decide +kernel
theorem dX5_product_44 : decode cX5_product 44 = .ok (.iload 5, 2) := by decide +kernel
theorem dX5_product_46 : decode cX5_product 46 = .ok (.iadd, 1) := by decide +kernel
theorem dX5_product_47 : decode cX5_product 47 = .ok (.aload_n 0, 1) := by decide +kernel
theorem dX5_product_48 : decode cX5_product 48 = .ok (.getfield 26, 3) := by decide +kernel
theorem dX5_product_51 : decode cX5_product 51 = .ok (.bipush 16, 2) := by decide +kernel
theorem dX5_product_53 : decode cX5_product 53 = .ok (.iload_n 3, 1) := by decide +kernel
theorem dX5_product_54 : decode cX5_product 54 = .ok (.imul, 1) := by decide +kernel
theorem dX5_product_55 : decode cX5_product 55 = .ok (.iload 4, 2) := by decide +kernel
theorem dX5_product_57 : decode cX5_product 57 = .ok (.iadd, 1) := by decide +kernel
theorem dX5_product_58 : decode cX5_product 58 = .ok (.iload 5, 2) := by decide +kernel
theorem dX5_product_60 : decode cX5_product 60 = .ok (.iadd, 1) := by decide +kernel
theorem dX5_product_61 : decode cX5_product 61 = .ok (.iaload, 1) := by decide +kernel
theorem dX5_product_62 : decode cX5_product 62 = .ok (.aload_n 0, 1) := by decide +kernel
theorem dX5_product_63 : decode cX5_product 63 = .ok (.aload_n 0, 1) := by decide +kernel
theorem dX5_product_64 : decode cX5_product 64 = .ok (.iload_n 1, 1) := by decide +kernel
theorem dX5_product_65 : decode cX5_product 65 = .ok (.iload 4, 2) := by decide +kernel
theorem dX5_product_67 : decode cX5_product 67 = .ok (.invokevirtual 81, 3) := by decide +kernel
theorem dX5_product_70 : decode cX5_product 70 = .ok (.aload_n 0, 1) := by decide +kernel
theorem dX5_product_71 : decode cX5_product 71 = .ok (.iload_n 2, 1) := by decide +kernel
theorem dX5_product_72 : decode cX5_product 72 = .ok (.iload 5, 2) := by decide +kernel
theorem dX5_product_74 : decode cX5_product 74 = .ok (.invokevirtual 81, 3) := by decide +kernel
theorem dX5_product_77 : decode cX5_product 77 = .ok (.invokevirtual 49, 3) := by decide +kernel
theorem dX5_product_80 : decode cX5_product 80 = .ok (.invokestatic 42, 3) := by decide +kernel
theorem dX5_product_83 : decode cX5_product 83 = .ok (.iastore, 1) := by decide +kernel
theorem dX5_product_84 : decode cX5_product 84 = .ok (.iinc 5 1, 3) := by decide +kernel
theorem dX5_product_87 : decode cX5_product 87 = .ok (.goto (-65), 3) := by decide +kernel
theorem dX5_product_90 : decode cX5_product 90 = .ok (.iinc 4 1, 3) := by decide +kernel
theorem dX5_product_93 : decode cX5_product 93 = .ok (.goto (-85), 3) := by decide +kernel
theorem dX5_product_96 : decode cX5_product 96 = .ok (.aload_n 0, 1) := by decide +kernel
theorem dX5_product_97 : decode cX5_product 97 = .ok (.getfield 29, 3) := by decide +kernel
theorem dX5_product_100 : decode cX5_product 100 = .ok (.iload_n 3, 1) := by decide +kernel
theorem dX5_product_101 : decode cX5_product 101 = .ok (.aload_n 0, 1) := by decide +kernel
theorem dX5_product_102 : decode cX5_product 102 = .ok (.getfield 29, 3) := by decide +kernel
theorem dX5_product_105 : decode cX5_product 105 = .ok (.iload_n 1, 1) := by decide +kernel
theorem dX5_product_106 : decode cX5_product 106 = .ok (.iaload, 1) := by decide +kernel
theorem dX5_product_107 : decode cX5_product 107 = .ok (.ifCond .lt 12, 3) := by decide +kernel
theorem dX5_product_110 : decode cX5_product 110 = .ok (.aload_n 0, 1) := by decide +kernel
theorem dX5_product_111 : decode cX5_product 111 = .ok (.getfield 29, 3) := by decide +kernel
theorem dX5_product_114 : decode cX5_product 114 = .ok (.iload_n 2, 1) := by decide +kernel
theorem dX5_product_115 : decode cX5_product 115 = .ok (.iaload, 1) := by decide +kernel
theorem dX5_product_116 : decode cX5_product 116 = .ok (.ifCond .ge 7, 3) := by decide +kernel
theorem dX5_product_119 : decode cX5_product 119 = .ok (.iconst (-1), 1) := by decide +kernel
theorem dX5_product_120 : decode cX5_product 120 = .ok (.goto 16, 3) := by decide +kernel
theorem dX5_product_123 : decode cX5_product 123 = .ok (.aload_n 0, 1) := by decide +kernel
theorem dX5_product_124 : decode cX5_product 124 = .ok (.getfield 29, 3) := by decide +kernel
theorem dX5_product_127 : decode cX5_product 127 = .ok (.iload_n 1, 1) := by decide +kernel
theorem dX5_product_128 : decode cX5_product 128 = .ok (.iaload, 1) := by decide +kernel
theorem dX5_product_129 : decode cX5_product 129 = .ok (.aload_n 0, 1) := by decide +kernel
theorem dX5_product_130 : decode cX5_product 130 = .ok (.getfield 29, 3) := by decide +kernel
theorem dX5_product_133 : decode cX5_product 133 = .ok (.iload_n 2, 1) := by decide +kernel
theorem dX5_product_134 : decode cX5_product 134 = .ok (.iaload, 1) := by decide +kernel
theorem dX5_product_135 : decode cX5_product 135 = .ok (.iadd, 1) := by decide +kernel
theorem dX5_product_136 : decode cX5_product 136 = .ok (.iastore, 1) := by decide +kernel
theorem dX5_product_137 : decode cX5_product 137 = .ok (.return_, 1) := by decide +kernel
theorem dX5_divide_0 : decode cX5_divide 0 = .ok (.aload_n 0, 1) := by decide +kernel
theorem dX5_divide_1 : decode cX5_divide 1 = .ok (.iload_n 3, 1) := by decide +kernel
theorem dX5_divide_2 : decode cX5_divide 2 = .ok (.invokevirtual 73, 3) := by decide +kernel
theorem dX5_divide_5 : decode cX5_divide 5 = .ok (.aload_n 0, 1) := by decide +kernel
theorem dX5_divide_6 : decode cX5_divide 6 = .ok (.aload_n 0, 1) := by decide +kernel
theorem dX5_divide_7 : decode cX5_divide 7 = .ok (.iload_n 2, 1) := by decide +kernel
theorem dX5_divide_8 : decode cX5_divide 8 = .ok (.aload_n 0, 1) := by decide +kernel
theorem dX5_divide_9 : decode cX5_divide 9 = .ok (.getfield 29, 3) := by decide +kernel
theorem dX5_divide_12 : decode cX5_divide 12 = .ok (.iload_n 2, 1) := by decide +kernel
theorem dX5_divide_13 : decode cX5_divide 13 = .ok (.iaload, 1) := by decide +kernel
theorem dX5_divide_14 : decode cX5_divide 14 = .ok (.invokevirtual 81, 3) := by decide +kernel
theorem dX5_divide_17 : decode cX5_divide 17 = .ok (.invokevirtual 84, 3) := by decide +kernel
theorem dX5_divide_20 : decode cX5_divide 20 = .ok (.istore 4, 2) := by decide +kernel
theorem dX5_divide_22 : decode cX5_divide 22 = .ok (.aload_n 0, 1) := by decide +kernel
theorem dX5_divide_23 : decode cX5_divide 23 = .ok (.getfield 29, 3) := by decide +kernel
theorem dX5_divide_26 : decode cX5_divide 26 = .ok (.iload_n 2, 1) := by decide +kernel
theorem dX5_divide_27 : decode cX5_divide 27 = .ok (.iaload, 1) := by decide +kernel
theorem dX5_divide_28 : decode cX5_divide 28 = .ok (.istore 5, 2) := by decide +kernel
theorem dX5_divide_30 : decode cX5_divide 30 = .ok (.aload_n 0, 1) := by decide +kernel
theorem dX5_divide_31 : decode cX5_divide 31 = .ok (.getfield 29, 3) := by decide +kernel
theorem dX5_divide_34 : decode cX5_divide 34 = .ok (.iload_n 1, 1) := by decide +kernel
theorem dX5_divide_35 : decode cX5_divide 35 = .ok (.iaload, 1) := by decide +kernel
theorem dX5_divide_36 : decode cX5_divide 36 = .ok (.istore 6, 2) := by decide +kernel
theorem dX5_divide_38 : decode cX5_divide 38 = .ok (.iload 6, 2) := by decide +kernel
theorem dX5_divide_40 : decode cX5_divide 40 = .ok (.iload 5, 2) := by decide +kernel
theorem dX5_divide_42 : decode cX5_divide 42 = .ok (.if_icmp .lt 114, 3) := by decide +kernel
theorem dX5_divide_45 : decode cX5_divide 45 = .ok (.aload_n 0, 1) := by decide +kernel
theorem dX5_divide_46 : decode cX5_divide 46 = .ok (.aload_n 0, 1) := by decide +kernel
theorem dX5_divide_47 : decode cX5_divide 47 = .ok (.iload_n 1, 1) := by decide +kernel
theorem dX5_divide_48 : decode cX5_divide 48 = .ok (.iload 6, 2) := by decide +kernel
theorem dX5_divide_50 : decode cX5_divide 50 = .ok (.invokevirtual 81, 3) := by decide +kernel
theorem dX5_divide_53 : decode cX5_divide 53 = .ok (.iload 4, 2) := by decide +kernel
theorem dX5_divide_55 : decode cX5_divide 55 = .ok (.invokevirtual 49, 3) := by decide +kernel
theorem dX5_divide_58 : decode cX5_divide 58 = .ok (.istore 7, 2) := by decide +kernel
theorem dX5_divide_60 : decode cX5_divide 60 = .ok (.iconst 0, 1) := by decide +kernel
theorem dX5_divide_61 : decode cX5_divide 61 = .ok (.istore 8, 2) := by decide +kernel
theorem dX5_divide_63 : decode cX5_divide 63 = .ok (.iload 8, 2) := by decide +kernel
theorem dX5_divide_65 : decode cX5_divide 65 = .ok (.iload 5, 2) := by decide +kernel
theorem dX5_divide_67 : decode cX5_divide 67 = .ok (.if_icmp .gt 66, 3) := by decide +kernel
theorem dX5_divide_70 : decode cX5_divide 70 = .ok (.iload 7, 2) := by decide +kernel
theorem dX5_divide_72 : decode cX5_divide 72 = .ok (.ifCond .eq 61, 3) := by decide +kernel
theorem dX5_divide_75 : decode cX5_divide 75 = .ok (.aload_n 0, 1) := by decide +kernel
theorem dX5_divide_76 : decode cX5_divide 76 = .ok (.getfield 26, 3) := by decide +kernel
theorem dX5_divide_79 : decode cX5_divide 79 = .ok (.bipush 16, 2) := by decide +kernel
theorem dX5_divide_81 : decode cX5_divide 81 = .ok (.iload_n 1, 1) := by decide +kernel
theorem dX5_divide_82 : decode cX5_divide 82 = .ok (.imul, 1) := by decide +kernel
theorem dX5_divide_83 : decode cX5_divide 83 = .ok (.iload 6, 2) := by decide +kernel
theorem dX5_divide_85 : decode cX5_divide 85 = .ok (.iadd, 1) := by decide +kernel
theorem dX5_divide_86 : decode cX5_divide 86 = .ok (.iload 5, 2) := by decide +kernel
theorem dX5_divide_88 : decode cX5_divide 88 = .ok (.isub, 1) := by decide +kernel
theorem dX5_divide_89 : decode cX5_divide 89 = .ok (.iload 8, 2) := by decide +kernel
theorem dX5_divide_91 : decode cX5_divide 91 = .ok (.iadd, 1) := by decide +kernel
theorem dX5_divide_92 : decode cX5_divide 92 = .ok (.aload_n 0, 1) := by decide +kernel
theorem dX5_divide_93 : decode cX5_divide 93 = .ok (.getfield 26, 3) := by decide +kernel
theorem dX5_divide_96 : decode cX5_divide 96 = .ok (.bipush 16, 2) := by decide +kernel
theorem dX5_divide_98 : decode cX5_divide 98 = .ok (.iload_n 1, 1) := by decide +kernel
theorem dX5_divide_99 : decode cX5_divide 99 = .ok (.imul, 1) := by decide +kernel
theorem dX5_divide_100 : decode cX5_divide 100 = .ok (.iload 6, 2) := by decide +kernel
theorem dX5_divide_102 : decode cX5_divide 102 = .ok (.iadd, 1) := by decide +kernel
theorem dX5_divide_103 : decode cX5_divide 103 = .ok (.iload 5, 2) := by decide +kernel
theorem dX5_divide_105 : decode cX5_divide 105 = .ok (.isub, 1) := by decide +kernel
theorem dX5_divide_106 : decode cX5_divide 106 = .ok (.iload 8, 2) := by decide +kernel
theorem dX5_divide_108 : decode cX5_divide 108 = .ok (.iadd, 1) := by decide +kernel
theorem dX5_divide_109 : decode cX5_divide 109 = .ok (.iaload, 1) := by decide +kernel
theorem dX5_divide_110 : decode cX5_divide 110 = .ok (.aload_n 0, 1) := by decide +kernel
theorem dX5_divide_111 : decode cX5_divide 111 = .ok (.iload 7, 2) := by decide +kernel
theorem dX5_divide_113 : decode cX5_divide 113 = .ok (.aload_n 0, 1) := by decide +kernel
theorem dX5_divide_114 : decode cX5_divide 114 = .ok (.iload_n 2, 1) := by decide +kernel
theorem dX5_divide_115 : decode cX5_divide 115 = .ok (.iload 8, 2) := by decide +kernel
theorem dX5_divide_117 : decode cX5_divide 117 = .ok (.invokevirtual 81, 3) := by decide +kernel
theorem dX5_divide_120 : decode cX5_divide 120 = .ok (.invokevirtual 49, 3) := by decide +kernel
theorem dX5_divide_123 : decode cX5_divide 123 = .ok (.invokestatic 87, 3) := by decide +kernel
theorem dX5_divide_126 : decode cX5_divide 126 = .ok (.iastore, 1) := by decide +kernel
theorem dX5_divide_127 : decode cX5_divide 127 = .ok (.iinc 8 1, 3) := by decide +kernel
theorem dX5_divide_130 : decode cX5_divide 130 = .ok (.goto (-67), 3) := by decide +kernel
theorem dX5_divide_133 : decode cX5_divide 133 = .ok (.aload_n 0, 1) := by decide +kernel
theorem dX5_divide_134 : decode cX5_divide 134 = .ok (.getfield 26, 3) := by decide +kernel
theorem dX5_divide_137 : decode cX5_divide 137 = .ok (.bipush 16, 2) := by decide +kernel
theorem dX5_divide_139 : decode cX5_divide 139 = .ok (.iload_n 3, 1) := by decide +kernel
theorem dX5_divide_140 : decode cX5_divide 140 = .ok (.imul, 1) := by decide +kernel
theorem dX5_divide_141 : decode cX5_divide 141 = .ok (.iload 6, 2) := by decide +kernel
theorem dX5_divide_143 : decode cX5_divide 143 = .ok (.iadd, 1) := by decide +kernel
theorem dX5_divide_144 : decode cX5_divide 144 = .ok (.iload 5, 2) := by decide +kernel
theorem dX5_divide_146 : decode cX5_divide 146 = .ok (.isub, 1) := by decide +kernel
theorem dX5_divide_147 : decode cX5_divide 147 = .ok (.iload 7, 2) := by decide +kernel
theorem dX5_divide_149 : decode cX5_divide 149 = .ok (.iastore, 1) := by decide +kernel
theorem dX5_divide_150 : decode cX5_divide 150 = .ok (.iinc 6 (-1), 3) := by decide +kernel
theorem dX5_divide_153 : decode cX5_divide 153 = .ok (.goto (-115), 3) := by decide +kernel
theorem dX5_divide_156 : decode cX5_divide 156 = .ok (.aload_n 0, 1) := by decide +kernel
theorem dX5_divide_157 : decode cX5_divide 157 = .ok (.iload_n 1, 1) := by decide +kernel
theorem dX5_divide_158 : decode cX5_divide 158 = .ok (.iconst 0, 1) := by decide +kernel
theorem dX5_divide_159 : decode cX5_divide 159 = .ok (.aload_n 0, 1) := by decide +kernel
theorem dX5_divide_160 : decode cX5_divide 160 = .ok (.iload_n 1, 1) := by decide +kernel
theorem dX5_divide_161 : decode cX5_divide 161 = .ok (.iconst 0, 1) := by decide +kernel
theorem dX5_divide_162 : decode cX5_divide 162 = .ok (.invokevirtual 81, 3) := by decide +kernel
theorem dX5_divide_165 : decode cX5_divide 165 = .ok (.invokevirtual 90, 3) := by decide +kernel
theorem dX5_divide_168 : decode cX5_divide 168 = .ok (.aload_n 0, 1) := by decide +kernel
theorem dX5_divide_169 : decode cX5_divide 169 = .ok (.iload_n 3, 1) := by decide +kernel
theorem dX5_divide_170 : decode cX5_divide 170 = .ok (.iconst 0, 1) := by decide +kernel
theorem dX5_divide_171 : decode cX5_divide 171 = .ok (.aload_n 0, 1) := by decide +kernel
theorem dX5_divide_172 : decode cX5_divide 172 = .ok (.iload_n 3, 1) := by decide +kernel
theorem dX5_divide_173 : decode cX5_divide 173 = .ok (.iconst 0, 1) := by decide +kernel
theorem dX5_divide_174 : decode cX5_divide 174 = .ok (.invokevirtual 81, 3) := by decide +kernel
theorem dX5_divide_177 : decode cX5_divide 177 = .ok (.invokevirtual 90, 3) := by decide +kernel
theorem dX5_divide_180 : decode cX5_divide 180 = .ok (.return_, 1) := by decide +kernel
theorem dX5_monic_0 : decode cX5_monic 0 = .ok (.aload_n 0, 1) := by decide +kernel
theorem dX5_monic_1 : decode cX5_monic 1 = .ok (.getfield 29, 3) := by decide +kernel
theorem dX5_monic_4 : decode cX5_monic 4 = .ok (.iload_n 1, 1) := by decide +kernel
theorem dX5_monic_5 : decode cX5_monic 5 = .ok (.iaload, 1) := by decide +kernel
theorem dX5_monic_6 : decode cX5_monic 6 = .ok (.ifCond .ge 4, 3) := by decide +kernel
theorem dX5_monic_9 : decode cX5_monic 9 = .ok (.return_, 1) := by decide +kernel
theorem dX5_monic_10 : decode cX5_monic 10 = .ok (.aload_n 0, 1) := by decide +kernel
theorem dX5_monic_11 : decode cX5_monic 11 = .ok (.aload_n 0, 1) := by decide +kernel
theorem dX5_monic_12 : decode cX5_monic 12 = .ok (.iload_n 1, 1) := by decide +kernel
theorem dX5_monic_13 : decode cX5_monic 13 = .ok (.aload_n 0, 1) := by decide +kernel
theorem dX5_monic_14 : decode cX5_monic 14 = .ok (.getfield 29, 3) := by decide +kernel
theorem dX5_monic_17 : decode cX5_monic 17 = .ok (.iload_n 1, 1) := by decide +kernel
theorem dX5_monic_18 : decode cX5_monic 18 = .ok (.iaload, 1) := by decide +kernel
theorem dX5_monic_19 : decode cX5_monic 19 = .ok (.invokevirtual 81, 3) := by decide +kernel
theorem dX5_monic_22 : decode cX5_monic 22 = .ok (.invokevirtual 84, 3) := by decide +kernel
theorem dX5_monic_25 : decode cX5_monic 25 = .ok (.istore_n 2, 1) := by decide +kernel
theorem dX5_monic_26 : decode cX5_monic 26 = .ok (.iconst 0, 1) := by decide +kernel
theorem dX5_monic_27 : decode cX5_monic 27 = .ok (.istore_n 3, 1) := by decide +kernel
theorem dX5_monic_28 : decode cX5_monic 28 = .ok (.iload_n 3, 1) := by decide +kernel
theorem dX5_monic_29 : decode cX5_monic 29 = .ok (.aload_n 0, 1) := by decide +kernel
theorem dX5_monic_30 : decode cX5_monic 30 = .ok (.getfield 29, 3) := by decide +kernel
theorem dX5_monic_33 : decode cX5_monic 33 = .ok (.iload_n 1, 1) := by decide +kernel
theorem dX5_monic_34 : decode cX5_monic 34 = .ok (.iaload, 1) := by decide +kernel
theorem dX5_monic_35 : decode cX5_monic 35 = .ok (.if_icmp .gt 31, 3) := by decide +kernel
theorem dX5_monic_38 : decode cX5_monic 38 = .ok (.aload_n 0, 1) := by decide +kernel
theorem dX5_monic_39 : decode cX5_monic 39 = .ok (.getfield 26, 3) := by decide +kernel
theorem dX5_monic_42 : decode cX5_monic 42 = .ok (.bipush 16, 2) := by decide +kernel
theorem dX5_monic_44 : decode cX5_monic 44 = .ok (.iload_n 1, 1) := by decide +kernel
theorem dX5_monic_45 : decode cX5_monic 45 = .ok (.imul, 1) := by decide +kernel
theorem dX5_monic_46 : decode cX5_monic 46 = .ok (.iload_n 3, 1) := by decide +kernel
theorem dX5_monic_47 : decode cX5_monic 47 = .ok (.iadd, 1) := by decide +kernel
theorem dX5_monic_48 : decode cX5_monic 48 = .ok (.aload_n 0, 1) := by decide +kernel
theorem dX5_monic_49 : decode cX5_monic 49 = .ok (.aload_n 0, 1) := by decide +kernel
theorem dX5_monic_50 : decode cX5_monic 50 = .ok (.iload_n 1, 1) := by decide +kernel
theorem dX5_monic_51 : decode cX5_monic 51 = .ok (.iload_n 3, 1) := by decide +kernel
theorem dX5_monic_52 : decode cX5_monic 52 = .ok (.invokevirtual 81, 3) := by decide +kernel
theorem dX5_monic_55 : decode cX5_monic 55 = .ok (.iload_n 2, 1) := by decide +kernel
theorem dX5_monic_56 : decode cX5_monic 56 = .ok (.invokevirtual 49, 3) := by decide +kernel
theorem dX5_monic_59 : decode cX5_monic 59 = .ok (.iastore, 1) := by decide +kernel
theorem dX5_monic_60 : decode cX5_monic 60 = .ok (.iinc 3 1, 3) := by decide +kernel
theorem dX5_monic_63 : decode cX5_monic 63 = .ok (.goto (-35), 3) := by decide +kernel
theorem dX5_monic_66 : decode cX5_monic 66 = .ok (.return_, 1) := by decide +kernel
theorem dX5_divisor_0 : decode cX5_divisor 0 = .ok (.iconst 0, 1) := by decide +kernel
theorem dX5_divisor_1 : decode cX5_divisor 1 = .ok (.istore_n 3, 1) := by decide +kernel
theorem dX5_divisor_2 : decode cX5_divisor 2 = .ok (.iload_n 3, 1) := by decide +kernel
theorem dX5_divisor_3 : decode cX5_divisor 3 = .ok (.bipush 40, 2) := by decide +kernel
theorem dX5_divisor_5 : decode cX5_divisor 5 = .ok (.if_icmp .ge 43, 3) := by decide +kernel
theorem dX5_divisor_8 : decode cX5_divisor 8 = .ok (.aload_n 0, 1) := by decide +kernel
theorem dX5_divisor_9 : decode cX5_divisor 9 = .ok (.getfield 29, 3) := by decide +kernel
theorem dX5_divisor_12 : decode cX5_divisor 12 = .ok (.iload_n 2, 1) := by decide +kernel
theorem dX5_divisor_13 : decode cX5_divisor 13 = .ok (.iaload, 1) := by decide +kernel
theorem dX5_divisor_14 : decode cX5_divisor 14 = .ok (.ifCond .lt 34, 3) := by decide +kernel
theorem dX5_divisor_17 : decode cX5_divisor 17 = .ok (.aload_n 0, 1) := by decide +kernel
theorem dX5_divisor_18 : decode cX5_divisor 18 = .ok (.iload_n 1, 1) := by decide +kernel
theorem dX5_divisor_19 : decode cX5_divisor 19 = .ok (.iload_n 2, 1) := by decide +kernel
theorem dX5_divisor_20 : decode cX5_divisor 20 = .ok (.iconst 5, 1) := by decide +kernel
theorem dX5_divisor_21 : decode cX5_divisor 21 = .ok (.invokevirtual 94, 3) := by decide +kernel
theorem dX5_divisor_24 : decode cX5_divisor 24 = .ok (.aload_n 0, 1) := by decide +kernel
theorem dX5_divisor_25 : decode cX5_divisor 25 = .ok (.iload_n 1, 1) := by decide +kernel
theorem dX5_divisor_26 : decode cX5_divisor 26 = .ok (.iconst 5, 1) := by decide +kernel
theorem dX5_divisor_27 : decode cX5_divisor 27 = .ok (.invokevirtual 97, 3) := by decide +kernel
theorem dX5_divisor_30 : decode cX5_divisor 30 = .ok (.aload_n 0, 1) := by decide +kernel
theorem dX5_divisor_31 : decode cX5_divisor 31 = .ok (.iload_n 2, 1) := by decide +kernel
theorem dX5_divisor_32 : decode cX5_divisor 32 = .ok (.iload_n 1, 1) := by decide +kernel
theorem dX5_divisor_33 : decode cX5_divisor 33 = .ok (.invokevirtual 97, 3) := by decide +kernel
theorem dX5_divisor_36 : decode cX5_divisor 36 = .ok (.aload_n 0, 1) := by decide +kernel
theorem dX5_divisor_37 : decode cX5_divisor 37 = .ok (.iconst 5, 1) := by decide +kernel
theorem dX5_divisor_38 : decode cX5_divisor 38 = .ok (.iload_n 2, 1) := by decide +kernel
theorem dX5_divisor_39 : decode cX5_divisor 39 = .ok (.invokevirtual 97, 3) := by decide +kernel
theorem dX5_divisor_42 : decode cX5_divisor 42 = .ok (.iinc 3 1, 3) := by decide +kernel
theorem dX5_divisor_45 : decode cX5_divisor 45 = .ok (.goto (-43), 3) := by decide +kernel
theorem dX5_divisor_48 : decode cX5_divisor 48 = .ok (.aload_n 0, 1) := by decide +kernel
theorem dX5_divisor_49 : decode cX5_divisor 49 = .ok (.iload_n 1, 1) := by decide +kernel
theorem dX5_divisor_50 : decode cX5_divisor 50 = .ok (.invokevirtual 101, 3) := by decide +kernel
theorem dX5_divisor_53 : decode cX5_divisor 53 = .ok (.return_, 1) := by decide +kernel
theorem dX5_slope_0 : decode cX5_slope 0 = .ok (.aload_n 0, 1) := by decide +kernel
theorem dX5_slope_1 : decode cX5_slope 1 = .ok (.iload_n 2, 1) := by decide +kernel
theorem dX5_slope_2 : decode cX5_slope 2 = .ok (.invokevirtual 73, 3) := by decide +kernel
theorem dX5_slope_5 : decode cX5_slope 5 = .ok (.iconst 1, 1) := by decide +kernel
theorem dX5_slope_6 : decode cX5_slope 6 = .ok (.istore_n 3, 1) := by decide +kernel
theorem dX5_slope_7 : decode cX5_slope 7 = .ok (.iload_n 3, 1) := by decide +kernel
theorem dX5_slope_8 : decode cX5_slope 8 = .ok (.aload_n 0, 1) := by decide +kernel
theorem dX5_slope_9 : decode cX5_slope 9 = .ok (.getfield 29, 3) := by decide +kernel
theorem dX5_slope_12 : decode cX5_slope 12 = .ok (.iload_n 1, 1) := by decide +kernel
theorem dX5_slope_13 : decode cX5_slope 13 = .ok (.iaload, 1) := by decide +kernel
theorem dX5_slope_14 : decode cX5_slope 14 = .ok (.if_icmp .gt 33, 3) := by decide +kernel
theorem dX5_slope_17 : decode cX5_slope 17 = .ok (.aload_n 0, 1) := by decide +kernel
theorem dX5_slope_18 : decode cX5_slope 18 = .ok (.getfield 26, 3) := by decide +kernel
theorem dX5_slope_21 : decode cX5_slope 21 = .ok (.bipush 16, 2) := by decide +kernel
theorem dX5_slope_23 : decode cX5_slope 23 = .ok (.iload_n 2, 1) := by decide +kernel
theorem dX5_slope_24 : decode cX5_slope 24 = .ok (.imul, 1) := by decide +kernel
theorem dX5_slope_25 : decode cX5_slope 25 = .ok (.iload_n 3, 1) := by decide +kernel
theorem dX5_slope_26 : decode cX5_slope 26 = .ok (.iadd, 1) := by decide +kernel
theorem dX5_slope_27 : decode cX5_slope 27 = .ok (.iconst 1, 1) := by decide +kernel
theorem dX5_slope_28 : decode cX5_slope 28 = .ok (.isub, 1) := by decide +kernel
theorem dX5_slope_29 : decode cX5_slope 29 = .ok (.aload_n 0, 1) := by decide +kernel
theorem dX5_slope_30 : decode cX5_slope 30 = .ok (.aload_n 0, 1) := by decide +kernel
theorem dX5_slope_31 : decode cX5_slope 31 = .ok (.iload_n 1, 1) := by decide +kernel
theorem dX5_slope_32 : decode cX5_slope 32 = .ok (.iload_n 3, 1) := by decide +kernel
theorem dX5_slope_33 : decode cX5_slope 33 = .ok (.invokevirtual 81, 3) := by decide +kernel
theorem dX5_slope_36 : decode cX5_slope 36 = .ok (.iload_n 3, 1) := by decide +kernel
theorem dX5_slope_37 : decode cX5_slope 37 = .ok (.invokevirtual 49, 3) := by decide +kernel
theorem dX5_slope_40 : decode cX5_slope 40 = .ok (.iastore, 1) := by decide +kernel
theorem dX5_slope_41 : decode cX5_slope 41 = .ok (.iinc 3 1, 3) := by decide +kernel
theorem dX5_slope_44 : decode cX5_slope 44 = .ok (.goto (-37), 3) := by decide +kernel
theorem dX5_slope_47 : decode cX5_slope 47 = .ok (.aload_n 0, 1) := by decide +kernel
theorem dX5_slope_48 : decode cX5_slope 48 = .ok (.iload_n 2, 1) := by decide +kernel
theorem dX5_slope_49 : decode cX5_slope 49 = .ok (.iconst 0, 1) := by decide +kernel
theorem dX5_slope_50 : decode cX5_slope 50 = .ok (.aload_n 0, 1) := by decide +kernel
theorem dX5_slope_51 : decode cX5_slope 51 = .ok (.iload_n 2, 1) := by decide +kernel
theorem dX5_slope_52 : decode cX5_slope 52 = .ok (.iconst 0, 1) := by decide +kernel
theorem dX5_slope_53 : decode cX5_slope 53 = .ok (.invokevirtual 81, 3) := by decide +kernel
theorem dX5_slope_56 : decode cX5_slope 56 = .ok (.invokevirtual 90, 3) := by decide +kernel
theorem dX5_slope_59 : decode cX5_slope 59 = .ok (.return_, 1) := by decide +kernel
theorem dX5_powers_0 : decode cX5_powers 0 = .ok (.aload_n 0, 1) := by decide +kernel
theorem dX5_powers_1 : decode cX5_powers 1 = .ok (.iload 5, 2) := by decide +kernel
theorem dX5_powers_3 : decode cX5_powers 3 = .ok (.invokevirtual 73, 3) := by decide +kernel
theorem dX5_powers_6 : decode cX5_powers 6 = .ok (.aload_n 0, 1) := by decide +kernel
theorem dX5_powers_7 : decode cX5_powers 7 = .ok (.iload 5, 2) := by decide +kernel
theorem dX5_powers_9 : decode cX5_powers 9 = .ok (.iconst 0, 1) := by decide +kernel
theorem dX5_powers_10 : decode cX5_powers 10 = .ok (.iconst 1, 1) := by decide +kernel
theorem dX5_powers_11 : decode cX5_powers 11 = .ok (.invokevirtual 90, 3) := by decide +kernel
theorem dX5_powers_14 : decode cX5_powers 14 = .ok (.aload_n 0, 1) := by decide +kernel
theorem dX5_powers_15 : decode cX5_powers 15 = .ok (.iload_n 1, 1) := by decide +kernel
theorem dX5_powers_16 : decode cX5_powers 16 = .ok (.bipush 6, 2) := by decide +kernel
theorem dX5_powers_18 : decode cX5_powers 18 = .ok (.invokevirtual 97, 3) := by decide +kernel
theorem dX5_powers_21 : decode cX5_powers 21 = .ok (.aload_n 0, 1) := by decide +kernel
theorem dX5_powers_22 : decode cX5_powers 22 = .ok (.bipush 6, 2) := by decide +kernel
theorem dX5_powers_24 : decode cX5_powers 24 = .ok (.iload 4, 2) := by decide +kernel
theorem dX5_powers_26 : decode cX5_powers 26 = .ok (.bipush 7, 2) := by decide +kernel
theorem dX5_powers_28 : decode cX5_powers 28 = .ok (.invokevirtual 94, 3) := by decide +kernel
theorem dX5_powers_31 : decode cX5_powers 31 = .ok (.lload_n 2, 1) := by decide +kernel
theorem dX5_powers_32 : decode cX5_powers 32 = .ok (.lstore 6, 2) := by decide +kernel
theorem dX5_powers_34 : decode cX5_powers 34 = .ok (.lload 6, 2) := by decide +kernel
theorem dX5_powers_36 : decode cX5_powers 36 = .ok (.lconst 0, 1) := by decide +kernel
theorem dX5_powers_37 : decode cX5_powers 37 = .ok (.lcmp, 1) := by decide +kernel
theorem dX5_powers_38 : decode cX5_powers 38 = .ok (.ifCond .le 75, 3) := by decide +kernel
theorem dX5_powers_41 : decode cX5_powers 41 = .ok (.lload 6, 2) := by decide +kernel
theorem dX5_powers_43 : decode cX5_powers 43 = .ok (.lconst 1, 1) := by decide +kernel
theorem dX5_powers_44 : decode cX5_powers 44 = .ok (.land, 1) := by decide +kernel
theorem dX5_powers_45 : decode cX5_powers 45 = .ok (.lconst 1, 1) := by decide +kernel
theorem dX5_powers_46 : decode cX5_powers 46 = .ok (.lcmp, 1) := by decide +kernel
theorem dX5_powers_47 : decode cX5_powers 47 = .ok (.ifCond .ne 30, 3) := by decide +kernel
theorem dX5_powers_50 : decode cX5_powers 50 = .ok (.aload_n 0, 1) := by decide +kernel
theorem dX5_powers_51 : decode cX5_powers 51 = .ok (.iload 5, 2) := by decide +kernel
theorem dX5_powers_53 : decode cX5_powers 53 = .ok (.bipush 6, 2) := by decide +kernel
theorem dX5_powers_55 : decode cX5_powers 55 = .ok (.bipush 7, 2) := by decide +kernel
theorem dX5_powers_57 : decode cX5_powers 57 = .ok (.invokevirtual 104, 3) := by decide +kernel
theorem dX5_powers_60 : decode cX5_powers 60 = .ok (.aload_n 0, 1) := by decide +kernel
theorem dX5_powers_61 : decode cX5_powers 61 = .ok (.bipush 7, 2) := by decide +kernel
theorem dX5_powers_63 : decode cX5_powers 63 = .ok (.iload 4, 2) := by decide +kernel
theorem dX5_powers_65 : decode cX5_powers 65 = .ok (.iconst 5, 1) := by decide +kernel
theorem dX5_powers_66 : decode cX5_powers 66 = .ok (.invokevirtual 94, 3) := by decide +kernel
theorem dX5_powers_69 : decode cX5_powers 69 = .ok (.aload_n 0, 1) := by decide +kernel
theorem dX5_powers_70 : decode cX5_powers 70 = .ok (.bipush 7, 2) := by decide +kernel
theorem dX5_powers_72 : decode cX5_powers 72 = .ok (.iload 5, 2) := by decide +kernel
theorem dX5_powers_74 : decode cX5_powers 74 = .ok (.invokevirtual 97, 3) := by decide +kernel
theorem dX5_powers_77 : decode cX5_powers 77 = .ok (.aload_n 0, 1) := by decide +kernel
theorem dX5_powers_78 : decode cX5_powers 78 = .ok (.bipush 6, 2) := by decide +kernel
theorem dX5_powers_80 : decode cX5_powers 80 = .ok (.bipush 6, 2) := by decide +kernel
theorem dX5_powers_82 : decode cX5_powers 82 = .ok (.bipush 7, 2) := by decide +kernel
theorem dX5_powers_84 : decode cX5_powers 84 = .ok (.invokevirtual 104, 3) := by decide +kernel
theorem dX5_powers_87 : decode cX5_powers 87 = .ok (.aload_n 0, 1) := by decide +kernel
theorem dX5_powers_88 : decode cX5_powers 88 = .ok (.bipush 7, 2) := by decide +kernel
theorem dX5_powers_90 : decode cX5_powers 90 = .ok (.iload 4, 2) := by decide +kernel
theorem dX5_powers_92 : decode cX5_powers 92 = .ok (.iconst 5, 1) := by decide +kernel
theorem dX5_powers_93 : decode cX5_powers 93 = .ok (.invokevirtual 94, 3) := by decide +kernel
theorem dX5_powers_96 : decode cX5_powers 96 = .ok (.aload_n 0, 1) := by decide +kernel
theorem dX5_powers_97 : decode cX5_powers 97 = .ok (.bipush 7, 2) := by decide +kernel
theorem dX5_powers_99 : decode cX5_powers 99 = .ok (.bipush 6, 2) := by decide +kernel
theorem dX5_powers_101 : decode cX5_powers 101 = .ok (.invokevirtual 97, 3) := by decide +kernel
theorem dX5_powers_104 : decode cX5_powers 104 = .ok (.lload 6, 2) := by decide +kernel
theorem dX5_powers_106 : decode cX5_powers 106 = .ok (.iconst 1, 1) := by decide +kernel
theorem dX5_powers_107 : decode cX5_powers 107 = .ok (.lshr, 1) := by decide +kernel
theorem dX5_powers_108 : decode cX5_powers 108 = .ok (.lstore 6, 2) := by decide +kernel
theorem dX5_powers_110 : decode cX5_powers 110 = .ok (.goto (-76), 3) := by decide +kernel
theorem dX5_powers_113 : decode cX5_powers 113 = .ok (.return_, 1) := by decide +kernel
theorem dX5_moved_0 : decode cX5_moved 0 = .ok (.aload_n 0, 1) := by decide +kernel
theorem dX5_moved_1 : decode cX5_moved 1 = .ok (.iload_n 3, 1) := by decide +kernel
theorem dX5_moved_2 : decode cX5_moved 2 = .ok (.invokevirtual 73, 3) := by decide +kernel
theorem dX5_moved_5 : decode cX5_moved 5 = .ok (.aload_n 0, 1) := by decide +kernel
theorem dX5_moved_6 : decode cX5_moved 6 = .ok (.getfield 29, 3) := by decide +kernel
theorem dX5_moved_9 : decode cX5_moved 9 = .ok (.iload_n 1, 1) := by decide +kernel
theorem dX5_moved_10 : decode cX5_moved 10 = .ok (.iaload, 1) := by decide +kernel
theorem dX5_moved_11 : decode cX5_moved 11 = .ok (.istore 4, 2) := by decide +kernel
theorem dX5_moved_13 : decode cX5_moved 13 = .ok (.iload 4, 2) := by decide +kernel
theorem dX5_moved_15 : decode cX5_moved 15 = .ok (.ifCond .lt 103, 3) := by decide +kernel
theorem dX5_moved_18 : decode cX5_moved 18 = .ok (.bipush 15, 2) := by decide +kernel
theorem dX5_moved_20 : decode cX5_moved 20 = .ok (.istore 5, 2) := by decide +kernel
theorem dX5_moved_22 : decode cX5_moved 22 = .ok (.iload 5, 2) := by decide +kernel
theorem dX5_moved_24 : decode cX5_moved 24 = .ok (.ifCond .le 55, 3) := by decide +kernel
theorem dX5_moved_27 : decode cX5_moved 27 = .ok (.aload_n 0, 1) := by decide +kernel
theorem dX5_moved_28 : decode cX5_moved 28 = .ok (.getfield 26, 3) := by decide +kernel
theorem dX5_moved_31 : decode cX5_moved 31 = .ok (.bipush 16, 2) := by decide +kernel
theorem dX5_moved_33 : decode cX5_moved 33 = .ok (.iload_n 3, 1) := by decide +kernel
theorem dX5_moved_34 : decode cX5_moved 34 = .ok (.imul, 1) := by decide +kernel
theorem dX5_moved_35 : decode cX5_moved 35 = .ok (.iload 5, 2) := by decide +kernel
theorem dX5_moved_37 : decode cX5_moved 37 = .ok (.iadd, 1) := by decide +kernel
theorem dX5_moved_38 : decode cX5_moved 38 = .ok (.aload_n 0, 1) := by decide +kernel
theorem dX5_moved_39 : decode cX5_moved 39 = .ok (.getfield 26, 3) := by decide +kernel
theorem dX5_moved_42 : decode cX5_moved 42 = .ok (.bipush 16, 2) := by decide +kernel
theorem dX5_moved_44 : decode cX5_moved 44 = .ok (.iload_n 3, 1) := by decide +kernel
theorem dX5_moved_45 : decode cX5_moved 45 = .ok (.imul, 1) := by decide +kernel
theorem dX5_moved_46 : decode cX5_moved 46 = .ok (.iload 5, 2) := by decide +kernel
theorem dX5_moved_48 : decode cX5_moved 48 = .ok (.iadd, 1) := by decide +kernel
theorem dX5_moved_49 : decode cX5_moved 49 = .ok (.iconst 1, 1) := by decide +kernel
theorem dX5_moved_50 : decode cX5_moved 50 = .ok (.isub, 1) := by decide +kernel
theorem dX5_moved_51 : decode cX5_moved 51 = .ok (.iaload, 1) := by decide +kernel
theorem dX5_moved_52 : decode cX5_moved 52 = .ok (.aload_n 0, 1) := by decide +kernel
theorem dX5_moved_53 : decode cX5_moved 53 = .ok (.aload_n 0, 1) := by decide +kernel
theorem dX5_moved_54 : decode cX5_moved 54 = .ok (.getfield 26, 3) := by decide +kernel
theorem dX5_moved_57 : decode cX5_moved 57 = .ok (.bipush 16, 2) := by decide +kernel
theorem dX5_moved_59 : decode cX5_moved 59 = .ok (.iload_n 3, 1) := by decide +kernel
theorem dX5_moved_60 : decode cX5_moved 60 = .ok (.imul, 1) := by decide +kernel
theorem dX5_moved_61 : decode cX5_moved 61 = .ok (.iload 5, 2) := by decide +kernel
theorem dX5_moved_63 : decode cX5_moved 63 = .ok (.iadd, 1) := by decide +kernel
theorem dX5_moved_64 : decode cX5_moved 64 = .ok (.iaload, 1) := by decide +kernel
theorem dX5_moved_65 : decode cX5_moved 65 = .ok (.iload_n 2, 1) := by decide +kernel
theorem dX5_moved_66 : decode cX5_moved 66 = .ok (.invokevirtual 49, 3) := by decide +kernel
theorem dX5_moved_69 : decode cX5_moved 69 = .ok (.invokestatic 42, 3) := by decide +kernel
theorem dX5_moved_72 : decode cX5_moved 72 = .ok (.iastore, 1) := by decide +kernel
theorem dX5_moved_73 : decode cX5_moved 73 = .ok (.iinc 5 (-1), 3) := by decide +kernel
theorem dX5_moved_76 : decode cX5_moved 76 = .ok (.goto (-54), 3) := by decide +kernel
theorem dX5_moved_79 : decode cX5_moved 79 = .ok (.aload_n 0, 1) := by decide +kernel
theorem dX5_moved_80 : decode cX5_moved 80 = .ok (.getfield 26, 3) := by decide +kernel
theorem dX5_moved_83 : decode cX5_moved 83 = .ok (.bipush 16, 2) := by decide +kernel
theorem dX5_moved_85 : decode cX5_moved 85 = .ok (.iload_n 3, 1) := by decide +kernel
theorem dX5_moved_86 : decode cX5_moved 86 = .ok (.imul, 1) := by decide +kernel
theorem dX5_moved_87 : decode cX5_moved 87 = .ok (.aload_n 0, 1) := by decide +kernel
theorem dX5_moved_88 : decode cX5_moved 88 = .ok (.aload_n 0, 1) := by decide +kernel
theorem dX5_moved_89 : decode cX5_moved 89 = .ok (.getfield 26, 3) := by decide +kernel
theorem dX5_moved_92 : decode cX5_moved 92 = .ok (.bipush 16, 2) := by decide +kernel
theorem dX5_moved_94 : decode cX5_moved 94 = .ok (.iload_n 3, 1) := by decide +kernel
theorem dX5_moved_95 : decode cX5_moved 95 = .ok (.imul, 1) := by decide +kernel
theorem dX5_moved_96 : decode cX5_moved 96 = .ok (.iaload, 1) := by decide +kernel
theorem dX5_moved_97 : decode cX5_moved 97 = .ok (.iload_n 2, 1) := by decide +kernel
theorem dX5_moved_98 : decode cX5_moved 98 = .ok (.invokevirtual 49, 3) := by decide +kernel
theorem dX5_moved_101 : decode cX5_moved 101 = .ok (.aload_n 0, 1) := by decide +kernel
theorem dX5_moved_102 : decode cX5_moved 102 = .ok (.iload_n 1, 1) := by decide +kernel
theorem dX5_moved_103 : decode cX5_moved 103 = .ok (.iload 4, 2) := by decide +kernel
theorem dX5_moved_105 : decode cX5_moved 105 = .ok (.invokevirtual 81, 3) := by decide +kernel
theorem dX5_moved_108 : decode cX5_moved 108 = .ok (.invokestatic 42, 3) := by decide +kernel
theorem dX5_moved_111 : decode cX5_moved 111 = .ok (.iastore, 1) := by decide +kernel
theorem dX5_moved_112 : decode cX5_moved 112 = .ok (.iinc 4 (-1), 3) := by decide +kernel
theorem dX5_moved_115 : decode cX5_moved 115 = .ok (.goto (-102), 3) := by decide +kernel
theorem dX5_moved_118 : decode cX5_moved 118 = .ok (.aload_n 0, 1) := by decide +kernel
theorem dX5_moved_119 : decode cX5_moved 119 = .ok (.iload_n 3, 1) := by decide +kernel
theorem dX5_moved_120 : decode cX5_moved 120 = .ok (.iconst 0, 1) := by decide +kernel
theorem dX5_moved_121 : decode cX5_moved 121 = .ok (.aload_n 0, 1) := by decide +kernel
theorem dX5_moved_122 : decode cX5_moved 122 = .ok (.iload_n 3, 1) := by decide +kernel
theorem dX5_moved_123 : decode cX5_moved 123 = .ok (.iconst 0, 1) := by decide +kernel
theorem dX5_moved_124 : decode cX5_moved 124 = .ok (.invokevirtual 81, 3) := by decide +kernel
theorem dX5_moved_127 : decode cX5_moved 127 = .ok (.invokevirtual 90, 3) := by decide +kernel
theorem dX5_moved_130 : decode cX5_moved 130 = .ok (.return_, 1) := by decide +kernel
theorem dX5_normOf_0 : decode cX5_normOf 0 = .ok (.aload_n 0, 1) := by decide +kernel
theorem dX5_normOf_1 : decode cX5_normOf 1 = .ok (.iload_n 1, 1) := by decide +kernel
theorem dX5_normOf_2 : decode cX5_normOf 2 = .ok (.iconst 3, 1) := by decide +kernel
theorem dX5_normOf_3 : decode cX5_normOf 3 = .ok (.invokevirtual 97, 3) := by decide +kernel
theorem dX5_normOf_6 : decode cX5_normOf 6 = .ok (.aload_n 0, 1) := by decide +kernel
theorem dX5_normOf_7 : decode cX5_normOf 7 = .ok (.iload_n 1, 1) := by decide +kernel
theorem dX5_normOf_8 : decode cX5_normOf 8 = .ok (.iconst 2, 1) := by decide +kernel
theorem dX5_normOf_9 : decode cX5_normOf 9 = .ok (.invokevirtual 97, 3) := by decide +kernel
theorem dX5_normOf_12 : decode cX5_normOf 12 = .ok (.iconst 1, 1) := by decide +kernel
theorem dX5_normOf_13 : decode cX5_normOf 13 = .ok (.istore_n 3, 1) := by decide +kernel
theorem dX5_normOf_14 : decode cX5_normOf 14 = .ok (.iload_n 3, 1) := by decide +kernel
theorem dX5_normOf_15 : decode cX5_normOf 15 = .ok (.aload_n 0, 1) := by decide +kernel
theorem dX5_normOf_16 : decode cX5_normOf 16 = .ok (.getfield 7, 3) := by decide +kernel
theorem dX5_normOf_19 : decode cX5_normOf 19 = .ok (.if_icmp .ge 64, 3) := by decide +kernel
theorem dX5_normOf_22 : decode cX5_normOf 22 = .ok (.iconst 0, 1) := by decide +kernel
theorem dX5_normOf_23 : decode cX5_normOf 23 = .ok (.istore 4, 2) := by decide +kernel
theorem dX5_normOf_25 : decode cX5_normOf 25 = .ok (.iload 4, 2) := by decide +kernel
theorem dX5_normOf_27 : decode cX5_normOf 27 = .ok (.aload_n 0, 1) := by decide +kernel
theorem dX5_normOf_28 : decode cX5_normOf 28 = .ok (.getfield 29, 3) := by decide +kernel
theorem dX5_normOf_31 : decode cX5_normOf 31 = .ok (.iconst 2, 1) := by decide +kernel
theorem dX5_normOf_32 : decode cX5_normOf 32 = .ok (.iaload, 1) := by decide +kernel
theorem dX5_normOf_33 : decode cX5_normOf 33 = .ok (.if_icmp .gt 31, 3) := by decide +kernel
theorem dX5_normOf_36 : decode cX5_normOf 36 = .ok (.aload_n 0, 1) := by decide +kernel
theorem dX5_normOf_37 : decode cX5_normOf 37 = .ok (.getfield 26, 3) := by decide +kernel
theorem dX5_normOf_40 : decode cX5_normOf 40 = .ok (.bipush 32, 2) := by decide +kernel
theorem dX5_normOf_42 : decode cX5_normOf 42 = .ok (.iload 4, 2) := by decide +kernel
theorem dX5_normOf_44 : decode cX5_normOf 44 = .ok (.iadd, 1) := by decide +kernel
theorem dX5_normOf_45 : decode cX5_normOf 45 = .ok (.aload_n 0, 1) := by decide +kernel
theorem dX5_normOf_46 : decode cX5_normOf 46 = .ok (.aload_n 0, 1) := by decide +kernel
theorem dX5_normOf_47 : decode cX5_normOf 47 = .ok (.iconst 2, 1) := by decide +kernel
theorem dX5_normOf_48 : decode cX5_normOf 48 = .ok (.iload 4, 2) := by decide +kernel
theorem dX5_normOf_50 : decode cX5_normOf 50 = .ok (.invokevirtual 81, 3) := by decide +kernel
theorem dX5_normOf_53 : decode cX5_normOf 53 = .ok (.iconst 1, 1) := by decide +kernel
theorem dX5_normOf_54 : decode cX5_normOf 54 = .ok (.invokevirtual 58, 3) := by decide +kernel
theorem dX5_normOf_57 : decode cX5_normOf 57 = .ok (.iastore, 1) := by decide +kernel
theorem dX5_normOf_58 : decode cX5_normOf 58 = .ok (.iinc 4 1, 3) := by decide +kernel
theorem dX5_normOf_61 : decode cX5_normOf 61 = .ok (.goto (-36), 3) := by decide +kernel
theorem dX5_normOf_64 : decode cX5_normOf 64 = .ok (.aload_n 0, 1) := by decide +kernel
theorem dX5_normOf_65 : decode cX5_normOf 65 = .ok (.iconst 2, 1) := by decide +kernel
theorem dX5_normOf_66 : decode cX5_normOf 66 = .ok (.iconst 3, 1) := by decide +kernel
theorem dX5_normOf_67 : decode cX5_normOf 67 = .ok (.iconst 4, 1) := by decide +kernel
theorem dX5_normOf_68 : decode cX5_normOf 68 = .ok (.invokevirtual 104, 3) := by decide +kernel
theorem dX5_normOf_71 : decode cX5_normOf 71 = .ok (.aload_n 0, 1) := by decide +kernel
theorem dX5_normOf_72 : decode cX5_normOf 72 = .ok (.iconst 4, 1) := by decide +kernel
theorem dX5_normOf_73 : decode cX5_normOf 73 = .ok (.iconst 3, 1) := by decide +kernel
theorem dX5_normOf_74 : decode cX5_normOf 74 = .ok (.invokevirtual 97, 3) := by decide +kernel
theorem dX5_normOf_77 : decode cX5_normOf 77 = .ok (.iinc 3 1, 3) := by decide +kernel
theorem dX5_normOf_80 : decode cX5_normOf 80 = .ok (.goto (-66), 3) := by decide +kernel
theorem dX5_normOf_83 : decode cX5_normOf 83 = .ok (.aload_n 0, 1) := by decide +kernel
theorem dX5_normOf_84 : decode cX5_normOf 84 = .ok (.iconst 3, 1) := by decide +kernel
theorem dX5_normOf_85 : decode cX5_normOf 85 = .ok (.iload_n 2, 1) := by decide +kernel
theorem dX5_normOf_86 : decode cX5_normOf 86 = .ok (.invokevirtual 97, 3) := by decide +kernel
theorem dX5_normOf_89 : decode cX5_normOf 89 = .ok (.return_, 1) := by decide +kernel
theorem dX5_isPower_0 : decode cX5_isPower 0 = .ok (.iload_n 1, 1) := by decide +kernel
theorem dX5_isPower_1 : decode cX5_isPower 1 = .ok (.ifCond .lt 12, 3) := by decide +kernel
theorem dX5_isPower_4 : decode cX5_isPower 4 = .ok (.iload_n 1, 1) := by decide +kernel
theorem dX5_isPower_5 : decode cX5_isPower 5 = .ok (.iconst 5, 1) := by decide +kernel
theorem dX5_isPower_6 : decode cX5_isPower 6 = .ok (.if_icmp .gt 7, 3) := by decide +kernel
theorem dX5_isPower_9 : decode cX5_isPower 9 = .ok (.iconst 1, 1) := by decide +kernel
theorem dX5_isPower_10 : decode cX5_isPower 10 = .ok (.goto 4, 3) := by decide +kernel
theorem dX5_isPower_13 : decode cX5_isPower 13 = .ok (.iconst 0, 1) := by decide +kernel
theorem dX5_isPower_14 : decode cX5_isPower 14 = .ok (.ireturn, 1) := by decide +kernel
theorem dX5_put_0 : decode cX5_put 0 = .ok (.aload_n 0, 1) := by decide +kernel
theorem dX5_put_1 : decode cX5_put 1 = .ok (.aload_n 0, 1) := by decide +kernel
theorem dX5_put_2 : decode cX5_put 2 = .ok (.iload_n 1, 1) := by decide +kernel
theorem dX5_put_3 : decode cX5_put 3 = .ok (.invokevirtual 107, 3) := by decide +kernel
theorem dX5_put_6 : decode cX5_put 6 = .ok (.ifCond .ne 7, 3) := by decide +kernel
theorem dX5_put_9 : decode cX5_put 9 = .ok (.iconst 1, 1) := by decide +kernel
theorem dX5_put_10 : decode cX5_put 10 = .ok (.goto 4, 3) := by decide +kernel
theorem dX5_put_13 : decode cX5_put 13 = .ok (.iconst 0, 1) := by decide +kernel
theorem dX5_put_14 : decode cX5_put 14 = .ok (.aload_n 0, 1) := by decide +kernel
theorem dX5_put_15 : decode cX5_put 15 = .ok (.iload_n 2, 1) := by decide +kernel
theorem dX5_put_16 : decode cX5_put 16 = .ok (.invokevirtual 111, 3) := by decide +kernel
theorem dX5_put_19 : decode cX5_put 19 = .ok (.ifCond .ne 7, 3) := by decide +kernel
theorem dX5_put_22 : decode cX5_put 22 = .ok (.iconst 1, 1) := by decide +kernel
theorem dX5_put_23 : decode cX5_put 23 = .ok (.goto 4, 3) := by decide +kernel
theorem dX5_put_26 : decode cX5_put 26 = .ok (.iconst 0, 1) := by decide +kernel
theorem dX5_put_27 : decode cX5_put 27 = .ok (.invokevirtual 61, 3) := by decide +kernel
theorem dX5_put_30 : decode cX5_put 30 = .ok (.ifCond .eq 5, 3) := by decide +kernel
theorem dX5_put_33 : decode cX5_put 33 = .ok (.iconst 0, 1) := by decide +kernel
theorem dX5_put_34 : decode cX5_put 34 = .ok (.ireturn, 1) := by decide +kernel
theorem dX5_put_35 : decode cX5_put 35 = .ok (.aload_n 0, 1) := by decide +kernel
theorem dX5_put_36 : decode cX5_put 36 = .ok (.iconst 0, 1) := by decide +kernel
theorem dX5_put_37 : decode cX5_put 37 = .ok (.iload_n 1, 1) := by decide +kernel
theorem dX5_put_38 : decode cX5_put 38 = .ok (.invokevirtual 81, 3) := by decide +kernel
theorem dX5_put_41 : decode cX5_put 41 = .ok (.iload_n 2, 1) := by decide +kernel
theorem dX5_put_42 : decode cX5_put 42 = .ok (.if_icmp .eq 7, 3) := by decide +kernel
theorem dX5_put_45 : decode cX5_put 45 = .ok (.iconst 1, 1) := by decide +kernel
theorem dX5_put_46 : decode cX5_put 46 = .ok (.goto 4, 3) := by decide +kernel
theorem dX5_put_49 : decode cX5_put 49 = .ok (.iconst 0, 1) := by decide +kernel
theorem dX5_put_50 : decode cX5_put 50 = .ok (.istore_n 3, 1) := by decide +kernel
theorem dX5_put_51 : decode cX5_put 51 = .ok (.aload_n 0, 1) := by decide +kernel
theorem dX5_put_52 : decode cX5_put 52 = .ok (.iconst 0, 1) := by decide +kernel
theorem dX5_put_53 : decode cX5_put 53 = .ok (.iload_n 1, 1) := by decide +kernel
theorem dX5_put_54 : decode cX5_put 54 = .ok (.iload_n 2, 1) := by decide +kernel
theorem dX5_put_55 : decode cX5_put 55 = .ok (.invokevirtual 90, 3) := by decide +kernel
theorem dX5_put_58 : decode cX5_put 58 = .ok (.aload_n 0, 1) := by decide +kernel
theorem dX5_put_59 : decode cX5_put 59 = .ok (.aload_n 0, 1) := by decide +kernel
theorem dX5_put_60 : decode cX5_put 60 = .ok (.getfield 77, 3) := by decide +kernel
theorem dX5_put_63 : decode cX5_put 63 = .ok (.ifCond .eq 11, 3) := by decide +kernel
theorem dX5_put_66 : decode cX5_put 66 = .ok (.iload_n 3, 1) := by decide +kernel
theorem dX5_put_67 : decode cX5_put 67 = .ok (.ifCond .ne 7, 3) := by decide +kernel
theorem dX5_put_70 : decode cX5_put 70 = .ok (.iconst 1, 1) := by decide +kernel
theorem dX5_put_71 : decode cX5_put 71 = .ok (.goto 4, 3) := by decide +kernel
theorem dX5_put_74 : decode cX5_put 74 = .ok (.iconst 0, 1) := by decide +kernel
theorem dX5_put_75 : decode cX5_put 75 = .ok (.putfield 77, 3) := by decide +kernel
theorem dX5_put_78 : decode cX5_put 78 = .ok (.iload_n 3, 1) := by decide +kernel
theorem dX5_put_79 : decode cX5_put 79 = .ok (.ireturn, 1) := by decide +kernel
theorem dX5_at_0 : decode cX5_at 0 = .ok (.aload_n 0, 1) := by decide +kernel
theorem dX5_at_1 : decode cX5_at 1 = .ok (.aload_n 0, 1) := by decide +kernel
theorem dX5_at_2 : decode cX5_at 2 = .ok (.iload_n 1, 1) := by decide +kernel
theorem dX5_at_3 : decode cX5_at 3 = .ok (.invokevirtual 107, 3) := by decide +kernel
theorem dX5_at_6 : decode cX5_at 6 = .ok (.ifCond .ne 7, 3) := by decide +kernel
theorem dX5_at_9 : decode cX5_at 9 = .ok (.iconst 1, 1) := by decide +kernel
theorem dX5_at_10 : decode cX5_at 10 = .ok (.goto 4, 3) := by decide +kernel
theorem dX5_at_13 : decode cX5_at 13 = .ok (.iconst 0, 1) := by decide +kernel
theorem dX5_at_14 : decode cX5_at 14 = .ok (.iconst 0, 1) := by decide +kernel
theorem dX5_at_15 : decode cX5_at 15 = .ok (.invokevirtual 61, 3) := by decide +kernel
theorem dX5_at_18 : decode cX5_at 18 = .ok (.ifCond .eq 5, 3) := by decide +kernel
theorem dX5_at_21 : decode cX5_at 21 = .ok (.iconst 0, 1) := by decide +kernel
theorem dX5_at_22 : decode cX5_at 22 = .ok (.ireturn, 1) := by decide +kernel
theorem dX5_at_23 : decode cX5_at 23 = .ok (.aload_n 0, 1) := by decide +kernel
theorem dX5_at_24 : decode cX5_at 24 = .ok (.iconst 0, 1) := by decide +kernel
theorem dX5_at_25 : decode cX5_at 25 = .ok (.iload_n 1, 1) := by decide +kernel
theorem dX5_at_26 : decode cX5_at 26 = .ok (.invokevirtual 81, 3) := by decide +kernel
theorem dX5_at_29 : decode cX5_at 29 = .ok (.ireturn, 1) := by decide +kernel
theorem dX5_reckon_0 : decode cX5_reckon 0 = .ok (.aload_n 0, 1) := by decide +kernel
theorem dX5_reckon_1 : decode cX5_reckon 1 = .ok (.iload_n 2, 1) := by decide +kernel
theorem dX5_reckon_2 : decode cX5_reckon 2 = .ok (.invokevirtual 111, 3) := by decide +kernel
theorem dX5_reckon_5 : decode cX5_reckon 5 = .ok (.ifCond .eq 24, 3) := by decide +kernel
theorem dX5_reckon_8 : decode cX5_reckon 8 = .ok (.aload_n 0, 1) := by decide +kernel
theorem dX5_reckon_9 : decode cX5_reckon 9 = .ok (.iload_n 3, 1) := by decide +kernel
theorem dX5_reckon_10 : decode cX5_reckon 10 = .ok (.invokevirtual 111, 3) := by decide +kernel
theorem dX5_reckon_13 : decode cX5_reckon 13 = .ok (.ifCond .eq 16, 3) := by decide +kernel
theorem dX5_reckon_16 : decode cX5_reckon 16 = .ok (.iload_n 1, 1) := by decide +kernel
theorem dX5_reckon_17 : decode cX5_reckon 17 = .ok (.ifCond .lt 12, 3) := by decide +kernel
theorem dX5_reckon_20 : decode cX5_reckon 20 = .ok (.iload_n 1, 1) := by decide +kernel
theorem dX5_reckon_21 : decode cX5_reckon 21 = .ok (.iconst 3, 1) := by decide +kernel
theorem dX5_reckon_22 : decode cX5_reckon 22 = .ok (.if_icmp .gt 7, 3) := by decide +kernel
theorem dX5_reckon_25 : decode cX5_reckon 25 = .ok (.iconst 1, 1) := by decide +kernel
theorem dX5_reckon_26 : decode cX5_reckon 26 = .ok (.goto 4, 3) := by decide +kernel
theorem dX5_reckon_29 : decode cX5_reckon 29 = .ok (.iconst 0, 1) := by decide +kernel
theorem dX5_reckon_30 : decode cX5_reckon 30 = .ok (.istore 4, 2) := by decide +kernel
theorem dX5_reckon_32 : decode cX5_reckon 32 = .ok (.aload_n 0, 1) := by decide +kernel
theorem dX5_reckon_33 : decode cX5_reckon 33 = .ok (.iload 4, 2) := by decide +kernel
theorem dX5_reckon_35 : decode cX5_reckon 35 = .ok (.ifCond .ne 7, 3) := by decide +kernel
theorem dX5_reckon_38 : decode cX5_reckon 38 = .ok (.iconst 1, 1) := by decide +kernel
theorem dX5_reckon_39 : decode cX5_reckon 39 = .ok (.goto 4, 3) := by decide +kernel
theorem dX5_reckon_42 : decode cX5_reckon 42 = .ok (.iconst 0, 1) := by decide +kernel
theorem dX5_reckon_43 : decode cX5_reckon 43 = .ok (.iload_n 1, 1) := by decide +kernel
theorem dX5_reckon_44 : decode cX5_reckon 44 = .ok (.iconst 3, 1) := by decide +kernel
theorem dX5_reckon_45 : decode cX5_reckon 45 = .ok (.if_icmp .ne 11, 3) := by decide +kernel
theorem dX5_reckon_48 : decode cX5_reckon 48 = .ok (.iload_n 3, 1) := by decide +kernel
theorem dX5_reckon_49 : decode cX5_reckon 49 = .ok (.ifCond .ne 7, 3) := by decide +kernel
theorem dX5_reckon_52 : decode cX5_reckon 52 = .ok (.iconst 1, 1) := by decide +kernel
theorem dX5_reckon_53 : decode cX5_reckon 53 = .ok (.goto 4, 3) := by decide +kernel
theorem dX5_reckon_56 : decode cX5_reckon 56 = .ok (.iconst 0, 1) := by decide +kernel
theorem dX5_reckon_57 : decode cX5_reckon 57 = .ok (.invokevirtual 61, 3) := by decide +kernel
theorem dX5_reckon_60 : decode cX5_reckon 60 = .ok (.ifCond .eq 5, 3) := by decide +kernel
theorem dX5_reckon_63 : decode cX5_reckon 63 = .ok (.iconst 0, 1) := by decide +kernel
theorem dX5_reckon_64 : decode cX5_reckon 64 = .ok (.ireturn, 1) := by decide +kernel
theorem dX5_reckon_65 : decode cX5_reckon 65 = .ok (.iload_n 1, 1) := by decide +kernel
theorem dX5_reckon_66 : decode cX5_reckon 66 = .ok (.ifCond .ne 11, 3) := by decide +kernel
theorem dX5_reckon_69 : decode cX5_reckon 69 = .ok (.iload_n 2, 1) := by decide +kernel
theorem dX5_reckon_70 : decode cX5_reckon 70 = .ok (.iload_n 3, 1) := by decide +kernel
theorem dX5_reckon_71 : decode cX5_reckon 71 = .ok (.invokestatic 42, 3) := by decide +kernel
theorem dX5_reckon_74 : decode cX5_reckon 74 = .ok (.goto 35, 3) := by decide +kernel
theorem dX5_reckon_77 : decode cX5_reckon 77 = .ok (.iload_n 1, 1) := by decide +kernel
theorem dX5_reckon_78 : decode cX5_reckon 78 = .ok (.iconst 1, 1) := by decide +kernel
theorem dX5_reckon_79 : decode cX5_reckon 79 = .ok (.if_icmp .ne 11, 3) := by decide +kernel
theorem dX5_reckon_82 : decode cX5_reckon 82 = .ok (.iload_n 2, 1) := by decide +kernel
theorem dX5_reckon_83 : decode cX5_reckon 83 = .ok (.iload_n 3, 1) := by decide +kernel
theorem dX5_reckon_84 : decode cX5_reckon 84 = .ok (.invokestatic 87, 3) := by decide +kernel
theorem dX5_reckon_87 : decode cX5_reckon 87 = .ok (.goto 22, 3) := by decide +kernel
theorem dX5_reckon_90 : decode cX5_reckon 90 = .ok (.aload_n 0, 1) := by decide +kernel
theorem dX5_reckon_91 : decode cX5_reckon 91 = .ok (.iload_n 2, 1) := by decide +kernel
theorem dX5_reckon_92 : decode cX5_reckon 92 = .ok (.iload_n 1, 1) := by decide +kernel
theorem dX5_reckon_93 : decode cX5_reckon 93 = .ok (.iconst 2, 1) := by decide +kernel
theorem dX5_reckon_94 : decode cX5_reckon 94 = .ok (.if_icmp .ne 7, 3) := by decide +kernel
theorem dX5_reckon_97 : decode cX5_reckon 97 = .ok (.iload_n 3, 1) := by decide +kernel
theorem dX5_reckon_98 : decode cX5_reckon 98 = .ok (.goto 8, 3) := by decide +kernel
theorem dX5_reckon_101 : decode cX5_reckon 101 = .ok (.aload_n 0, 1) := by decide +kernel
theorem dX5_reckon_102 : decode cX5_reckon 102 = .ok (.iload_n 3, 1) := by decide +kernel
theorem dX5_reckon_103 : decode cX5_reckon 103 = .ok (.invokevirtual 84, 3) := by decide +kernel
theorem dX5_reckon_106 : decode cX5_reckon 106 = .ok (.invokevirtual 49, 3) := by decide +kernel
theorem dX5_reckon_109 : decode cX5_reckon 109 = .ok (.ireturn, 1) := by decide +kernel
theorem dX5_known_0 : decode cX5_known 0 = .ok (.aload_n 0, 1) := by decide +kernel
theorem dX5_known_1 : decode cX5_known 1 = .ok (.aload_n 0, 1) := by decide +kernel
theorem dX5_known_2 : decode cX5_known 2 = .ok (.iload_n 2, 1) := by decide +kernel
theorem dX5_known_3 : decode cX5_known 3 = .ok (.invokevirtual 111, 3) := by decide +kernel
theorem dX5_known_6 : decode cX5_known 6 = .ok (.ifCond .eq 12, 3) := by decide +kernel
theorem dX5_known_9 : decode cX5_known 9 = .ok (.iload_n 1, 1) := by decide +kernel
theorem dX5_known_10 : decode cX5_known 10 = .ok (.ifCond .lt 8, 3) := by decide +kernel
theorem dX5_known_13 : decode cX5_known 13 = .ok (.iload_n 1, 1) := by decide +kernel
theorem dX5_known_14 : decode cX5_known 14 = .ok (.iconst 4, 1) := by decide +kernel
theorem dX5_known_15 : decode cX5_known 15 = .ok (.if_icmp .le 7, 3) := by decide +kernel
theorem dX5_known_18 : decode cX5_known 18 = .ok (.iconst 1, 1) := by decide +kernel
theorem dX5_known_19 : decode cX5_known 19 = .ok (.goto 4, 3) := by decide +kernel
theorem dX5_known_22 : decode cX5_known 22 = .ok (.iconst 0, 1) := by decide +kernel
theorem dX5_known_23 : decode cX5_known 23 = .ok (.iconst 0, 1) := by decide +kernel
theorem dX5_known_24 : decode cX5_known 24 = .ok (.invokevirtual 61, 3) := by decide +kernel
theorem dX5_known_27 : decode cX5_known 27 = .ok (.ifCond .eq 5, 3) := by decide +kernel
theorem dX5_known_30 : decode cX5_known 30 = .ok (.iconst 0, 1) := by decide +kernel
theorem dX5_known_31 : decode cX5_known 31 = .ok (.ireturn, 1) := by decide +kernel
theorem dX5_known_32 : decode cX5_known 32 = .ok (.iload_n 2, 1) := by decide +kernel
theorem dX5_known_33 : decode cX5_known 33 = .ok (.istore_n 3, 1) := by decide +kernel
theorem dX5_known_34 : decode cX5_known 34 = .ok (.iload_n 2, 1) := by decide +kernel
theorem dX5_known_35 : decode cX5_known 35 = .ok (.istore 4, 2) := by decide +kernel
theorem dX5_known_37 : decode cX5_known 37 = .ok (.iconst 1, 1) := by decide +kernel
theorem dX5_known_38 : decode cX5_known 38 = .ok (.istore 5, 2) := by decide +kernel
theorem dX5_known_40 : decode cX5_known 40 = .ok (.iload 5, 2) := by decide +kernel
theorem dX5_known_42 : decode cX5_known 42 = .ok (.aload_n 0, 1) := by decide +kernel
theorem dX5_known_43 : decode cX5_known 43 = .ok (.getfield 7, 3) := by decide +kernel
theorem dX5_known_46 : decode cX5_known 46 = .ok (.if_icmp .ge 36, 3) := by decide +kernel
theorem dX5_known_49 : decode cX5_known 49 = .ok (.aload_n 0, 1) := by decide +kernel
theorem dX5_known_50 : decode cX5_known 50 = .ok (.iload_n 3, 1) := by decide +kernel
theorem dX5_known_51 : decode cX5_known 51 = .ok (.aload_n 0, 1) := by decide +kernel
theorem dX5_known_52 : decode cX5_known 52 = .ok (.iload_n 2, 1) := by decide +kernel
theorem dX5_known_53 : decode cX5_known 53 = .ok (.iload 5, 2) := by decide +kernel
theorem dX5_known_55 : decode cX5_known 55 = .ok (.invokevirtual 58, 3) := by decide +kernel
theorem dX5_known_58 : decode cX5_known 58 = .ok (.invokevirtual 49, 3) := by decide +kernel
theorem dX5_known_61 : decode cX5_known 61 = .ok (.istore_n 3, 1) := by decide +kernel
theorem dX5_known_62 : decode cX5_known 62 = .ok (.iload 4, 2) := by decide +kernel
theorem dX5_known_64 : decode cX5_known 64 = .ok (.aload_n 0, 1) := by decide +kernel
theorem dX5_known_65 : decode cX5_known 65 = .ok (.iload_n 2, 1) := by decide +kernel
theorem dX5_known_66 : decode cX5_known 66 = .ok (.iload 5, 2) := by decide +kernel
theorem dX5_known_68 : decode cX5_known 68 = .ok (.invokevirtual 58, 3) := by decide +kernel
theorem dX5_known_71 : decode cX5_known 71 = .ok (.invokestatic 42, 3) := by decide +kernel
theorem dX5_known_74 : decode cX5_known 74 = .ok (.istore 4, 2) := by decide +kernel
theorem dX5_known_76 : decode cX5_known 76 = .ok (.iinc 5 1, 3) := by decide +kernel
theorem dX5_known_79 : decode cX5_known 79 = .ok (.goto (-39), 3) := by decide +kernel
theorem dX5_known_82 : decode cX5_known 82 = .ok (.iload_n 1, 1) := by decide +kernel
theorem dX5_known_83 : decode cX5_known 83 = .ok (.tableswitch 70 0 3 #[29, 58, 60, 63], 29) := by decide +kernel
theorem dX5_known_112 : decode cX5_known 112 = .ok (.iload_n 2, 1) := by decide +kernel
theorem dX5_known_113 : decode cX5_known 113 = .ok (.ifCond .eq 22, 3) := by decide +kernel
theorem dX5_known_116 : decode cX5_known 116 = .ok (.aload_n 0, 1) := by decide +kernel
theorem dX5_known_117 : decode cX5_known 117 = .ok (.iload_n 2, 1) := by decide +kernel
theorem dX5_known_118 : decode cX5_known 118 = .ok (.aload_n 0, 1) := by decide +kernel
theorem dX5_known_119 : decode cX5_known 119 = .ok (.getfield 15, 3) := by decide +kernel
theorem dX5_known_122 : decode cX5_known 122 = .ok (.lconst 1, 1) := by decide +kernel
theorem dX5_known_123 : decode cX5_known 123 = .ok (.lsub, 1) := by decide +kernel
theorem dX5_known_124 : decode cX5_known 124 = .ok (.ldc2_w 52, 3) := by decide +kernel
theorem dX5_known_127 : decode cX5_known 127 = .ok (.ldiv, 1) := by decide +kernel
theorem dX5_known_128 : decode cX5_known 128 = .ok (.invokevirtual 54, 3) := by decide +kernel
theorem dX5_known_131 : decode cX5_known 131 = .ok (.iconst 1, 1) := by decide +kernel
theorem dX5_known_132 : decode cX5_known 132 = .ok (.if_icmp .ne 7, 3) := by decide +kernel
theorem dX5_known_135 : decode cX5_known 135 = .ok (.iconst 1, 1) := by decide +kernel
theorem dX5_known_136 : decode cX5_known 136 = .ok (.goto 4, 3) := by decide +kernel
theorem dX5_known_139 : decode cX5_known 139 = .ok (.iconst 0, 1) := by decide +kernel
theorem dX5_known_140 : decode cX5_known 140 = .ok (.ireturn, 1) := by decide +kernel
theorem dX5_known_141 : decode cX5_known 141 = .ok (.iload_n 3, 1) := by decide +kernel
theorem dX5_known_142 : decode cX5_known 142 = .ok (.ireturn, 1) := by decide +kernel
theorem dX5_known_143 : decode cX5_known 143 = .ok (.iload 4, 2) := by decide +kernel
theorem dX5_known_145 : decode cX5_known 145 = .ok (.ireturn, 1) := by decide +kernel
theorem dX5_known_146 : decode cX5_known 146 = .ok (.aload_n 0, 1) := by decide +kernel
theorem dX5_known_147 : decode cX5_known 147 = .ok (.iload_n 2, 1) := by decide +kernel
theorem dX5_known_148 : decode cX5_known 148 = .ok (.iconst 1, 1) := by decide +kernel
theorem dX5_known_149 : decode cX5_known 149 = .ok (.invokevirtual 58, 3) := by decide +kernel
theorem dX5_known_152 : decode cX5_known 152 = .ok (.ireturn, 1) := by decide +kernel
theorem dX5_known_153 : decode cX5_known 153 = .ok (.aload_n 0, 1) := by decide +kernel
theorem dX5_known_154 : decode cX5_known 154 = .ok (.iload_n 2, 1) := by decide +kernel
theorem dX5_known_155 : decode cX5_known 155 = .ok (.invokevirtual 114, 3) := by decide +kernel
theorem dX5_known_158 : decode cX5_known 158 = .ok (.ireturn, 1) := by decide +kernel
theorem dX5_minimal_0 : decode cX5_minimal 0 = .ok (.aload_n 0, 1) := by decide +kernel
theorem dX5_minimal_1 : decode cX5_minimal 1 = .ok (.iload_n 2, 1) := by decide +kernel
theorem dX5_minimal_2 : decode cX5_minimal 2 = .ok (.ifCond .lt 8, 3) := by decide +kernel
theorem dX5_minimal_5 : decode cX5_minimal 5 = .ok (.iload_n 2, 1) := by decide +kernel
theorem dX5_minimal_6 : decode cX5_minimal 6 = .ok (.iconst 3, 1) := by decide +kernel
theorem dX5_minimal_7 : decode cX5_minimal 7 = .ok (.if_icmp .le 7, 3) := by decide +kernel
theorem dX5_minimal_10 : decode cX5_minimal 10 = .ok (.iconst 1, 1) := by decide +kernel
theorem dX5_minimal_11 : decode cX5_minimal 11 = .ok (.goto 4, 3) := by decide +kernel
theorem dX5_minimal_14 : decode cX5_minimal 14 = .ok (.iconst 0, 1) := by decide +kernel
theorem dX5_minimal_15 : decode cX5_minimal 15 = .ok (.aload_n 0, 1) := by decide +kernel
theorem dX5_minimal_16 : decode cX5_minimal 16 = .ok (.iload_n 1, 1) := by decide +kernel
theorem dX5_minimal_17 : decode cX5_minimal 17 = .ok (.invokevirtual 111, 3) := by decide +kernel
theorem dX5_minimal_20 : decode cX5_minimal 20 = .ok (.ifCond .ne 7, 3) := by decide +kernel
theorem dX5_minimal_23 : decode cX5_minimal 23 = .ok (.iconst 1, 1) := by decide +kernel
theorem dX5_minimal_24 : decode cX5_minimal 24 = .ok (.goto 4, 3) := by decide +kernel
theorem dX5_minimal_27 : decode cX5_minimal 27 = .ok (.iconst 0, 1) := by decide +kernel
theorem dX5_minimal_28 : decode cX5_minimal 28 = .ok (.invokevirtual 61, 3) := by decide +kernel
theorem dX5_minimal_31 : decode cX5_minimal 31 = .ok (.ifCond .eq 5, 3) := by decide +kernel
theorem dX5_minimal_34 : decode cX5_minimal 34 = .ok (.iconst 0, 1) := by decide +kernel
theorem dX5_minimal_35 : decode cX5_minimal 35 = .ok (.ireturn, 1) := by decide +kernel
theorem dX5_minimal_36 : decode cX5_minimal 36 = .ok (.aload_n 0, 1) := by decide +kernel
theorem dX5_minimal_37 : decode cX5_minimal 37 = .ok (.iload_n 1, 1) := by decide +kernel
theorem dX5_minimal_38 : decode cX5_minimal 38 = .ok (.invokevirtual 114, 3) := by decide +kernel
theorem dX5_minimal_41 : decode cX5_minimal 41 = .ok (.istore_n 3, 1) := by decide +kernel
theorem dX5_minimal_42 : decode cX5_minimal 42 = .ok (.aload_n 0, 1) := by decide +kernel
theorem dX5_minimal_43 : decode cX5_minimal 43 = .ok (.iconst 2, 1) := by decide +kernel
theorem dX5_minimal_44 : decode cX5_minimal 44 = .ok (.invokevirtual 73, 3) := by decide +kernel
theorem dX5_minimal_47 : decode cX5_minimal 47 = .ok (.aload_n 0, 1) := by decide +kernel
theorem dX5_minimal_48 : decode cX5_minimal 48 = .ok (.iconst 2, 1) := by decide +kernel
theorem dX5_minimal_49 : decode cX5_minimal 49 = .ok (.iconst 0, 1) := by decide +kernel
theorem dX5_minimal_50 : decode cX5_minimal 50 = .ok (.iconst 1, 1) := by decide +kernel
theorem dX5_minimal_51 : decode cX5_minimal 51 = .ok (.invokevirtual 90, 3) := by decide +kernel
theorem dX5_minimal_54 : decode cX5_minimal 54 = .ok (.iconst 0, 1) := by decide +kernel
theorem dX5_minimal_55 : decode cX5_minimal 55 = .ok (.istore 4, 2) := by decide +kernel
theorem dX5_minimal_57 : decode cX5_minimal 57 = .ok (.iload 4, 2) := by decide +kernel
theorem dX5_minimal_59 : decode cX5_minimal 59 = .ok (.iload_n 3, 1) := by decide +kernel
theorem dX5_minimal_60 : decode cX5_minimal 60 = .ok (.if_icmp .ge 50, 3) := by decide +kernel
theorem dX5_minimal_63 : decode cX5_minimal 63 = .ok (.aload_n 0, 1) := by decide +kernel
theorem dX5_minimal_64 : decode cX5_minimal 64 = .ok (.iconst 3, 1) := by decide +kernel
theorem dX5_minimal_65 : decode cX5_minimal 65 = .ok (.invokevirtual 73, 3) := by decide +kernel
theorem dX5_minimal_68 : decode cX5_minimal 68 = .ok (.aload_n 0, 1) := by decide +kernel
theorem dX5_minimal_69 : decode cX5_minimal 69 = .ok (.iconst 3, 1) := by decide +kernel
theorem dX5_minimal_70 : decode cX5_minimal 70 = .ok (.iconst 0, 1) := by decide +kernel
theorem dX5_minimal_71 : decode cX5_minimal 71 = .ok (.aload_n 0, 1) := by decide +kernel
theorem dX5_minimal_72 : decode cX5_minimal 72 = .ok (.iload_n 1, 1) := by decide +kernel
theorem dX5_minimal_73 : decode cX5_minimal 73 = .ok (.iload 4, 2) := by decide +kernel
theorem dX5_minimal_75 : decode cX5_minimal 75 = .ok (.invokevirtual 58, 3) := by decide +kernel
theorem dX5_minimal_78 : decode cX5_minimal 78 = .ok (.invokestatic 38, 3) := by decide +kernel
theorem dX5_minimal_81 : decode cX5_minimal 81 = .ok (.invokevirtual 90, 3) := by decide +kernel
theorem dX5_minimal_84 : decode cX5_minimal 84 = .ok (.aload_n 0, 1) := by decide +kernel
theorem dX5_minimal_85 : decode cX5_minimal 85 = .ok (.iconst 3, 1) := by decide +kernel
theorem dX5_minimal_86 : decode cX5_minimal 86 = .ok (.iconst 1, 1) := by decide +kernel
theorem dX5_minimal_87 : decode cX5_minimal 87 = .ok (.iconst 1, 1) := by decide +kernel
theorem dX5_minimal_88 : decode cX5_minimal 88 = .ok (.invokevirtual 90, 3) := by decide +kernel
theorem dX5_minimal_91 : decode cX5_minimal 91 = .ok (.aload_n 0, 1) := by decide +kernel
theorem dX5_minimal_92 : decode cX5_minimal 92 = .ok (.iconst 2, 1) := by decide +kernel
theorem dX5_minimal_93 : decode cX5_minimal 93 = .ok (.iconst 3, 1) := by decide +kernel
theorem dX5_minimal_94 : decode cX5_minimal 94 = .ok (.iconst 4, 1) := by decide +kernel
theorem dX5_minimal_95 : decode cX5_minimal 95 = .ok (.invokevirtual 104, 3) := by decide +kernel
theorem dX5_minimal_98 : decode cX5_minimal 98 = .ok (.aload_n 0, 1) := by decide +kernel
theorem dX5_minimal_99 : decode cX5_minimal 99 = .ok (.iconst 4, 1) := by decide +kernel
theorem dX5_minimal_100 : decode cX5_minimal 100 = .ok (.iconst 2, 1) := by decide +kernel
theorem dX5_minimal_101 : decode cX5_minimal 101 = .ok (.invokevirtual 97, 3) := by decide +kernel
theorem dX5_minimal_104 : decode cX5_minimal 104 = .ok (.iinc 4 1, 3) := by decide +kernel
theorem dX5_minimal_107 : decode cX5_minimal 107 = .ok (.goto (-50), 3) := by decide +kernel
theorem dX5_minimal_110 : decode cX5_minimal 110 = .ok (.aload_n 0, 1) := by decide +kernel
theorem dX5_minimal_111 : decode cX5_minimal 111 = .ok (.iconst 2, 1) := by decide +kernel
theorem dX5_minimal_112 : decode cX5_minimal 112 = .ok (.iload_n 2, 1) := by decide +kernel
theorem dX5_minimal_113 : decode cX5_minimal 113 = .ok (.invokevirtual 81, 3) := by decide +kernel
theorem dX5_minimal_116 : decode cX5_minimal 116 = .ok (.ireturn, 1) := by decide +kernel
theorem dX5_value_0 : decode cX5_value 0 = .ok (.aload_n 0, 1) := by decide +kernel
theorem dX5_value_1 : decode cX5_value 1 = .ok (.aload_n 0, 1) := by decide +kernel
theorem dX5_value_2 : decode cX5_value 2 = .ok (.iload_n 1, 1) := by decide +kernel
theorem dX5_value_3 : decode cX5_value 3 = .ok (.invokevirtual 111, 3) := by decide +kernel
theorem dX5_value_6 : decode cX5_value 6 = .ok (.ifCond .ne 7, 3) := by decide +kernel
theorem dX5_value_9 : decode cX5_value 9 = .ok (.iconst 1, 1) := by decide +kernel
theorem dX5_value_10 : decode cX5_value 10 = .ok (.goto 4, 3) := by decide +kernel
theorem dX5_value_13 : decode cX5_value 13 = .ok (.iconst 0, 1) := by decide +kernel
theorem dX5_value_14 : decode cX5_value 14 = .ok (.iconst 0, 1) := by decide +kernel
theorem dX5_value_15 : decode cX5_value 15 = .ok (.invokevirtual 61, 3) := by decide +kernel
theorem dX5_value_18 : decode cX5_value 18 = .ok (.ifCond .eq 5, 3) := by decide +kernel
theorem dX5_value_21 : decode cX5_value 21 = .ok (.iconst 0, 1) := by decide +kernel
theorem dX5_value_22 : decode cX5_value 22 = .ok (.ireturn, 1) := by decide +kernel
theorem dX5_value_23 : decode cX5_value 23 = .ok (.iconst 0, 1) := by decide +kernel
theorem dX5_value_24 : decode cX5_value 24 = .ok (.istore_n 2, 1) := by decide +kernel
theorem dX5_value_25 : decode cX5_value 25 = .ok (.iconst 5, 1) := by decide +kernel
theorem dX5_value_26 : decode cX5_value 26 = .ok (.istore_n 3, 1) := by decide +kernel
theorem dX5_value_27 : decode cX5_value 27 = .ok (.iload_n 3, 1) := by decide +kernel
theorem dX5_value_28 : decode cX5_value 28 = .ok (.ifCond .lt 25, 3) := by decide +kernel
theorem dX5_value_31 : decode cX5_value 31 = .ok (.aload_n 0, 1) := by decide +kernel
theorem dX5_value_32 : decode cX5_value 32 = .ok (.iload_n 2, 1) := by decide +kernel
theorem dX5_value_33 : decode cX5_value 33 = .ok (.iload_n 1, 1) := by decide +kernel
theorem dX5_value_34 : decode cX5_value 34 = .ok (.invokevirtual 49, 3) := by decide +kernel
theorem dX5_value_37 : decode cX5_value 37 = .ok (.aload_n 0, 1) := by decide +kernel
theorem dX5_value_38 : decode cX5_value 38 = .ok (.iconst 0, 1) := by decide +kernel
theorem dX5_value_39 : decode cX5_value 39 = .ok (.iload_n 3, 1) := by decide +kernel
theorem dX5_value_40 : decode cX5_value 40 = .ok (.invokevirtual 81, 3) := by decide +kernel
theorem dX5_value_43 : decode cX5_value 43 = .ok (.invokestatic 42, 3) := by decide +kernel
theorem dX5_value_46 : decode cX5_value 46 = .ok (.istore_n 2, 1) := by decide +kernel
theorem dX5_value_47 : decode cX5_value 47 = .ok (.iinc 3 (-1), 3) := by decide +kernel
theorem dX5_value_50 : decode cX5_value 50 = .ok (.goto (-23), 3) := by decide +kernel
theorem dX5_value_53 : decode cX5_value 53 = .ok (.iload_n 2, 1) := by decide +kernel
theorem dX5_value_54 : decode cX5_value 54 = .ok (.ireturn, 1) := by decide +kernel
theorem dX5_norm_0 : decode cX5_norm 0 = .ok (.aload_n 0, 1) := by decide +kernel
theorem dX5_norm_1 : decode cX5_norm 1 = .ok (.iconst 0, 1) := by decide +kernel
theorem dX5_norm_2 : decode cX5_norm 2 = .ok (.putfield 35, 3) := by decide +kernel
theorem dX5_norm_5 : decode cX5_norm 5 = .ok (.aload_n 0, 1) := by decide +kernel
theorem dX5_norm_6 : decode cX5_norm 6 = .ok (.iconst 0, 1) := by decide +kernel
theorem dX5_norm_7 : decode cX5_norm 7 = .ok (.bipush 9, 2) := by decide +kernel
theorem dX5_norm_9 : decode cX5_norm 9 = .ok (.invokevirtual 117, 3) := by decide +kernel
theorem dX5_norm_12 : decode cX5_norm 12 = .ok (.iload_n 1, 1) := by decide +kernel
theorem dX5_norm_13 : decode cX5_norm 13 = .ok (.ifCond .lt 9, 3) := by decide +kernel
theorem dX5_norm_16 : decode cX5_norm 16 = .ok (.iload_n 1, 1) := by decide +kernel
theorem dX5_norm_17 : decode cX5_norm 17 = .ok (.bipush 16, 2) := by decide +kernel
theorem dX5_norm_19 : decode cX5_norm 19 = .ok (.if_icmp .lt 7, 3) := by decide +kernel
theorem dX5_norm_22 : decode cX5_norm 22 = .ok (.iconst 0, 1) := by decide +kernel
theorem dX5_norm_23 : decode cX5_norm 23 = .ok (.goto 10, 3) := by decide +kernel
theorem dX5_norm_26 : decode cX5_norm 26 = .ok (.aload_n 0, 1) := by decide +kernel
theorem dX5_norm_27 : decode cX5_norm 27 = .ok (.bipush 9, 2) := by decide +kernel
theorem dX5_norm_29 : decode cX5_norm 29 = .ok (.iload_n 1, 1) := by decide +kernel
theorem dX5_norm_30 : decode cX5_norm 30 = .ok (.invokevirtual 81, 3) := by decide +kernel
theorem dX5_norm_33 : decode cX5_norm 33 = .ok (.ireturn, 1) := by decide +kernel
theorem dX5_root_0 : decode cX5_root 0 = .ok (.aload_n 0, 1) := by decide +kernel
theorem dX5_root_1 : decode cX5_root 1 = .ok (.iconst 0, 1) := by decide +kernel
theorem dX5_root_2 : decode cX5_root 2 = .ok (.iconst 2, 1) := by decide +kernel
theorem dX5_root_3 : decode cX5_root 3 = .ok (.invokevirtual 97, 3) := by decide +kernel
theorem dX5_root_6 : decode cX5_root 6 = .ok (.aload_n 0, 1) := by decide +kernel
theorem dX5_root_7 : decode cX5_root 7 = .ok (.iconst 0, 1) := by decide +kernel
theorem dX5_root_8 : decode cX5_root 8 = .ok (.iconst 3, 1) := by decide +kernel
theorem dX5_root_9 : decode cX5_root 9 = .ok (.invokevirtual 120, 3) := by decide +kernel
theorem dX5_root_12 : decode cX5_root 12 = .ok (.aload_n 0, 1) := by decide +kernel
theorem dX5_root_13 : decode cX5_root 13 = .ok (.iconst 2, 1) := by decide +kernel
theorem dX5_root_14 : decode cX5_root 14 = .ok (.iconst 3, 1) := by decide +kernel
theorem dX5_root_15 : decode cX5_root 15 = .ok (.invokevirtual 123, 3) := by decide +kernel
theorem dX5_root_18 : decode cX5_root 18 = .ok (.aload_n 0, 1) := by decide +kernel
theorem dX5_root_19 : decode cX5_root 19 = .ok (.iconst 0, 1) := by decide +kernel
theorem dX5_root_20 : decode cX5_root 20 = .ok (.iconst 3, 1) := by decide +kernel
theorem dX5_root_21 : decode cX5_root 21 = .ok (.invokevirtual 97, 3) := by decide +kernel
theorem dX5_root_24 : decode cX5_root 24 = .ok (.aload_n 0, 1) := by decide +kernel
theorem dX5_root_25 : decode cX5_root 25 = .ok (.iconst 3, 1) := by decide +kernel
theorem dX5_root_26 : decode cX5_root 26 = .ok (.iconst 2, 1) := by decide +kernel
theorem dX5_root_27 : decode cX5_root 27 = .ok (.iconst 1, 1) := by decide +kernel
theorem dX5_root_28 : decode cX5_root 28 = .ok (.invokevirtual 94, 3) := by decide +kernel
theorem dX5_root_31 : decode cX5_root 31 = .ok (.aload_n 0, 1) := by decide +kernel
theorem dX5_root_32 : decode cX5_root 32 = .ok (.iconst 1, 1) := by decide +kernel
theorem dX5_root_33 : decode cX5_root 33 = .ok (.invokevirtual 101, 3) := by decide +kernel
theorem dX5_root_36 : decode cX5_root 36 = .ok (.return_, 1) := by decide +kernel
theorem dX5_found_0 : decode cX5_found 0 = .ok (.aload_n 0, 1) := by decide +kernel
theorem dX5_found_1 : decode cX5_found 1 = .ok (.iload_n 1, 1) := by decide +kernel
theorem dX5_found_2 : decode cX5_found 2 = .ok (.bipush 20, 2) := by decide +kernel
theorem dX5_found_4 : decode cX5_found 4 = .ok (.aload_n 0, 1) := by decide +kernel
theorem dX5_found_5 : decode cX5_found 5 = .ok (.getfield 126, 3) := by decide +kernel
theorem dX5_found_8 : decode cX5_found 8 = .ok (.iadd, 1) := by decide +kernel
theorem dX5_found_9 : decode cX5_found 9 = .ok (.invokevirtual 97, 3) := by decide +kernel
theorem dX5_found_12 : decode cX5_found 12 = .ok (.aload_n 0, 1) := by decide +kernel
theorem dX5_found_13 : decode cX5_found 13 = .ok (.dup, 1) := by decide +kernel
theorem dX5_found_14 : decode cX5_found 14 = .ok (.getfield 126, 3) := by decide +kernel
theorem dX5_found_17 : decode cX5_found 17 = .ok (.iconst 1, 1) := by decide +kernel
theorem dX5_found_18 : decode cX5_found 18 = .ok (.iadd, 1) := by decide +kernel
theorem dX5_found_19 : decode cX5_found 19 = .ok (.putfield 126, 3) := by decide +kernel
theorem dX5_found_22 : decode cX5_found 22 = .ok (.return_, 1) := by decide +kernel
theorem dX5_parts_0 : decode cX5_parts 0 = .ok (.aload_n 0, 1) := by decide +kernel
theorem dX5_parts_1 : decode cX5_parts 1 = .ok (.bipush 7, 2) := by decide +kernel
theorem dX5_parts_3 : decode cX5_parts 3 = .ok (.bipush 10, 2) := by decide +kernel
theorem dX5_parts_5 : decode cX5_parts 5 = .ok (.invokevirtual 97, 3) := by decide +kernel
theorem dX5_parts_8 : decode cX5_parts 8 = .ok (.iconst 1, 1) := by decide +kernel
theorem dX5_parts_9 : decode cX5_parts 9 = .ok (.istore_n 2, 1) := by decide +kernel
theorem dX5_parts_10 : decode cX5_parts 10 = .ok (.iload_n 1, 1) := by decide +kernel
theorem dX5_parts_11 : decode cX5_parts 11 = .ok (.iconst 1, 1) := by decide +kernel
theorem dX5_parts_12 : decode cX5_parts 12 = .ok (.if_icmp .ne 16, 3) := by decide +kernel
theorem dX5_parts_15 : decode cX5_parts 15 = .ok (.aload_n 0, 1) := by decide +kernel
theorem dX5_parts_16 : decode cX5_parts 16 = .ok (.getfield 15, 3) := by decide +kernel
theorem dX5_parts_19 : decode cX5_parts 19 = .ok (.lconst 1, 1) := by decide +kernel
theorem dX5_parts_20 : decode cX5_parts 20 = .ok (.lsub, 1) := by decide +kernel
theorem dX5_parts_21 : decode cX5_parts 21 = .ok (.ldc2_w 52, 3) := by decide +kernel
theorem dX5_parts_24 : decode cX5_parts 24 = .ok (.ldiv, 1) := by decide +kernel
theorem dX5_parts_25 : decode cX5_parts 25 = .ok (.goto 18, 3) := by decide +kernel
theorem dX5_parts_28 : decode cX5_parts 28 = .ok (.aload_n 0, 1) := by decide +kernel
theorem dX5_parts_29 : decode cX5_parts 29 = .ok (.getfield 15, 3) := by decide +kernel
theorem dX5_parts_32 : decode cX5_parts 32 = .ok (.aload_n 0, 1) := by decide +kernel
theorem dX5_parts_33 : decode cX5_parts 33 = .ok (.getfield 15, 3) := by decide +kernel
theorem dX5_parts_36 : decode cX5_parts 36 = .ok (.lmul, 1) := by decide +kernel
theorem dX5_parts_37 : decode cX5_parts 37 = .ok (.lconst 1, 1) := by decide +kernel
theorem dX5_parts_38 : decode cX5_parts 38 = .ok (.lsub, 1) := by decide +kernel
theorem dX5_parts_39 : decode cX5_parts 39 = .ok (.ldc2_w 52, 3) := by decide +kernel
theorem dX5_parts_42 : decode cX5_parts 42 = .ok (.ldiv, 1) := by decide +kernel
theorem dX5_parts_43 : decode cX5_parts 43 = .ok (.lstore_n 3, 1) := by decide +kernel
theorem dX5_parts_44 : decode cX5_parts 44 = .ok (.iconst 0, 1) := by decide +kernel
theorem dX5_parts_45 : decode cX5_parts 45 = .ok (.istore 5, 2) := by decide +kernel
theorem dX5_parts_47 : decode cX5_parts 47 = .ok (.iload_n 2, 1) := by decide +kernel
theorem dX5_parts_48 : decode cX5_parts 48 = .ok (.ifCond .le 177, 3) := by decide +kernel
theorem dX5_parts_51 : decode cX5_parts 51 = .ok (.iload 5, 2) := by decide +kernel
theorem dX5_parts_53 : decode cX5_parts 53 = .ok (.i2l, 1) := by decide +kernel
theorem dX5_parts_54 : decode cX5_parts 54 = .ok (.aload_n 0, 1) := by decide +kernel
theorem dX5_parts_55 : decode cX5_parts 55 = .ok (.getfield 15, 3) := by decide +kernel
theorem dX5_parts_58 : decode cX5_parts 58 = .ok (.lcmp, 1) := by decide +kernel
theorem dX5_parts_59 : decode cX5_parts 59 = .ok (.ifCond .ge 166, 3) := by decide +kernel
theorem dX5_parts_62 : decode cX5_parts 62 = .ok (.bipush 10, 2) := by decide +kernel
theorem dX5_parts_64 : decode cX5_parts 64 = .ok (.iload_n 2, 1) := by decide +kernel
theorem dX5_parts_65 : decode cX5_parts 65 = .ok (.iadd, 1) := by decide +kernel
theorem dX5_parts_66 : decode cX5_parts 66 = .ok (.iconst 1, 1) := by decide +kernel
theorem dX5_parts_67 : decode cX5_parts 67 = .ok (.isub, 1) := by decide +kernel
theorem dX5_parts_68 : decode cX5_parts 68 = .ok (.istore 6, 2) := by decide +kernel
theorem dX5_parts_70 : decode cX5_parts 70 = .ok (.aload_n 0, 1) := by decide +kernel
theorem dX5_parts_71 : decode cX5_parts 71 = .ok (.getfield 29, 3) := by decide +kernel
theorem dX5_parts_74 : decode cX5_parts 74 = .ok (.iload 6, 2) := by decide +kernel
theorem dX5_parts_76 : decode cX5_parts 76 = .ok (.iaload, 1) := by decide +kernel
theorem dX5_parts_77 : decode cX5_parts 77 = .ok (.iload_n 1, 1) := by decide +kernel
theorem dX5_parts_78 : decode cX5_parts 78 = .ok (.if_icmp .ne 18, 3) := by decide +kernel
theorem dX5_parts_81 : decode cX5_parts 81 = .ok (.aload_n 0, 1) := by decide +kernel
theorem dX5_parts_82 : decode cX5_parts 82 = .ok (.iload 6, 2) := by decide +kernel
theorem dX5_parts_84 : decode cX5_parts 84 = .ok (.invokevirtual 129, 3) := by decide +kernel
theorem dX5_parts_87 : decode cX5_parts 87 = .ok (.iinc 2 (-1), 3) := by decide +kernel
theorem dX5_parts_90 : decode cX5_parts 90 = .ok (.iconst 0, 1) := by decide +kernel
theorem dX5_parts_91 : decode cX5_parts 91 = .ok (.istore 5, 2) := by decide +kernel
theorem dX5_parts_93 : decode cX5_parts 93 = .ok (.goto (-46), 3) := by decide +kernel
theorem dX5_parts_96 : decode cX5_parts 96 = .ok (.aload_n 0, 1) := by decide +kernel
theorem dX5_parts_97 : decode cX5_parts 97 = .ok (.iconst 2, 1) := by decide +kernel
theorem dX5_parts_98 : decode cX5_parts 98 = .ok (.invokevirtual 73, 3) := by decide +kernel
theorem dX5_parts_101 : decode cX5_parts 101 = .ok (.aload_n 0, 1) := by decide +kernel
theorem dX5_parts_102 : decode cX5_parts 102 = .ok (.iconst 2, 1) := by decide +kernel
theorem dX5_parts_103 : decode cX5_parts 103 = .ok (.iconst 0, 1) := by decide +kernel
theorem dX5_parts_104 : decode cX5_parts 104 = .ok (.iload 5, 2) := by decide +kernel
theorem dX5_parts_106 : decode cX5_parts 106 = .ok (.invokevirtual 90, 3) := by decide +kernel
theorem dX5_parts_109 : decode cX5_parts 109 = .ok (.aload_n 0, 1) := by decide +kernel
theorem dX5_parts_110 : decode cX5_parts 110 = .ok (.iconst 2, 1) := by decide +kernel
theorem dX5_parts_111 : decode cX5_parts 111 = .ok (.iconst 1, 1) := by decide +kernel
theorem dX5_parts_112 : decode cX5_parts 112 = .ok (.iconst 1, 1) := by decide +kernel
theorem dX5_parts_113 : decode cX5_parts 113 = .ok (.invokevirtual 90, 3) := by decide +kernel
theorem dX5_parts_116 : decode cX5_parts 116 = .ok (.aload_n 0, 1) := by decide +kernel
theorem dX5_parts_117 : decode cX5_parts 117 = .ok (.iconst 2, 1) := by decide +kernel
theorem dX5_parts_118 : decode cX5_parts 118 = .ok (.lload_n 3, 1) := by decide +kernel
theorem dX5_parts_119 : decode cX5_parts 119 = .ok (.iload 6, 2) := by decide +kernel
theorem dX5_parts_121 : decode cX5_parts 121 = .ok (.bipush 9, 2) := by decide +kernel
theorem dX5_parts_123 : decode cX5_parts 123 = .ok (.invokevirtual 132, 3) := by decide +kernel
theorem dX5_parts_126 : decode cX5_parts 126 = .ok (.aload_n 0, 1) := by decide +kernel
theorem dX5_parts_127 : decode cX5_parts 127 = .ok (.bipush 9, 2) := by decide +kernel
theorem dX5_parts_129 : decode cX5_parts 129 = .ok (.iconst 0, 1) := by decide +kernel
theorem dX5_parts_130 : decode cX5_parts 130 = .ok (.aload_n 0, 1) := by decide +kernel
theorem dX5_parts_131 : decode cX5_parts 131 = .ok (.bipush 9, 2) := by decide +kernel
theorem dX5_parts_133 : decode cX5_parts 133 = .ok (.iconst 0, 1) := by decide +kernel
theorem dX5_parts_134 : decode cX5_parts 134 = .ok (.invokevirtual 81, 3) := by decide +kernel
theorem dX5_parts_137 : decode cX5_parts 137 = .ok (.iconst 1, 1) := by decide +kernel
theorem dX5_parts_138 : decode cX5_parts 138 = .ok (.invokestatic 87, 3) := by decide +kernel
theorem dX5_parts_141 : decode cX5_parts 141 = .ok (.invokevirtual 90, 3) := by decide +kernel
theorem dX5_parts_144 : decode cX5_parts 144 = .ok (.aload_n 0, 1) := by decide +kernel
theorem dX5_parts_145 : decode cX5_parts 145 = .ok (.iload 6, 2) := by decide +kernel
theorem dX5_parts_147 : decode cX5_parts 147 = .ok (.iconst 2, 1) := by decide +kernel
theorem dX5_parts_148 : decode cX5_parts 148 = .ok (.invokevirtual 97, 3) := by decide +kernel
theorem dX5_parts_151 : decode cX5_parts 151 = .ok (.aload_n 0, 1) := by decide +kernel
theorem dX5_parts_152 : decode cX5_parts 152 = .ok (.bipush 9, 2) := by decide +kernel
theorem dX5_parts_154 : decode cX5_parts 154 = .ok (.iconst 3, 1) := by decide +kernel
theorem dX5_parts_155 : decode cX5_parts 155 = .ok (.invokevirtual 97, 3) := by decide +kernel
theorem dX5_parts_158 : decode cX5_parts 158 = .ok (.aload_n 0, 1) := by decide +kernel
theorem dX5_parts_159 : decode cX5_parts 159 = .ok (.iconst 2, 1) := by decide +kernel
theorem dX5_parts_160 : decode cX5_parts 160 = .ok (.iconst 3, 1) := by decide +kernel
theorem dX5_parts_161 : decode cX5_parts 161 = .ok (.invokevirtual 123, 3) := by decide +kernel
theorem dX5_parts_164 : decode cX5_parts 164 = .ok (.iinc 5 1, 3) := by decide +kernel
theorem dX5_parts_167 : decode cX5_parts 167 = .ok (.aload_n 0, 1) := by decide +kernel
theorem dX5_parts_168 : decode cX5_parts 168 = .ok (.getfield 29, 3) := by decide +kernel
theorem dX5_parts_171 : decode cX5_parts 171 = .ok (.iconst 2, 1) := by decide +kernel
theorem dX5_parts_172 : decode cX5_parts 172 = .ok (.iaload, 1) := by decide +kernel
theorem dX5_parts_173 : decode cX5_parts 173 = .ok (.ifCond .le 49, 3) := by decide +kernel
theorem dX5_parts_176 : decode cX5_parts 176 = .ok (.aload_n 0, 1) := by decide +kernel
theorem dX5_parts_177 : decode cX5_parts 177 = .ok (.getfield 29, 3) := by decide +kernel
theorem dX5_parts_180 : decode cX5_parts 180 = .ok (.iconst 2, 1) := by decide +kernel
theorem dX5_parts_181 : decode cX5_parts 181 = .ok (.iaload, 1) := by decide +kernel
theorem dX5_parts_182 : decode cX5_parts 182 = .ok (.aload_n 0, 1) := by decide +kernel
theorem dX5_parts_183 : decode cX5_parts 183 = .ok (.getfield 29, 3) := by decide +kernel
theorem dX5_parts_186 : decode cX5_parts 186 = .ok (.iload 6, 2) := by decide +kernel
theorem dX5_parts_188 : decode cX5_parts 188 = .ok (.iaload, 1) := by decide +kernel
theorem dX5_parts_189 : decode cX5_parts 189 = .ok (.if_icmp .ge 33, 3) := by decide +kernel
theorem dX5_parts_192 : decode cX5_parts 192 = .ok (.aload_n 0, 1) := by decide +kernel
theorem dX5_parts_193 : decode cX5_parts 193 = .ok (.iload 6, 2) := by decide +kernel
theorem dX5_parts_195 : decode cX5_parts 195 = .ok (.iconst 3, 1) := by decide +kernel
theorem dX5_parts_196 : decode cX5_parts 196 = .ok (.invokevirtual 97, 3) := by decide +kernel
theorem dX5_parts_199 : decode cX5_parts 199 = .ok (.aload_n 0, 1) := by decide +kernel
theorem dX5_parts_200 : decode cX5_parts 200 = .ok (.iconst 3, 1) := by decide +kernel
theorem dX5_parts_201 : decode cX5_parts 201 = .ok (.iconst 2, 1) := by decide +kernel
theorem dX5_parts_202 : decode cX5_parts 202 = .ok (.iload 6, 2) := by decide +kernel
theorem dX5_parts_204 : decode cX5_parts 204 = .ok (.invokevirtual 94, 3) := by decide +kernel
theorem dX5_parts_207 : decode cX5_parts 207 = .ok (.aload_n 0, 1) := by decide +kernel
theorem dX5_parts_208 : decode cX5_parts 208 = .ok (.iconst 2, 1) := by decide +kernel
theorem dX5_parts_209 : decode cX5_parts 209 = .ok (.iload 6, 2) := by decide +kernel
theorem dX5_parts_211 : decode cX5_parts 211 = .ok (.iconst 1, 1) := by decide +kernel
theorem dX5_parts_212 : decode cX5_parts 212 = .ok (.iadd, 1) := by decide +kernel
theorem dX5_parts_213 : decode cX5_parts 213 = .ok (.invokevirtual 97, 3) := by decide +kernel
theorem dX5_parts_216 : decode cX5_parts 216 = .ok (.iinc 2 1, 3) := by decide +kernel
theorem dX5_parts_219 : decode cX5_parts 219 = .ok (.iconst 0, 1) := by decide +kernel
theorem dX5_parts_220 : decode cX5_parts 220 = .ok (.istore 5, 2) := by decide +kernel
theorem dX5_parts_222 : decode cX5_parts 222 = .ok (.goto (-175), 3) := by decide +kernel
theorem dX5_parts_225 : decode cX5_parts 225 = .ok (.return_, 1) := by decide +kernel
theorem dX5_split_0 : decode cX5_split 0 = .ok (.aload_n 0, 1) := by decide +kernel
theorem dX5_split_1 : decode cX5_split 1 = .ok (.iconst 0, 1) := by decide +kernel
theorem dX5_split_2 : decode cX5_split 2 = .ok (.putfield 126, 3) := by decide +kernel
theorem dX5_split_5 : decode cX5_split 5 = .ok (.aload_n 0, 1) := by decide +kernel
theorem dX5_split_6 : decode cX5_split 6 = .ok (.iconst 1, 1) := by decide +kernel
theorem dX5_split_7 : decode cX5_split 7 = .ok (.bipush 8, 2) := by decide +kernel
theorem dX5_split_9 : decode cX5_split 9 = .ok (.invokevirtual 97, 3) := by decide +kernel
theorem dX5_split_12 : decode cX5_split 12 = .ok (.aload_n 0, 1) := by decide +kernel
theorem dX5_split_13 : decode cX5_split 13 = .ok (.iconst 4, 1) := by decide +kernel
theorem dX5_split_14 : decode cX5_split 14 = .ok (.invokevirtual 73, 3) := by decide +kernel
theorem dX5_split_17 : decode cX5_split 17 = .ok (.aload_n 0, 1) := by decide +kernel
theorem dX5_split_18 : decode cX5_split 18 = .ok (.iconst 4, 1) := by decide +kernel
theorem dX5_split_19 : decode cX5_split 19 = .ok (.iconst 1, 1) := by decide +kernel
theorem dX5_split_20 : decode cX5_split 20 = .ok (.iconst 1, 1) := by decide +kernel
theorem dX5_split_21 : decode cX5_split 21 = .ok (.invokevirtual 90, 3) := by decide +kernel
theorem dX5_split_24 : decode cX5_split 24 = .ok (.iconst 1, 1) := by decide +kernel
theorem dX5_split_25 : decode cX5_split 25 = .ok (.istore_n 1, 1) := by decide +kernel
theorem dX5_split_26 : decode cX5_split 26 = .ok (.iload_n 1, 1) := by decide +kernel
theorem dX5_split_27 : decode cX5_split 27 = .ok (.iconst 5, 1) := by decide +kernel
theorem dX5_split_28 : decode cX5_split 28 = .ok (.if_icmp .gt 169, 3) := by decide +kernel
theorem dX5_split_31 : decode cX5_split 31 = .ok (.aload_n 0, 1) := by decide +kernel
theorem dX5_split_32 : decode cX5_split 32 = .ok (.getfield 29, 3) := by decide +kernel
theorem dX5_split_35 : decode cX5_split 35 = .ok (.bipush 8, 2) := by decide +kernel
theorem dX5_split_37 : decode cX5_split 37 = .ok (.iaload, 1) := by decide +kernel
theorem dX5_split_38 : decode cX5_split 38 = .ok (.ifCond .le 159, 3) := by decide +kernel
theorem dX5_split_41 : decode cX5_split 41 = .ok (.aload_n 0, 1) := by decide +kernel
theorem dX5_split_42 : decode cX5_split 42 = .ok (.getfield 29, 3) := by decide +kernel
theorem dX5_split_45 : decode cX5_split 45 = .ok (.bipush 8, 2) := by decide +kernel
theorem dX5_split_47 : decode cX5_split 47 = .ok (.iaload, 1) := by decide +kernel
theorem dX5_split_48 : decode cX5_split 48 = .ok (.iconst 2, 1) := by decide +kernel
theorem dX5_split_49 : decode cX5_split 49 = .ok (.iload_n 1, 1) := by decide +kernel
theorem dX5_split_50 : decode cX5_split 50 = .ok (.imul, 1) := by decide +kernel
theorem dX5_split_51 : decode cX5_split 51 = .ok (.if_icmp .ge 20, 3) := by decide +kernel
theorem dX5_split_54 : decode cX5_split 54 = .ok (.aload_n 0, 1) := by decide +kernel
theorem dX5_split_55 : decode cX5_split 55 = .ok (.bipush 8, 2) := by decide +kernel
theorem dX5_split_57 : decode cX5_split 57 = .ok (.invokevirtual 129, 3) := by decide +kernel
theorem dX5_split_60 : decode cX5_split 60 = .ok (.aload_n 0, 1) := by decide +kernel
theorem dX5_split_61 : decode cX5_split 61 = .ok (.getfield 29, 3) := by decide +kernel
theorem dX5_split_64 : decode cX5_split 64 = .ok (.bipush 8, 2) := by decide +kernel
theorem dX5_split_66 : decode cX5_split 66 = .ok (.iconst 0, 1) := by decide +kernel
theorem dX5_split_67 : decode cX5_split 67 = .ok (.iastore, 1) := by decide +kernel
theorem dX5_split_68 : decode cX5_split 68 = .ok (.goto 123, 3) := by decide +kernel
theorem dX5_split_71 : decode cX5_split 71 = .ok (.aload_n 0, 1) := by decide +kernel
theorem dX5_split_72 : decode cX5_split 72 = .ok (.iconst 4, 1) := by decide +kernel
theorem dX5_split_73 : decode cX5_split 73 = .ok (.aload_n 0, 1) := by decide +kernel
theorem dX5_split_74 : decode cX5_split 74 = .ok (.getfield 15, 3) := by decide +kernel
theorem dX5_split_77 : decode cX5_split 77 = .ok (.bipush 8, 2) := by decide +kernel
theorem dX5_split_79 : decode cX5_split 79 = .ok (.bipush 9, 2) := by decide +kernel
theorem dX5_split_81 : decode cX5_split 81 = .ok (.invokevirtual 132, 3) := by decide +kernel
theorem dX5_split_84 : decode cX5_split 84 = .ok (.aload_n 0, 1) := by decide +kernel
theorem dX5_split_85 : decode cX5_split 85 = .ok (.bipush 9, 2) := by decide +kernel
theorem dX5_split_87 : decode cX5_split 87 = .ok (.iconst 4, 1) := by decide +kernel
theorem dX5_split_88 : decode cX5_split 88 = .ok (.invokevirtual 97, 3) := by decide +kernel
theorem dX5_split_91 : decode cX5_split 91 = .ok (.aload_n 0, 1) := by decide +kernel
theorem dX5_split_92 : decode cX5_split 92 = .ok (.iconst 4, 1) := by decide +kernel
theorem dX5_split_93 : decode cX5_split 93 = .ok (.iconst 3, 1) := by decide +kernel
theorem dX5_split_94 : decode cX5_split 94 = .ok (.invokevirtual 97, 3) := by decide +kernel
theorem dX5_split_97 : decode cX5_split 97 = .ok (.aload_n 0, 1) := by decide +kernel
theorem dX5_split_98 : decode cX5_split 98 = .ok (.iconst 3, 1) := by decide +kernel
theorem dX5_split_99 : decode cX5_split 99 = .ok (.iconst 1, 1) := by decide +kernel
theorem dX5_split_100 : decode cX5_split 100 = .ok (.aload_n 0, 1) := by decide +kernel
theorem dX5_split_101 : decode cX5_split 101 = .ok (.iconst 3, 1) := by decide +kernel
theorem dX5_split_102 : decode cX5_split 102 = .ok (.iconst 1, 1) := by decide +kernel
theorem dX5_split_103 : decode cX5_split 103 = .ok (.invokevirtual 81, 3) := by decide +kernel
theorem dX5_split_106 : decode cX5_split 106 = .ok (.iconst 1, 1) := by decide +kernel
theorem dX5_split_107 : decode cX5_split 107 = .ok (.invokestatic 87, 3) := by decide +kernel
theorem dX5_split_110 : decode cX5_split 110 = .ok (.invokevirtual 90, 3) := by decide +kernel
theorem dX5_split_113 : decode cX5_split 113 = .ok (.aload_n 0, 1) := by decide +kernel
theorem dX5_split_114 : decode cX5_split 114 = .ok (.bipush 8, 2) := by decide +kernel
theorem dX5_split_116 : decode cX5_split 116 = .ok (.iconst 2, 1) := by decide +kernel
theorem dX5_split_117 : decode cX5_split 117 = .ok (.invokevirtual 97, 3) := by decide +kernel
theorem dX5_split_120 : decode cX5_split 120 = .ok (.aload_n 0, 1) := by decide +kernel
theorem dX5_split_121 : decode cX5_split 121 = .ok (.iconst 2, 1) := by decide +kernel
theorem dX5_split_122 : decode cX5_split 122 = .ok (.iconst 3, 1) := by decide +kernel
theorem dX5_split_123 : decode cX5_split 123 = .ok (.invokevirtual 123, 3) := by decide +kernel
theorem dX5_split_126 : decode cX5_split 126 = .ok (.aload_n 0, 1) := by decide +kernel
theorem dX5_split_127 : decode cX5_split 127 = .ok (.iconst 2, 1) := by decide +kernel
theorem dX5_split_128 : decode cX5_split 128 = .ok (.bipush 7, 2) := by decide +kernel
theorem dX5_split_130 : decode cX5_split 130 = .ok (.invokevirtual 97, 3) := by decide +kernel
theorem dX5_split_133 : decode cX5_split 133 = .ok (.aload_n 0, 1) := by decide +kernel
theorem dX5_split_134 : decode cX5_split 134 = .ok (.getfield 29, 3) := by decide +kernel
theorem dX5_split_137 : decode cX5_split 137 = .ok (.iconst 2, 1) := by decide +kernel
theorem dX5_split_138 : decode cX5_split 138 = .ok (.iaload, 1) := by decide +kernel
theorem dX5_split_139 : decode cX5_split 139 = .ok (.iconst 1, 1) := by decide +kernel
theorem dX5_split_140 : decode cX5_split 140 = .ok (.if_icmp .ge 6, 3) := by decide +kernel
theorem dX5_split_143 : decode cX5_split 143 = .ok (.goto 48, 3) := by decide +kernel
theorem dX5_split_146 : decode cX5_split 146 = .ok (.aload_n 0, 1) := by decide +kernel
theorem dX5_split_147 : decode cX5_split 147 = .ok (.bipush 8, 2) := by decide +kernel
theorem dX5_split_149 : decode cX5_split 149 = .ok (.iconst 3, 1) := by decide +kernel
theorem dX5_split_150 : decode cX5_split 150 = .ok (.invokevirtual 97, 3) := by decide +kernel
theorem dX5_split_153 : decode cX5_split 153 = .ok (.aload_n 0, 1) := by decide +kernel
theorem dX5_split_154 : decode cX5_split 154 = .ok (.iconst 3, 1) := by decide +kernel
theorem dX5_split_155 : decode cX5_split 155 = .ok (.iconst 2, 1) := by decide +kernel
theorem dX5_split_156 : decode cX5_split 156 = .ok (.bipush 8, 2) := by decide +kernel
theorem dX5_split_158 : decode cX5_split 158 = .ok (.invokevirtual 94, 3) := by decide +kernel
theorem dX5_split_161 : decode cX5_split 161 = .ok (.aload_n 0, 1) := by decide +kernel
theorem dX5_split_162 : decode cX5_split 162 = .ok (.iconst 2, 1) := by decide +kernel
theorem dX5_split_163 : decode cX5_split 163 = .ok (.bipush 7, 2) := by decide +kernel
theorem dX5_split_165 : decode cX5_split 165 = .ok (.invokevirtual 97, 3) := by decide +kernel
theorem dX5_split_168 : decode cX5_split 168 = .ok (.aload_n 0, 1) := by decide +kernel
theorem dX5_split_169 : decode cX5_split 169 = .ok (.iload_n 1, 1) := by decide +kernel
theorem dX5_split_170 : decode cX5_split 170 = .ok (.invokevirtual 136, 3) := by decide +kernel
theorem dX5_split_173 : decode cX5_split 173 = .ok (.aload_n 0, 1) := by decide +kernel
theorem dX5_split_174 : decode cX5_split 174 = .ok (.getfield 29, 3) := by decide +kernel
theorem dX5_split_177 : decode cX5_split 177 = .ok (.bipush 8, 2) := by decide +kernel
theorem dX5_split_179 : decode cX5_split 179 = .ok (.iaload, 1) := by decide +kernel
theorem dX5_split_180 : decode cX5_split 180 = .ok (.ifCond .le 11, 3) := by decide +kernel
theorem dX5_split_183 : decode cX5_split 183 = .ok (.aload_n 0, 1) := by decide +kernel
theorem dX5_split_184 : decode cX5_split 184 = .ok (.iconst 4, 1) := by decide +kernel
theorem dX5_split_185 : decode cX5_split 185 = .ok (.bipush 8, 2) := by decide +kernel
theorem dX5_split_187 : decode cX5_split 187 = .ok (.iconst 5, 1) := by decide +kernel
theorem dX5_split_188 : decode cX5_split 188 = .ok (.invokevirtual 94, 3) := by decide +kernel
theorem dX5_split_191 : decode cX5_split 191 = .ok (.iinc 1 1, 3) := by decide +kernel
theorem dX5_split_194 : decode cX5_split 194 = .ok (.goto (-168), 3) := by decide +kernel
theorem dX5_split_197 : decode cX5_split 197 = .ok (.return_, 1) := by decide +kernel
theorem dX5_isAhead_0 : decode cX5_isAhead 0 = .ok (.aload_n 0, 1) := by decide +kernel
theorem dX5_isAhead_1 : decode cX5_isAhead 1 = .ok (.getfield 29, 3) := by decide +kernel
theorem dX5_isAhead_4 : decode cX5_isAhead 4 = .ok (.iload_n 1, 1) := by decide +kernel
theorem dX5_isAhead_5 : decode cX5_isAhead 5 = .ok (.iaload, 1) := by decide +kernel
theorem dX5_isAhead_6 : decode cX5_isAhead 6 = .ok (.aload_n 0, 1) := by decide +kernel
theorem dX5_isAhead_7 : decode cX5_isAhead 7 = .ok (.getfield 29, 3) := by decide +kernel
theorem dX5_isAhead_10 : decode cX5_isAhead 10 = .ok (.iload_n 2, 1) := by decide +kernel
theorem dX5_isAhead_11 : decode cX5_isAhead 11 = .ok (.iaload, 1) := by decide +kernel
theorem dX5_isAhead_12 : decode cX5_isAhead 12 = .ok (.if_icmp .eq 24, 3) := by decide +kernel
theorem dX5_isAhead_15 : decode cX5_isAhead 15 = .ok (.aload_n 0, 1) := by decide +kernel
theorem dX5_isAhead_16 : decode cX5_isAhead 16 = .ok (.getfield 29, 3) := by decide +kernel
theorem dX5_isAhead_19 : decode cX5_isAhead 19 = .ok (.iload_n 1, 1) := by decide +kernel
theorem dX5_isAhead_20 : decode cX5_isAhead 20 = .ok (.iaload, 1) := by decide +kernel
theorem dX5_isAhead_21 : decode cX5_isAhead 21 = .ok (.aload_n 0, 1) := by decide +kernel
theorem dX5_isAhead_22 : decode cX5_isAhead 22 = .ok (.getfield 29, 3) := by decide +kernel
theorem dX5_isAhead_25 : decode cX5_isAhead 25 = .ok (.iload_n 2, 1) := by decide +kernel
theorem dX5_isAhead_26 : decode cX5_isAhead 26 = .ok (.iaload, 1) := by decide +kernel
theorem dX5_isAhead_27 : decode cX5_isAhead 27 = .ok (.if_icmp .ge 7, 3) := by decide +kernel
theorem dX5_isAhead_30 : decode cX5_isAhead 30 = .ok (.iconst 1, 1) := by decide +kernel
theorem dX5_isAhead_31 : decode cX5_isAhead 31 = .ok (.goto 4, 3) := by decide +kernel
theorem dX5_isAhead_34 : decode cX5_isAhead 34 = .ok (.iconst 0, 1) := by decide +kernel
theorem dX5_isAhead_35 : decode cX5_isAhead 35 = .ok (.ireturn, 1) := by decide +kernel
theorem dX5_isAhead_36 : decode cX5_isAhead 36 = .ok (.iconst 5, 1) := by decide +kernel
theorem dX5_isAhead_37 : decode cX5_isAhead 37 = .ok (.istore_n 3, 1) := by decide +kernel
theorem dX5_isAhead_38 : decode cX5_isAhead 38 = .ok (.iload_n 3, 1) := by decide +kernel
theorem dX5_isAhead_39 : decode cX5_isAhead 39 = .ok (.ifCond .le 24, 3) := by decide +kernel
theorem dX5_isAhead_42 : decode cX5_isAhead 42 = .ok (.aload_n 0, 1) := by decide +kernel
theorem dX5_isAhead_43 : decode cX5_isAhead 43 = .ok (.iload_n 1, 1) := by decide +kernel
theorem dX5_isAhead_44 : decode cX5_isAhead 44 = .ok (.iload_n 3, 1) := by decide +kernel
theorem dX5_isAhead_45 : decode cX5_isAhead 45 = .ok (.invokevirtual 81, 3) := by decide +kernel
theorem dX5_isAhead_48 : decode cX5_isAhead 48 = .ok (.aload_n 0, 1) := by decide +kernel
theorem dX5_isAhead_49 : decode cX5_isAhead 49 = .ok (.iload_n 2, 1) := by decide +kernel
theorem dX5_isAhead_50 : decode cX5_isAhead 50 = .ok (.iload_n 3, 1) := by decide +kernel
theorem dX5_isAhead_51 : decode cX5_isAhead 51 = .ok (.invokevirtual 81, 3) := by decide +kernel
theorem dX5_isAhead_54 : decode cX5_isAhead 54 = .ok (.if_icmp .ne 9, 3) := by decide +kernel
theorem dX5_isAhead_57 : decode cX5_isAhead 57 = .ok (.iinc 3 (-1), 3) := by decide +kernel
theorem dX5_isAhead_60 : decode cX5_isAhead 60 = .ok (.goto (-22), 3) := by decide +kernel
theorem dX5_isAhead_63 : decode cX5_isAhead 63 = .ok (.aload_n 0, 1) := by decide +kernel
theorem dX5_isAhead_64 : decode cX5_isAhead 64 = .ok (.iload_n 1, 1) := by decide +kernel
theorem dX5_isAhead_65 : decode cX5_isAhead 65 = .ok (.iload_n 3, 1) := by decide +kernel
theorem dX5_isAhead_66 : decode cX5_isAhead 66 = .ok (.invokevirtual 81, 3) := by decide +kernel
theorem dX5_isAhead_69 : decode cX5_isAhead 69 = .ok (.aload_n 0, 1) := by decide +kernel
theorem dX5_isAhead_70 : decode cX5_isAhead 70 = .ok (.iload_n 2, 1) := by decide +kernel
theorem dX5_isAhead_71 : decode cX5_isAhead 71 = .ok (.iload_n 3, 1) := by decide +kernel
theorem dX5_isAhead_72 : decode cX5_isAhead 72 = .ok (.invokevirtual 81, 3) := by decide +kernel
theorem dX5_isAhead_75 : decode cX5_isAhead 75 = .ok (.if_icmp .ge 7, 3) := by decide +kernel
theorem dX5_isAhead_78 : decode cX5_isAhead 78 = .ok (.iconst 1, 1) := by decide +kernel
theorem dX5_isAhead_79 : decode cX5_isAhead 79 = .ok (.goto 4, 3) := by decide +kernel
theorem dX5_isAhead_82 : decode cX5_isAhead 82 = .ok (.iconst 0, 1) := by decide +kernel
theorem dX5_isAhead_83 : decode cX5_isAhead 83 = .ok (.ireturn, 1) := by decide +kernel
theorem dX5_order_0 : decode cX5_order 0 = .ok (.iconst 1, 1) := by decide +kernel
theorem dX5_order_1 : decode cX5_order 1 = .ok (.istore_n 1, 1) := by decide +kernel
theorem dX5_order_2 : decode cX5_order 2 = .ok (.iload_n 1, 1) := by decide +kernel
theorem dX5_order_3 : decode cX5_order 3 = .ok (.aload_n 0, 1) := by decide +kernel
theorem dX5_order_4 : decode cX5_order 4 = .ok (.getfield 126, 3) := by decide +kernel
theorem dX5_order_7 : decode cX5_order 7 = .ok (.if_icmp .ge 72, 3) := by decide +kernel
theorem dX5_order_10 : decode cX5_order 10 = .ok (.iload_n 1, 1) := by decide +kernel
theorem dX5_order_11 : decode cX5_order 11 = .ok (.istore_n 2, 1) := by decide +kernel
theorem dX5_order_12 : decode cX5_order 12 = .ok (.iload_n 2, 1) := by decide +kernel
theorem dX5_order_13 : decode cX5_order 13 = .ok (.ifCond .le 60, 3) := by decide +kernel
theorem dX5_order_16 : decode cX5_order 16 = .ok (.aload_n 0, 1) := by decide +kernel
theorem dX5_order_17 : decode cX5_order 17 = .ok (.bipush 20, 2) := by decide +kernel
theorem dX5_order_19 : decode cX5_order 19 = .ok (.iload_n 2, 1) := by decide +kernel
theorem dX5_order_20 : decode cX5_order 20 = .ok (.iadd, 1) := by decide +kernel
theorem dX5_order_21 : decode cX5_order 21 = .ok (.bipush 20, 2) := by decide +kernel
theorem dX5_order_23 : decode cX5_order 23 = .ok (.iload_n 2, 1) := by decide +kernel
theorem dX5_order_24 : decode cX5_order 24 = .ok (.iadd, 1) := by decide +kernel
theorem dX5_order_25 : decode cX5_order 25 = .ok (.iconst 1, 1) := by decide +kernel
theorem dX5_order_26 : decode cX5_order 26 = .ok (.isub, 1) := by decide +kernel
theorem dX5_order_27 : decode cX5_order 27 = .ok (.invokevirtual 139, 3) := by decide +kernel
theorem dX5_order_30 : decode cX5_order 30 = .ok (.ifCond .eq 43, 3) := by decide +kernel
theorem dX5_order_33 : decode cX5_order 33 = .ok (.aload_n 0, 1) := by decide +kernel
theorem dX5_order_34 : decode cX5_order 34 = .ok (.bipush 20, 2) := by decide +kernel
theorem dX5_order_36 : decode cX5_order 36 = .ok (.iload_n 2, 1) := by decide +kernel
theorem dX5_order_37 : decode cX5_order 37 = .ok (.iadd, 1) := by decide +kernel
theorem dX5_order_38 : decode cX5_order 38 = .ok (.iconst 2, 1) := by decide +kernel
theorem dX5_order_39 : decode cX5_order 39 = .ok (.invokevirtual 97, 3) := by decide +kernel
theorem dX5_order_42 : decode cX5_order 42 = .ok (.aload_n 0, 1) := by decide +kernel
theorem dX5_order_43 : decode cX5_order 43 = .ok (.bipush 20, 2) := by decide +kernel
theorem dX5_order_45 : decode cX5_order 45 = .ok (.iload_n 2, 1) := by decide +kernel
theorem dX5_order_46 : decode cX5_order 46 = .ok (.iadd, 1) := by decide +kernel
theorem dX5_order_47 : decode cX5_order 47 = .ok (.iconst 1, 1) := by decide +kernel
theorem dX5_order_48 : decode cX5_order 48 = .ok (.isub, 1) := by decide +kernel
theorem dX5_order_49 : decode cX5_order 49 = .ok (.bipush 20, 2) := by decide +kernel
theorem dX5_order_51 : decode cX5_order 51 = .ok (.iload_n 2, 1) := by decide +kernel
theorem dX5_order_52 : decode cX5_order 52 = .ok (.iadd, 1) := by decide +kernel
theorem dX5_order_53 : decode cX5_order 53 = .ok (.invokevirtual 97, 3) := by decide +kernel
theorem dX5_order_56 : decode cX5_order 56 = .ok (.aload_n 0, 1) := by decide +kernel
theorem dX5_order_57 : decode cX5_order 57 = .ok (.iconst 2, 1) := by decide +kernel
theorem dX5_order_58 : decode cX5_order 58 = .ok (.bipush 20, 2) := by decide +kernel
theorem dX5_order_60 : decode cX5_order 60 = .ok (.iload_n 2, 1) := by decide +kernel
theorem dX5_order_61 : decode cX5_order 61 = .ok (.iadd, 1) := by decide +kernel
theorem dX5_order_62 : decode cX5_order 62 = .ok (.iconst 1, 1) := by decide +kernel
theorem dX5_order_63 : decode cX5_order 63 = .ok (.isub, 1) := by decide +kernel
theorem dX5_order_64 : decode cX5_order 64 = .ok (.invokevirtual 97, 3) := by decide +kernel
theorem dX5_order_67 : decode cX5_order 67 = .ok (.iinc 2 (-1), 3) := by decide +kernel
theorem dX5_order_70 : decode cX5_order 70 = .ok (.goto (-58), 3) := by decide +kernel
theorem dX5_order_73 : decode cX5_order 73 = .ok (.iinc 1 1, 3) := by decide +kernel
theorem dX5_order_76 : decode cX5_order 76 = .ok (.goto (-74), 3) := by decide +kernel
theorem dX5_order_79 : decode cX5_order 79 = .ok (.return_, 1) := by decide +kernel
theorem dX5_factorise_0 : decode cX5_factorise 0 = .ok (.aload_n 0, 1) := by decide +kernel
theorem dX5_factorise_1 : decode cX5_factorise 1 = .ok (.getfield 77, 3) := by decide +kernel
theorem dX5_factorise_4 : decode cX5_factorise 4 = .ok (.ifCond .eq 4, 3) := by decide +kernel
theorem dX5_factorise_7 : decode cX5_factorise 7 = .ok (.return_, 1) := by decide +kernel
theorem dX5_factorise_8 : decode cX5_factorise 8 = .ok (.aload_n 0, 1) := by decide +kernel
theorem dX5_factorise_9 : decode cX5_factorise 9 = .ok (.invokevirtual 143, 3) := by decide +kernel
theorem dX5_factorise_12 : decode cX5_factorise 12 = .ok (.aload_n 0, 1) := by decide +kernel
theorem dX5_factorise_13 : decode cX5_factorise 13 = .ok (.invokevirtual 146, 3) := by decide +kernel
theorem dX5_factorise_16 : decode cX5_factorise 16 = .ok (.aload_n 0, 1) := by decide +kernel
theorem dX5_factorise_17 : decode cX5_factorise 17 = .ok (.invokevirtual 149, 3) := by decide +kernel
theorem dX5_factorise_20 : decode cX5_factorise 20 = .ok (.iconst 0, 1) := by decide +kernel
theorem dX5_factorise_21 : decode cX5_factorise 21 = .ok (.istore_n 1, 1) := by decide +kernel
theorem dX5_factorise_22 : decode cX5_factorise 22 = .ok (.iload_n 1, 1) := by decide +kernel
theorem dX5_factorise_23 : decode cX5_factorise 23 = .ok (.aload_n 0, 1) := by decide +kernel
theorem dX5_factorise_24 : decode cX5_factorise 24 = .ok (.getfield 126, 3) := by decide +kernel
theorem dX5_factorise_27 : decode cX5_factorise 27 = .ok (.if_icmp .ge 89, 3) := by decide +kernel
theorem dX5_factorise_30 : decode cX5_factorise 30 = .ok (.aload_n 0, 1) := by decide +kernel
theorem dX5_factorise_31 : decode cX5_factorise 31 = .ok (.getfield 32, 3) := by decide +kernel
theorem dX5_factorise_34 : decode cX5_factorise 34 = .ok (.iload_n 1, 1) := by decide +kernel
theorem dX5_factorise_35 : decode cX5_factorise 35 = .ok (.iconst 0, 1) := by decide +kernel
theorem dX5_factorise_36 : decode cX5_factorise 36 = .ok (.iastore, 1) := by decide +kernel
theorem dX5_factorise_37 : decode cX5_factorise 37 = .ok (.aload_n 0, 1) := by decide +kernel
theorem dX5_factorise_38 : decode cX5_factorise 38 = .ok (.iconst 0, 1) := by decide +kernel
theorem dX5_factorise_39 : decode cX5_factorise 39 = .ok (.iconst 2, 1) := by decide +kernel
theorem dX5_factorise_40 : decode cX5_factorise 40 = .ok (.invokevirtual 97, 3) := by decide +kernel
theorem dX5_factorise_43 : decode cX5_factorise 43 = .ok (.iconst 1, 1) := by decide +kernel
theorem dX5_factorise_44 : decode cX5_factorise 44 = .ok (.istore_n 2, 1) := by decide +kernel
theorem dX5_factorise_45 : decode cX5_factorise 45 = .ok (.iload_n 2, 1) := by decide +kernel
theorem dX5_factorise_46 : decode cX5_factorise 46 = .ok (.ifCond .eq 64, 3) := by decide +kernel
theorem dX5_factorise_49 : decode cX5_factorise 49 = .ok (.aload_n 0, 1) := by decide +kernel
theorem dX5_factorise_50 : decode cX5_factorise 50 = .ok (.iconst 2, 1) := by decide +kernel
theorem dX5_factorise_51 : decode cX5_factorise 51 = .ok (.bipush 20, 2) := by decide +kernel
theorem dX5_factorise_53 : decode cX5_factorise 53 = .ok (.iload_n 1, 1) := by decide +kernel
theorem dX5_factorise_54 : decode cX5_factorise 54 = .ok (.iadd, 1) := by decide +kernel
theorem dX5_factorise_55 : decode cX5_factorise 55 = .ok (.iconst 3, 1) := by decide +kernel
theorem dX5_factorise_56 : decode cX5_factorise 56 = .ok (.invokevirtual 94, 3) := by decide +kernel
theorem dX5_factorise_59 : decode cX5_factorise 59 = .ok (.aload_n 0, 1) := by decide +kernel
theorem dX5_factorise_60 : decode cX5_factorise 60 = .ok (.getfield 29, 3) := by decide +kernel
theorem dX5_factorise_63 : decode cX5_factorise 63 = .ok (.iconst 2, 1) := by decide +kernel
theorem dX5_factorise_64 : decode cX5_factorise 64 = .ok (.iaload, 1) := by decide +kernel
theorem dX5_factorise_65 : decode cX5_factorise 65 = .ok (.ifCond .ge 16, 3) := by decide +kernel
theorem dX5_factorise_68 : decode cX5_factorise 68 = .ok (.aload_n 0, 1) := by decide +kernel
theorem dX5_factorise_69 : decode cX5_factorise 69 = .ok (.getfield 29, 3) := by decide +kernel
theorem dX5_factorise_72 : decode cX5_factorise 72 = .ok (.iconst 3, 1) := by decide +kernel
theorem dX5_factorise_73 : decode cX5_factorise 73 = .ok (.iaload, 1) := by decide +kernel
theorem dX5_factorise_74 : decode cX5_factorise 74 = .ok (.ifCond .lt 7, 3) := by decide +kernel
theorem dX5_factorise_77 : decode cX5_factorise 77 = .ok (.iconst 1, 1) := by decide +kernel
theorem dX5_factorise_78 : decode cX5_factorise 78 = .ok (.goto 4, 3) := by decide +kernel
theorem dX5_factorise_81 : decode cX5_factorise 81 = .ok (.iconst 0, 1) := by decide +kernel
theorem dX5_factorise_82 : decode cX5_factorise 82 = .ok (.istore_n 2, 1) := by decide +kernel
theorem dX5_factorise_83 : decode cX5_factorise 83 = .ok (.aload_n 0, 1) := by decide +kernel
theorem dX5_factorise_84 : decode cX5_factorise 84 = .ok (.getfield 32, 3) := by decide +kernel
theorem dX5_factorise_87 : decode cX5_factorise 87 = .ok (.iload_n 1, 1) := by decide +kernel
theorem dX5_factorise_88 : decode cX5_factorise 88 = .ok (.dup2, 1) := by decide +kernel
theorem dX5_factorise_89 : decode cX5_factorise 89 = .ok (.iaload, 1) := by decide +kernel
theorem dX5_factorise_90 : decode cX5_factorise 90 = .ok (.iload_n 2, 1) := by decide +kernel
theorem dX5_factorise_91 : decode cX5_factorise 91 = .ok (.ifCond .eq 7, 3) := by decide +kernel
theorem dX5_factorise_94 : decode cX5_factorise 94 = .ok (.iconst 1, 1) := by decide +kernel
theorem dX5_factorise_95 : decode cX5_factorise 95 = .ok (.goto 4, 3) := by decide +kernel
theorem dX5_factorise_98 : decode cX5_factorise 98 = .ok (.iconst 0, 1) := by decide +kernel
theorem dX5_factorise_99 : decode cX5_factorise 99 = .ok (.iadd, 1) := by decide +kernel
theorem dX5_factorise_100 : decode cX5_factorise 100 = .ok (.iastore, 1) := by decide +kernel
theorem dX5_factorise_101 : decode cX5_factorise 101 = .ok (.aload_n 0, 1) := by decide +kernel
theorem dX5_factorise_102 : decode cX5_factorise 102 = .ok (.iconst 3, 1) := by decide +kernel
theorem dX5_factorise_103 : decode cX5_factorise 103 = .ok (.iconst 2, 1) := by decide +kernel
theorem dX5_factorise_104 : decode cX5_factorise 104 = .ok (.invokevirtual 97, 3) := by decide +kernel
theorem dX5_factorise_107 : decode cX5_factorise 107 = .ok (.goto (-62), 3) := by decide +kernel
theorem dX5_factorise_110 : decode cX5_factorise 110 = .ok (.iinc 1 1, 3) := by decide +kernel
theorem dX5_factorise_113 : decode cX5_factorise 113 = .ok (.goto (-91), 3) := by decide +kernel
theorem dX5_factorise_116 : decode cX5_factorise 116 = .ok (.aload_n 0, 1) := by decide +kernel
theorem dX5_factorise_117 : decode cX5_factorise 117 = .ok (.iconst 1, 1) := by decide +kernel
theorem dX5_factorise_118 : decode cX5_factorise 118 = .ok (.putfield 77, 3) := by decide +kernel
theorem dX5_factorise_121 : decode cX5_factorise 121 = .ok (.return_, 1) := by decide +kernel
theorem dX5_isNothing_0 : decode cX5_isNothing 0 = .ok (.aload_n 0, 1) := by decide +kernel
theorem dX5_isNothing_1 : decode cX5_isNothing 1 = .ok (.getfield 29, 3) := by decide +kernel
theorem dX5_isNothing_4 : decode cX5_isNothing 4 = .ok (.iconst 0, 1) := by decide +kernel
theorem dX5_isNothing_5 : decode cX5_isNothing 5 = .ok (.iaload, 1) := by decide +kernel
theorem dX5_isNothing_6 : decode cX5_isNothing 6 = .ok (.ifCond .ge 7, 3) := by decide +kernel
theorem dX5_isNothing_9 : decode cX5_isNothing 9 = .ok (.iconst 1, 1) := by decide +kernel
theorem dX5_isNothing_10 : decode cX5_isNothing 10 = .ok (.goto 4, 3) := by decide +kernel
theorem dX5_isNothing_13 : decode cX5_isNothing 13 = .ok (.iconst 0, 1) := by decide +kernel
theorem dX5_isNothing_14 : decode cX5_isNothing 14 = .ok (.ireturn, 1) := by decide +kernel
theorem dX5_shift_0 : decode cX5_shift 0 = .ok (.aload_n 0, 1) := by decide +kernel
theorem dX5_shift_1 : decode cX5_shift 1 = .ok (.aload_n 0, 1) := by decide +kernel
theorem dX5_shift_2 : decode cX5_shift 2 = .ok (.invokevirtual 152, 3) := by decide +kernel
theorem dX5_shift_5 : decode cX5_shift 5 = .ok (.iconst 0, 1) := by decide +kernel
theorem dX5_shift_6 : decode cX5_shift 6 = .ok (.invokevirtual 61, 3) := by decide +kernel
theorem dX5_shift_9 : decode cX5_shift 9 = .ok (.ifCond .eq 5, 3) := by decide +kernel
theorem dX5_shift_12 : decode cX5_shift 12 = .ok (.iconst 0, 1) := by decide +kernel
theorem dX5_shift_13 : decode cX5_shift 13 = .ok (.ireturn, 1) := by decide +kernel
theorem dX5_shift_14 : decode cX5_shift 14 = .ok (.aload_n 0, 1) := by decide +kernel
theorem dX5_shift_15 : decode cX5_shift 15 = .ok (.invokevirtual 143, 3) := by decide +kernel
theorem dX5_shift_18 : decode cX5_shift 18 = .ok (.aload_n 0, 1) := by decide +kernel
theorem dX5_shift_19 : decode cX5_shift 19 = .ok (.getfield 7, 3) := by decide +kernel
theorem dX5_shift_22 : decode cX5_shift 22 = .ok (.iconst 1, 1) := by decide +kernel
theorem dX5_shift_23 : decode cX5_shift 23 = .ok (.if_icmp .ne 7, 3) := by decide +kernel
theorem dX5_shift_26 : decode cX5_shift 26 = .ok (.iconst 0, 1) := by decide +kernel
theorem dX5_shift_27 : decode cX5_shift 27 = .ok (.goto 5, 3) := by decide +kernel
theorem dX5_shift_30 : decode cX5_shift 30 = .ok (.bipush 101, 2) := by decide +kernel
theorem dX5_shift_32 : decode cX5_shift 32 = .ok (.istore_n 1, 1) := by decide +kernel
theorem dX5_shift_33 : decode cX5_shift 33 = .ok (.iconst 0, 1) := by decide +kernel
theorem dX5_shift_34 : decode cX5_shift 34 = .ok (.istore_n 2, 1) := by decide +kernel
theorem dX5_shift_35 : decode cX5_shift 35 = .ok (.iconst 1, 1) := by decide +kernel
theorem dX5_shift_36 : decode cX5_shift 36 = .ok (.istore_n 3, 1) := by decide +kernel
theorem dX5_shift_37 : decode cX5_shift 37 = .ok (.iload_n 3, 1) := by decide +kernel
theorem dX5_shift_38 : decode cX5_shift 38 = .ok (.ifCond .eq 83, 3) := by decide +kernel
theorem dX5_shift_41 : decode cX5_shift 41 = .ok (.iload_n 2, 1) := by decide +kernel
theorem dX5_shift_42 : decode cX5_shift 42 = .ok (.bipush 101, 2) := by decide +kernel
theorem dX5_shift_44 : decode cX5_shift 44 = .ok (.if_icmp .ge 77, 3) := by decide +kernel
theorem dX5_shift_47 : decode cX5_shift 47 = .ok (.aload_n 0, 1) := by decide +kernel
theorem dX5_shift_48 : decode cX5_shift 48 = .ok (.iconst 1, 1) := by decide +kernel
theorem dX5_shift_49 : decode cX5_shift 49 = .ok (.aload_n 0, 1) := by decide +kernel
theorem dX5_shift_50 : decode cX5_shift 50 = .ok (.iload_n 1, 1) := by decide +kernel
theorem dX5_shift_51 : decode cX5_shift 51 = .ok (.iload_n 2, 1) := by decide +kernel
theorem dX5_shift_52 : decode cX5_shift 52 = .ok (.invokevirtual 49, 3) := by decide +kernel
theorem dX5_shift_55 : decode cX5_shift 55 = .ok (.invokestatic 38, 3) := by decide +kernel
theorem dX5_shift_58 : decode cX5_shift 58 = .ok (.bipush 8, 2) := by decide +kernel
theorem dX5_shift_60 : decode cX5_shift 60 = .ok (.invokevirtual 156, 3) := by decide +kernel
theorem dX5_shift_63 : decode cX5_shift 63 = .ok (.aload_n 0, 1) := by decide +kernel
theorem dX5_shift_64 : decode cX5_shift 64 = .ok (.bipush 8, 2) := by decide +kernel
theorem dX5_shift_66 : decode cX5_shift 66 = .ok (.bipush 10, 2) := by decide +kernel
theorem dX5_shift_68 : decode cX5_shift 68 = .ok (.invokevirtual 117, 3) := by decide +kernel
theorem dX5_shift_71 : decode cX5_shift 71 = .ok (.aload_n 0, 1) := by decide +kernel
theorem dX5_shift_72 : decode cX5_shift 72 = .ok (.bipush 10, 2) := by decide +kernel
theorem dX5_shift_74 : decode cX5_shift 74 = .ok (.iconst 2, 1) := by decide +kernel
theorem dX5_shift_75 : decode cX5_shift 75 = .ok (.invokevirtual 97, 3) := by decide +kernel
theorem dX5_shift_78 : decode cX5_shift 78 = .ok (.aload_n 0, 1) := by decide +kernel
theorem dX5_shift_79 : decode cX5_shift 79 = .ok (.bipush 10, 2) := by decide +kernel
theorem dX5_shift_81 : decode cX5_shift 81 = .ok (.iconst 3, 1) := by decide +kernel
theorem dX5_shift_82 : decode cX5_shift 82 = .ok (.invokevirtual 120, 3) := by decide +kernel
theorem dX5_shift_85 : decode cX5_shift 85 = .ok (.aload_n 0, 1) := by decide +kernel
theorem dX5_shift_86 : decode cX5_shift 86 = .ok (.iconst 2, 1) := by decide +kernel
theorem dX5_shift_87 : decode cX5_shift 87 = .ok (.iconst 3, 1) := by decide +kernel
theorem dX5_shift_88 : decode cX5_shift 88 = .ok (.invokevirtual 123, 3) := by decide +kernel
theorem dX5_shift_91 : decode cX5_shift 91 = .ok (.aload_n 0, 1) := by decide +kernel
theorem dX5_shift_92 : decode cX5_shift 92 = .ok (.getfield 29, 3) := by decide +kernel
theorem dX5_shift_95 : decode cX5_shift 95 = .ok (.iconst 2, 1) := by decide +kernel
theorem dX5_shift_96 : decode cX5_shift 96 = .ok (.iaload, 1) := by decide +kernel
theorem dX5_shift_97 : decode cX5_shift 97 = .ok (.ifCond .le 7, 3) := by decide +kernel
theorem dX5_shift_100 : decode cX5_shift 100 = .ok (.iconst 1, 1) := by decide +kernel
theorem dX5_shift_101 : decode cX5_shift 101 = .ok (.goto 4, 3) := by decide +kernel
theorem dX5_shift_104 : decode cX5_shift 104 = .ok (.iconst 0, 1) := by decide +kernel
theorem dX5_shift_105 : decode cX5_shift 105 = .ok (.istore_n 3, 1) := by decide +kernel
theorem dX5_shift_106 : decode cX5_shift 106 = .ok (.iload_n 2, 1) := by decide +kernel
theorem dX5_shift_107 : decode cX5_shift 107 = .ok (.iload_n 3, 1) := by decide +kernel
theorem dX5_shift_108 : decode cX5_shift 108 = .ok (.ifCond .eq 7, 3) := by decide +kernel
theorem dX5_shift_111 : decode cX5_shift 111 = .ok (.iconst 1, 1) := by decide +kernel
theorem dX5_shift_112 : decode cX5_shift 112 = .ok (.goto 4, 3) := by decide +kernel
theorem dX5_shift_115 : decode cX5_shift 115 = .ok (.iconst 0, 1) := by decide +kernel
theorem dX5_shift_116 : decode cX5_shift 116 = .ok (.iadd, 1) := by decide +kernel
theorem dX5_shift_117 : decode cX5_shift 117 = .ok (.istore_n 2, 1) := by decide +kernel
theorem dX5_shift_118 : decode cX5_shift 118 = .ok (.goto (-81), 3) := by decide +kernel
theorem dX5_shift_121 : decode cX5_shift 121 = .ok (.iload_n 2, 1) := by decide +kernel
theorem dX5_shift_122 : decode cX5_shift 122 = .ok (.ireturn, 1) := by decide +kernel
theorem dX5_factors_0 : decode cX5_factors 0 = .ok (.aload_n 0, 1) := by decide +kernel
theorem dX5_factors_1 : decode cX5_factors 1 = .ok (.aload_n 0, 1) := by decide +kernel
theorem dX5_factors_2 : decode cX5_factors 2 = .ok (.invokevirtual 152, 3) := by decide +kernel
theorem dX5_factors_5 : decode cX5_factors 5 = .ok (.iconst 0, 1) := by decide +kernel
theorem dX5_factors_6 : decode cX5_factors 6 = .ok (.invokevirtual 61, 3) := by decide +kernel
theorem dX5_factors_9 : decode cX5_factors 9 = .ok (.ifCond .eq 5, 3) := by decide +kernel
theorem dX5_factors_12 : decode cX5_factors 12 = .ok (.iconst 0, 1) := by decide +kernel
theorem dX5_factors_13 : decode cX5_factors 13 = .ok (.ireturn, 1) := by decide +kernel
theorem dX5_factors_14 : decode cX5_factors 14 = .ok (.aload_n 0, 1) := by decide +kernel
theorem dX5_factors_15 : decode cX5_factors 15 = .ok (.invokevirtual 159, 3) := by decide +kernel
theorem dX5_factors_18 : decode cX5_factors 18 = .ok (.aload_n 0, 1) := by decide +kernel
theorem dX5_factors_19 : decode cX5_factors 19 = .ok (.getfield 126, 3) := by decide +kernel
theorem dX5_factors_22 : decode cX5_factors 22 = .ok (.ireturn, 1) := by decide +kernel
theorem dX5_lacks_0 : decode cX5_lacks 0 = .ok (.aload_n 0, 1) := by decide +kernel
theorem dX5_lacks_1 : decode cX5_lacks 1 = .ok (.invokevirtual 152, 3) := by decide +kernel
theorem dX5_lacks_4 : decode cX5_lacks 4 = .ok (.ifCond .eq 5, 3) := by decide +kernel
theorem dX5_lacks_7 : decode cX5_lacks 7 = .ok (.iconst 0, 1) := by decide +kernel
theorem dX5_lacks_8 : decode cX5_lacks 8 = .ok (.ireturn, 1) := by decide +kernel
theorem dX5_lacks_9 : decode cX5_lacks 9 = .ok (.aload_n 0, 1) := by decide +kernel
theorem dX5_lacks_10 : decode cX5_lacks 10 = .ok (.invokevirtual 159, 3) := by decide +kernel
theorem dX5_lacks_13 : decode cX5_lacks 13 = .ok (.iload_n 1, 1) := by decide +kernel
theorem dX5_lacks_14 : decode cX5_lacks 14 = .ok (.ifCond .lt 11, 3) := by decide +kernel
theorem dX5_lacks_17 : decode cX5_lacks 17 = .ok (.iload_n 1, 1) := by decide +kernel
theorem dX5_lacks_18 : decode cX5_lacks 18 = .ok (.aload_n 0, 1) := by decide +kernel
theorem dX5_lacks_19 : decode cX5_lacks 19 = .ok (.getfield 126, 3) := by decide +kernel
theorem dX5_lacks_22 : decode cX5_lacks 22 = .ok (.if_icmp .lt 7, 3) := by decide +kernel
theorem dX5_lacks_25 : decode cX5_lacks 25 = .ok (.iconst 1, 1) := by decide +kernel
theorem dX5_lacks_26 : decode cX5_lacks 26 = .ok (.goto 4, 3) := by decide +kernel
theorem dX5_lacks_29 : decode cX5_lacks 29 = .ok (.iconst 0, 1) := by decide +kernel
theorem dX5_lacks_30 : decode cX5_lacks 30 = .ok (.ireturn, 1) := by decide +kernel
theorem dX5_factor_0 : decode cX5_factor 0 = .ok (.aload_n 0, 1) := by decide +kernel
theorem dX5_factor_1 : decode cX5_factor 1 = .ok (.aload_n 0, 1) := by decide +kernel
theorem dX5_factor_2 : decode cX5_factor 2 = .ok (.invokevirtual 152, 3) := by decide +kernel
theorem dX5_factor_5 : decode cX5_factor 5 = .ok (.aload_n 0, 1) := by decide +kernel
theorem dX5_factor_6 : decode cX5_factor 6 = .ok (.iload_n 1, 1) := by decide +kernel
theorem dX5_factor_7 : decode cX5_factor 7 = .ok (.invokevirtual 162, 3) := by decide +kernel
theorem dX5_factor_10 : decode cX5_factor 10 = .ok (.ifCond .ne 11, 3) := by decide +kernel
theorem dX5_factor_13 : decode cX5_factor 13 = .ok (.aload_n 0, 1) := by decide +kernel
theorem dX5_factor_14 : decode cX5_factor 14 = .ok (.iload_n 2, 1) := by decide +kernel
theorem dX5_factor_15 : decode cX5_factor 15 = .ok (.invokevirtual 107, 3) := by decide +kernel
theorem dX5_factor_18 : decode cX5_factor 18 = .ok (.ifCond .ne 7, 3) := by decide +kernel
theorem dX5_factor_21 : decode cX5_factor 21 = .ok (.iconst 1, 1) := by decide +kernel
theorem dX5_factor_22 : decode cX5_factor 22 = .ok (.goto 4, 3) := by decide +kernel
theorem dX5_factor_25 : decode cX5_factor 25 = .ok (.iconst 0, 1) := by decide +kernel
theorem dX5_factor_26 : decode cX5_factor 26 = .ok (.invokevirtual 61, 3) := by decide +kernel
theorem dX5_factor_29 : decode cX5_factor 29 = .ok (.ifCond .eq 5, 3) := by decide +kernel
theorem dX5_factor_32 : decode cX5_factor 32 = .ok (.iconst 0, 1) := by decide +kernel
theorem dX5_factor_33 : decode cX5_factor 33 = .ok (.ireturn, 1) := by decide +kernel
theorem dX5_factor_34 : decode cX5_factor 34 = .ok (.aload_n 0, 1) := by decide +kernel
theorem dX5_factor_35 : decode cX5_factor 35 = .ok (.bipush 20, 2) := by decide +kernel
theorem dX5_factor_37 : decode cX5_factor 37 = .ok (.iload_n 1, 1) := by decide +kernel
theorem dX5_factor_38 : decode cX5_factor 38 = .ok (.iadd, 1) := by decide +kernel
theorem dX5_factor_39 : decode cX5_factor 39 = .ok (.iload_n 2, 1) := by decide +kernel
theorem dX5_factor_40 : decode cX5_factor 40 = .ok (.invokevirtual 81, 3) := by decide +kernel
theorem dX5_factor_43 : decode cX5_factor 43 = .ok (.ireturn, 1) := by decide +kernel
theorem dX5_often_0 : decode cX5_often 0 = .ok (.aload_n 0, 1) := by decide +kernel
theorem dX5_often_1 : decode cX5_often 1 = .ok (.aload_n 0, 1) := by decide +kernel
theorem dX5_often_2 : decode cX5_often 2 = .ok (.invokevirtual 152, 3) := by decide +kernel
theorem dX5_often_5 : decode cX5_often 5 = .ok (.aload_n 0, 1) := by decide +kernel
theorem dX5_often_6 : decode cX5_often 6 = .ok (.iload_n 1, 1) := by decide +kernel
theorem dX5_often_7 : decode cX5_often 7 = .ok (.invokevirtual 162, 3) := by decide +kernel
theorem dX5_often_10 : decode cX5_often 10 = .ok (.invokevirtual 61, 3) := by decide +kernel
theorem dX5_often_13 : decode cX5_often 13 = .ok (.ifCond .eq 5, 3) := by decide +kernel
theorem dX5_often_16 : decode cX5_often 16 = .ok (.iconst 0, 1) := by decide +kernel
theorem dX5_often_17 : decode cX5_often 17 = .ok (.ireturn, 1) := by decide +kernel
theorem dX5_often_18 : decode cX5_often 18 = .ok (.aload_n 0, 1) := by decide +kernel
theorem dX5_often_19 : decode cX5_often 19 = .ok (.getfield 32, 3) := by decide +kernel
theorem dX5_often_22 : decode cX5_often 22 = .ok (.iload_n 1, 1) := by decide +kernel
theorem dX5_often_23 : decode cX5_often 23 = .ok (.iaload, 1) := by decide +kernel
theorem dX5_often_24 : decode cX5_often 24 = .ok (.ireturn, 1) := by decide +kernel
theorem dX5_splitting_0 : decode cX5_splitting 0 = .ok (.aload_n 0, 1) := by decide +kernel
theorem dX5_splitting_1 : decode cX5_splitting 1 = .ok (.aload_n 0, 1) := by decide +kernel
theorem dX5_splitting_2 : decode cX5_splitting 2 = .ok (.invokevirtual 152, 3) := by decide +kernel
theorem dX5_splitting_5 : decode cX5_splitting 5 = .ok (.iconst 0, 1) := by decide +kernel
theorem dX5_splitting_6 : decode cX5_splitting 6 = .ok (.invokevirtual 61, 3) := by decide +kernel
theorem dX5_splitting_9 : decode cX5_splitting 9 = .ok (.ifCond .eq 5, 3) := by decide +kernel
theorem dX5_splitting_12 : decode cX5_splitting 12 = .ok (.iconst 0, 1) := by decide +kernel
theorem dX5_splitting_13 : decode cX5_splitting 13 = .ok (.ireturn, 1) := by decide +kernel
theorem dX5_splitting_14 : decode cX5_splitting 14 = .ok (.aload_n 0, 1) := by decide +kernel
theorem dX5_splitting_15 : decode cX5_splitting 15 = .ok (.invokevirtual 159, 3) := by decide +kernel
theorem dX5_splitting_18 : decode cX5_splitting 18 = .ok (.iconst 1, 1) := by decide +kernel
theorem dX5_splitting_19 : decode cX5_splitting 19 = .ok (.istore_n 1, 1) := by decide +kernel
theorem dX5_splitting_20 : decode cX5_splitting 20 = .ok (.iconst 1, 1) := by decide +kernel
theorem dX5_splitting_21 : decode cX5_splitting 21 = .ok (.istore_n 2, 1) := by decide +kernel
theorem dX5_splitting_22 : decode cX5_splitting 22 = .ok (.iload_n 2, 1) := by decide +kernel
theorem dX5_splitting_23 : decode cX5_splitting 23 = .ok (.ifCond .eq 60, 3) := by decide +kernel
theorem dX5_splitting_26 : decode cX5_splitting 26 = .ok (.iconst 0, 1) := by decide +kernel
theorem dX5_splitting_27 : decode cX5_splitting 27 = .ok (.istore_n 2, 1) := by decide +kernel
theorem dX5_splitting_28 : decode cX5_splitting 28 = .ok (.iconst 0, 1) := by decide +kernel
theorem dX5_splitting_29 : decode cX5_splitting 29 = .ok (.istore_n 3, 1) := by decide +kernel
theorem dX5_splitting_30 : decode cX5_splitting 30 = .ok (.iload_n 3, 1) := by decide +kernel
theorem dX5_splitting_31 : decode cX5_splitting 31 = .ok (.aload_n 0, 1) := by decide +kernel
theorem dX5_splitting_32 : decode cX5_splitting 32 = .ok (.getfield 126, 3) := by decide +kernel
theorem dX5_splitting_35 : decode cX5_splitting 35 = .ok (.if_icmp .ge 33, 3) := by decide +kernel
theorem dX5_splitting_38 : decode cX5_splitting 38 = .ok (.iload_n 2, 1) := by decide +kernel
theorem dX5_splitting_39 : decode cX5_splitting 39 = .ok (.ifCond .ne 17, 3) := by decide +kernel
theorem dX5_splitting_42 : decode cX5_splitting 42 = .ok (.iload_n 1, 1) := by decide +kernel
theorem dX5_splitting_43 : decode cX5_splitting 43 = .ok (.aload_n 0, 1) := by decide +kernel
theorem dX5_splitting_44 : decode cX5_splitting 44 = .ok (.getfield 29, 3) := by decide +kernel
theorem dX5_splitting_47 : decode cX5_splitting 47 = .ok (.bipush 20, 2) := by decide +kernel
theorem dX5_splitting_49 : decode cX5_splitting 49 = .ok (.iload_n 3, 1) := by decide +kernel
theorem dX5_splitting_50 : decode cX5_splitting 50 = .ok (.iadd, 1) := by decide +kernel
theorem dX5_splitting_51 : decode cX5_splitting 51 = .ok (.iaload, 1) := by decide +kernel
theorem dX5_splitting_52 : decode cX5_splitting 52 = .ok (.irem, 1) := by decide +kernel
theorem dX5_splitting_53 : decode cX5_splitting 53 = .ok (.ifCond .eq 7, 3) := by decide +kernel
theorem dX5_splitting_56 : decode cX5_splitting 56 = .ok (.iconst 1, 1) := by decide +kernel
theorem dX5_splitting_57 : decode cX5_splitting 57 = .ok (.goto 4, 3) := by decide +kernel
theorem dX5_splitting_60 : decode cX5_splitting 60 = .ok (.iconst 0, 1) := by decide +kernel
theorem dX5_splitting_61 : decode cX5_splitting 61 = .ok (.istore_n 2, 1) := by decide +kernel
theorem dX5_splitting_62 : decode cX5_splitting 62 = .ok (.iinc 3 1, 3) := by decide +kernel
theorem dX5_splitting_65 : decode cX5_splitting 65 = .ok (.goto (-35), 3) := by decide +kernel
theorem dX5_splitting_68 : decode cX5_splitting 68 = .ok (.iload_n 1, 1) := by decide +kernel
theorem dX5_splitting_69 : decode cX5_splitting 69 = .ok (.iload_n 2, 1) := by decide +kernel
theorem dX5_splitting_70 : decode cX5_splitting 70 = .ok (.ifCond .eq 7, 3) := by decide +kernel
theorem dX5_splitting_73 : decode cX5_splitting 73 = .ok (.iconst 1, 1) := by decide +kernel
theorem dX5_splitting_74 : decode cX5_splitting 74 = .ok (.goto 4, 3) := by decide +kernel
theorem dX5_splitting_77 : decode cX5_splitting 77 = .ok (.iconst 0, 1) := by decide +kernel
theorem dX5_splitting_78 : decode cX5_splitting 78 = .ok (.iadd, 1) := by decide +kernel
theorem dX5_splitting_79 : decode cX5_splitting 79 = .ok (.istore_n 1, 1) := by decide +kernel
theorem dX5_splitting_80 : decode cX5_splitting 80 = .ok (.goto (-58), 3) := by decide +kernel
theorem dX5_splitting_83 : decode cX5_splitting 83 = .ok (.iload_n 1, 1) := by decide +kernel
theorem dX5_splitting_84 : decode cX5_splitting 84 = .ok (.ireturn, 1) := by decide +kernel
theorem dX5_move_0 : decode cX5_move 0 = .ok (.aload_n 0, 1) := by decide +kernel
theorem dX5_move_1 : decode cX5_move 1 = .ok (.aload_n 0, 1) := by decide +kernel
theorem dX5_move_2 : decode cX5_move 2 = .ok (.iload_n 1, 1) := by decide +kernel
theorem dX5_move_3 : decode cX5_move 3 = .ok (.invokevirtual 111, 3) := by decide +kernel
theorem dX5_move_6 : decode cX5_move 6 = .ok (.ifCond .ne 7, 3) := by decide +kernel
theorem dX5_move_9 : decode cX5_move 9 = .ok (.iconst 1, 1) := by decide +kernel
theorem dX5_move_10 : decode cX5_move 10 = .ok (.goto 4, 3) := by decide +kernel
theorem dX5_move_13 : decode cX5_move 13 = .ok (.iconst 0, 1) := by decide +kernel
theorem dX5_move_14 : decode cX5_move 14 = .ok (.iconst 0, 1) := by decide +kernel
theorem dX5_move_15 : decode cX5_move 15 = .ok (.invokevirtual 61, 3) := by decide +kernel
theorem dX5_move_18 : decode cX5_move 18 = .ok (.ifCond .eq 4, 3) := by decide +kernel
theorem dX5_move_21 : decode cX5_move 21 = .ok (.return_, 1) := by decide +kernel
theorem dX5_move_22 : decode cX5_move 22 = .ok (.aload_n 0, 1) := by decide +kernel
theorem dX5_move_23 : decode cX5_move 23 = .ok (.iconst 0, 1) := by decide +kernel
theorem dX5_move_24 : decode cX5_move 24 = .ok (.iload_n 1, 1) := by decide +kernel
theorem dX5_move_25 : decode cX5_move 25 = .ok (.iconst 2, 1) := by decide +kernel
theorem dX5_move_26 : decode cX5_move 26 = .ok (.invokevirtual 156, 3) := by decide +kernel
theorem dX5_move_29 : decode cX5_move 29 = .ok (.aload_n 0, 1) := by decide +kernel
theorem dX5_move_30 : decode cX5_move 30 = .ok (.iconst 2, 1) := by decide +kernel
theorem dX5_move_31 : decode cX5_move 31 = .ok (.iconst 0, 1) := by decide +kernel
theorem dX5_move_32 : decode cX5_move 32 = .ok (.invokevirtual 97, 3) := by decide +kernel
theorem dX5_move_35 : decode cX5_move 35 = .ok (.aload_n 0, 1) := by decide +kernel
theorem dX5_move_36 : decode cX5_move 36 = .ok (.iconst 0, 1) := by decide +kernel
theorem dX5_move_37 : decode cX5_move 37 = .ok (.putfield 77, 3) := by decide +kernel
theorem dX5_move_40 : decode cX5_move 40 = .ok (.return_, 1) := by decide +kernel
theorem dX5_take_0 : decode cX5_take 0 = .ok (.aload_n 0, 1) := by decide +kernel
theorem dX5_take_1 : decode cX5_take 1 = .ok (.aload_n 0, 1) := by decide +kernel
theorem dX5_take_2 : decode cX5_take 2 = .ok (.invokevirtual 152, 3) := by decide +kernel
theorem dX5_take_5 : decode cX5_take 5 = .ok (.aload_n 0, 1) := by decide +kernel
theorem dX5_take_6 : decode cX5_take 6 = .ok (.iload_n 1, 1) := by decide +kernel
theorem dX5_take_7 : decode cX5_take 7 = .ok (.invokevirtual 162, 3) := by decide +kernel
theorem dX5_take_10 : decode cX5_take 10 = .ok (.invokevirtual 61, 3) := by decide +kernel
theorem dX5_take_13 : decode cX5_take 13 = .ok (.ifCond .eq 4, 3) := by decide +kernel
theorem dX5_take_16 : decode cX5_take 16 = .ok (.return_, 1) := by decide +kernel
theorem dX5_take_17 : decode cX5_take 17 = .ok (.aload_n 0, 1) := by decide +kernel
theorem dX5_take_18 : decode cX5_take 18 = .ok (.bipush 20, 2) := by decide +kernel
theorem dX5_take_20 : decode cX5_take 20 = .ok (.iload_n 1, 1) := by decide +kernel
theorem dX5_take_21 : decode cX5_take 21 = .ok (.iadd, 1) := by decide +kernel
theorem dX5_take_22 : decode cX5_take 22 = .ok (.iconst 0, 1) := by decide +kernel
theorem dX5_take_23 : decode cX5_take 23 = .ok (.invokevirtual 97, 3) := by decide +kernel
theorem dX5_take_26 : decode cX5_take 26 = .ok (.aload_n 0, 1) := by decide +kernel
theorem dX5_take_27 : decode cX5_take 27 = .ok (.iconst 0, 1) := by decide +kernel
theorem dX5_take_28 : decode cX5_take 28 = .ok (.putfield 77, 3) := by decide +kernel
theorem dX5_take_31 : decode cX5_take 31 = .ok (.return_, 1) := by decide +kernel
