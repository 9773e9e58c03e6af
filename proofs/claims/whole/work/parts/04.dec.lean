theorem dX4_init_0 : decode cX4_init 0 = .ok (.aload_n 0, 1) := by decide +kernel
theorem dX4_init_1 : decode cX4_init 1 = .ok (.invokespecial 1, 3) := by decide +kernel
theorem dX4_init_4 : decode cX4_init 4 = .ok (.aload_n 0, 1) := by decide +kernel
theorem dX4_init_5 : decode cX4_init 5 = .ok (.new 7, 3) := by decide +kernel
theorem dX4_init_8 : decode cX4_init 8 = .ok (.dup, 1) := by decide +kernel
theorem dX4_init_9 : decode cX4_init 9 = .ok (.invokespecial 9, 3) := by decide +kernel
theorem dX4_init_12 : decode cX4_init 12 = .ok (.putfield 10, 3) := by decide +kernel
theorem dX4_init_15 : decode cX4_init 15 = .ok (.aload_n 0, 1) := by decide +kernel
theorem dX4_init_16 : decode cX4_init 16 = .ok (.new 16, 3) := by decide +kernel
theorem dX4_init_19 : decode cX4_init 19 = .ok (.dup, 1) := by decide +kernel
theorem dX4_init_20 : decode cX4_init 20 = .ok (.invokespecial 18, 3) := by decide +kernel
theorem dX4_init_23 : decode cX4_init 23 = .ok (.putfield 19, 3) := by decide +kernel
theorem dX4_init_26 : decode cX4_init 26 = .ok (.aload_n 0, 1) := by decide +kernel
theorem dX4_init_27 : decode cX4_init 27 = .ok (.new 23, 3) := by decide +kernel
theorem dX4_init_30 : decode cX4_init 30 = .ok (.dup, 1) := by decide +kernel
theorem dX4_init_31 : decode cX4_init 31 = .ok (.invokespecial 25, 3) := by decide +kernel
theorem dX4_init_34 : decode cX4_init 34 = .ok (.putfield 26, 3) := by decide +kernel
theorem dX4_init_37 : decode cX4_init 37 = .ok (.return_, 1) := by decide +kernel
theorem dX4_field_0 : decode cX4_field 0 = .ok (.iload_n 1, 1) := by decide +kernel
theorem dX4_field_1 : decode cX4_field 1 = .ok (.iconst 1, 1) := by decide +kernel
theorem dX4_field_2 : decode cX4_field 2 = .ok (.if_icmp .lt 8, 3) := by decide +kernel
theorem dX4_field_5 : decode cX4_field 5 = .ok (.iload_n 1, 1) := by decide +kernel
theorem dX4_field_6 : decode cX4_field 6 = .ok (.iconst 3, 1) := by decide +kernel
theorem dX4_field_7 : decode cX4_field 7 = .ok (.if_icmp .le 13, 3) := by decide +kernel
theorem dX4_field_10 : decode cX4_field 10 = .ok (.new 30, 3) := by decide +kernel
theorem dX4_field_13 : decode cX4_field 13 = .ok (.dup, 1) := by decide +kernel
theorem dX4_field_14 : decode cX4_field 14 = .ok (.ldc 32, 2) := by decide +kernel
theorem dX4_field_16 : decode cX4_field 16 = .ok (.invokespecial 34, 3) := by decide +kernel
theorem dX4_field_19 : decode cX4_field 19 = .ok (.athrow, 1) := by decide +kernel
theorem dX4_field_20 : decode cX4_field 20 = .ok (.aload_n 0, 1) := by decide +kernel
theorem dX4_field_21 : decode cX4_field 21 = .ok (.getfield 19, 3) := by decide +kernel
theorem dX4_field_24 : decode cX4_field 24 = .ok (.getfield 37, 3) := by decide +kernel
theorem dX4_field_27 : decode cX4_field 27 = .ok (.iload_n 1, 1) := by decide +kernel
theorem dX4_field_28 : decode cX4_field 28 = .ok (.lload_n 2, 1) := by decide +kernel
theorem dX4_field_29 : decode cX4_field 29 = .ok (.invokestatic 41, 3) := by decide +kernel
theorem dX4_field_32 : decode cX4_field 32 = .ok (.lload 4, 2) := by decide +kernel
theorem dX4_field_34 : decode cX4_field 34 = .ok (.invokestatic 41, 3) := by decide +kernel
theorem dX4_field_37 : decode cX4_field 37 = .ok (.lload 6, 2) := by decide +kernel
theorem dX4_field_39 : decode cX4_field 39 = .ok (.invokestatic 41, 3) := by decide +kernel
theorem dX4_field_42 : decode cX4_field 42 = .ok (.invokevirtual 45, 3) := by decide +kernel
theorem dX4_field_45 : decode cX4_field 45 = .ok (.ifCond .ne 5, 3) := by decide +kernel
theorem dX4_field_48 : decode cX4_field 48 = .ok (.iconst 0, 1) := by decide +kernel
theorem dX4_field_49 : decode cX4_field 49 = .ok (.ireturn, 1) := by decide +kernel
theorem dX4_field_50 : decode cX4_field 50 = .ok (.aload_n 0, 1) := by decide +kernel
theorem dX4_field_51 : decode cX4_field 51 = .ok (.getfield 10, 3) := by decide +kernel
theorem dX4_field_54 : decode cX4_field 54 = .ok (.invokevirtual 51, 3) := by decide +kernel
theorem dX4_field_57 : decode cX4_field 57 = .ok (.aload_n 0, 1) := by decide +kernel
theorem dX4_field_58 : decode cX4_field 58 = .ok (.getfield 26, 3) := by decide +kernel
theorem dX4_field_61 : decode cX4_field 61 = .ok (.invokevirtual 54, 3) := by decide +kernel
theorem dX4_field_64 : decode cX4_field 64 = .ok (.iconst 1, 1) := by decide +kernel
theorem dX4_field_65 : decode cX4_field 65 = .ok (.ireturn, 1) := by decide +kernel
theorem dX4_modulus_0 : decode cX4_modulus 0 = .ok (.iload_n 1, 1) := by decide +kernel
theorem dX4_modulus_1 : decode cX4_modulus 1 = .ok (.ifCond .lt 8, 3) := by decide +kernel
theorem dX4_modulus_4 : decode cX4_modulus 4 = .ok (.iload_n 1, 1) := by decide +kernel
theorem dX4_modulus_5 : decode cX4_modulus 5 = .ok (.iconst 3, 1) := by decide +kernel
theorem dX4_modulus_6 : decode cX4_modulus 6 = .ok (.if_icmp .le 13, 3) := by decide +kernel
theorem dX4_modulus_9 : decode cX4_modulus 9 = .ok (.new 57, 3) := by decide +kernel
theorem dX4_modulus_12 : decode cX4_modulus 12 = .ok (.dup, 1) := by decide +kernel
theorem dX4_modulus_13 : decode cX4_modulus 13 = .ok (.ldc 59, 2) := by decide +kernel
theorem dX4_modulus_15 : decode cX4_modulus 15 = .ok (.invokespecial 61, 3) := by decide +kernel
theorem dX4_modulus_18 : decode cX4_modulus 18 = .ok (.athrow, 1) := by decide +kernel
theorem dX4_modulus_19 : decode cX4_modulus 19 = .ok (.aload_n 0, 1) := by decide +kernel
theorem dX4_modulus_20 : decode cX4_modulus 20 = .ok (.getfield 19, 3) := by decide +kernel
theorem dX4_modulus_23 : decode cX4_modulus 23 = .ok (.getfield 37, 3) := by decide +kernel
theorem dX4_modulus_26 : decode cX4_modulus 26 = .ok (.iload_n 1, 1) := by decide +kernel
theorem dX4_modulus_27 : decode cX4_modulus 27 = .ok (.invokevirtual 62, 3) := by decide +kernel
theorem dX4_modulus_30 : decode cX4_modulus 30 = .ok (.ireturn, 1) := by decide +kernel
theorem dX4_put_0 : decode cX4_put 0 = .ok (.iload_n 1, 1) := by decide +kernel
theorem dX4_put_1 : decode cX4_put 1 = .ok (.invokestatic 66, 3) := by decide +kernel
theorem dX4_put_4 : decode cX4_put 4 = .ok (.aload_n 0, 1) := by decide +kernel
theorem dX4_put_5 : decode cX4_put 5 = .ok (.iload_n 2, 1) := by decide +kernel
theorem dX4_put_6 : decode cX4_put 6 = .ok (.invokevirtual 70, 3) := by decide +kernel
theorem dX4_put_9 : decode cX4_put 9 = .ok (.aload_n 0, 1) := by decide +kernel
theorem dX4_put_10 : decode cX4_put 10 = .ok (.getfield 10, 3) := by decide +kernel
theorem dX4_put_13 : decode cX4_put 13 = .ok (.iload_n 1, 1) := by decide +kernel
theorem dX4_put_14 : decode cX4_put 14 = .ok (.invokevirtual 73, 3) := by decide +kernel
theorem dX4_put_17 : decode cX4_put 17 = .ok (.iload_n 2, 1) := by decide +kernel
theorem dX4_put_18 : decode cX4_put 18 = .ok (.if_icmp .ne 5, 3) := by decide +kernel
theorem dX4_put_21 : decode cX4_put 21 = .ok (.iconst 0, 1) := by decide +kernel
theorem dX4_put_22 : decode cX4_put 22 = .ok (.ireturn, 1) := by decide +kernel
theorem dX4_put_23 : decode cX4_put 23 = .ok (.aload_n 0, 1) := by decide +kernel
theorem dX4_put_24 : decode cX4_put 24 = .ok (.getfield 10, 3) := by decide +kernel
theorem dX4_put_27 : decode cX4_put 27 = .ok (.iload_n 1, 1) := by decide +kernel
theorem dX4_put_28 : decode cX4_put 28 = .ok (.iload_n 2, 1) := by decide +kernel
theorem dX4_put_29 : decode cX4_put 29 = .ok (.invokevirtual 76, 3) := by decide +kernel
theorem dX4_put_32 : decode cX4_put 32 = .ok (.aload_n 0, 1) := by decide +kernel
theorem dX4_put_33 : decode cX4_put 33 = .ok (.getfield 26, 3) := by decide +kernel
theorem dX4_put_36 : decode cX4_put 36 = .ok (.invokevirtual 54, 3) := by decide +kernel
theorem dX4_put_39 : decode cX4_put 39 = .ok (.iconst 1, 1) := by decide +kernel
theorem dX4_put_40 : decode cX4_put 40 = .ok (.ireturn, 1) := by decide +kernel
theorem dX4_at_0 : decode cX4_at 0 = .ok (.iload_n 1, 1) := by decide +kernel
theorem dX4_at_1 : decode cX4_at 1 = .ok (.invokestatic 66, 3) := by decide +kernel
theorem dX4_at_4 : decode cX4_at 4 = .ok (.aload_n 0, 1) := by decide +kernel
theorem dX4_at_5 : decode cX4_at 5 = .ok (.getfield 10, 3) := by decide +kernel
theorem dX4_at_8 : decode cX4_at 8 = .ok (.iload_n 1, 1) := by decide +kernel
theorem dX4_at_9 : decode cX4_at 9 = .ok (.invokevirtual 73, 3) := by decide +kernel
theorem dX4_at_12 : decode cX4_at 12 = .ok (.ireturn, 1) := by decide +kernel
theorem dX4_reckon_0 : decode cX4_reckon 0 = .ok (.aload_n 0, 1) := by decide +kernel
theorem dX4_reckon_1 : decode cX4_reckon 1 = .ok (.iload_n 2, 1) := by decide +kernel
theorem dX4_reckon_2 : decode cX4_reckon 2 = .ok (.invokevirtual 70, 3) := by decide +kernel
theorem dX4_reckon_5 : decode cX4_reckon 5 = .ok (.aload_n 0, 1) := by decide +kernel
theorem dX4_reckon_6 : decode cX4_reckon 6 = .ok (.iload_n 3, 1) := by decide +kernel
theorem dX4_reckon_7 : decode cX4_reckon 7 = .ok (.invokevirtual 70, 3) := by decide +kernel
theorem dX4_reckon_10 : decode cX4_reckon 10 = .ok (.iload_n 1, 1) := by decide +kernel
theorem dX4_reckon_11 : decode cX4_reckon 11 = .ok (.ifCond .lt 8, 3) := by decide +kernel
theorem dX4_reckon_14 : decode cX4_reckon 14 = .ok (.iload_n 1, 1) := by decide +kernel
theorem dX4_reckon_15 : decode cX4_reckon 15 = .ok (.iconst 3, 1) := by decide +kernel
theorem dX4_reckon_16 : decode cX4_reckon 16 = .ok (.if_icmp .le 13, 3) := by decide +kernel
theorem dX4_reckon_19 : decode cX4_reckon 19 = .ok (.new 30, 3) := by decide +kernel
theorem dX4_reckon_22 : decode cX4_reckon 22 = .ok (.dup, 1) := by decide +kernel
theorem dX4_reckon_23 : decode cX4_reckon 23 = .ok (.ldc 80, 2) := by decide +kernel
theorem dX4_reckon_25 : decode cX4_reckon 25 = .ok (.invokespecial 34, 3) := by decide +kernel
theorem dX4_reckon_28 : decode cX4_reckon 28 = .ok (.athrow, 1) := by decide +kernel
theorem dX4_reckon_29 : decode cX4_reckon 29 = .ok (.iload_n 1, 1) := by decide +kernel
theorem dX4_reckon_30 : decode cX4_reckon 30 = .ok (.iconst 3, 1) := by decide +kernel
theorem dX4_reckon_31 : decode cX4_reckon 31 = .ok (.if_icmp .ne 17, 3) := by decide +kernel
theorem dX4_reckon_34 : decode cX4_reckon 34 = .ok (.iload_n 3, 1) := by decide +kernel
theorem dX4_reckon_35 : decode cX4_reckon 35 = .ok (.ifCond .ne 13, 3) := by decide +kernel
theorem dX4_reckon_38 : decode cX4_reckon 38 = .ok (.new 82, 3) := by decide +kernel
theorem dX4_reckon_41 : decode cX4_reckon 41 = .ok (.dup, 1) := by decide +kernel
theorem dX4_reckon_42 : decode cX4_reckon 42 = .ok (.ldc 84, 2) := by decide +kernel
theorem dX4_reckon_44 : decode cX4_reckon 44 = .ok (.invokespecial 86, 3) := by decide +kernel
theorem dX4_reckon_47 : decode cX4_reckon 47 = .ok (.athrow, 1) := by decide +kernel
theorem dX4_reckon_48 : decode cX4_reckon 48 = .ok (.aload_n 0, 1) := by decide +kernel
theorem dX4_reckon_49 : decode cX4_reckon 49 = .ok (.getfield 19, 3) := by decide +kernel
theorem dX4_reckon_52 : decode cX4_reckon 52 = .ok (.getfield 37, 3) := by decide +kernel
theorem dX4_reckon_55 : decode cX4_reckon 55 = .ok (.astore 4, 2) := by decide +kernel
theorem dX4_reckon_57 : decode cX4_reckon 57 = .ok (.iload_n 1, 1) := by decide +kernel
theorem dX4_reckon_58 : decode cX4_reckon 58 = .ok (.tableswitch 50 0 2 #[26, 34, 42], 26) := by decide +kernel
theorem dX4_reckon_84 : decode cX4_reckon 84 = .ok (.aload 4, 2) := by decide +kernel
theorem dX4_reckon_86 : decode cX4_reckon 86 = .ok (.iload_n 2, 1) := by decide +kernel
theorem dX4_reckon_87 : decode cX4_reckon 87 = .ok (.iload_n 3, 1) := by decide +kernel
theorem dX4_reckon_88 : decode cX4_reckon 88 = .ok (.invokevirtual 87, 3) := by decide +kernel
theorem dX4_reckon_91 : decode cX4_reckon 91 = .ok (.ireturn, 1) := by decide +kernel
theorem dX4_reckon_92 : decode cX4_reckon 92 = .ok (.aload 4, 2) := by decide +kernel
theorem dX4_reckon_94 : decode cX4_reckon 94 = .ok (.iload_n 2, 1) := by decide +kernel
theorem dX4_reckon_95 : decode cX4_reckon 95 = .ok (.iload_n 3, 1) := by decide +kernel
theorem dX4_reckon_96 : decode cX4_reckon 96 = .ok (.invokevirtual 91, 3) := by decide +kernel
theorem dX4_reckon_99 : decode cX4_reckon 99 = .ok (.ireturn, 1) := by decide +kernel
theorem dX4_reckon_100 : decode cX4_reckon 100 = .ok (.aload 4, 2) := by decide +kernel
theorem dX4_reckon_102 : decode cX4_reckon 102 = .ok (.iload_n 2, 1) := by decide +kernel
theorem dX4_reckon_103 : decode cX4_reckon 103 = .ok (.iload_n 3, 1) := by decide +kernel
theorem dX4_reckon_104 : decode cX4_reckon 104 = .ok (.invokevirtual 94, 3) := by decide +kernel
theorem dX4_reckon_107 : decode cX4_reckon 107 = .ok (.ireturn, 1) := by decide +kernel
theorem dX4_reckon_108 : decode cX4_reckon 108 = .ok (.aload 4, 2) := by decide +kernel
theorem dX4_reckon_110 : decode cX4_reckon 110 = .ok (.iload_n 2, 1) := by decide +kernel
theorem dX4_reckon_111 : decode cX4_reckon 111 = .ok (.aload 4, 2) := by decide +kernel
theorem dX4_reckon_113 : decode cX4_reckon 113 = .ok (.iload_n 3, 1) := by decide +kernel
theorem dX4_reckon_114 : decode cX4_reckon 114 = .ok (.aload 4, 2) := by decide +kernel
theorem dX4_reckon_116 : decode cX4_reckon 116 = .ok (.getfield 97, 3) := by decide +kernel
theorem dX4_reckon_119 : decode cX4_reckon 119 = .ok (.iconst 2, 1) := by decide +kernel
theorem dX4_reckon_120 : decode cX4_reckon 120 = .ok (.isub, 1) := by decide +kernel
theorem dX4_reckon_121 : decode cX4_reckon 121 = .ok (.invokevirtual 101, 3) := by decide +kernel
theorem dX4_reckon_124 : decode cX4_reckon 124 = .ok (.invokevirtual 94, 3) := by decide +kernel
theorem dX4_reckon_127 : decode cX4_reckon 127 = .ok (.ireturn, 1) := by decide +kernel
theorem dX4_known_0 : decode cX4_known 0 = .ok (.aload_n 0, 1) := by decide +kernel
theorem dX4_known_1 : decode cX4_known 1 = .ok (.iload_n 2, 1) := by decide +kernel
theorem dX4_known_2 : decode cX4_known 2 = .ok (.invokevirtual 70, 3) := by decide +kernel
theorem dX4_known_5 : decode cX4_known 5 = .ok (.iload_n 1, 1) := by decide +kernel
theorem dX4_known_6 : decode cX4_known 6 = .ok (.ifCond .lt 8, 3) := by decide +kernel
theorem dX4_known_9 : decode cX4_known 9 = .ok (.iload_n 1, 1) := by decide +kernel
theorem dX4_known_10 : decode cX4_known 10 = .ok (.iconst 4, 1) := by decide +kernel
theorem dX4_known_11 : decode cX4_known 11 = .ok (.if_icmp .le 13, 3) := by decide +kernel
theorem dX4_known_14 : decode cX4_known 14 = .ok (.new 30, 3) := by decide +kernel
theorem dX4_known_17 : decode cX4_known 17 = .ok (.dup, 1) := by decide +kernel
theorem dX4_known_18 : decode cX4_known 18 = .ok (.ldc 104, 2) := by decide +kernel
theorem dX4_known_20 : decode cX4_known 20 = .ok (.invokespecial 34, 3) := by decide +kernel
theorem dX4_known_23 : decode cX4_known 23 = .ok (.athrow, 1) := by decide +kernel
theorem dX4_known_24 : decode cX4_known 24 = .ok (.aload_n 0, 1) := by decide +kernel
theorem dX4_known_25 : decode cX4_known 25 = .ok (.getfield 19, 3) := by decide +kernel
theorem dX4_known_28 : decode cX4_known 28 = .ok (.getfield 37, 3) := by decide +kernel
theorem dX4_known_31 : decode cX4_known 31 = .ok (.astore_n 3, 1) := by decide +kernel
theorem dX4_known_32 : decode cX4_known 32 = .ok (.iload_n 1, 1) := by decide +kernel
theorem dX4_known_33 : decode cX4_known 33 = .ok (.tableswitch 63 0 3 #[31, 45, 51, 57], 31) := by decide +kernel
theorem dX4_known_64 : decode cX4_known 64 = .ok (.aload_n 3, 1) := by decide +kernel
theorem dX4_known_65 : decode cX4_known 65 = .ok (.iload_n 2, 1) := by decide +kernel
theorem dX4_known_66 : decode cX4_known 66 = .ok (.invokevirtual 106, 3) := by decide +kernel
theorem dX4_known_69 : decode cX4_known 69 = .ok (.ifCond .eq 7, 3) := by decide +kernel
theorem dX4_known_72 : decode cX4_known 72 = .ok (.iconst 1, 1) := by decide +kernel
theorem dX4_known_73 : decode cX4_known 73 = .ok (.goto 4, 3) := by decide +kernel
theorem dX4_known_76 : decode cX4_known 76 = .ok (.iconst 0, 1) := by decide +kernel
theorem dX4_known_77 : decode cX4_known 77 = .ok (.ireturn, 1) := by decide +kernel
theorem dX4_known_78 : decode cX4_known 78 = .ok (.aload_n 3, 1) := by decide +kernel
theorem dX4_known_79 : decode cX4_known 79 = .ok (.iload_n 2, 1) := by decide +kernel
theorem dX4_known_80 : decode cX4_known 80 = .ok (.invokevirtual 110, 3) := by decide +kernel
theorem dX4_known_83 : decode cX4_known 83 = .ok (.ireturn, 1) := by decide +kernel
theorem dX4_known_84 : decode cX4_known 84 = .ok (.aload_n 3, 1) := by decide +kernel
theorem dX4_known_85 : decode cX4_known 85 = .ok (.iload_n 2, 1) := by decide +kernel
theorem dX4_known_86 : decode cX4_known 86 = .ok (.invokevirtual 113, 3) := by decide +kernel
theorem dX4_known_89 : decode cX4_known 89 = .ok (.ireturn, 1) := by decide +kernel
theorem dX4_known_90 : decode cX4_known 90 = .ok (.aload_n 3, 1) := by decide +kernel
theorem dX4_known_91 : decode cX4_known 91 = .ok (.iload_n 2, 1) := by decide +kernel
theorem dX4_known_92 : decode cX4_known 92 = .ok (.invokevirtual 116, 3) := by decide +kernel
theorem dX4_known_95 : decode cX4_known 95 = .ok (.ireturn, 1) := by decide +kernel
theorem dX4_known_96 : decode cX4_known 96 = .ok (.aload_n 3, 1) := by decide +kernel
theorem dX4_known_97 : decode cX4_known 97 = .ok (.iload_n 2, 1) := by decide +kernel
theorem dX4_known_98 : decode cX4_known 98 = .ok (.invokevirtual 119, 3) := by decide +kernel
theorem dX4_known_101 : decode cX4_known 101 = .ok (.ireturn, 1) := by decide +kernel
theorem dX4_minimal_0 : decode cX4_minimal 0 = .ok (.iload_n 2, 1) := by decide +kernel
theorem dX4_minimal_1 : decode cX4_minimal 1 = .ok (.ifCond .lt 8, 3) := by decide +kernel
theorem dX4_minimal_4 : decode cX4_minimal 4 = .ok (.iload_n 2, 1) := by decide +kernel
theorem dX4_minimal_5 : decode cX4_minimal 5 = .ok (.iconst 3, 1) := by decide +kernel
theorem dX4_minimal_6 : decode cX4_minimal 6 = .ok (.if_icmp .le 13, 3) := by decide +kernel
theorem dX4_minimal_9 : decode cX4_minimal 9 = .ok (.new 57, 3) := by decide +kernel
theorem dX4_minimal_12 : decode cX4_minimal 12 = .ok (.dup, 1) := by decide +kernel
theorem dX4_minimal_13 : decode cX4_minimal 13 = .ok (.ldc 122, 2) := by decide +kernel
theorem dX4_minimal_15 : decode cX4_minimal 15 = .ok (.invokespecial 61, 3) := by decide +kernel
theorem dX4_minimal_18 : decode cX4_minimal 18 = .ok (.athrow, 1) := by decide +kernel
theorem dX4_minimal_19 : decode cX4_minimal 19 = .ok (.aload_n 0, 1) := by decide +kernel
theorem dX4_minimal_20 : decode cX4_minimal 20 = .ok (.iload_n 1, 1) := by decide +kernel
theorem dX4_minimal_21 : decode cX4_minimal 21 = .ok (.invokevirtual 70, 3) := by decide +kernel
theorem dX4_minimal_24 : decode cX4_minimal 24 = .ok (.aload_n 0, 1) := by decide +kernel
theorem dX4_minimal_25 : decode cX4_minimal 25 = .ok (.getfield 19, 3) := by decide +kernel
theorem dX4_minimal_28 : decode cX4_minimal 28 = .ok (.iload_n 1, 1) := by decide +kernel
theorem dX4_minimal_29 : decode cX4_minimal 29 = .ok (.invokevirtual 124, 3) := by decide +kernel
theorem dX4_minimal_32 : decode cX4_minimal 32 = .ok (.iload_n 2, 1) := by decide +kernel
theorem dX4_minimal_33 : decode cX4_minimal 33 = .ok (.invokevirtual 73, 3) := by decide +kernel
theorem dX4_minimal_36 : decode cX4_minimal 36 = .ok (.ireturn, 1) := by decide +kernel
theorem dX4_value_0 : decode cX4_value 0 = .ok (.aload_n 0, 1) := by decide +kernel
theorem dX4_value_1 : decode cX4_value 1 = .ok (.iload_n 1, 1) := by decide +kernel
theorem dX4_value_2 : decode cX4_value 2 = .ok (.invokevirtual 70, 3) := by decide +kernel
theorem dX4_value_5 : decode cX4_value 5 = .ok (.aload_n 0, 1) := by decide +kernel
theorem dX4_value_6 : decode cX4_value 6 = .ok (.getfield 19, 3) := by decide +kernel
theorem dX4_value_9 : decode cX4_value 9 = .ok (.aload_n 0, 1) := by decide +kernel
theorem dX4_value_10 : decode cX4_value 10 = .ok (.getfield 10, 3) := by decide +kernel
theorem dX4_value_13 : decode cX4_value 13 = .ok (.iload_n 1, 1) := by decide +kernel
theorem dX4_value_14 : decode cX4_value 14 = .ok (.invokevirtual 128, 3) := by decide +kernel
theorem dX4_value_17 : decode cX4_value 17 = .ok (.ireturn, 1) := by decide +kernel
theorem dX4_norm_0 : decode cX4_norm 0 = .ok (.aload_n 0, 1) := by decide +kernel
theorem dX4_norm_1 : decode cX4_norm 1 = .ok (.getfield 19, 3) := by decide +kernel
theorem dX4_norm_4 : decode cX4_norm 4 = .ok (.aload_n 0, 1) := by decide +kernel
theorem dX4_norm_5 : decode cX4_norm 5 = .ok (.getfield 10, 3) := by decide +kernel
theorem dX4_norm_8 : decode cX4_norm 8 = .ok (.invokevirtual 132, 3) := by decide +kernel
theorem dX4_norm_11 : decode cX4_norm 11 = .ok (.iload_n 1, 1) := by decide +kernel
theorem dX4_norm_12 : decode cX4_norm 12 = .ok (.invokevirtual 73, 3) := by decide +kernel
theorem dX4_norm_15 : decode cX4_norm 15 = .ok (.ireturn, 1) := by decide +kernel
theorem dX4_shift_0 : decode cX4_shift 0 = .ok (.aload_n 0, 1) := by decide +kernel
theorem dX4_shift_1 : decode cX4_shift 1 = .ok (.invokevirtual 136, 3) := by decide +kernel
theorem dX4_shift_4 : decode cX4_shift 4 = .ok (.aload_n 0, 1) := by decide +kernel
theorem dX4_shift_5 : decode cX4_shift 5 = .ok (.getfield 26, 3) := by decide +kernel
theorem dX4_shift_8 : decode cX4_shift 8 = .ok (.aload_n 0, 1) := by decide +kernel
theorem dX4_shift_9 : decode cX4_shift 9 = .ok (.getfield 19, 3) := by decide +kernel
theorem dX4_shift_12 : decode cX4_shift 12 = .ok (.aload_n 0, 1) := by decide +kernel
theorem dX4_shift_13 : decode cX4_shift 13 = .ok (.getfield 10, 3) := by decide +kernel
theorem dX4_shift_16 : decode cX4_shift 16 = .ok (.invokevirtual 139, 3) := by decide +kernel
theorem dX4_shift_19 : decode cX4_shift 19 = .ok (.aload_n 0, 1) := by decide +kernel
theorem dX4_shift_20 : decode cX4_shift 20 = .ok (.getfield 19, 3) := by decide +kernel
theorem dX4_shift_23 : decode cX4_shift 23 = .ok (.aload_n 0, 1) := by decide +kernel
theorem dX4_shift_24 : decode cX4_shift 24 = .ok (.getfield 26, 3) := by decide +kernel
theorem dX4_shift_27 : decode cX4_shift 27 = .ok (.getfield 143, 3) := by decide +kernel
theorem dX4_shift_30 : decode cX4_shift 30 = .ok (.invokevirtual 146, 3) := by decide +kernel
theorem dX4_shift_33 : decode cX4_shift 33 = .ok (.ireturn, 1) := by decide +kernel
theorem dX4_factors_0 : decode cX4_factors 0 = .ok (.aload_n 0, 1) := by decide +kernel
theorem dX4_factors_1 : decode cX4_factors 1 = .ok (.invokevirtual 136, 3) := by decide +kernel
theorem dX4_factors_4 : decode cX4_factors 4 = .ok (.aload_n 0, 1) := by decide +kernel
theorem dX4_factors_5 : decode cX4_factors 5 = .ok (.getfield 26, 3) := by decide +kernel
theorem dX4_factors_8 : decode cX4_factors 8 = .ok (.aload_n 0, 1) := by decide +kernel
theorem dX4_factors_9 : decode cX4_factors 9 = .ok (.getfield 19, 3) := by decide +kernel
theorem dX4_factors_12 : decode cX4_factors 12 = .ok (.aload_n 0, 1) := by decide +kernel
theorem dX4_factors_13 : decode cX4_factors 13 = .ok (.getfield 10, 3) := by decide +kernel
theorem dX4_factors_16 : decode cX4_factors 16 = .ok (.invokevirtual 139, 3) := by decide +kernel
theorem dX4_factors_19 : decode cX4_factors 19 = .ok (.aload_n 0, 1) := by decide +kernel
theorem dX4_factors_20 : decode cX4_factors 20 = .ok (.getfield 26, 3) := by decide +kernel
theorem dX4_factors_23 : decode cX4_factors 23 = .ok (.getfield 150, 3) := by decide +kernel
theorem dX4_factors_26 : decode cX4_factors 26 = .ok (.ireturn, 1) := by decide +kernel
theorem dX4_factor_0 : decode cX4_factor 0 = .ok (.aload_n 0, 1) := by decide +kernel
theorem dX4_factor_1 : decode cX4_factor 1 = .ok (.invokevirtual 136, 3) := by decide +kernel
theorem dX4_factor_4 : decode cX4_factor 4 = .ok (.iload_n 2, 1) := by decide +kernel
theorem dX4_factor_5 : decode cX4_factor 5 = .ok (.invokestatic 66, 3) := by decide +kernel
theorem dX4_factor_8 : decode cX4_factor 8 = .ok (.aload_n 0, 1) := by decide +kernel
theorem dX4_factor_9 : decode cX4_factor 9 = .ok (.getfield 26, 3) := by decide +kernel
theorem dX4_factor_12 : decode cX4_factor 12 = .ok (.aload_n 0, 1) := by decide +kernel
theorem dX4_factor_13 : decode cX4_factor 13 = .ok (.getfield 19, 3) := by decide +kernel
theorem dX4_factor_16 : decode cX4_factor 16 = .ok (.aload_n 0, 1) := by decide +kernel
theorem dX4_factor_17 : decode cX4_factor 17 = .ok (.getfield 10, 3) := by decide +kernel
theorem dX4_factor_20 : decode cX4_factor 20 = .ok (.invokevirtual 139, 3) := by decide +kernel
theorem dX4_factor_23 : decode cX4_factor 23 = .ok (.aload_n 0, 1) := by decide +kernel
theorem dX4_factor_24 : decode cX4_factor 24 = .ok (.iload_n 1, 1) := by decide +kernel
theorem dX4_factor_25 : decode cX4_factor 25 = .ok (.invokevirtual 153, 3) := by decide +kernel
theorem dX4_factor_28 : decode cX4_factor 28 = .ok (.aload_n 0, 1) := by decide +kernel
theorem dX4_factor_29 : decode cX4_factor 29 = .ok (.getfield 26, 3) := by decide +kernel
theorem dX4_factor_32 : decode cX4_factor 32 = .ok (.iload_n 1, 1) := by decide +kernel
theorem dX4_factor_33 : decode cX4_factor 33 = .ok (.invokevirtual 156, 3) := by decide +kernel
theorem dX4_factor_36 : decode cX4_factor 36 = .ok (.iload_n 2, 1) := by decide +kernel
theorem dX4_factor_37 : decode cX4_factor 37 = .ok (.invokevirtual 73, 3) := by decide +kernel
theorem dX4_factor_40 : decode cX4_factor 40 = .ok (.ireturn, 1) := by decide +kernel
theorem dX4_often_0 : decode cX4_often 0 = .ok (.aload_n 0, 1) := by decide +kernel
theorem dX4_often_1 : decode cX4_often 1 = .ok (.invokevirtual 136, 3) := by decide +kernel
theorem dX4_often_4 : decode cX4_often 4 = .ok (.aload_n 0, 1) := by decide +kernel
theorem dX4_often_5 : decode cX4_often 5 = .ok (.getfield 26, 3) := by decide +kernel
theorem dX4_often_8 : decode cX4_often 8 = .ok (.aload_n 0, 1) := by decide +kernel
theorem dX4_often_9 : decode cX4_often 9 = .ok (.getfield 19, 3) := by decide +kernel
theorem dX4_often_12 : decode cX4_often 12 = .ok (.aload_n 0, 1) := by decide +kernel
theorem dX4_often_13 : decode cX4_often 13 = .ok (.getfield 10, 3) := by decide +kernel
theorem dX4_often_16 : decode cX4_often 16 = .ok (.invokevirtual 139, 3) := by decide +kernel
theorem dX4_often_19 : decode cX4_often 19 = .ok (.aload_n 0, 1) := by decide +kernel
theorem dX4_often_20 : decode cX4_often 20 = .ok (.iload_n 1, 1) := by decide +kernel
theorem dX4_often_21 : decode cX4_often 21 = .ok (.invokevirtual 153, 3) := by decide +kernel
theorem dX4_often_24 : decode cX4_often 24 = .ok (.aload_n 0, 1) := by decide +kernel
theorem dX4_often_25 : decode cX4_often 25 = .ok (.getfield 26, 3) := by decide +kernel
theorem dX4_often_28 : decode cX4_often 28 = .ok (.iload_n 1, 1) := by decide +kernel
theorem dX4_often_29 : decode cX4_often 29 = .ok (.invokevirtual 159, 3) := by decide +kernel
theorem dX4_often_32 : decode cX4_often 32 = .ok (.ireturn, 1) := by decide +kernel
theorem dX4_splitting_0 : decode cX4_splitting 0 = .ok (.aload_n 0, 1) := by decide +kernel
theorem dX4_splitting_1 : decode cX4_splitting 1 = .ok (.invokevirtual 136, 3) := by decide +kernel
theorem dX4_splitting_4 : decode cX4_splitting 4 = .ok (.aload_n 0, 1) := by decide +kernel
theorem dX4_splitting_5 : decode cX4_splitting 5 = .ok (.getfield 26, 3) := by decide +kernel
theorem dX4_splitting_8 : decode cX4_splitting 8 = .ok (.aload_n 0, 1) := by decide +kernel
theorem dX4_splitting_9 : decode cX4_splitting 9 = .ok (.getfield 19, 3) := by decide +kernel
theorem dX4_splitting_12 : decode cX4_splitting 12 = .ok (.aload_n 0, 1) := by decide +kernel
theorem dX4_splitting_13 : decode cX4_splitting 13 = .ok (.getfield 10, 3) := by decide +kernel
theorem dX4_splitting_16 : decode cX4_splitting 16 = .ok (.invokevirtual 139, 3) := by decide +kernel
theorem dX4_splitting_19 : decode cX4_splitting 19 = .ok (.aload_n 0, 1) := by decide +kernel
theorem dX4_splitting_20 : decode cX4_splitting 20 = .ok (.getfield 26, 3) := by decide +kernel
theorem dX4_splitting_23 : decode cX4_splitting 23 = .ok (.invokevirtual 162, 3) := by decide +kernel
theorem dX4_splitting_26 : decode cX4_splitting 26 = .ok (.ireturn, 1) := by decide +kernel
theorem dX4_move_0 : decode cX4_move 0 = .ok (.aload_n 0, 1) := by decide +kernel
theorem dX4_move_1 : decode cX4_move 1 = .ok (.iload_n 1, 1) := by decide +kernel
theorem dX4_move_2 : decode cX4_move 2 = .ok (.invokevirtual 70, 3) := by decide +kernel
theorem dX4_move_5 : decode cX4_move 5 = .ok (.aload_n 0, 1) := by decide +kernel
theorem dX4_move_6 : decode cX4_move 6 = .ok (.getfield 19, 3) := by decide +kernel
theorem dX4_move_9 : decode cX4_move 9 = .ok (.aload_n 0, 1) := by decide +kernel
theorem dX4_move_10 : decode cX4_move 10 = .ok (.getfield 10, 3) := by decide +kernel
theorem dX4_move_13 : decode cX4_move 13 = .ok (.iload_n 1, 1) := by decide +kernel
theorem dX4_move_14 : decode cX4_move 14 = .ok (.invokevirtual 166, 3) := by decide +kernel
theorem dX4_move_17 : decode cX4_move 17 = .ok (.aload_n 0, 1) := by decide +kernel
theorem dX4_move_18 : decode cX4_move 18 = .ok (.getfield 26, 3) := by decide +kernel
theorem dX4_move_21 : decode cX4_move 21 = .ok (.invokevirtual 54, 3) := by decide +kernel
theorem dX4_move_24 : decode cX4_move 24 = .ok (.return_, 1) := by decide +kernel
theorem dX4_take_0 : decode cX4_take 0 = .ok (.aload_n 0, 1) := by decide +kernel
theorem dX4_take_1 : decode cX4_take 1 = .ok (.invokevirtual 136, 3) := by decide +kernel
theorem dX4_take_4 : decode cX4_take 4 = .ok (.aload_n 0, 1) := by decide +kernel
theorem dX4_take_5 : decode cX4_take 5 = .ok (.getfield 26, 3) := by decide +kernel
theorem dX4_take_8 : decode cX4_take 8 = .ok (.aload_n 0, 1) := by decide +kernel
theorem dX4_take_9 : decode cX4_take 9 = .ok (.getfield 19, 3) := by decide +kernel
theorem dX4_take_12 : decode cX4_take 12 = .ok (.aload_n 0, 1) := by decide +kernel
theorem dX4_take_13 : decode cX4_take 13 = .ok (.getfield 10, 3) := by decide +kernel
theorem dX4_take_16 : decode cX4_take 16 = .ok (.invokevirtual 139, 3) := by decide +kernel
theorem dX4_take_19 : decode cX4_take 19 = .ok (.aload_n 0, 1) := by decide +kernel
theorem dX4_take_20 : decode cX4_take 20 = .ok (.iload_n 1, 1) := by decide +kernel
theorem dX4_take_21 : decode cX4_take 21 = .ok (.invokevirtual 153, 3) := by decide +kernel
theorem dX4_take_24 : decode cX4_take 24 = .ok (.aload_n 0, 1) := by decide +kernel
theorem dX4_take_25 : decode cX4_take 25 = .ok (.getfield 10, 3) := by decide +kernel
theorem dX4_take_28 : decode cX4_take 28 = .ok (.aload_n 0, 1) := by decide +kernel
theorem dX4_take_29 : decode cX4_take 29 = .ok (.getfield 26, 3) := by decide +kernel
theorem dX4_take_32 : decode cX4_take 32 = .ok (.iload_n 1, 1) := by decide +kernel
theorem dX4_take_33 : decode cX4_take 33 = .ok (.invokevirtual 156, 3) := by decide +kernel
theorem dX4_take_36 : decode cX4_take 36 = .ok (.invokevirtual 170, 3) := by decide +kernel
theorem dX4_take_39 : decode cX4_take 39 = .ok (.aload_n 0, 1) := by decide +kernel
theorem dX4_take_40 : decode cX4_take 40 = .ok (.getfield 26, 3) := by decide +kernel
theorem dX4_take_43 : decode cX4_take 43 = .ok (.invokevirtual 54, 3) := by decide +kernel
theorem dX4_take_46 : decode cX4_take 46 = .ok (.return_, 1) := by decide +kernel
theorem dX4_numberOf_0 : decode cX4_numberOf 0 = .ok (.lload_n 0, 1) := by decide +kernel
theorem dX4_numberOf_1 : decode cX4_numberOf 1 = .ok (.ldc2_w 174, 3) := by decide +kernel
theorem dX4_numberOf_4 : decode cX4_numberOf 4 = .ok (.lrem, 1) := by decide +kernel
theorem dX4_numberOf_5 : decode cX4_numberOf 5 = .ok (.l2i, 1) := by decide +kernel
theorem dX4_numberOf_6 : decode cX4_numberOf 6 = .ok (.istore_n 2, 1) := by decide +kernel
theorem dX4_numberOf_7 : decode cX4_numberOf 7 = .ok (.iload_n 2, 1) := by decide +kernel
theorem dX4_numberOf_8 : decode cX4_numberOf 8 = .ok (.ifCond .ge 10, 3) := by decide +kernel
theorem dX4_numberOf_11 : decode cX4_numberOf 11 = .ok (.iload_n 2, 1) := by decide +kernel
theorem dX4_numberOf_12 : decode cX4_numberOf 12 = .ok (.bipush 101, 2) := by decide +kernel
theorem dX4_numberOf_14 : decode cX4_numberOf 14 = .ok (.iadd, 1) := by decide +kernel
theorem dX4_numberOf_15 : decode cX4_numberOf 15 = .ok (.goto 4, 3) := by decide +kernel
theorem dX4_numberOf_18 : decode cX4_numberOf 18 = .ok (.iload_n 2, 1) := by decide +kernel
theorem dX4_numberOf_19 : decode cX4_numberOf 19 = .ok (.ireturn, 1) := by decide +kernel
theorem dX4_requirePower_0 : decode cX4_requirePower 0 = .ok (.iload_n 0, 1) := by decide +kernel
theorem dX4_requirePower_1 : decode cX4_requirePower 1 = .ok (.ifCond .lt 8, 3) := by decide +kernel
theorem dX4_requirePower_4 : decode cX4_requirePower 4 = .ok (.iload_n 0, 1) := by decide +kernel
theorem dX4_requirePower_5 : decode cX4_requirePower 5 = .ok (.iconst 5, 1) := by decide +kernel
theorem dX4_requirePower_6 : decode cX4_requirePower 6 = .ok (.if_icmp .le 13, 3) := by decide +kernel
theorem dX4_requirePower_9 : decode cX4_requirePower 9 = .ok (.new 57, 3) := by decide +kernel
theorem dX4_requirePower_12 : decode cX4_requirePower 12 = .ok (.dup, 1) := by decide +kernel
theorem dX4_requirePower_13 : decode cX4_requirePower 13 = .ok (.ldc 176, 2) := by decide +kernel
theorem dX4_requirePower_15 : decode cX4_requirePower 15 = .ok (.invokespecial 61, 3) := by decide +kernel
theorem dX4_requirePower_18 : decode cX4_requirePower 18 = .ok (.athrow, 1) := by decide +kernel
theorem dX4_requirePower_19 : decode cX4_requirePower 19 = .ok (.return_, 1) := by decide +kernel
theorem dX4_requireElement_0 : decode cX4_requireElement 0 = .ok (.iload_n 1, 1) := by decide +kernel
theorem dX4_requireElement_1 : decode cX4_requireElement 1 = .ok (.ifCond .lt 17, 3) := by decide +kernel
theorem dX4_requireElement_4 : decode cX4_requireElement 4 = .ok (.iload_n 1, 1) := by decide +kernel
theorem dX4_requireElement_5 : decode cX4_requireElement 5 = .ok (.aload_n 0, 1) := by decide +kernel
theorem dX4_requireElement_6 : decode cX4_requireElement 6 = .ok (.getfield 19, 3) := by decide +kernel
theorem dX4_requireElement_9 : decode cX4_requireElement 9 = .ok (.getfield 37, 3) := by decide +kernel
theorem dX4_requireElement_12 : decode cX4_requireElement 12 = .ok (.getfield 97, 3) := by decide +kernel
theorem dX4_requireElement_15 : decode cX4_requireElement 15 = .ok (.if_icmp .lt 13, 3) := by decide +kernel
theorem dX4_requireElement_18 : decode cX4_requireElement 18 = .ok (.new 30, 3) := by decide +kernel
theorem dX4_requireElement_21 : decode cX4_requireElement 21 = .ok (.dup, 1) := by decide +kernel
theorem dX4_requireElement_22 : decode cX4_requireElement 22 = .ok (.ldc 178, 2) := by decide +kernel
theorem dX4_requireElement_24 : decode cX4_requireElement 24 = .ok (.invokespecial 34, 3) := by decide +kernel
theorem dX4_requireElement_27 : decode cX4_requireElement 27 = .ok (.athrow, 1) := by decide +kernel
theorem dX4_requireElement_28 : decode cX4_requireElement 28 = .ok (.return_, 1) := by decide +kernel
theorem dX4_requireSome_0 : decode cX4_requireSome 0 = .ok (.aload_n 0, 1) := by decide +kernel
theorem dX4_requireSome_1 : decode cX4_requireSome 1 = .ok (.getfield 10, 3) := by decide +kernel
theorem dX4_requireSome_4 : decode cX4_requireSome 4 = .ok (.invokevirtual 180, 3) := by decide +kernel
theorem dX4_requireSome_7 : decode cX4_requireSome 7 = .ok (.ifCond .ge 13, 3) := by decide +kernel
theorem dX4_requireSome_10 : decode cX4_requireSome 10 = .ok (.new 183, 3) := by decide +kernel
theorem dX4_requireSome_13 : decode cX4_requireSome 13 = .ok (.dup, 1) := by decide +kernel
theorem dX4_requireSome_14 : decode cX4_requireSome 14 = .ok (.ldc 185, 2) := by decide +kernel
theorem dX4_requireSome_16 : decode cX4_requireSome 16 = .ok (.invokespecial 187, 3) := by decide +kernel
theorem dX4_requireSome_19 : decode cX4_requireSome 19 = .ok (.athrow, 1) := by decide +kernel
theorem dX4_requireSome_20 : decode cX4_requireSome 20 = .ok (.return_, 1) := by decide +kernel
theorem dX4_requireFactor_0 : decode cX4_requireFactor 0 = .ok (.iload_n 1, 1) := by decide +kernel
theorem dX4_requireFactor_1 : decode cX4_requireFactor 1 = .ok (.ifCond .lt 14, 3) := by decide +kernel
theorem dX4_requireFactor_4 : decode cX4_requireFactor 4 = .ok (.iload_n 1, 1) := by decide +kernel
theorem dX4_requireFactor_5 : decode cX4_requireFactor 5 = .ok (.aload_n 0, 1) := by decide +kernel
theorem dX4_requireFactor_6 : decode cX4_requireFactor 6 = .ok (.getfield 26, 3) := by decide +kernel
theorem dX4_requireFactor_9 : decode cX4_requireFactor 9 = .ok (.getfield 150, 3) := by decide +kernel
theorem dX4_requireFactor_12 : decode cX4_requireFactor 12 = .ok (.if_icmp .lt 13, 3) := by decide +kernel
theorem dX4_requireFactor_15 : decode cX4_requireFactor 15 = .ok (.new 57, 3) := by decide +kernel
theorem dX4_requireFactor_18 : decode cX4_requireFactor 18 = .ok (.dup, 1) := by decide +kernel
theorem dX4_requireFactor_19 : decode cX4_requireFactor 19 = .ok (.ldc 188, 2) := by decide +kernel
theorem dX4_requireFactor_21 : decode cX4_requireFactor 21 = .ok (.invokespecial 61, 3) := by decide +kernel
theorem dX4_requireFactor_24 : decode cX4_requireFactor 24 = .ok (.athrow, 1) := by decide +kernel
theorem dX4_requireFactor_25 : decode cX4_requireFactor 25 = .ok (.return_, 1) := by decide +kernel
