theorem d_Mo_init_0 : decode prog_10_method_1_code 0 = .ok (.aload_n 0, 1) := by decide +kernel
theorem d_Mo_init_1 : decode prog_10_method_1_code 1 = .ok (.invokespecial 1, 3) := by decide +kernel
theorem d_Mo_init_4 : decode prog_10_method_1_code 4 = .ok (.aload_n 0, 1) := by decide +kernel
theorem d_Mo_init_5 : decode prog_10_method_1_code 5 = .ok (.sipush 400, 3) := by decide +kernel
theorem d_Mo_init_8 : decode prog_10_method_1_code 8 = .ok (.newarray .byte, 2) := by decide +kernel
theorem d_Mo_init_10 : decode prog_10_method_1_code 10 = .ok (.putfield 7, 3) := by decide +kernel
theorem d_Mo_init_13 : decode prog_10_method_1_code 13 = .ok (.aload_n 0, 1) := by decide +kernel
theorem d_Mo_init_14 : decode prog_10_method_1_code 14 = .ok (.bipush 100, 2) := by decide +kernel
theorem d_Mo_init_16 : decode prog_10_method_1_code 16 = .ok (.newarray .byte, 2) := by decide +kernel
theorem d_Mo_init_18 : decode prog_10_method_1_code 18 = .ok (.putfield 13, 3) := by decide +kernel
theorem d_Mo_init_21 : decode prog_10_method_1_code 21 = .ok (.aload_n 0, 1) := by decide +kernel
theorem d_Mo_init_22 : decode prog_10_method_1_code 22 = .ok (.sipush 320, 3) := by decide +kernel
theorem d_Mo_init_25 : decode prog_10_method_1_code 25 = .ok (.newarray .int, 2) := by decide +kernel
theorem d_Mo_init_27 : decode prog_10_method_1_code 27 = .ok (.putfield 16, 3) := by decide +kernel
theorem d_Mo_init_30 : decode prog_10_method_1_code 30 = .ok (.aload_n 0, 1) := by decide +kernel
theorem d_Mo_init_31 : decode prog_10_method_1_code 31 = .ok (.sipush 320, 3) := by decide +kernel
theorem d_Mo_init_34 : decode prog_10_method_1_code 34 = .ok (.newarray .int, 2) := by decide +kernel
theorem d_Mo_init_36 : decode prog_10_method_1_code 36 = .ok (.putfield 20, 3) := by decide +kernel
theorem d_Mo_init_39 : decode prog_10_method_1_code 39 = .ok (.aload_n 0, 1) := by decide +kernel
theorem d_Mo_init_40 : decode prog_10_method_1_code 40 = .ok (.sipush 320, 3) := by decide +kernel
theorem d_Mo_init_43 : decode prog_10_method_1_code 43 = .ok (.newarray .int, 2) := by decide +kernel
theorem d_Mo_init_45 : decode prog_10_method_1_code 45 = .ok (.putfield 23, 3) := by decide +kernel
theorem d_Mo_init_48 : decode prog_10_method_1_code 48 = .ok (.aload_n 0, 1) := by decide +kernel
theorem d_Mo_init_49 : decode prog_10_method_1_code 49 = .ok (.sipush 320, 3) := by decide +kernel
theorem d_Mo_init_52 : decode prog_10_method_1_code 52 = .ok (.newarray .int, 2) := by decide +kernel
theorem d_Mo_init_54 : decode prog_10_method_1_code 54 = .ok (.putfield 26, 3) := by decide +kernel
theorem d_Mo_init_57 : decode prog_10_method_1_code 57 = .ok (.aload_n 0, 1) := by decide +kernel
theorem d_Mo_init_58 : decode prog_10_method_1_code 58 = .ok (.sipush 32000, 3) := by decide +kernel
theorem d_Mo_init_61 : decode prog_10_method_1_code 61 = .ok (.newarray .byte, 2) := by decide +kernel
theorem d_Mo_init_63 : decode prog_10_method_1_code 63 = .ok (.putfield 29, 3) := by decide +kernel
theorem d_Mo_init_66 : decode prog_10_method_1_code 66 = .ok (.aload_n 0, 1) := by decide +kernel
theorem d_Mo_init_67 : decode prog_10_method_1_code 67 = .ok (.ldc 32, 2) := by decide +kernel
theorem d_Mo_init_69 : decode prog_10_method_1_code 69 = .ok (.newarray .byte, 2) := by decide +kernel
theorem d_Mo_init_71 : decode prog_10_method_1_code 71 = .ok (.putfield 33, 3) := by decide +kernel
theorem d_Mo_init_74 : decode prog_10_method_1_code 74 = .ok (.aload_n 0, 1) := by decide +kernel
theorem d_Mo_init_75 : decode prog_10_method_1_code 75 = .ok (.sipush 200, 3) := by decide +kernel
theorem d_Mo_init_78 : decode prog_10_method_1_code 78 = .ok (.newarray .int, 2) := by decide +kernel
theorem d_Mo_init_80 : decode prog_10_method_1_code 80 = .ok (.putfield 36, 3) := by decide +kernel
theorem d_Mo_init_83 : decode prog_10_method_1_code 83 = .ok (.aload_n 0, 1) := by decide +kernel
theorem d_Mo_init_84 : decode prog_10_method_1_code 84 = .ok (.sipush 200, 3) := by decide +kernel
theorem d_Mo_init_87 : decode prog_10_method_1_code 87 = .ok (.newarray .int, 2) := by decide +kernel
theorem d_Mo_init_89 : decode prog_10_method_1_code 89 = .ok (.putfield 39, 3) := by decide +kernel
theorem d_Mo_init_92 : decode prog_10_method_1_code 92 = .ok (.aload_n 0, 1) := by decide +kernel
theorem d_Mo_init_93 : decode prog_10_method_1_code 93 = .ok (.sipush 200, 3) := by decide +kernel
theorem d_Mo_init_96 : decode prog_10_method_1_code 96 = .ok (.newarray .int, 2) := by decide +kernel
theorem d_Mo_init_98 : decode prog_10_method_1_code 98 = .ok (.putfield 42, 3) := by decide +kernel
theorem d_Mo_init_101 : decode prog_10_method_1_code 101 = .ok (.aload_n 0, 1) := by decide +kernel
theorem d_Mo_init_102 : decode prog_10_method_1_code 102 = .ok (.bipush 60, 2) := by decide +kernel
theorem d_Mo_init_104 : decode prog_10_method_1_code 104 = .ok (.newarray .int, 2) := by decide +kernel
theorem d_Mo_init_106 : decode prog_10_method_1_code 106 = .ok (.putfield 45, 3) := by decide +kernel
theorem d_Mo_init_109 : decode prog_10_method_1_code 109 = .ok (.aload_n 0, 1) := by decide +kernel
theorem d_Mo_init_110 : decode prog_10_method_1_code 110 = .ok (.bipush 60, 2) := by decide +kernel
theorem d_Mo_init_112 : decode prog_10_method_1_code 112 = .ok (.newarray .int, 2) := by decide +kernel
theorem d_Mo_init_114 : decode prog_10_method_1_code 114 = .ok (.putfield 48, 3) := by decide +kernel
theorem d_Mo_init_117 : decode prog_10_method_1_code 117 = .ok (.aload_n 0, 1) := by decide +kernel
theorem d_Mo_init_118 : decode prog_10_method_1_code 118 = .ok (.bipush 60, 2) := by decide +kernel
theorem d_Mo_init_120 : decode prog_10_method_1_code 120 = .ok (.newarray .int, 2) := by decide +kernel
theorem d_Mo_init_122 : decode prog_10_method_1_code 122 = .ok (.putfield 51, 3) := by decide +kernel
theorem d_Mo_init_125 : decode prog_10_method_1_code 125 = .ok (.aload_n 0, 1) := by decide +kernel
theorem d_Mo_init_126 : decode prog_10_method_1_code 126 = .ok (.sipush 6000, 3) := by decide +kernel
theorem d_Mo_init_129 : decode prog_10_method_1_code 129 = .ok (.newarray .byte, 2) := by decide +kernel
theorem d_Mo_init_131 : decode prog_10_method_1_code 131 = .ok (.putfield 54, 3) := by decide +kernel
theorem d_Mo_init_134 : decode prog_10_method_1_code 134 = .ok (.return_, 1) := by decide +kernel
theorem d_Mo_thrown_0 : decode prog_10_method_2_code 0 = .ok (.aload_n 0, 1) := by decide +kernel
theorem d_Mo_thrown_1 : decode prog_10_method_2_code 1 = .ok (.getfield 57, 3) := by decide +kernel
theorem d_Mo_thrown_4 : decode prog_10_method_2_code 4 = .ok (.ireturn, 1) := by decide +kernel
theorem d_Mo_put_0 : decode prog_10_method_3_code 0 = .ok (.aload_n 0, 1) := by decide +kernel
theorem d_Mo_put_1 : decode prog_10_method_3_code 1 = .ok (.iconst 0, 1) := by decide +kernel
theorem d_Mo_put_2 : decode prog_10_method_3_code 2 = .ok (.putfield 57, 3) := by decide +kernel
theorem d_Mo_put_5 : decode prog_10_method_3_code 5 = .ok (.iload_n 3, 1) := by decide +kernel
theorem d_Mo_put_6 : decode prog_10_method_3_code 6 = .ok (.ifCond .lt 21, 3) := by decide +kernel
theorem d_Mo_put_9 : decode prog_10_method_3_code 9 = .ok (.iload_n 3, 1) := by decide +kernel
theorem d_Mo_put_10 : decode prog_10_method_3_code 10 = .ok (.bipush 8, 2) := by decide +kernel
theorem d_Mo_put_12 : decode prog_10_method_3_code 12 = .ok (.if_icmp .gt 15, 3) := by decide +kernel
theorem d_Mo_put_15 : decode prog_10_method_3_code 15 = .ok (.aload_n 0, 1) := by decide +kernel
theorem d_Mo_put_16 : decode prog_10_method_3_code 16 = .ok (.getfield 61, 3) := by decide +kernel
theorem d_Mo_put_19 : decode prog_10_method_3_code 19 = .ok (.iload_n 3, 1) := by decide +kernel
theorem d_Mo_put_20 : decode prog_10_method_3_code 20 = .ok (.iadd, 1) := by decide +kernel
theorem d_Mo_put_21 : decode prog_10_method_3_code 21 = .ok (.sipush 400, 3) := by decide +kernel
theorem d_Mo_put_24 : decode prog_10_method_3_code 24 = .ok (.if_icmp .le 5, 3) := by decide +kernel
theorem d_Mo_put_27 : decode prog_10_method_3_code 27 = .ok (.iconst 0, 1) := by decide +kernel
theorem d_Mo_put_28 : decode prog_10_method_3_code 28 = .ok (.ireturn, 1) := by decide +kernel
theorem d_Mo_put_29 : decode prog_10_method_3_code 29 = .ok (.iload_n 3, 1) := by decide +kernel
theorem d_Mo_put_30 : decode prog_10_method_3_code 30 = .ok (.iconst 1, 1) := by decide +kernel
theorem d_Mo_put_31 : decode prog_10_method_3_code 31 = .ok (.isub, 1) := by decide +kernel
theorem d_Mo_put_32 : decode prog_10_method_3_code 32 = .ok (.istore 4, 2) := by decide +kernel
theorem d_Mo_put_34 : decode prog_10_method_3_code 34 = .ok (.iload 4, 2) := by decide +kernel
theorem d_Mo_put_36 : decode prog_10_method_3_code 36 = .ok (.ifCond .lt 37, 3) := by decide +kernel
theorem d_Mo_put_39 : decode prog_10_method_3_code 39 = .ok (.aload_n 0, 1) := by decide +kernel
theorem d_Mo_put_40 : decode prog_10_method_3_code 40 = .ok (.getfield 7, 3) := by decide +kernel
theorem d_Mo_put_43 : decode prog_10_method_3_code 43 = .ok (.aload_n 0, 1) := by decide +kernel
theorem d_Mo_put_44 : decode prog_10_method_3_code 44 = .ok (.getfield 61, 3) := by decide +kernel
theorem d_Mo_put_47 : decode prog_10_method_3_code 47 = .ok (.lload_n 1, 1) := by decide +kernel
theorem d_Mo_put_48 : decode prog_10_method_3_code 48 = .ok (.bipush 8, 2) := by decide +kernel
theorem d_Mo_put_50 : decode prog_10_method_3_code 50 = .ok (.iload 4, 2) := by decide +kernel
theorem d_Mo_put_52 : decode prog_10_method_3_code 52 = .ok (.imul, 1) := by decide +kernel
theorem d_Mo_put_53 : decode prog_10_method_3_code 53 = .ok (.lshr, 1) := by decide +kernel
theorem d_Mo_put_54 : decode prog_10_method_3_code 54 = .ok (.l2i, 1) := by decide +kernel
theorem d_Mo_put_55 : decode prog_10_method_3_code 55 = .ok (.i2b, 1) := by decide +kernel
theorem d_Mo_put_56 : decode prog_10_method_3_code 56 = .ok (.bastore, 1) := by decide +kernel
theorem d_Mo_put_57 : decode prog_10_method_3_code 57 = .ok (.aload_n 0, 1) := by decide +kernel
theorem d_Mo_put_58 : decode prog_10_method_3_code 58 = .ok (.dup, 1) := by decide +kernel
theorem d_Mo_put_59 : decode prog_10_method_3_code 59 = .ok (.getfield 61, 3) := by decide +kernel
theorem d_Mo_put_62 : decode prog_10_method_3_code 62 = .ok (.iconst 1, 1) := by decide +kernel
theorem d_Mo_put_63 : decode prog_10_method_3_code 63 = .ok (.iadd, 1) := by decide +kernel
theorem d_Mo_put_64 : decode prog_10_method_3_code 64 = .ok (.putfield 61, 3) := by decide +kernel
theorem d_Mo_put_67 : decode prog_10_method_3_code 67 = .ok (.iinc 4 (-1), 3) := by decide +kernel
theorem d_Mo_put_70 : decode prog_10_method_3_code 70 = .ok (.goto (-36), 3) := by decide +kernel
theorem d_Mo_put_73 : decode prog_10_method_3_code 73 = .ok (.iconst 1, 1) := by decide +kernel
theorem d_Mo_put_74 : decode prog_10_method_3_code 74 = .ok (.ireturn, 1) := by decide +kernel
theorem d_Mo_path_0 : decode prog_10_method_4_code 0 = .ok (.aload_n 0, 1) := by decide +kernel
theorem d_Mo_path_1 : decode prog_10_method_4_code 1 = .ok (.aload_n 0, 1) := by decide +kernel
theorem d_Mo_path_2 : decode prog_10_method_4_code 2 = .ok (.getfield 61, 3) := by decide +kernel
theorem d_Mo_path_5 : decode prog_10_method_4_code 5 = .ok (.bipush 100, 2) := by decide +kernel
theorem d_Mo_path_7 : decode prog_10_method_4_code 7 = .ok (.if_icmp .le 7, 3) := by decide +kernel
theorem d_Mo_path_10 : decode prog_10_method_4_code 10 = .ok (.iconst 1, 1) := by decide +kernel
theorem d_Mo_path_11 : decode prog_10_method_4_code 11 = .ok (.goto 4, 3) := by decide +kernel
theorem d_Mo_path_14 : decode prog_10_method_4_code 14 = .ok (.iconst 0, 1) := by decide +kernel
theorem d_Mo_path_15 : decode prog_10_method_4_code 15 = .ok (.putfield 57, 3) := by decide +kernel
theorem d_Mo_path_18 : decode prog_10_method_4_code 18 = .ok (.aload_n 0, 1) := by decide +kernel
theorem d_Mo_path_19 : decode prog_10_method_4_code 19 = .ok (.getfield 57, 3) := by decide +kernel
theorem d_Mo_path_22 : decode prog_10_method_4_code 22 = .ok (.ifCond .le 5, 3) := by decide +kernel
theorem d_Mo_path_25 : decode prog_10_method_4_code 25 = .ok (.iconst 0, 1) := by decide +kernel
theorem d_Mo_path_26 : decode prog_10_method_4_code 26 = .ok (.ireturn, 1) := by decide +kernel
theorem d_Mo_path_27 : decode prog_10_method_4_code 27 = .ok (.iconst 0, 1) := by decide +kernel
theorem d_Mo_path_28 : decode prog_10_method_4_code 28 = .ok (.istore_n 1, 1) := by decide +kernel
theorem d_Mo_path_29 : decode prog_10_method_4_code 29 = .ok (.iload_n 1, 1) := by decide +kernel
theorem d_Mo_path_30 : decode prog_10_method_4_code 30 = .ok (.aload_n 0, 1) := by decide +kernel
theorem d_Mo_path_31 : decode prog_10_method_4_code 31 = .ok (.getfield 61, 3) := by decide +kernel
theorem d_Mo_path_34 : decode prog_10_method_4_code 34 = .ok (.if_icmp .ge 21, 3) := by decide +kernel
theorem d_Mo_path_37 : decode prog_10_method_4_code 37 = .ok (.aload_n 0, 1) := by decide +kernel
theorem d_Mo_path_38 : decode prog_10_method_4_code 38 = .ok (.getfield 13, 3) := by decide +kernel
theorem d_Mo_path_41 : decode prog_10_method_4_code 41 = .ok (.iload_n 1, 1) := by decide +kernel
theorem d_Mo_path_42 : decode prog_10_method_4_code 42 = .ok (.aload_n 0, 1) := by decide +kernel
theorem d_Mo_path_43 : decode prog_10_method_4_code 43 = .ok (.getfield 7, 3) := by decide +kernel
theorem d_Mo_path_46 : decode prog_10_method_4_code 46 = .ok (.iload_n 1, 1) := by decide +kernel
theorem d_Mo_path_47 : decode prog_10_method_4_code 47 = .ok (.baload, 1) := by decide +kernel
theorem d_Mo_path_48 : decode prog_10_method_4_code 48 = .ok (.bastore, 1) := by decide +kernel
theorem d_Mo_path_49 : decode prog_10_method_4_code 49 = .ok (.iinc 1 1, 3) := by decide +kernel
theorem d_Mo_path_52 : decode prog_10_method_4_code 52 = .ok (.goto (-23), 3) := by decide +kernel
theorem d_Mo_path_55 : decode prog_10_method_4_code 55 = .ok (.aload_n 0, 1) := by decide +kernel
theorem d_Mo_path_56 : decode prog_10_method_4_code 56 = .ok (.aload_n 0, 1) := by decide +kernel
theorem d_Mo_path_57 : decode prog_10_method_4_code 57 = .ok (.getfield 61, 3) := by decide +kernel
theorem d_Mo_path_60 : decode prog_10_method_4_code 60 = .ok (.putfield 64, 3) := by decide +kernel
theorem d_Mo_path_63 : decode prog_10_method_4_code 63 = .ok (.aload_n 0, 1) := by decide +kernel
theorem d_Mo_path_64 : decode prog_10_method_4_code 64 = .ok (.iconst 0, 1) := by decide +kernel
theorem d_Mo_path_65 : decode prog_10_method_4_code 65 = .ok (.putfield 61, 3) := by decide +kernel
theorem d_Mo_path_68 : decode prog_10_method_4_code 68 = .ok (.aload_n 0, 1) := by decide +kernel
theorem d_Mo_path_69 : decode prog_10_method_4_code 69 = .ok (.getfield 64, 3) := by decide +kernel
theorem d_Mo_path_72 : decode prog_10_method_4_code 72 = .ok (.ireturn, 1) := by decide +kernel
theorem d_Mo_write_0 : decode prog_10_method_15_code 0 = .ok (.aload_n 0, 1) := by decide +kernel
theorem d_Mo_write_1 : decode prog_10_method_15_code 1 = .ok (.getfield 86, 3) := by decide +kernel
theorem d_Mo_write_4 : decode prog_10_method_15_code 4 = .ok (.sipush 200, 3) := by decide +kernel
theorem d_Mo_write_7 : decode prog_10_method_15_code 7 = .ok (.if_icmp .eq 22, 3) := by decide +kernel
theorem d_Mo_write_10 : decode prog_10_method_15_code 10 = .ok (.aload_n 0, 1) := by decide +kernel
theorem d_Mo_write_11 : decode prog_10_method_15_code 11 = .ok (.getfield 67, 3) := by decide +kernel
theorem d_Mo_write_14 : decode prog_10_method_15_code 14 = .ok (.bipush 60, 2) := by decide +kernel
theorem d_Mo_write_16 : decode prog_10_method_15_code 16 = .ok (.if_icmp .ne 17, 3) := by decide +kernel
theorem d_Mo_write_19 : decode prog_10_method_15_code 19 = .ok (.aload_n 0, 1) := by decide +kernel
theorem d_Mo_write_20 : decode prog_10_method_15_code 20 = .ok (.iload_n 1, 1) := by decide +kernel
theorem d_Mo_write_21 : decode prog_10_method_15_code 21 = .ok (.iload_n 2, 1) := by decide +kernel
theorem d_Mo_write_22 : decode prog_10_method_15_code 22 = .ok (.invokevirtual 95, 3) := by decide +kernel
theorem d_Mo_write_25 : decode prog_10_method_15_code 25 = .ok (.iconst (-1), 1) := by decide +kernel
theorem d_Mo_write_26 : decode prog_10_method_15_code 26 = .ok (.if_icmp .ne 7, 3) := by decide +kernel
theorem d_Mo_write_29 : decode prog_10_method_15_code 29 = .ok (.iconst 1, 1) := by decide +kernel
theorem d_Mo_write_30 : decode prog_10_method_15_code 30 = .ok (.goto 4, 3) := by decide +kernel
theorem d_Mo_write_33 : decode prog_10_method_15_code 33 = .ok (.iconst 0, 1) := by decide +kernel
theorem d_Mo_write_34 : decode prog_10_method_15_code 34 = .ok (.istore_n 3, 1) := by decide +kernel
theorem d_Mo_write_35 : decode prog_10_method_15_code 35 = .ok (.aload_n 0, 1) := by decide +kernel
theorem d_Mo_write_36 : decode prog_10_method_15_code 36 = .ok (.iload_n 1, 1) := by decide +kernel
theorem d_Mo_write_37 : decode prog_10_method_15_code 37 = .ok (.iload_n 2, 1) := by decide +kernel
theorem d_Mo_write_38 : decode prog_10_method_15_code 38 = .ok (.invokestatic 99, 3) := by decide +kernel
theorem d_Mo_write_41 : decode prog_10_method_15_code 41 = .ok (.ifCond .ne 7, 3) := by decide +kernel
theorem d_Mo_write_44 : decode prog_10_method_15_code 44 = .ok (.iconst 1, 1) := by decide +kernel
theorem d_Mo_write_45 : decode prog_10_method_15_code 45 = .ok (.goto 12, 3) := by decide +kernel
theorem d_Mo_write_48 : decode prog_10_method_15_code 48 = .ok (.iload_n 3, 1) := by decide +kernel
theorem d_Mo_write_49 : decode prog_10_method_15_code 49 = .ok (.ifCond .eq 7, 3) := by decide +kernel
theorem d_Mo_write_52 : decode prog_10_method_15_code 52 = .ok (.iconst 2, 1) := by decide +kernel
theorem d_Mo_write_53 : decode prog_10_method_15_code 53 = .ok (.goto 4, 3) := by decide +kernel
theorem d_Mo_write_56 : decode prog_10_method_15_code 56 = .ok (.iconst 0, 1) := by decide +kernel
theorem d_Mo_write_57 : decode prog_10_method_15_code 57 = .ok (.putfield 57, 3) := by decide +kernel
theorem d_Mo_write_60 : decode prog_10_method_15_code 60 = .ok (.aload_n 0, 1) := by decide +kernel
theorem d_Mo_write_61 : decode prog_10_method_15_code 61 = .ok (.getfield 57, 3) := by decide +kernel
theorem d_Mo_write_64 : decode prog_10_method_15_code 64 = .ok (.ifCond .le 4, 3) := by decide +kernel
theorem d_Mo_write_67 : decode prog_10_method_15_code 67 = .ok (.return_, 1) := by decide +kernel
theorem d_Mo_write_68 : decode prog_10_method_15_code 68 = .ok (.aload_n 0, 1) := by decide +kernel
theorem d_Mo_write_69 : decode prog_10_method_15_code 69 = .ok (.invokevirtual 102, 3) := by decide +kernel
theorem d_Mo_write_72 : decode prog_10_method_15_code 72 = .ok (.istore 4, 2) := by decide +kernel
theorem d_Mo_write_74 : decode prog_10_method_15_code 74 = .ok (.aload_n 0, 1) := by decide +kernel
theorem d_Mo_write_75 : decode prog_10_method_15_code 75 = .ok (.iload 4, 2) := by decide +kernel
theorem d_Mo_write_77 : decode prog_10_method_15_code 77 = .ok (.iload_n 1, 1) := by decide +kernel
theorem d_Mo_write_78 : decode prog_10_method_15_code 78 = .ok (.iload_n 2, 1) := by decide +kernel
theorem d_Mo_write_79 : decode prog_10_method_15_code 79 = .ok (.invokevirtual 106, 3) := by decide +kernel
theorem d_Mo_write_82 : decode prog_10_method_15_code 82 = .ok (.aload_n 0, 1) := by decide +kernel
theorem d_Mo_write_83 : decode prog_10_method_15_code 83 = .ok (.getfield 26, 3) := by decide +kernel
theorem d_Mo_write_86 : decode prog_10_method_15_code 86 = .ok (.iload 4, 2) := by decide +kernel
theorem d_Mo_write_88 : decode prog_10_method_15_code 88 = .ok (.aload_n 0, 1) := by decide +kernel
theorem d_Mo_write_89 : decode prog_10_method_15_code 89 = .ok (.getfield 61, 3) := by decide +kernel
theorem d_Mo_write_92 : decode prog_10_method_15_code 92 = .ok (.iastore, 1) := by decide +kernel
theorem d_Mo_write_93 : decode prog_10_method_15_code 93 = .ok (.iconst 0, 1) := by decide +kernel
theorem d_Mo_write_94 : decode prog_10_method_15_code 94 = .ok (.istore 5, 2) := by decide +kernel
theorem d_Mo_write_96 : decode prog_10_method_15_code 96 = .ok (.iload 5, 2) := by decide +kernel
theorem d_Mo_write_98 : decode prog_10_method_15_code 98 = .ok (.aload_n 0, 1) := by decide +kernel
theorem d_Mo_write_99 : decode prog_10_method_15_code 99 = .ok (.getfield 61, 3) := by decide +kernel
theorem d_Mo_write_102 : decode prog_10_method_15_code 102 = .ok (.if_icmp .ge 30, 3) := by decide +kernel
theorem d_Mo_write_105 : decode prog_10_method_15_code 105 = .ok (.aload_n 0, 1) := by decide +kernel
theorem d_Mo_write_106 : decode prog_10_method_15_code 106 = .ok (.getfield 33, 3) := by decide +kernel
theorem d_Mo_write_109 : decode prog_10_method_15_code 109 = .ok (.sipush 400, 3) := by decide +kernel
theorem d_Mo_write_112 : decode prog_10_method_15_code 112 = .ok (.iload 4, 2) := by decide +kernel
theorem d_Mo_write_114 : decode prog_10_method_15_code 114 = .ok (.imul, 1) := by decide +kernel
theorem d_Mo_write_115 : decode prog_10_method_15_code 115 = .ok (.iload 5, 2) := by decide +kernel
theorem d_Mo_write_117 : decode prog_10_method_15_code 117 = .ok (.iadd, 1) := by decide +kernel
theorem d_Mo_write_118 : decode prog_10_method_15_code 118 = .ok (.aload_n 0, 1) := by decide +kernel
theorem d_Mo_write_119 : decode prog_10_method_15_code 119 = .ok (.getfield 7, 3) := by decide +kernel
theorem d_Mo_write_122 : decode prog_10_method_15_code 122 = .ok (.iload 5, 2) := by decide +kernel
theorem d_Mo_write_124 : decode prog_10_method_15_code 124 = .ok (.baload, 1) := by decide +kernel
theorem d_Mo_write_125 : decode prog_10_method_15_code 125 = .ok (.bastore, 1) := by decide +kernel
theorem d_Mo_write_126 : decode prog_10_method_15_code 126 = .ok (.iinc 5 1, 3) := by decide +kernel
theorem d_Mo_write_129 : decode prog_10_method_15_code 129 = .ok (.goto (-33), 3) := by decide +kernel
theorem d_Mo_write_132 : decode prog_10_method_15_code 132 = .ok (.aload_n 0, 1) := by decide +kernel
theorem d_Mo_write_133 : decode prog_10_method_15_code 133 = .ok (.iconst 0, 1) := by decide +kernel
theorem d_Mo_write_134 : decode prog_10_method_15_code 134 = .ok (.putfield 61, 3) := by decide +kernel
theorem d_Mo_write_137 : decode prog_10_method_15_code 137 = .ok (.aload_n 0, 1) := by decide +kernel
theorem d_Mo_write_138 : decode prog_10_method_15_code 138 = .ok (.iconst 0, 1) := by decide +kernel
theorem d_Mo_write_139 : decode prog_10_method_15_code 139 = .ok (.iload 4, 2) := by decide +kernel
theorem d_Mo_write_141 : decode prog_10_method_15_code 141 = .ok (.iconst 0, 1) := by decide +kernel
theorem d_Mo_write_142 : decode prog_10_method_15_code 142 = .ok (.iconst 0, 1) := by decide +kernel
theorem d_Mo_write_143 : decode prog_10_method_15_code 143 = .ok (.invokevirtual 110, 3) := by decide +kernel
theorem d_Mo_write_146 : decode prog_10_method_15_code 146 = .ok (.return_, 1) := by decide +kernel
theorem d_Mo_findHere_0 : decode prog_10_method_14_code 0 = .ok (.iconst 0, 1) := by decide +kernel
theorem d_Mo_findHere_1 : decode prog_10_method_14_code 1 = .ok (.istore_n 3, 1) := by decide +kernel
theorem d_Mo_findHere_2 : decode prog_10_method_14_code 2 = .ok (.iload_n 3, 1) := by decide +kernel
theorem d_Mo_findHere_3 : decode prog_10_method_14_code 3 = .ok (.aload_n 0, 1) := by decide +kernel
theorem d_Mo_findHere_4 : decode prog_10_method_14_code 4 = .ok (.getfield 67, 3) := by decide +kernel
theorem d_Mo_findHere_7 : decode prog_10_method_14_code 7 = .ok (.if_icmp .ge 108, 3) := by decide +kernel
theorem d_Mo_findHere_10 : decode prog_10_method_14_code 10 = .ok (.aload_n 0, 1) := by decide +kernel
theorem d_Mo_findHere_11 : decode prog_10_method_14_code 11 = .ok (.getfield 16, 3) := by decide +kernel
theorem d_Mo_findHere_14 : decode prog_10_method_14_code 14 = .ok (.iload_n 3, 1) := by decide +kernel
theorem d_Mo_findHere_15 : decode prog_10_method_14_code 15 = .ok (.iaload, 1) := by decide +kernel
theorem d_Mo_findHere_16 : decode prog_10_method_14_code 16 = .ok (.iload_n 1, 1) := by decide +kernel
theorem d_Mo_findHere_17 : decode prog_10_method_14_code 17 = .ok (.if_icmp .ne 30, 3) := by decide +kernel
theorem d_Mo_findHere_20 : decode prog_10_method_14_code 20 = .ok (.aload_n 0, 1) := by decide +kernel
theorem d_Mo_findHere_21 : decode prog_10_method_14_code 21 = .ok (.getfield 20, 3) := by decide +kernel
theorem d_Mo_findHere_24 : decode prog_10_method_14_code 24 = .ok (.iload_n 3, 1) := by decide +kernel
theorem d_Mo_findHere_25 : decode prog_10_method_14_code 25 = .ok (.iaload, 1) := by decide +kernel
theorem d_Mo_findHere_26 : decode prog_10_method_14_code 26 = .ok (.iload_n 2, 1) := by decide +kernel
theorem d_Mo_findHere_27 : decode prog_10_method_14_code 27 = .ok (.if_icmp .ne 20, 3) := by decide +kernel
theorem d_Mo_findHere_30 : decode prog_10_method_14_code 30 = .ok (.aload_n 0, 1) := by decide +kernel
theorem d_Mo_findHere_31 : decode prog_10_method_14_code 31 = .ok (.getfield 23, 3) := by decide +kernel
theorem d_Mo_findHere_34 : decode prog_10_method_14_code 34 = .ok (.iload_n 3, 1) := by decide +kernel
theorem d_Mo_findHere_35 : decode prog_10_method_14_code 35 = .ok (.iaload, 1) := by decide +kernel
theorem d_Mo_findHere_36 : decode prog_10_method_14_code 36 = .ok (.aload_n 0, 1) := by decide +kernel
theorem d_Mo_findHere_37 : decode prog_10_method_14_code 37 = .ok (.getfield 64, 3) := by decide +kernel
theorem d_Mo_findHere_40 : decode prog_10_method_14_code 40 = .ok (.if_icmp .ne 7, 3) := by decide +kernel
theorem d_Mo_findHere_43 : decode prog_10_method_14_code 43 = .ok (.iconst 1, 1) := by decide +kernel
theorem d_Mo_findHere_44 : decode prog_10_method_14_code 44 = .ok (.goto 4, 3) := by decide +kernel
theorem d_Mo_findHere_47 : decode prog_10_method_14_code 47 = .ok (.iconst 0, 1) := by decide +kernel
theorem d_Mo_findHere_48 : decode prog_10_method_14_code 48 = .ok (.istore 4, 2) := by decide +kernel
theorem d_Mo_findHere_50 : decode prog_10_method_14_code 50 = .ok (.iconst 0, 1) := by decide +kernel
theorem d_Mo_findHere_51 : decode prog_10_method_14_code 51 = .ok (.istore 5, 2) := by decide +kernel
theorem d_Mo_findHere_53 : decode prog_10_method_14_code 53 = .ok (.iload 5, 2) := by decide +kernel
theorem d_Mo_findHere_55 : decode prog_10_method_14_code 55 = .ok (.aload_n 0, 1) := by decide +kernel
theorem d_Mo_findHere_56 : decode prog_10_method_14_code 56 = .ok (.getfield 64, 3) := by decide +kernel
theorem d_Mo_findHere_59 : decode prog_10_method_14_code 59 = .ok (.if_icmp .ge 43, 3) := by decide +kernel
theorem d_Mo_findHere_62 : decode prog_10_method_14_code 62 = .ok (.iload 4, 2) := by decide +kernel
theorem d_Mo_findHere_64 : decode prog_10_method_14_code 64 = .ok (.ifCond .eq 38, 3) := by decide +kernel
theorem d_Mo_findHere_67 : decode prog_10_method_14_code 67 = .ok (.aload_n 0, 1) := by decide +kernel
theorem d_Mo_findHere_68 : decode prog_10_method_14_code 68 = .ok (.getfield 29, 3) := by decide +kernel
theorem d_Mo_findHere_71 : decode prog_10_method_14_code 71 = .ok (.bipush 100, 2) := by decide +kernel
theorem d_Mo_findHere_73 : decode prog_10_method_14_code 73 = .ok (.iload_n 3, 1) := by decide +kernel
theorem d_Mo_findHere_74 : decode prog_10_method_14_code 74 = .ok (.imul, 1) := by decide +kernel
theorem d_Mo_findHere_75 : decode prog_10_method_14_code 75 = .ok (.iload 5, 2) := by decide +kernel
theorem d_Mo_findHere_77 : decode prog_10_method_14_code 77 = .ok (.iadd, 1) := by decide +kernel
theorem d_Mo_findHere_78 : decode prog_10_method_14_code 78 = .ok (.baload, 1) := by decide +kernel
theorem d_Mo_findHere_79 : decode prog_10_method_14_code 79 = .ok (.aload_n 0, 1) := by decide +kernel
theorem d_Mo_findHere_80 : decode prog_10_method_14_code 80 = .ok (.getfield 13, 3) := by decide +kernel
theorem d_Mo_findHere_83 : decode prog_10_method_14_code 83 = .ok (.iload 5, 2) := by decide +kernel
theorem d_Mo_findHere_85 : decode prog_10_method_14_code 85 = .ok (.baload, 1) := by decide +kernel
theorem d_Mo_findHere_86 : decode prog_10_method_14_code 86 = .ok (.if_icmp .ne 7, 3) := by decide +kernel
theorem d_Mo_findHere_89 : decode prog_10_method_14_code 89 = .ok (.iconst 1, 1) := by decide +kernel
theorem d_Mo_findHere_90 : decode prog_10_method_14_code 90 = .ok (.goto 4, 3) := by decide +kernel
theorem d_Mo_findHere_93 : decode prog_10_method_14_code 93 = .ok (.iconst 0, 1) := by decide +kernel
theorem d_Mo_findHere_94 : decode prog_10_method_14_code 94 = .ok (.istore 4, 2) := by decide +kernel
theorem d_Mo_findHere_96 : decode prog_10_method_14_code 96 = .ok (.iinc 5 1, 3) := by decide +kernel
theorem d_Mo_findHere_99 : decode prog_10_method_14_code 99 = .ok (.goto (-46), 3) := by decide +kernel
theorem d_Mo_findHere_102 : decode prog_10_method_14_code 102 = .ok (.iload 4, 2) := by decide +kernel
theorem d_Mo_findHere_104 : decode prog_10_method_14_code 104 = .ok (.ifCond .eq 5, 3) := by decide +kernel
theorem d_Mo_findHere_107 : decode prog_10_method_14_code 107 = .ok (.iload_n 3, 1) := by decide +kernel
theorem d_Mo_findHere_108 : decode prog_10_method_14_code 108 = .ok (.ireturn, 1) := by decide +kernel
theorem d_Mo_findHere_109 : decode prog_10_method_14_code 109 = .ok (.iinc 3 1, 3) := by decide +kernel
theorem d_Mo_findHere_112 : decode prog_10_method_14_code 112 = .ok (.goto (-110), 3) := by decide +kernel
theorem d_Mo_findHere_115 : decode prog_10_method_14_code 115 = .ok (.iconst (-1), 1) := by decide +kernel
theorem d_Mo_findHere_116 : decode prog_10_method_14_code 116 = .ok (.ireturn, 1) := by decide +kernel
theorem d_Mo_isName_0 : decode prog_10_method_12_code 0 = .ok (.iload_n 0, 1) := by decide +kernel
theorem d_Mo_isName_1 : decode prog_10_method_12_code 1 = .ok (.ifCond .lt 17, 3) := by decide +kernel
theorem d_Mo_isName_4 : decode prog_10_method_12_code 4 = .ok (.iload_n 0, 1) := by decide +kernel
theorem d_Mo_isName_5 : decode prog_10_method_12_code 5 = .ok (.bipush 7, 2) := by decide +kernel
theorem d_Mo_isName_7 : decode prog_10_method_12_code 7 = .ok (.if_icmp .ge 11, 3) := by decide +kernel
theorem d_Mo_isName_10 : decode prog_10_method_12_code 10 = .ok (.iload_n 1, 1) := by decide +kernel
theorem d_Mo_isName_11 : decode prog_10_method_12_code 11 = .ok (.ifCond .lt 7, 3) := by decide +kernel
theorem d_Mo_isName_14 : decode prog_10_method_12_code 14 = .ok (.iconst 1, 1) := by decide +kernel
theorem d_Mo_isName_15 : decode prog_10_method_12_code 15 = .ok (.goto 4, 3) := by decide +kernel
theorem d_Mo_isName_18 : decode prog_10_method_12_code 18 = .ok (.iconst 0, 1) := by decide +kernel
theorem d_Mo_isName_19 : decode prog_10_method_12_code 19 = .ok (.ireturn, 1) := by decide +kernel
theorem d_Mo_entry_0 : decode prog_10_method_13_code 0 = .ok (.bipush 120, 2) := by decide +kernel
theorem d_Mo_entry_2 : decode prog_10_method_13_code 2 = .ok (.aload_n 0, 1) := by decide +kernel
theorem d_Mo_entry_3 : decode prog_10_method_13_code 3 = .ok (.getfield 86, 3) := by decide +kernel
theorem d_Mo_entry_6 : decode prog_10_method_13_code 6 = .ok (.sipush 200, 3) := by decide +kernel
theorem d_Mo_entry_9 : decode prog_10_method_13_code 9 = .ok (.if_icmp .ge 10, 3) := by decide +kernel
theorem d_Mo_entry_12 : decode prog_10_method_13_code 12 = .ok (.aload_n 0, 1) := by decide +kernel
theorem d_Mo_entry_13 : decode prog_10_method_13_code 13 = .ok (.getfield 86, 3) := by decide +kernel
theorem d_Mo_entry_16 : decode prog_10_method_13_code 16 = .ok (.goto 6, 3) := by decide +kernel
theorem d_Mo_entry_19 : decode prog_10_method_13_code 19 = .ok (.sipush 199, 3) := by decide +kernel
theorem d_Mo_entry_22 : decode prog_10_method_13_code 22 = .ok (.iadd, 1) := by decide +kernel
theorem d_Mo_entry_23 : decode prog_10_method_13_code 23 = .ok (.ireturn, 1) := by decide +kernel
theorem d_Mo_name_0 : decode prog_10_method_6_code 0 = .ok (.aload_n 0, 1) := by decide +kernel
theorem d_Mo_name_1 : decode prog_10_method_6_code 1 = .ok (.getfield 16, 3) := by decide +kernel
theorem d_Mo_name_4 : decode prog_10_method_6_code 4 = .ok (.iload_n 1, 1) := by decide +kernel
theorem d_Mo_name_5 : decode prog_10_method_6_code 5 = .ok (.iload_n 2, 1) := by decide +kernel
theorem d_Mo_name_6 : decode prog_10_method_6_code 6 = .ok (.iastore, 1) := by decide +kernel
theorem d_Mo_name_7 : decode prog_10_method_6_code 7 = .ok (.aload_n 0, 1) := by decide +kernel
theorem d_Mo_name_8 : decode prog_10_method_6_code 8 = .ok (.getfield 20, 3) := by decide +kernel
theorem d_Mo_name_11 : decode prog_10_method_6_code 11 = .ok (.iload_n 1, 1) := by decide +kernel
theorem d_Mo_name_12 : decode prog_10_method_6_code 12 = .ok (.iload_n 3, 1) := by decide +kernel
theorem d_Mo_name_13 : decode prog_10_method_6_code 13 = .ok (.iastore, 1) := by decide +kernel
theorem d_Mo_name_14 : decode prog_10_method_6_code 14 = .ok (.aload_n 0, 1) := by decide +kernel
theorem d_Mo_name_15 : decode prog_10_method_6_code 15 = .ok (.getfield 23, 3) := by decide +kernel
theorem d_Mo_name_18 : decode prog_10_method_6_code 18 = .ok (.iload_n 1, 1) := by decide +kernel
theorem d_Mo_name_19 : decode prog_10_method_6_code 19 = .ok (.aload_n 0, 1) := by decide +kernel
theorem d_Mo_name_20 : decode prog_10_method_6_code 20 = .ok (.getfield 64, 3) := by decide +kernel
theorem d_Mo_name_23 : decode prog_10_method_6_code 23 = .ok (.iastore, 1) := by decide +kernel
theorem d_Mo_name_24 : decode prog_10_method_6_code 24 = .ok (.iconst 0, 1) := by decide +kernel
theorem d_Mo_name_25 : decode prog_10_method_6_code 25 = .ok (.istore 4, 2) := by decide +kernel
theorem d_Mo_name_27 : decode prog_10_method_6_code 27 = .ok (.iload 4, 2) := by decide +kernel
theorem d_Mo_name_29 : decode prog_10_method_6_code 29 = .ok (.aload_n 0, 1) := by decide +kernel
theorem d_Mo_name_30 : decode prog_10_method_6_code 30 = .ok (.getfield 64, 3) := by decide +kernel
theorem d_Mo_name_33 : decode prog_10_method_6_code 33 = .ok (.if_icmp .ge 28, 3) := by decide +kernel
theorem d_Mo_name_36 : decode prog_10_method_6_code 36 = .ok (.aload_n 0, 1) := by decide +kernel
theorem d_Mo_name_37 : decode prog_10_method_6_code 37 = .ok (.getfield 29, 3) := by decide +kernel
theorem d_Mo_name_40 : decode prog_10_method_6_code 40 = .ok (.bipush 100, 2) := by decide +kernel
theorem d_Mo_name_42 : decode prog_10_method_6_code 42 = .ok (.iload_n 1, 1) := by decide +kernel
theorem d_Mo_name_43 : decode prog_10_method_6_code 43 = .ok (.imul, 1) := by decide +kernel
theorem d_Mo_name_44 : decode prog_10_method_6_code 44 = .ok (.iload 4, 2) := by decide +kernel
theorem d_Mo_name_46 : decode prog_10_method_6_code 46 = .ok (.iadd, 1) := by decide +kernel
theorem d_Mo_name_47 : decode prog_10_method_6_code 47 = .ok (.aload_n 0, 1) := by decide +kernel
theorem d_Mo_name_48 : decode prog_10_method_6_code 48 = .ok (.getfield 13, 3) := by decide +kernel
theorem d_Mo_name_51 : decode prog_10_method_6_code 51 = .ok (.iload 4, 2) := by decide +kernel
theorem d_Mo_name_53 : decode prog_10_method_6_code 53 = .ok (.baload, 1) := by decide +kernel
theorem d_Mo_name_54 : decode prog_10_method_6_code 54 = .ok (.bastore, 1) := by decide +kernel
theorem d_Mo_name_55 : decode prog_10_method_6_code 55 = .ok (.iinc 4 1, 3) := by decide +kernel
theorem d_Mo_name_58 : decode prog_10_method_6_code 58 = .ok (.goto (-31), 3) := by decide +kernel
theorem d_Mo_name_61 : decode prog_10_method_6_code 61 = .ok (.aload_n 0, 1) := by decide +kernel
theorem d_Mo_name_62 : decode prog_10_method_6_code 62 = .ok (.getfield 26, 3) := by decide +kernel
theorem d_Mo_name_65 : decode prog_10_method_6_code 65 = .ok (.iload_n 1, 1) := by decide +kernel
theorem d_Mo_name_66 : decode prog_10_method_6_code 66 = .ok (.iconst 0, 1) := by decide +kernel
theorem d_Mo_name_67 : decode prog_10_method_6_code 67 = .ok (.iastore, 1) := by decide +kernel
theorem d_Mo_name_68 : decode prog_10_method_6_code 68 = .ok (.return_, 1) := by decide +kernel
theorem d_Mo_add_0 : decode prog_10_method_11_code 0 = .ok (.aload_n 0, 1) := by decide +kernel
theorem d_Mo_add_1 : decode prog_10_method_11_code 1 = .ok (.getfield 36, 3) := by decide +kernel
theorem d_Mo_add_4 : decode prog_10_method_11_code 4 = .ok (.aload_n 0, 1) := by decide +kernel
theorem d_Mo_add_5 : decode prog_10_method_11_code 5 = .ok (.getfield 86, 3) := by decide +kernel
theorem d_Mo_add_8 : decode prog_10_method_11_code 8 = .ok (.iload_n 1, 1) := by decide +kernel
theorem d_Mo_add_9 : decode prog_10_method_11_code 9 = .ok (.iastore, 1) := by decide +kernel
theorem d_Mo_add_10 : decode prog_10_method_11_code 10 = .ok (.aload_n 0, 1) := by decide +kernel
theorem d_Mo_add_11 : decode prog_10_method_11_code 11 = .ok (.getfield 39, 3) := by decide +kernel
theorem d_Mo_add_14 : decode prog_10_method_11_code 14 = .ok (.aload_n 0, 1) := by decide +kernel
theorem d_Mo_add_15 : decode prog_10_method_11_code 15 = .ok (.getfield 86, 3) := by decide +kernel
theorem d_Mo_add_18 : decode prog_10_method_11_code 18 = .ok (.iload_n 3, 1) := by decide +kernel
theorem d_Mo_add_19 : decode prog_10_method_11_code 19 = .ok (.iastore, 1) := by decide +kernel
theorem d_Mo_add_20 : decode prog_10_method_11_code 20 = .ok (.aload_n 0, 1) := by decide +kernel
theorem d_Mo_add_21 : decode prog_10_method_11_code 21 = .ok (.getfield 42, 3) := by decide +kernel
theorem d_Mo_add_24 : decode prog_10_method_11_code 24 = .ok (.aload_n 0, 1) := by decide +kernel
theorem d_Mo_add_25 : decode prog_10_method_11_code 25 = .ok (.getfield 86, 3) := by decide +kernel
theorem d_Mo_add_28 : decode prog_10_method_11_code 28 = .ok (.iload 4, 2) := by decide +kernel
theorem d_Mo_add_30 : decode prog_10_method_11_code 30 = .ok (.iastore, 1) := by decide +kernel
theorem d_Mo_add_31 : decode prog_10_method_11_code 31 = .ok (.aload_n 0, 1) := by decide +kernel
theorem d_Mo_add_32 : decode prog_10_method_11_code 32 = .ok (.dup, 1) := by decide +kernel
theorem d_Mo_add_33 : decode prog_10_method_11_code 33 = .ok (.getfield 86, 3) := by decide +kernel
theorem d_Mo_add_36 : decode prog_10_method_11_code 36 = .ok (.iconst 1, 1) := by decide +kernel
theorem d_Mo_add_37 : decode prog_10_method_11_code 37 = .ok (.iadd, 1) := by decide +kernel
theorem d_Mo_add_38 : decode prog_10_method_11_code 38 = .ok (.putfield 86, 3) := by decide +kernel
theorem d_Mo_add_41 : decode prog_10_method_11_code 41 = .ok (.aload_n 0, 1) := by decide +kernel
theorem d_Mo_add_42 : decode prog_10_method_11_code 42 = .ok (.dup, 1) := by decide +kernel
theorem d_Mo_add_43 : decode prog_10_method_11_code 43 = .ok (.getfield 89, 3) := by decide +kernel
theorem d_Mo_add_46 : decode prog_10_method_11_code 46 = .ok (.iconst 1, 1) := by decide +kernel
theorem d_Mo_add_47 : decode prog_10_method_11_code 47 = .ok (.iadd, 1) := by decide +kernel
theorem d_Mo_add_48 : decode prog_10_method_11_code 48 = .ok (.putfield 89, 3) := by decide +kernel
theorem d_Mo_add_51 : decode prog_10_method_11_code 51 = .ok (.aload_n 0, 1) := by decide +kernel
theorem d_Mo_add_52 : decode prog_10_method_11_code 52 = .ok (.aload_n 0, 1) := by decide +kernel
theorem d_Mo_add_53 : decode prog_10_method_11_code 53 = .ok (.getfield 86, 3) := by decide +kernel
theorem d_Mo_add_56 : decode prog_10_method_11_code 56 = .ok (.iconst 1, 1) := by decide +kernel
theorem d_Mo_add_57 : decode prog_10_method_11_code 57 = .ok (.isub, 1) := by decide +kernel
theorem d_Mo_add_58 : decode prog_10_method_11_code 58 = .ok (.invokevirtual 92, 3) := by decide +kernel
theorem d_Mo_add_61 : decode prog_10_method_11_code 61 = .ok (.return_, 1) := by decide +kernel
theorem d_Mo_act_0 : decode prog_10_method_10_code 0 = .ok (.bipush 120, 2) := by decide +kernel
theorem d_Mo_act_2 : decode prog_10_method_10_code 2 = .ok (.iload_n 1, 1) := by decide +kernel
theorem d_Mo_act_3 : decode prog_10_method_10_code 3 = .ok (.iadd, 1) := by decide +kernel
theorem d_Mo_act_4 : decode prog_10_method_10_code 4 = .ok (.istore_n 2, 1) := by decide +kernel
theorem d_Mo_act_5 : decode prog_10_method_10_code 5 = .ok (.aload_n 0, 1) := by decide +kernel
theorem d_Mo_act_6 : decode prog_10_method_10_code 6 = .ok (.aload_n 0, 1) := by decide +kernel
theorem d_Mo_act_7 : decode prog_10_method_10_code 7 = .ok (.getfield 16, 3) := by decide +kernel
theorem d_Mo_act_10 : decode prog_10_method_10_code 10 = .ok (.iload_n 2, 1) := by decide +kernel
theorem d_Mo_act_11 : decode prog_10_method_10_code 11 = .ok (.iaload, 1) := by decide +kernel
theorem d_Mo_act_12 : decode prog_10_method_10_code 12 = .ok (.aload_n 0, 1) := by decide +kernel
theorem d_Mo_act_13 : decode prog_10_method_10_code 13 = .ok (.getfield 20, 3) := by decide +kernel
theorem d_Mo_act_16 : decode prog_10_method_10_code 16 = .ok (.iload_n 2, 1) := by decide +kernel
theorem d_Mo_act_17 : decode prog_10_method_10_code 17 = .ok (.iaload, 1) := by decide +kernel
theorem d_Mo_act_18 : decode prog_10_method_10_code 18 = .ok (.iload_n 2, 1) := by decide +kernel
theorem d_Mo_act_19 : decode prog_10_method_10_code 19 = .ok (.invokevirtual 78, 3) := by decide +kernel
theorem d_Mo_act_22 : decode prog_10_method_10_code 22 = .ok (.istore_n 3, 1) := by decide +kernel
theorem d_Mo_act_23 : decode prog_10_method_10_code 23 = .ok (.aload_n 0, 1) := by decide +kernel
theorem d_Mo_act_24 : decode prog_10_method_10_code 24 = .ok (.getfield 36, 3) := by decide +kernel
theorem d_Mo_act_27 : decode prog_10_method_10_code 27 = .ok (.iload_n 1, 1) := by decide +kernel
theorem d_Mo_act_28 : decode prog_10_method_10_code 28 = .ok (.iaload, 1) := by decide +kernel
theorem d_Mo_act_29 : decode prog_10_method_10_code 29 = .ok (.ifCond .ne 32, 3) := by decide +kernel
theorem d_Mo_act_32 : decode prog_10_method_10_code 32 = .ok (.iload_n 3, 1) := by decide +kernel
theorem d_Mo_act_33 : decode prog_10_method_10_code 33 = .ok (.iconst (-1), 1) := by decide +kernel
theorem d_Mo_act_34 : decode prog_10_method_10_code 34 = .ok (.if_icmp .ne 18, 3) := by decide +kernel
theorem d_Mo_act_37 : decode prog_10_method_10_code 37 = .ok (.aload_n 0, 1) := by decide +kernel
theorem d_Mo_act_38 : decode prog_10_method_10_code 38 = .ok (.getfield 67, 3) := by decide +kernel
theorem d_Mo_act_41 : decode prog_10_method_10_code 41 = .ok (.istore_n 3, 1) := by decide +kernel
theorem d_Mo_act_42 : decode prog_10_method_10_code 42 = .ok (.aload_n 0, 1) := by decide +kernel
theorem d_Mo_act_43 : decode prog_10_method_10_code 43 = .ok (.dup, 1) := by decide +kernel
theorem d_Mo_act_44 : decode prog_10_method_10_code 44 = .ok (.getfield 67, 3) := by decide +kernel
theorem d_Mo_act_47 : decode prog_10_method_10_code 47 = .ok (.iconst 1, 1) := by decide +kernel
theorem d_Mo_act_48 : decode prog_10_method_10_code 48 = .ok (.iadd, 1) := by decide +kernel
theorem d_Mo_act_49 : decode prog_10_method_10_code 49 = .ok (.putfield 67, 3) := by decide +kernel
theorem d_Mo_act_52 : decode prog_10_method_10_code 52 = .ok (.aload_n 0, 1) := by decide +kernel
theorem d_Mo_act_53 : decode prog_10_method_10_code 53 = .ok (.iload_n 2, 1) := by decide +kernel
theorem d_Mo_act_54 : decode prog_10_method_10_code 54 = .ok (.iload_n 3, 1) := by decide +kernel
theorem d_Mo_act_55 : decode prog_10_method_10_code 55 = .ok (.invokevirtual 74, 3) := by decide +kernel
theorem d_Mo_act_58 : decode prog_10_method_10_code 58 = .ok (.goto 106, 3) := by decide +kernel
theorem d_Mo_act_61 : decode prog_10_method_10_code 61 = .ok (.aload_n 0, 1) := by decide +kernel
theorem d_Mo_act_62 : decode prog_10_method_10_code 62 = .ok (.getfield 36, 3) := by decide +kernel
theorem d_Mo_act_65 : decode prog_10_method_10_code 65 = .ok (.iload_n 1, 1) := by decide +kernel
theorem d_Mo_act_66 : decode prog_10_method_10_code 66 = .ok (.iaload, 1) := by decide +kernel
theorem d_Mo_act_67 : decode prog_10_method_10_code 67 = .ok (.iconst 2, 1) := by decide +kernel
theorem d_Mo_act_68 : decode prog_10_method_10_code 68 = .ok (.if_icmp .ne 11, 3) := by decide +kernel
theorem d_Mo_act_71 : decode prog_10_method_10_code 71 = .ok (.aload_n 0, 1) := by decide +kernel
theorem d_Mo_act_72 : decode prog_10_method_10_code 72 = .ok (.iload_n 3, 1) := by decide +kernel
theorem d_Mo_act_73 : decode prog_10_method_10_code 73 = .ok (.invokevirtual 82, 3) := by decide +kernel
theorem d_Mo_act_76 : decode prog_10_method_10_code 76 = .ok (.goto 88, 3) := by decide +kernel
theorem d_Mo_act_79 : decode prog_10_method_10_code 79 = .ok (.aload_n 0, 1) := by decide +kernel
theorem d_Mo_act_80 : decode prog_10_method_10_code 80 = .ok (.getfield 39, 3) := by decide +kernel
theorem d_Mo_act_83 : decode prog_10_method_10_code 83 = .ok (.iload_n 1, 1) := by decide +kernel
theorem d_Mo_act_84 : decode prog_10_method_10_code 84 = .ok (.iaload, 1) := by decide +kernel
theorem d_Mo_act_85 : decode prog_10_method_10_code 85 = .ok (.aload_n 0, 1) := by decide +kernel
theorem d_Mo_act_86 : decode prog_10_method_10_code 86 = .ok (.getfield 16, 3) := by decide +kernel
theorem d_Mo_act_89 : decode prog_10_method_10_code 89 = .ok (.iload_n 2, 1) := by decide +kernel
theorem d_Mo_act_90 : decode prog_10_method_10_code 90 = .ok (.iaload, 1) := by decide +kernel
theorem d_Mo_act_91 : decode prog_10_method_10_code 91 = .ok (.if_icmp .ne 18, 3) := by decide +kernel
theorem d_Mo_act_94 : decode prog_10_method_10_code 94 = .ok (.aload_n 0, 1) := by decide +kernel
theorem d_Mo_act_95 : decode prog_10_method_10_code 95 = .ok (.getfield 42, 3) := by decide +kernel
theorem d_Mo_act_98 : decode prog_10_method_10_code 98 = .ok (.iload_n 1, 1) := by decide +kernel
theorem d_Mo_act_99 : decode prog_10_method_10_code 99 = .ok (.iaload, 1) := by decide +kernel
theorem d_Mo_act_100 : decode prog_10_method_10_code 100 = .ok (.aload_n 0, 1) := by decide +kernel
theorem d_Mo_act_101 : decode prog_10_method_10_code 101 = .ok (.getfield 20, 3) := by decide +kernel
theorem d_Mo_act_104 : decode prog_10_method_10_code 104 = .ok (.iload_n 2, 1) := by decide +kernel
theorem d_Mo_act_105 : decode prog_10_method_10_code 105 = .ok (.iaload, 1) := by decide +kernel
theorem d_Mo_act_106 : decode prog_10_method_10_code 106 = .ok (.if_icmp .eq 58, 3) := by decide +kernel
theorem d_Mo_act_109 : decode prog_10_method_10_code 109 = .ok (.aload_n 0, 1) := by decide +kernel
theorem d_Mo_act_110 : decode prog_10_method_10_code 110 = .ok (.aload_n 0, 1) := by decide +kernel
theorem d_Mo_act_111 : decode prog_10_method_10_code 111 = .ok (.getfield 39, 3) := by decide +kernel
theorem d_Mo_act_114 : decode prog_10_method_10_code 114 = .ok (.iload_n 1, 1) := by decide +kernel
theorem d_Mo_act_115 : decode prog_10_method_10_code 115 = .ok (.iaload, 1) := by decide +kernel
theorem d_Mo_act_116 : decode prog_10_method_10_code 116 = .ok (.aload_n 0, 1) := by decide +kernel
theorem d_Mo_act_117 : decode prog_10_method_10_code 117 = .ok (.getfield 42, 3) := by decide +kernel
theorem d_Mo_act_120 : decode prog_10_method_10_code 120 = .ok (.iload_n 1, 1) := by decide +kernel
theorem d_Mo_act_121 : decode prog_10_method_10_code 121 = .ok (.iaload, 1) := by decide +kernel
theorem d_Mo_act_122 : decode prog_10_method_10_code 122 = .ok (.iload_n 2, 1) := by decide +kernel
theorem d_Mo_act_123 : decode prog_10_method_10_code 123 = .ok (.invokevirtual 78, 3) := by decide +kernel
theorem d_Mo_act_126 : decode prog_10_method_10_code 126 = .ok (.istore 4, 2) := by decide +kernel
theorem d_Mo_act_128 : decode prog_10_method_10_code 128 = .ok (.aload_n 0, 1) := by decide +kernel
theorem d_Mo_act_129 : decode prog_10_method_10_code 129 = .ok (.getfield 16, 3) := by decide +kernel
theorem d_Mo_act_132 : decode prog_10_method_10_code 132 = .ok (.iload_n 3, 1) := by decide +kernel
theorem d_Mo_act_133 : decode prog_10_method_10_code 133 = .ok (.aload_n 0, 1) := by decide +kernel
theorem d_Mo_act_134 : decode prog_10_method_10_code 134 = .ok (.getfield 39, 3) := by decide +kernel
theorem d_Mo_act_137 : decode prog_10_method_10_code 137 = .ok (.iload_n 1, 1) := by decide +kernel
theorem d_Mo_act_138 : decode prog_10_method_10_code 138 = .ok (.iaload, 1) := by decide +kernel
theorem d_Mo_act_139 : decode prog_10_method_10_code 139 = .ok (.iastore, 1) := by decide +kernel
theorem d_Mo_act_140 : decode prog_10_method_10_code 140 = .ok (.aload_n 0, 1) := by decide +kernel
theorem d_Mo_act_141 : decode prog_10_method_10_code 141 = .ok (.getfield 20, 3) := by decide +kernel
theorem d_Mo_act_144 : decode prog_10_method_10_code 144 = .ok (.iload_n 3, 1) := by decide +kernel
theorem d_Mo_act_145 : decode prog_10_method_10_code 145 = .ok (.aload_n 0, 1) := by decide +kernel
theorem d_Mo_act_146 : decode prog_10_method_10_code 146 = .ok (.getfield 42, 3) := by decide +kernel
theorem d_Mo_act_149 : decode prog_10_method_10_code 149 = .ok (.iload_n 1, 1) := by decide +kernel
theorem d_Mo_act_150 : decode prog_10_method_10_code 150 = .ok (.iaload, 1) := by decide +kernel
theorem d_Mo_act_151 : decode prog_10_method_10_code 151 = .ok (.iastore, 1) := by decide +kernel
theorem d_Mo_act_152 : decode prog_10_method_10_code 152 = .ok (.iload 4, 2) := by decide +kernel
theorem d_Mo_act_154 : decode prog_10_method_10_code 154 = .ok (.iconst (-1), 1) := by decide +kernel
theorem d_Mo_act_155 : decode prog_10_method_10_code 155 = .ok (.if_icmp .eq 9, 3) := by decide +kernel
theorem d_Mo_act_158 : decode prog_10_method_10_code 158 = .ok (.aload_n 0, 1) := by decide +kernel
theorem d_Mo_act_159 : decode prog_10_method_10_code 159 = .ok (.iload 4, 2) := by decide +kernel
theorem d_Mo_act_161 : decode prog_10_method_10_code 161 = .ok (.invokevirtual 82, 3) := by decide +kernel
theorem d_Mo_act_164 : decode prog_10_method_10_code 164 = .ok (.return_, 1) := by decide +kernel
theorem d_Mo_find_0 : decode prog_10_method_8_code 0 = .ok (.iconst 0, 1) := by decide +kernel
theorem d_Mo_find_1 : decode prog_10_method_8_code 1 = .ok (.istore 4, 2) := by decide +kernel
theorem d_Mo_find_3 : decode prog_10_method_8_code 3 = .ok (.iload 4, 2) := by decide +kernel
theorem d_Mo_find_5 : decode prog_10_method_8_code 5 = .ok (.aload_n 0, 1) := by decide +kernel
theorem d_Mo_find_6 : decode prog_10_method_8_code 6 = .ok (.getfield 67, 3) := by decide +kernel
theorem d_Mo_find_9 : decode prog_10_method_8_code 9 = .ok (.if_icmp .ge 44, 3) := by decide +kernel
theorem d_Mo_find_12 : decode prog_10_method_8_code 12 = .ok (.aload_n 0, 1) := by decide +kernel
theorem d_Mo_find_13 : decode prog_10_method_8_code 13 = .ok (.getfield 16, 3) := by decide +kernel
theorem d_Mo_find_16 : decode prog_10_method_8_code 16 = .ok (.iload 4, 2) := by decide +kernel
theorem d_Mo_find_18 : decode prog_10_method_8_code 18 = .ok (.iaload, 1) := by decide +kernel
theorem d_Mo_find_19 : decode prog_10_method_8_code 19 = .ok (.iload_n 1, 1) := by decide +kernel
theorem d_Mo_find_20 : decode prog_10_method_8_code 20 = .ok (.if_icmp .ne 27, 3) := by decide +kernel
theorem d_Mo_find_23 : decode prog_10_method_8_code 23 = .ok (.aload_n 0, 1) := by decide +kernel
theorem d_Mo_find_24 : decode prog_10_method_8_code 24 = .ok (.getfield 20, 3) := by decide +kernel
theorem d_Mo_find_27 : decode prog_10_method_8_code 27 = .ok (.iload 4, 2) := by decide +kernel
theorem d_Mo_find_29 : decode prog_10_method_8_code 29 = .ok (.iaload, 1) := by decide +kernel
theorem d_Mo_find_30 : decode prog_10_method_8_code 30 = .ok (.iload_n 2, 1) := by decide +kernel
theorem d_Mo_find_31 : decode prog_10_method_8_code 31 = .ok (.if_icmp .ne 16, 3) := by decide +kernel
theorem d_Mo_find_34 : decode prog_10_method_8_code 34 = .ok (.aload_n 0, 1) := by decide +kernel
theorem d_Mo_find_35 : decode prog_10_method_8_code 35 = .ok (.iload 4, 2) := by decide +kernel
theorem d_Mo_find_37 : decode prog_10_method_8_code 37 = .ok (.iload_n 3, 1) := by decide +kernel
theorem d_Mo_find_38 : decode prog_10_method_8_code 38 = .ok (.invokevirtual 70, 3) := by decide +kernel
theorem d_Mo_find_41 : decode prog_10_method_8_code 41 = .ok (.ifCond .eq 6, 3) := by decide +kernel
theorem d_Mo_find_44 : decode prog_10_method_8_code 44 = .ok (.iload 4, 2) := by decide +kernel
theorem d_Mo_find_46 : decode prog_10_method_8_code 46 = .ok (.ireturn, 1) := by decide +kernel
theorem d_Mo_find_47 : decode prog_10_method_8_code 47 = .ok (.iinc 4 1, 3) := by decide +kernel
theorem d_Mo_find_50 : decode prog_10_method_8_code 50 = .ok (.goto (-47), 3) := by decide +kernel
theorem d_Mo_find_53 : decode prog_10_method_8_code 53 = .ok (.iconst (-1), 1) := by decide +kernel
theorem d_Mo_find_54 : decode prog_10_method_8_code 54 = .ok (.ireturn, 1) := by decide +kernel
theorem d_Mo_hasPath_0 : decode prog_10_method_7_code 0 = .ok (.aload_n 0, 1) := by decide +kernel
theorem d_Mo_hasPath_1 : decode prog_10_method_7_code 1 = .ok (.getfield 23, 3) := by decide +kernel
theorem d_Mo_hasPath_4 : decode prog_10_method_7_code 4 = .ok (.iload_n 1, 1) := by decide +kernel
theorem d_Mo_hasPath_5 : decode prog_10_method_7_code 5 = .ok (.iaload, 1) := by decide +kernel
theorem d_Mo_hasPath_6 : decode prog_10_method_7_code 6 = .ok (.aload_n 0, 1) := by decide +kernel
theorem d_Mo_hasPath_7 : decode prog_10_method_7_code 7 = .ok (.getfield 23, 3) := by decide +kernel
theorem d_Mo_hasPath_10 : decode prog_10_method_7_code 10 = .ok (.iload_n 2, 1) := by decide +kernel
theorem d_Mo_hasPath_11 : decode prog_10_method_7_code 11 = .ok (.iaload, 1) := by decide +kernel
theorem d_Mo_hasPath_12 : decode prog_10_method_7_code 12 = .ok (.if_icmp .ne 7, 3) := by decide +kernel
theorem d_Mo_hasPath_15 : decode prog_10_method_7_code 15 = .ok (.iconst 1, 1) := by decide +kernel
theorem d_Mo_hasPath_16 : decode prog_10_method_7_code 16 = .ok (.goto 4, 3) := by decide +kernel
theorem d_Mo_hasPath_19 : decode prog_10_method_7_code 19 = .ok (.iconst 0, 1) := by decide +kernel
theorem d_Mo_hasPath_20 : decode prog_10_method_7_code 20 = .ok (.istore_n 3, 1) := by decide +kernel
theorem d_Mo_hasPath_21 : decode prog_10_method_7_code 21 = .ok (.iconst 0, 1) := by decide +kernel
theorem d_Mo_hasPath_22 : decode prog_10_method_7_code 22 = .ok (.istore 4, 2) := by decide +kernel
theorem d_Mo_hasPath_24 : decode prog_10_method_7_code 24 = .ok (.iload 4, 2) := by decide +kernel
theorem d_Mo_hasPath_26 : decode prog_10_method_7_code 26 = .ok (.aload_n 0, 1) := by decide +kernel
theorem d_Mo_hasPath_27 : decode prog_10_method_7_code 27 = .ok (.getfield 23, 3) := by decide +kernel
theorem d_Mo_hasPath_30 : decode prog_10_method_7_code 30 = .ok (.iload_n 1, 1) := by decide +kernel
theorem d_Mo_hasPath_31 : decode prog_10_method_7_code 31 = .ok (.iaload, 1) := by decide +kernel
theorem d_Mo_hasPath_32 : decode prog_10_method_7_code 32 = .ok (.if_icmp .ge 46, 3) := by decide +kernel
theorem d_Mo_hasPath_35 : decode prog_10_method_7_code 35 = .ok (.iload_n 3, 1) := by decide +kernel
theorem d_Mo_hasPath_36 : decode prog_10_method_7_code 36 = .ok (.ifCond .eq 42, 3) := by decide +kernel
theorem d_Mo_hasPath_39 : decode prog_10_method_7_code 39 = .ok (.aload_n 0, 1) := by decide +kernel
theorem d_Mo_hasPath_40 : decode prog_10_method_7_code 40 = .ok (.getfield 29, 3) := by decide +kernel
theorem d_Mo_hasPath_43 : decode prog_10_method_7_code 43 = .ok (.bipush 100, 2) := by decide +kernel
theorem d_Mo_hasPath_45 : decode prog_10_method_7_code 45 = .ok (.iload_n 1, 1) := by decide +kernel
theorem d_Mo_hasPath_46 : decode prog_10_method_7_code 46 = .ok (.imul, 1) := by decide +kernel
theorem d_Mo_hasPath_47 : decode prog_10_method_7_code 47 = .ok (.iload 4, 2) := by decide +kernel
theorem d_Mo_hasPath_49 : decode prog_10_method_7_code 49 = .ok (.iadd, 1) := by decide +kernel
theorem d_Mo_hasPath_50 : decode prog_10_method_7_code 50 = .ok (.baload, 1) := by decide +kernel
theorem d_Mo_hasPath_51 : decode prog_10_method_7_code 51 = .ok (.aload_n 0, 1) := by decide +kernel
theorem d_Mo_hasPath_52 : decode prog_10_method_7_code 52 = .ok (.getfield 29, 3) := by decide +kernel
theorem d_Mo_hasPath_55 : decode prog_10_method_7_code 55 = .ok (.bipush 100, 2) := by decide +kernel
theorem d_Mo_hasPath_57 : decode prog_10_method_7_code 57 = .ok (.iload_n 2, 1) := by decide +kernel
theorem d_Mo_hasPath_58 : decode prog_10_method_7_code 58 = .ok (.imul, 1) := by decide +kernel
theorem d_Mo_hasPath_59 : decode prog_10_method_7_code 59 = .ok (.iload 4, 2) := by decide +kernel
theorem d_Mo_hasPath_61 : decode prog_10_method_7_code 61 = .ok (.iadd, 1) := by decide +kernel
theorem d_Mo_hasPath_62 : decode prog_10_method_7_code 62 = .ok (.baload, 1) := by decide +kernel
theorem d_Mo_hasPath_63 : decode prog_10_method_7_code 63 = .ok (.if_icmp .ne 7, 3) := by decide +kernel
theorem d_Mo_hasPath_66 : decode prog_10_method_7_code 66 = .ok (.iconst 1, 1) := by decide +kernel
theorem d_Mo_hasPath_67 : decode prog_10_method_7_code 67 = .ok (.goto 4, 3) := by decide +kernel
theorem d_Mo_hasPath_70 : decode prog_10_method_7_code 70 = .ok (.iconst 0, 1) := by decide +kernel
theorem d_Mo_hasPath_71 : decode prog_10_method_7_code 71 = .ok (.istore_n 3, 1) := by decide +kernel
theorem d_Mo_hasPath_72 : decode prog_10_method_7_code 72 = .ok (.iinc 4 1, 3) := by decide +kernel
theorem d_Mo_hasPath_75 : decode prog_10_method_7_code 75 = .ok (.goto (-51), 3) := by decide +kernel
theorem d_Mo_hasPath_78 : decode prog_10_method_7_code 78 = .ok (.iload_n 3, 1) := by decide +kernel
theorem d_Mo_hasPath_79 : decode prog_10_method_7_code 79 = .ok (.ireturn, 1) := by decide +kernel
theorem d_Mo_copy_0 : decode prog_10_method_5_code 0 = .ok (.aload_n 0, 1) := by decide +kernel
theorem d_Mo_copy_1 : decode prog_10_method_5_code 1 = .ok (.getfield 16, 3) := by decide +kernel
theorem d_Mo_copy_4 : decode prog_10_method_5_code 4 = .ok (.iload_n 2, 1) := by decide +kernel
theorem d_Mo_copy_5 : decode prog_10_method_5_code 5 = .ok (.aload_n 0, 1) := by decide +kernel
theorem d_Mo_copy_6 : decode prog_10_method_5_code 6 = .ok (.getfield 16, 3) := by decide +kernel
theorem d_Mo_copy_9 : decode prog_10_method_5_code 9 = .ok (.iload_n 1, 1) := by decide +kernel
theorem d_Mo_copy_10 : decode prog_10_method_5_code 10 = .ok (.iaload, 1) := by decide +kernel
theorem d_Mo_copy_11 : decode prog_10_method_5_code 11 = .ok (.iastore, 1) := by decide +kernel
theorem d_Mo_copy_12 : decode prog_10_method_5_code 12 = .ok (.aload_n 0, 1) := by decide +kernel
theorem d_Mo_copy_13 : decode prog_10_method_5_code 13 = .ok (.getfield 20, 3) := by decide +kernel
theorem d_Mo_copy_16 : decode prog_10_method_5_code 16 = .ok (.iload_n 2, 1) := by decide +kernel
theorem d_Mo_copy_17 : decode prog_10_method_5_code 17 = .ok (.aload_n 0, 1) := by decide +kernel
theorem d_Mo_copy_18 : decode prog_10_method_5_code 18 = .ok (.getfield 20, 3) := by decide +kernel
theorem d_Mo_copy_21 : decode prog_10_method_5_code 21 = .ok (.iload_n 1, 1) := by decide +kernel
theorem d_Mo_copy_22 : decode prog_10_method_5_code 22 = .ok (.iaload, 1) := by decide +kernel
theorem d_Mo_copy_23 : decode prog_10_method_5_code 23 = .ok (.iastore, 1) := by decide +kernel
theorem d_Mo_copy_24 : decode prog_10_method_5_code 24 = .ok (.aload_n 0, 1) := by decide +kernel
theorem d_Mo_copy_25 : decode prog_10_method_5_code 25 = .ok (.getfield 23, 3) := by decide +kernel
theorem d_Mo_copy_28 : decode prog_10_method_5_code 28 = .ok (.iload_n 2, 1) := by decide +kernel
theorem d_Mo_copy_29 : decode prog_10_method_5_code 29 = .ok (.aload_n 0, 1) := by decide +kernel
theorem d_Mo_copy_30 : decode prog_10_method_5_code 30 = .ok (.getfield 23, 3) := by decide +kernel
theorem d_Mo_copy_33 : decode prog_10_method_5_code 33 = .ok (.iload_n 1, 1) := by decide +kernel
theorem d_Mo_copy_34 : decode prog_10_method_5_code 34 = .ok (.iaload, 1) := by decide +kernel
theorem d_Mo_copy_35 : decode prog_10_method_5_code 35 = .ok (.iastore, 1) := by decide +kernel
theorem d_Mo_copy_36 : decode prog_10_method_5_code 36 = .ok (.aload_n 0, 1) := by decide +kernel
theorem d_Mo_copy_37 : decode prog_10_method_5_code 37 = .ok (.getfield 26, 3) := by decide +kernel
theorem d_Mo_copy_40 : decode prog_10_method_5_code 40 = .ok (.iload_n 2, 1) := by decide +kernel
theorem d_Mo_copy_41 : decode prog_10_method_5_code 41 = .ok (.aload_n 0, 1) := by decide +kernel
theorem d_Mo_copy_42 : decode prog_10_method_5_code 42 = .ok (.getfield 26, 3) := by decide +kernel
theorem d_Mo_copy_45 : decode prog_10_method_5_code 45 = .ok (.iload_n 1, 1) := by decide +kernel
theorem d_Mo_copy_46 : decode prog_10_method_5_code 46 = .ok (.iaload, 1) := by decide +kernel
theorem d_Mo_copy_47 : decode prog_10_method_5_code 47 = .ok (.iastore, 1) := by decide +kernel
theorem d_Mo_copy_48 : decode prog_10_method_5_code 48 = .ok (.iconst 0, 1) := by decide +kernel
theorem d_Mo_copy_49 : decode prog_10_method_5_code 49 = .ok (.istore_n 3, 1) := by decide +kernel
theorem d_Mo_copy_50 : decode prog_10_method_5_code 50 = .ok (.iload_n 3, 1) := by decide +kernel
theorem d_Mo_copy_51 : decode prog_10_method_5_code 51 = .ok (.aload_n 0, 1) := by decide +kernel
theorem d_Mo_copy_52 : decode prog_10_method_5_code 52 = .ok (.getfield 23, 3) := by decide +kernel
theorem d_Mo_copy_55 : decode prog_10_method_5_code 55 = .ok (.iload_n 1, 1) := by decide +kernel
theorem d_Mo_copy_56 : decode prog_10_method_5_code 56 = .ok (.iaload, 1) := by decide +kernel
theorem d_Mo_copy_57 : decode prog_10_method_5_code 57 = .ok (.if_icmp .ge 31, 3) := by decide +kernel
theorem d_Mo_copy_60 : decode prog_10_method_5_code 60 = .ok (.aload_n 0, 1) := by decide +kernel
theorem d_Mo_copy_61 : decode prog_10_method_5_code 61 = .ok (.getfield 29, 3) := by decide +kernel
theorem d_Mo_copy_64 : decode prog_10_method_5_code 64 = .ok (.bipush 100, 2) := by decide +kernel
theorem d_Mo_copy_66 : decode prog_10_method_5_code 66 = .ok (.iload_n 2, 1) := by decide +kernel
theorem d_Mo_copy_67 : decode prog_10_method_5_code 67 = .ok (.imul, 1) := by decide +kernel
theorem d_Mo_copy_68 : decode prog_10_method_5_code 68 = .ok (.iload_n 3, 1) := by decide +kernel
theorem d_Mo_copy_69 : decode prog_10_method_5_code 69 = .ok (.iadd, 1) := by decide +kernel
theorem d_Mo_copy_70 : decode prog_10_method_5_code 70 = .ok (.aload_n 0, 1) := by decide +kernel
theorem d_Mo_copy_71 : decode prog_10_method_5_code 71 = .ok (.getfield 29, 3) := by decide +kernel
theorem d_Mo_copy_74 : decode prog_10_method_5_code 74 = .ok (.bipush 100, 2) := by decide +kernel
theorem d_Mo_copy_76 : decode prog_10_method_5_code 76 = .ok (.iload_n 1, 1) := by decide +kernel
theorem d_Mo_copy_77 : decode prog_10_method_5_code 77 = .ok (.imul, 1) := by decide +kernel
theorem d_Mo_copy_78 : decode prog_10_method_5_code 78 = .ok (.iload_n 3, 1) := by decide +kernel
theorem d_Mo_copy_79 : decode prog_10_method_5_code 79 = .ok (.iadd, 1) := by decide +kernel
theorem d_Mo_copy_80 : decode prog_10_method_5_code 80 = .ok (.baload, 1) := by decide +kernel
theorem d_Mo_copy_81 : decode prog_10_method_5_code 81 = .ok (.bastore, 1) := by decide +kernel
theorem d_Mo_copy_82 : decode prog_10_method_5_code 82 = .ok (.iinc 3 1, 3) := by decide +kernel
theorem d_Mo_copy_85 : decode prog_10_method_5_code 85 = .ok (.goto (-35), 3) := by decide +kernel
theorem d_Mo_copy_88 : decode prog_10_method_5_code 88 = .ok (.iconst 0, 1) := by decide +kernel
theorem d_Mo_copy_89 : decode prog_10_method_5_code 89 = .ok (.istore_n 3, 1) := by decide +kernel
theorem d_Mo_copy_90 : decode prog_10_method_5_code 90 = .ok (.iload_n 3, 1) := by decide +kernel
theorem d_Mo_copy_91 : decode prog_10_method_5_code 91 = .ok (.aload_n 0, 1) := by decide +kernel
theorem d_Mo_copy_92 : decode prog_10_method_5_code 92 = .ok (.getfield 26, 3) := by decide +kernel
theorem d_Mo_copy_95 : decode prog_10_method_5_code 95 = .ok (.iload_n 1, 1) := by decide +kernel
theorem d_Mo_copy_96 : decode prog_10_method_5_code 96 = .ok (.iaload, 1) := by decide +kernel
theorem d_Mo_copy_97 : decode prog_10_method_5_code 97 = .ok (.if_icmp .ge 33, 3) := by decide +kernel
theorem d_Mo_copy_100 : decode prog_10_method_5_code 100 = .ok (.aload_n 0, 1) := by decide +kernel
theorem d_Mo_copy_101 : decode prog_10_method_5_code 101 = .ok (.getfield 33, 3) := by decide +kernel
theorem d_Mo_copy_104 : decode prog_10_method_5_code 104 = .ok (.sipush 400, 3) := by decide +kernel
theorem d_Mo_copy_107 : decode prog_10_method_5_code 107 = .ok (.iload_n 2, 1) := by decide +kernel
theorem d_Mo_copy_108 : decode prog_10_method_5_code 108 = .ok (.imul, 1) := by decide +kernel
theorem d_Mo_copy_109 : decode prog_10_method_5_code 109 = .ok (.iload_n 3, 1) := by decide +kernel
theorem d_Mo_copy_110 : decode prog_10_method_5_code 110 = .ok (.iadd, 1) := by decide +kernel
theorem d_Mo_copy_111 : decode prog_10_method_5_code 111 = .ok (.aload_n 0, 1) := by decide +kernel
theorem d_Mo_copy_112 : decode prog_10_method_5_code 112 = .ok (.getfield 33, 3) := by decide +kernel
theorem d_Mo_copy_115 : decode prog_10_method_5_code 115 = .ok (.sipush 400, 3) := by decide +kernel
theorem d_Mo_copy_118 : decode prog_10_method_5_code 118 = .ok (.iload_n 1, 1) := by decide +kernel
theorem d_Mo_copy_119 : decode prog_10_method_5_code 119 = .ok (.imul, 1) := by decide +kernel
theorem d_Mo_copy_120 : decode prog_10_method_5_code 120 = .ok (.iload_n 3, 1) := by decide +kernel
theorem d_Mo_copy_121 : decode prog_10_method_5_code 121 = .ok (.iadd, 1) := by decide +kernel
theorem d_Mo_copy_122 : decode prog_10_method_5_code 122 = .ok (.baload, 1) := by decide +kernel
theorem d_Mo_copy_123 : decode prog_10_method_5_code 123 = .ok (.bastore, 1) := by decide +kernel
theorem d_Mo_copy_124 : decode prog_10_method_5_code 124 = .ok (.iinc 3 1, 3) := by decide +kernel
theorem d_Mo_copy_127 : decode prog_10_method_5_code 127 = .ok (.goto (-37), 3) := by decide +kernel
theorem d_Mo_copy_130 : decode prog_10_method_5_code 130 = .ok (.return_, 1) := by decide +kernel
theorem d_Mo_drop_0 : decode prog_10_method_9_code 0 = .ok (.aload_n 0, 1) := by decide +kernel
theorem d_Mo_drop_1 : decode prog_10_method_9_code 1 = .ok (.dup, 1) := by decide +kernel
theorem d_Mo_drop_2 : decode prog_10_method_9_code 2 = .ok (.getfield 67, 3) := by decide +kernel
theorem d_Mo_drop_5 : decode prog_10_method_9_code 5 = .ok (.iconst 1, 1) := by decide +kernel
theorem d_Mo_drop_6 : decode prog_10_method_9_code 6 = .ok (.isub, 1) := by decide +kernel
theorem d_Mo_drop_7 : decode prog_10_method_9_code 7 = .ok (.putfield 67, 3) := by decide +kernel
theorem d_Mo_drop_10 : decode prog_10_method_9_code 10 = .ok (.iload_n 1, 1) := by decide +kernel
theorem d_Mo_drop_11 : decode prog_10_method_9_code 11 = .ok (.aload_n 0, 1) := by decide +kernel
theorem d_Mo_drop_12 : decode prog_10_method_9_code 12 = .ok (.getfield 67, 3) := by decide +kernel
theorem d_Mo_drop_15 : decode prog_10_method_9_code 15 = .ok (.if_icmp .ge 12, 3) := by decide +kernel
theorem d_Mo_drop_18 : decode prog_10_method_9_code 18 = .ok (.aload_n 0, 1) := by decide +kernel
theorem d_Mo_drop_19 : decode prog_10_method_9_code 19 = .ok (.aload_n 0, 1) := by decide +kernel
theorem d_Mo_drop_20 : decode prog_10_method_9_code 20 = .ok (.getfield 67, 3) := by decide +kernel
theorem d_Mo_drop_23 : decode prog_10_method_9_code 23 = .ok (.iload_n 1, 1) := by decide +kernel
theorem d_Mo_drop_24 : decode prog_10_method_9_code 24 = .ok (.invokevirtual 74, 3) := by decide +kernel
theorem d_Mo_drop_27 : decode prog_10_method_9_code 27 = .ok (.return_, 1) := by decide +kernel
theorem d_Mo_rename_0 : decode prog_10_method_16_code 0 = .ok (.iload_n 1, 1) := by decide +kernel
theorem d_Mo_rename_1 : decode prog_10_method_16_code 1 = .ok (.iload_n 2, 1) := by decide +kernel
theorem d_Mo_rename_2 : decode prog_10_method_16_code 2 = .ok (.invokestatic 99, 3) := by decide +kernel
theorem d_Mo_rename_5 : decode prog_10_method_16_code 5 = .ok (.ifCond .eq 16, 3) := by decide +kernel
theorem d_Mo_rename_8 : decode prog_10_method_16_code 8 = .ok (.iload_n 3, 1) := by decide +kernel
theorem d_Mo_rename_9 : decode prog_10_method_16_code 9 = .ok (.iload 4, 2) := by decide +kernel
theorem d_Mo_rename_11 : decode prog_10_method_16_code 11 = .ok (.invokestatic 99, 3) := by decide +kernel
theorem d_Mo_rename_14 : decode prog_10_method_16_code 14 = .ok (.ifCond .eq 7, 3) := by decide +kernel
theorem d_Mo_rename_17 : decode prog_10_method_16_code 17 = .ok (.iconst 1, 1) := by decide +kernel
theorem d_Mo_rename_18 : decode prog_10_method_16_code 18 = .ok (.goto 4, 3) := by decide +kernel
theorem d_Mo_rename_21 : decode prog_10_method_16_code 21 = .ok (.iconst 0, 1) := by decide +kernel
theorem d_Mo_rename_22 : decode prog_10_method_16_code 22 = .ok (.istore 5, 2) := by decide +kernel
theorem d_Mo_rename_24 : decode prog_10_method_16_code 24 = .ok (.aload_n 0, 1) := by decide +kernel
theorem d_Mo_rename_25 : decode prog_10_method_16_code 25 = .ok (.iload 5, 2) := by decide +kernel
theorem d_Mo_rename_27 : decode prog_10_method_16_code 27 = .ok (.ifCond .ne 7, 3) := by decide +kernel
theorem d_Mo_rename_30 : decode prog_10_method_16_code 30 = .ok (.iconst 1, 1) := by decide +kernel
theorem d_Mo_rename_31 : decode prog_10_method_16_code 31 = .ok (.goto 32, 3) := by decide +kernel
theorem d_Mo_rename_34 : decode prog_10_method_16_code 34 = .ok (.aload_n 0, 1) := by decide +kernel
theorem d_Mo_rename_35 : decode prog_10_method_16_code 35 = .ok (.iload_n 1, 1) := by decide +kernel
theorem d_Mo_rename_36 : decode prog_10_method_16_code 36 = .ok (.iload_n 2, 1) := by decide +kernel
theorem d_Mo_rename_37 : decode prog_10_method_16_code 37 = .ok (.invokevirtual 95, 3) := by decide +kernel
theorem d_Mo_rename_40 : decode prog_10_method_16_code 40 = .ok (.iconst (-1), 1) := by decide +kernel
theorem d_Mo_rename_41 : decode prog_10_method_16_code 41 = .ok (.if_icmp .ne 7, 3) := by decide +kernel
theorem d_Mo_rename_44 : decode prog_10_method_16_code 44 = .ok (.iconst 2, 1) := by decide +kernel
theorem d_Mo_rename_45 : decode prog_10_method_16_code 45 = .ok (.goto 18, 3) := by decide +kernel
theorem d_Mo_rename_48 : decode prog_10_method_16_code 48 = .ok (.aload_n 0, 1) := by decide +kernel
theorem d_Mo_rename_49 : decode prog_10_method_16_code 49 = .ok (.getfield 86, 3) := by decide +kernel
theorem d_Mo_rename_52 : decode prog_10_method_16_code 52 = .ok (.sipush 200, 3) := by decide +kernel
theorem d_Mo_rename_55 : decode prog_10_method_16_code 55 = .ok (.if_icmp .ne 7, 3) := by decide +kernel
theorem d_Mo_rename_58 : decode prog_10_method_16_code 58 = .ok (.iconst 3, 1) := by decide +kernel
theorem d_Mo_rename_59 : decode prog_10_method_16_code 59 = .ok (.goto 4, 3) := by decide +kernel
theorem d_Mo_rename_62 : decode prog_10_method_16_code 62 = .ok (.iconst 0, 1) := by decide +kernel
theorem d_Mo_rename_63 : decode prog_10_method_16_code 63 = .ok (.putfield 57, 3) := by decide +kernel
theorem d_Mo_rename_66 : decode prog_10_method_16_code 66 = .ok (.aload_n 0, 1) := by decide +kernel
theorem d_Mo_rename_67 : decode prog_10_method_16_code 67 = .ok (.getfield 57, 3) := by decide +kernel
theorem d_Mo_rename_70 : decode prog_10_method_16_code 70 = .ok (.ifCond .ne 27, 3) := by decide +kernel
theorem d_Mo_rename_73 : decode prog_10_method_16_code 73 = .ok (.aload_n 0, 1) := by decide +kernel
theorem d_Mo_rename_74 : decode prog_10_method_16_code 74 = .ok (.invokevirtual 102, 3) := by decide +kernel
theorem d_Mo_rename_77 : decode prog_10_method_16_code 77 = .ok (.istore 6, 2) := by decide +kernel
theorem d_Mo_rename_79 : decode prog_10_method_16_code 79 = .ok (.aload_n 0, 1) := by decide +kernel
theorem d_Mo_rename_80 : decode prog_10_method_16_code 80 = .ok (.iload 6, 2) := by decide +kernel
theorem d_Mo_rename_82 : decode prog_10_method_16_code 82 = .ok (.iload_n 1, 1) := by decide +kernel
theorem d_Mo_rename_83 : decode prog_10_method_16_code 83 = .ok (.iload_n 2, 1) := by decide +kernel
theorem d_Mo_rename_84 : decode prog_10_method_16_code 84 = .ok (.invokevirtual 106, 3) := by decide +kernel
theorem d_Mo_rename_87 : decode prog_10_method_16_code 87 = .ok (.aload_n 0, 1) := by decide +kernel
theorem d_Mo_rename_88 : decode prog_10_method_16_code 88 = .ok (.iconst 1, 1) := by decide +kernel
theorem d_Mo_rename_89 : decode prog_10_method_16_code 89 = .ok (.iload 6, 2) := by decide +kernel
theorem d_Mo_rename_91 : decode prog_10_method_16_code 91 = .ok (.iload_n 3, 1) := by decide +kernel
theorem d_Mo_rename_92 : decode prog_10_method_16_code 92 = .ok (.iload 4, 2) := by decide +kernel
theorem d_Mo_rename_94 : decode prog_10_method_16_code 94 = .ok (.invokevirtual 110, 3) := by decide +kernel
theorem d_Mo_rename_97 : decode prog_10_method_16_code 97 = .ok (.return_, 1) := by decide +kernel
theorem d_Mo_delete_0 : decode prog_10_method_17_code 0 = .ok (.aload_n 0, 1) := by decide +kernel
theorem d_Mo_delete_1 : decode prog_10_method_17_code 1 = .ok (.iload_n 1, 1) := by decide +kernel
theorem d_Mo_delete_2 : decode prog_10_method_17_code 2 = .ok (.iload_n 2, 1) := by decide +kernel
theorem d_Mo_delete_3 : decode prog_10_method_17_code 3 = .ok (.invokestatic 99, 3) := by decide +kernel
theorem d_Mo_delete_6 : decode prog_10_method_17_code 6 = .ok (.ifCond .ne 7, 3) := by decide +kernel
theorem d_Mo_delete_9 : decode prog_10_method_17_code 9 = .ok (.iconst 1, 1) := by decide +kernel
theorem d_Mo_delete_10 : decode prog_10_method_17_code 10 = .ok (.goto 32, 3) := by decide +kernel
theorem d_Mo_delete_13 : decode prog_10_method_17_code 13 = .ok (.aload_n 0, 1) := by decide +kernel
theorem d_Mo_delete_14 : decode prog_10_method_17_code 14 = .ok (.iload_n 1, 1) := by decide +kernel
theorem d_Mo_delete_15 : decode prog_10_method_17_code 15 = .ok (.iload_n 2, 1) := by decide +kernel
theorem d_Mo_delete_16 : decode prog_10_method_17_code 16 = .ok (.invokevirtual 95, 3) := by decide +kernel
theorem d_Mo_delete_19 : decode prog_10_method_17_code 19 = .ok (.iconst (-1), 1) := by decide +kernel
theorem d_Mo_delete_20 : decode prog_10_method_17_code 20 = .ok (.if_icmp .ne 7, 3) := by decide +kernel
theorem d_Mo_delete_23 : decode prog_10_method_17_code 23 = .ok (.iconst 2, 1) := by decide +kernel
theorem d_Mo_delete_24 : decode prog_10_method_17_code 24 = .ok (.goto 18, 3) := by decide +kernel
theorem d_Mo_delete_27 : decode prog_10_method_17_code 27 = .ok (.aload_n 0, 1) := by decide +kernel
theorem d_Mo_delete_28 : decode prog_10_method_17_code 28 = .ok (.getfield 86, 3) := by decide +kernel
theorem d_Mo_delete_31 : decode prog_10_method_17_code 31 = .ok (.sipush 200, 3) := by decide +kernel
theorem d_Mo_delete_34 : decode prog_10_method_17_code 34 = .ok (.if_icmp .ne 7, 3) := by decide +kernel
theorem d_Mo_delete_37 : decode prog_10_method_17_code 37 = .ok (.iconst 3, 1) := by decide +kernel
theorem d_Mo_delete_38 : decode prog_10_method_17_code 38 = .ok (.goto 4, 3) := by decide +kernel
theorem d_Mo_delete_41 : decode prog_10_method_17_code 41 = .ok (.iconst 0, 1) := by decide +kernel
theorem d_Mo_delete_42 : decode prog_10_method_17_code 42 = .ok (.putfield 57, 3) := by decide +kernel
theorem d_Mo_delete_45 : decode prog_10_method_17_code 45 = .ok (.aload_n 0, 1) := by decide +kernel
theorem d_Mo_delete_46 : decode prog_10_method_17_code 46 = .ok (.getfield 57, 3) := by decide +kernel
theorem d_Mo_delete_49 : decode prog_10_method_17_code 49 = .ok (.ifCond .ne 23, 3) := by decide +kernel
theorem d_Mo_delete_52 : decode prog_10_method_17_code 52 = .ok (.aload_n 0, 1) := by decide +kernel
theorem d_Mo_delete_53 : decode prog_10_method_17_code 53 = .ok (.invokevirtual 102, 3) := by decide +kernel
theorem d_Mo_delete_56 : decode prog_10_method_17_code 56 = .ok (.istore_n 3, 1) := by decide +kernel
theorem d_Mo_delete_57 : decode prog_10_method_17_code 57 = .ok (.aload_n 0, 1) := by decide +kernel
theorem d_Mo_delete_58 : decode prog_10_method_17_code 58 = .ok (.iload_n 3, 1) := by decide +kernel
theorem d_Mo_delete_59 : decode prog_10_method_17_code 59 = .ok (.iload_n 1, 1) := by decide +kernel
theorem d_Mo_delete_60 : decode prog_10_method_17_code 60 = .ok (.iload_n 2, 1) := by decide +kernel
theorem d_Mo_delete_61 : decode prog_10_method_17_code 61 = .ok (.invokevirtual 106, 3) := by decide +kernel
theorem d_Mo_delete_64 : decode prog_10_method_17_code 64 = .ok (.aload_n 0, 1) := by decide +kernel
theorem d_Mo_delete_65 : decode prog_10_method_17_code 65 = .ok (.iconst 2, 1) := by decide +kernel
theorem d_Mo_delete_66 : decode prog_10_method_17_code 66 = .ok (.iload_n 3, 1) := by decide +kernel
theorem d_Mo_delete_67 : decode prog_10_method_17_code 67 = .ok (.iconst 0, 1) := by decide +kernel
theorem d_Mo_delete_68 : decode prog_10_method_17_code 68 = .ok (.iconst 0, 1) := by decide +kernel
theorem d_Mo_delete_69 : decode prog_10_method_17_code 69 = .ok (.invokevirtual 110, 3) := by decide +kernel
theorem d_Mo_delete_72 : decode prog_10_method_17_code 72 = .ok (.return_, 1) := by decide +kernel
theorem d_Mo_sync_0 : decode prog_10_method_19_code 0 = .ok (.aload_n 0, 1) := by decide +kernel
theorem d_Mo_sync_1 : decode prog_10_method_19_code 1 = .ok (.iconst 0, 1) := by decide +kernel
theorem d_Mo_sync_2 : decode prog_10_method_19_code 2 = .ok (.putfield 57, 3) := by decide +kernel
theorem d_Mo_sync_5 : decode prog_10_method_19_code 5 = .ok (.aload_n 0, 1) := by decide +kernel
theorem d_Mo_sync_6 : decode prog_10_method_19_code 6 = .ok (.getfield 86, 3) := by decide +kernel
theorem d_Mo_sync_9 : decode prog_10_method_19_code 9 = .ok (.istore_n 1, 1) := by decide +kernel
theorem d_Mo_sync_10 : decode prog_10_method_19_code 10 = .ok (.aload_n 0, 1) := by decide +kernel
theorem d_Mo_sync_11 : decode prog_10_method_19_code 11 = .ok (.invokevirtual 117, 3) := by decide +kernel
theorem d_Mo_sync_14 : decode prog_10_method_19_code 14 = .ok (.aload_n 0, 1) := by decide +kernel
theorem d_Mo_sync_15 : decode prog_10_method_19_code 15 = .ok (.dup, 1) := by decide +kernel
theorem d_Mo_sync_16 : decode prog_10_method_19_code 16 = .ok (.getfield 89, 3) := by decide +kernel
theorem d_Mo_sync_19 : decode prog_10_method_19_code 19 = .ok (.iconst 1, 1) := by decide +kernel
theorem d_Mo_sync_20 : decode prog_10_method_19_code 20 = .ok (.iadd, 1) := by decide +kernel
theorem d_Mo_sync_21 : decode prog_10_method_19_code 21 = .ok (.putfield 89, 3) := by decide +kernel
theorem d_Mo_sync_24 : decode prog_10_method_19_code 24 = .ok (.iload_n 1, 1) := by decide +kernel
theorem d_Mo_sync_25 : decode prog_10_method_19_code 25 = .ok (.ireturn, 1) := by decide +kernel
theorem d_Mo_keep_0 : decode prog_10_method_18_code 0 = .ok (.iconst 0, 1) := by decide +kernel
theorem d_Mo_keep_1 : decode prog_10_method_18_code 1 = .ok (.istore_n 1, 1) := by decide +kernel
theorem d_Mo_keep_2 : decode prog_10_method_18_code 2 = .ok (.iload_n 1, 1) := by decide +kernel
theorem d_Mo_keep_3 : decode prog_10_method_18_code 3 = .ok (.aload_n 0, 1) := by decide +kernel
theorem d_Mo_keep_4 : decode prog_10_method_18_code 4 = .ok (.getfield 67, 3) := by decide +kernel
theorem d_Mo_keep_7 : decode prog_10_method_18_code 7 = .ok (.if_icmp .ge 18, 3) := by decide +kernel
theorem d_Mo_keep_10 : decode prog_10_method_18_code 10 = .ok (.aload_n 0, 1) := by decide +kernel
theorem d_Mo_keep_11 : decode prog_10_method_18_code 11 = .ok (.iload_n 1, 1) := by decide +kernel
theorem d_Mo_keep_12 : decode prog_10_method_18_code 12 = .ok (.bipush 60, 2) := by decide +kernel
theorem d_Mo_keep_14 : decode prog_10_method_18_code 14 = .ok (.iload_n 1, 1) := by decide +kernel
theorem d_Mo_keep_15 : decode prog_10_method_18_code 15 = .ok (.iadd, 1) := by decide +kernel
theorem d_Mo_keep_16 : decode prog_10_method_18_code 16 = .ok (.invokevirtual 74, 3) := by decide +kernel
theorem d_Mo_keep_19 : decode prog_10_method_18_code 19 = .ok (.iinc 1 1, 3) := by decide +kernel
theorem d_Mo_keep_22 : decode prog_10_method_18_code 22 = .ok (.goto (-20), 3) := by decide +kernel
theorem d_Mo_keep_25 : decode prog_10_method_18_code 25 = .ok (.aload_n 0, 1) := by decide +kernel
theorem d_Mo_keep_26 : decode prog_10_method_18_code 26 = .ok (.aload_n 0, 1) := by decide +kernel
theorem d_Mo_keep_27 : decode prog_10_method_18_code 27 = .ok (.getfield 67, 3) := by decide +kernel
theorem d_Mo_keep_30 : decode prog_10_method_18_code 30 = .ok (.putfield 114, 3) := by decide +kernel
theorem d_Mo_keep_33 : decode prog_10_method_18_code 33 = .ok (.aload_n 0, 1) := by decide +kernel
theorem d_Mo_keep_34 : decode prog_10_method_18_code 34 = .ok (.iconst 0, 1) := by decide +kernel
theorem d_Mo_keep_35 : decode prog_10_method_18_code 35 = .ok (.putfield 86, 3) := by decide +kernel
theorem d_Mo_keep_38 : decode prog_10_method_18_code 38 = .ok (.return_, 1) := by decide +kernel
theorem d_Mo_breakOff_0 : decode prog_10_method_20_code 0 = .ok (.aload_n 0, 1) := by decide +kernel
theorem d_Mo_breakOff_1 : decode prog_10_method_20_code 1 = .ok (.iload_n 1, 1) := by decide +kernel
theorem d_Mo_breakOff_2 : decode prog_10_method_20_code 2 = .ok (.ifCond .ge 7, 3) := by decide +kernel
theorem d_Mo_breakOff_5 : decode prog_10_method_20_code 5 = .ok (.iconst 1, 1) := by decide +kernel
theorem d_Mo_breakOff_6 : decode prog_10_method_20_code 6 = .ok (.goto 4, 3) := by decide +kernel
theorem d_Mo_breakOff_9 : decode prog_10_method_20_code 9 = .ok (.iconst 0, 1) := by decide +kernel
theorem d_Mo_breakOff_10 : decode prog_10_method_20_code 10 = .ok (.putfield 57, 3) := by decide +kernel
theorem d_Mo_breakOff_13 : decode prog_10_method_20_code 13 = .ok (.aload_n 0, 1) := by decide +kernel
theorem d_Mo_breakOff_14 : decode prog_10_method_20_code 14 = .ok (.getfield 57, 3) := by decide +kernel
theorem d_Mo_breakOff_17 : decode prog_10_method_20_code 17 = .ok (.ifCond .le 5, 3) := by decide +kernel
theorem d_Mo_breakOff_20 : decode prog_10_method_20_code 20 = .ok (.iconst 0, 1) := by decide +kernel
theorem d_Mo_breakOff_21 : decode prog_10_method_20_code 21 = .ok (.ireturn, 1) := by decide +kernel
theorem d_Mo_breakOff_22 : decode prog_10_method_20_code 22 = .ok (.iload_n 1, 1) := by decide +kernel
theorem d_Mo_breakOff_23 : decode prog_10_method_20_code 23 = .ok (.aload_n 0, 1) := by decide +kernel
theorem d_Mo_breakOff_24 : decode prog_10_method_20_code 24 = .ok (.getfield 86, 3) := by decide +kernel
theorem d_Mo_breakOff_27 : decode prog_10_method_20_code 27 = .ok (.if_icmp .ge 7, 3) := by decide +kernel
theorem d_Mo_breakOff_30 : decode prog_10_method_20_code 30 = .ok (.iload_n 1, 1) := by decide +kernel
theorem d_Mo_breakOff_31 : decode prog_10_method_20_code 31 = .ok (.goto 7, 3) := by decide +kernel
theorem d_Mo_breakOff_34 : decode prog_10_method_20_code 34 = .ok (.aload_n 0, 1) := by decide +kernel
theorem d_Mo_breakOff_35 : decode prog_10_method_20_code 35 = .ok (.getfield 86, 3) := by decide +kernel
theorem d_Mo_breakOff_38 : decode prog_10_method_20_code 38 = .ok (.istore_n 2, 1) := by decide +kernel
theorem d_Mo_breakOff_39 : decode prog_10_method_20_code 39 = .ok (.iconst 0, 1) := by decide +kernel
theorem d_Mo_breakOff_40 : decode prog_10_method_20_code 40 = .ok (.istore_n 3, 1) := by decide +kernel
theorem d_Mo_breakOff_41 : decode prog_10_method_20_code 41 = .ok (.iload_n 3, 1) := by decide +kernel
theorem d_Mo_breakOff_42 : decode prog_10_method_20_code 42 = .ok (.aload_n 0, 1) := by decide +kernel
theorem d_Mo_breakOff_43 : decode prog_10_method_20_code 43 = .ok (.getfield 114, 3) := by decide +kernel
theorem d_Mo_breakOff_46 : decode prog_10_method_20_code 46 = .ok (.if_icmp .ge 18, 3) := by decide +kernel
theorem d_Mo_breakOff_49 : decode prog_10_method_20_code 49 = .ok (.aload_n 0, 1) := by decide +kernel
theorem d_Mo_breakOff_50 : decode prog_10_method_20_code 50 = .ok (.bipush 60, 2) := by decide +kernel
theorem d_Mo_breakOff_52 : decode prog_10_method_20_code 52 = .ok (.iload_n 3, 1) := by decide +kernel
theorem d_Mo_breakOff_53 : decode prog_10_method_20_code 53 = .ok (.iadd, 1) := by decide +kernel
theorem d_Mo_breakOff_54 : decode prog_10_method_20_code 54 = .ok (.iload_n 3, 1) := by decide +kernel
theorem d_Mo_breakOff_55 : decode prog_10_method_20_code 55 = .ok (.invokevirtual 74, 3) := by decide +kernel
theorem d_Mo_breakOff_58 : decode prog_10_method_20_code 58 = .ok (.iinc 3 1, 3) := by decide +kernel
theorem d_Mo_breakOff_61 : decode prog_10_method_20_code 61 = .ok (.goto (-20), 3) := by decide +kernel
theorem d_Mo_breakOff_64 : decode prog_10_method_20_code 64 = .ok (.aload_n 0, 1) := by decide +kernel
theorem d_Mo_breakOff_65 : decode prog_10_method_20_code 65 = .ok (.aload_n 0, 1) := by decide +kernel
theorem d_Mo_breakOff_66 : decode prog_10_method_20_code 66 = .ok (.getfield 114, 3) := by decide +kernel
theorem d_Mo_breakOff_69 : decode prog_10_method_20_code 69 = .ok (.putfield 67, 3) := by decide +kernel
theorem d_Mo_breakOff_72 : decode prog_10_method_20_code 72 = .ok (.iconst 0, 1) := by decide +kernel
theorem d_Mo_breakOff_73 : decode prog_10_method_20_code 73 = .ok (.istore_n 3, 1) := by decide +kernel
theorem d_Mo_breakOff_74 : decode prog_10_method_20_code 74 = .ok (.iload_n 3, 1) := by decide +kernel
theorem d_Mo_breakOff_75 : decode prog_10_method_20_code 75 = .ok (.iload_n 2, 1) := by decide +kernel
theorem d_Mo_breakOff_76 : decode prog_10_method_20_code 76 = .ok (.if_icmp .ge 14, 3) := by decide +kernel
theorem d_Mo_breakOff_79 : decode prog_10_method_20_code 79 = .ok (.aload_n 0, 1) := by decide +kernel
theorem d_Mo_breakOff_80 : decode prog_10_method_20_code 80 = .ok (.iload_n 3, 1) := by decide +kernel
theorem d_Mo_breakOff_81 : decode prog_10_method_20_code 81 = .ok (.invokevirtual 92, 3) := by decide +kernel
theorem d_Mo_breakOff_84 : decode prog_10_method_20_code 84 = .ok (.iinc 3 1, 3) := by decide +kernel
theorem d_Mo_breakOff_87 : decode prog_10_method_20_code 87 = .ok (.goto (-13), 3) := by decide +kernel
theorem d_Mo_breakOff_90 : decode prog_10_method_20_code 90 = .ok (.aload_n 0, 1) := by decide +kernel
theorem d_Mo_breakOff_91 : decode prog_10_method_20_code 91 = .ok (.invokevirtual 117, 3) := by decide +kernel
theorem d_Mo_breakOff_94 : decode prog_10_method_20_code 94 = .ok (.iload_n 2, 1) := by decide +kernel
theorem d_Mo_breakOff_95 : decode prog_10_method_20_code 95 = .ok (.ireturn, 1) := by decide +kernel
theorem d_Mo_size_0 : decode prog_10_method_21_code 0 = .ok (.aload_n 0, 1) := by decide +kernel
theorem d_Mo_size_1 : decode prog_10_method_21_code 1 = .ok (.iconst 0, 1) := by decide +kernel
theorem d_Mo_size_2 : decode prog_10_method_21_code 2 = .ok (.putfield 57, 3) := by decide +kernel
theorem d_Mo_size_5 : decode prog_10_method_21_code 5 = .ok (.aload_n 0, 1) := by decide +kernel
theorem d_Mo_size_6 : decode prog_10_method_21_code 6 = .ok (.iload_n 1, 1) := by decide +kernel
theorem d_Mo_size_7 : decode prog_10_method_21_code 7 = .ok (.iload_n 2, 1) := by decide +kernel
theorem d_Mo_size_8 : decode prog_10_method_21_code 8 = .ok (.invokevirtual 95, 3) := by decide +kernel
theorem d_Mo_size_11 : decode prog_10_method_21_code 11 = .ok (.istore_n 3, 1) := by decide +kernel
theorem d_Mo_size_12 : decode prog_10_method_21_code 12 = .ok (.iload_n 3, 1) := by decide +kernel
theorem d_Mo_size_13 : decode prog_10_method_21_code 13 = .ok (.iconst (-1), 1) := by decide +kernel
theorem d_Mo_size_14 : decode prog_10_method_21_code 14 = .ok (.if_icmp .ne 7, 3) := by decide +kernel
theorem d_Mo_size_17 : decode prog_10_method_21_code 17 = .ok (.iconst (-1), 1) := by decide +kernel
theorem d_Mo_size_18 : decode prog_10_method_21_code 18 = .ok (.goto 9, 3) := by decide +kernel
theorem d_Mo_size_21 : decode prog_10_method_21_code 21 = .ok (.aload_n 0, 1) := by decide +kernel
theorem d_Mo_size_22 : decode prog_10_method_21_code 22 = .ok (.getfield 26, 3) := by decide +kernel
theorem d_Mo_size_25 : decode prog_10_method_21_code 25 = .ok (.iload_n 3, 1) := by decide +kernel
theorem d_Mo_size_26 : decode prog_10_method_21_code 26 = .ok (.iaload, 1) := by decide +kernel
theorem d_Mo_size_27 : decode prog_10_method_21_code 27 = .ok (.ireturn, 1) := by decide +kernel
theorem d_Mo_at_0 : decode prog_10_method_22_code 0 = .ok (.aload_n 0, 1) := by decide +kernel
theorem d_Mo_at_1 : decode prog_10_method_22_code 1 = .ok (.iconst 0, 1) := by decide +kernel
theorem d_Mo_at_2 : decode prog_10_method_22_code 2 = .ok (.putfield 57, 3) := by decide +kernel
theorem d_Mo_at_5 : decode prog_10_method_22_code 5 = .ok (.aload_n 0, 1) := by decide +kernel
theorem d_Mo_at_6 : decode prog_10_method_22_code 6 = .ok (.iload_n 1, 1) := by decide +kernel
theorem d_Mo_at_7 : decode prog_10_method_22_code 7 = .ok (.iload_n 2, 1) := by decide +kernel
theorem d_Mo_at_8 : decode prog_10_method_22_code 8 = .ok (.invokevirtual 95, 3) := by decide +kernel
theorem d_Mo_at_11 : decode prog_10_method_22_code 11 = .ok (.istore 4, 2) := by decide +kernel
theorem d_Mo_at_13 : decode prog_10_method_22_code 13 = .ok (.iload 4, 2) := by decide +kernel
theorem d_Mo_at_15 : decode prog_10_method_22_code 15 = .ok (.iconst (-1), 1) := by decide +kernel
theorem d_Mo_at_16 : decode prog_10_method_22_code 16 = .ok (.if_icmp .eq 18, 3) := by decide +kernel
theorem d_Mo_at_19 : decode prog_10_method_22_code 19 = .ok (.iload_n 3, 1) := by decide +kernel
theorem d_Mo_at_20 : decode prog_10_method_22_code 20 = .ok (.ifCond .lt 14, 3) := by decide +kernel
theorem d_Mo_at_23 : decode prog_10_method_22_code 23 = .ok (.iload_n 3, 1) := by decide +kernel
theorem d_Mo_at_24 : decode prog_10_method_22_code 24 = .ok (.aload_n 0, 1) := by decide +kernel
theorem d_Mo_at_25 : decode prog_10_method_22_code 25 = .ok (.getfield 26, 3) := by decide +kernel
theorem d_Mo_at_28 : decode prog_10_method_22_code 28 = .ok (.iload 4, 2) := by decide +kernel
theorem d_Mo_at_30 : decode prog_10_method_22_code 30 = .ok (.iaload, 1) := by decide +kernel
theorem d_Mo_at_31 : decode prog_10_method_22_code 31 = .ok (.if_icmp .lt 7, 3) := by decide +kernel
theorem d_Mo_at_34 : decode prog_10_method_22_code 34 = .ok (.iconst (-1), 1) := by decide +kernel
theorem d_Mo_at_35 : decode prog_10_method_22_code 35 = .ok (.goto 20, 3) := by decide +kernel
theorem d_Mo_at_38 : decode prog_10_method_22_code 38 = .ok (.aload_n 0, 1) := by decide +kernel
theorem d_Mo_at_39 : decode prog_10_method_22_code 39 = .ok (.getfield 33, 3) := by decide +kernel
theorem d_Mo_at_42 : decode prog_10_method_22_code 42 = .ok (.sipush 400, 3) := by decide +kernel
theorem d_Mo_at_45 : decode prog_10_method_22_code 45 = .ok (.iload 4, 2) := by decide +kernel
theorem d_Mo_at_47 : decode prog_10_method_22_code 47 = .ok (.imul, 1) := by decide +kernel
theorem d_Mo_at_48 : decode prog_10_method_22_code 48 = .ok (.iload_n 3, 1) := by decide +kernel
theorem d_Mo_at_49 : decode prog_10_method_22_code 49 = .ok (.iadd, 1) := by decide +kernel
theorem d_Mo_at_50 : decode prog_10_method_22_code 50 = .ok (.baload, 1) := by decide +kernel
theorem d_Mo_at_51 : decode prog_10_method_22_code 51 = .ok (.sipush 255, 3) := by decide +kernel
theorem d_Mo_at_54 : decode prog_10_method_22_code 54 = .ok (.iand, 1) := by decide +kernel
theorem d_Mo_at_55 : decode prog_10_method_22_code 55 = .ok (.ireturn, 1) := by decide +kernel
theorem d_Mo_list_0 : decode prog_10_method_25_code 0 = .ok (.aload_n 0, 1) := by decide +kernel
theorem d_Mo_list_1 : decode prog_10_method_25_code 1 = .ok (.iconst 0, 1) := by decide +kernel
theorem d_Mo_list_2 : decode prog_10_method_25_code 2 = .ok (.putfield 57, 3) := by decide +kernel
theorem d_Mo_list_5 : decode prog_10_method_25_code 5 = .ok (.iload_n 1, 1) := by decide +kernel
theorem d_Mo_list_6 : decode prog_10_method_25_code 6 = .ok (.ifCond .lt 9, 3) := by decide +kernel
theorem d_Mo_list_9 : decode prog_10_method_25_code 9 = .ok (.iload_n 1, 1) := by decide +kernel
theorem d_Mo_list_10 : decode prog_10_method_25_code 10 = .ok (.bipush 7, 2) := by decide +kernel
theorem d_Mo_list_12 : decode prog_10_method_25_code 12 = .ok (.if_icmp .lt 5, 3) := by decide +kernel
theorem d_Mo_list_15 : decode prog_10_method_25_code 15 = .ok (.iconst (-1), 1) := by decide +kernel
theorem d_Mo_list_16 : decode prog_10_method_25_code 16 = .ok (.ireturn, 1) := by decide +kernel
theorem d_Mo_list_17 : decode prog_10_method_25_code 17 = .ok (.aload_n 0, 1) := by decide +kernel
theorem d_Mo_list_18 : decode prog_10_method_25_code 18 = .ok (.iconst 0, 1) := by decide +kernel
theorem d_Mo_list_19 : decode prog_10_method_25_code 19 = .ok (.putfield 123, 3) := by decide +kernel
theorem d_Mo_list_22 : decode prog_10_method_25_code 22 = .ok (.iconst 0, 1) := by decide +kernel
theorem d_Mo_list_23 : decode prog_10_method_25_code 23 = .ok (.istore_n 2, 1) := by decide +kernel
theorem d_Mo_list_24 : decode prog_10_method_25_code 24 = .ok (.iload_n 2, 1) := by decide +kernel
theorem d_Mo_list_25 : decode prog_10_method_25_code 25 = .ok (.aload_n 0, 1) := by decide +kernel
theorem d_Mo_list_26 : decode prog_10_method_25_code 26 = .ok (.getfield 67, 3) := by decide +kernel
theorem d_Mo_list_29 : decode prog_10_method_25_code 29 = .ok (.if_icmp .ge 81, 3) := by decide +kernel
theorem d_Mo_list_32 : decode prog_10_method_25_code 32 = .ok (.aload_n 0, 1) := by decide +kernel
theorem d_Mo_list_33 : decode prog_10_method_25_code 33 = .ok (.getfield 16, 3) := by decide +kernel
theorem d_Mo_list_36 : decode prog_10_method_25_code 36 = .ok (.iload_n 2, 1) := by decide +kernel
theorem d_Mo_list_37 : decode prog_10_method_25_code 37 = .ok (.iaload, 1) := by decide +kernel
theorem d_Mo_list_38 : decode prog_10_method_25_code 38 = .ok (.iload_n 1, 1) := by decide +kernel
theorem d_Mo_list_39 : decode prog_10_method_25_code 39 = .ok (.if_icmp .ne 65, 3) := by decide +kernel
theorem d_Mo_list_42 : decode prog_10_method_25_code 42 = .ok (.aload_n 0, 1) := by decide +kernel
theorem d_Mo_list_43 : decode prog_10_method_25_code 43 = .ok (.getfield 123, 3) := by decide +kernel
theorem d_Mo_list_46 : decode prog_10_method_25_code 46 = .ok (.istore_n 3, 1) := by decide +kernel
theorem d_Mo_list_47 : decode prog_10_method_25_code 47 = .ok (.iload_n 3, 1) := by decide +kernel
theorem d_Mo_list_48 : decode prog_10_method_25_code 48 = .ok (.ifCond .le 39, 3) := by decide +kernel
theorem d_Mo_list_51 : decode prog_10_method_25_code 51 = .ok (.aload_n 0, 1) := by decide +kernel
theorem d_Mo_list_52 : decode prog_10_method_25_code 52 = .ok (.iload_n 2, 1) := by decide +kernel
theorem d_Mo_list_53 : decode prog_10_method_25_code 53 = .ok (.aload_n 0, 1) := by decide +kernel
theorem d_Mo_list_54 : decode prog_10_method_25_code 54 = .ok (.getfield 51, 3) := by decide +kernel
theorem d_Mo_list_57 : decode prog_10_method_25_code 57 = .ok (.iload_n 3, 1) := by decide +kernel
theorem d_Mo_list_58 : decode prog_10_method_25_code 58 = .ok (.iconst 1, 1) := by decide +kernel
theorem d_Mo_list_59 : decode prog_10_method_25_code 59 = .ok (.isub, 1) := by decide +kernel
theorem d_Mo_list_60 : decode prog_10_method_25_code 60 = .ok (.iaload, 1) := by decide +kernel
theorem d_Mo_list_61 : decode prog_10_method_25_code 61 = .ok (.invokevirtual 126, 3) := by decide +kernel
theorem d_Mo_list_64 : decode prog_10_method_25_code 64 = .ok (.ifCond .eq 23, 3) := by decide +kernel
theorem d_Mo_list_67 : decode prog_10_method_25_code 67 = .ok (.aload_n 0, 1) := by decide +kernel
theorem d_Mo_list_68 : decode prog_10_method_25_code 68 = .ok (.getfield 51, 3) := by decide +kernel
theorem d_Mo_list_71 : decode prog_10_method_25_code 71 = .ok (.iload_n 3, 1) := by decide +kernel
theorem d_Mo_list_72 : decode prog_10_method_25_code 72 = .ok (.aload_n 0, 1) := by decide +kernel
theorem d_Mo_list_73 : decode prog_10_method_25_code 73 = .ok (.getfield 51, 3) := by decide +kernel
theorem d_Mo_list_76 : decode prog_10_method_25_code 76 = .ok (.iload_n 3, 1) := by decide +kernel
theorem d_Mo_list_77 : decode prog_10_method_25_code 77 = .ok (.iconst 1, 1) := by decide +kernel
theorem d_Mo_list_78 : decode prog_10_method_25_code 78 = .ok (.isub, 1) := by decide +kernel
theorem d_Mo_list_79 : decode prog_10_method_25_code 79 = .ok (.iaload, 1) := by decide +kernel
theorem d_Mo_list_80 : decode prog_10_method_25_code 80 = .ok (.iastore, 1) := by decide +kernel
theorem d_Mo_list_81 : decode prog_10_method_25_code 81 = .ok (.iinc 3 (-1), 3) := by decide +kernel
theorem d_Mo_list_84 : decode prog_10_method_25_code 84 = .ok (.goto (-37), 3) := by decide +kernel
theorem d_Mo_list_87 : decode prog_10_method_25_code 87 = .ok (.aload_n 0, 1) := by decide +kernel
theorem d_Mo_list_88 : decode prog_10_method_25_code 88 = .ok (.getfield 51, 3) := by decide +kernel
theorem d_Mo_list_91 : decode prog_10_method_25_code 91 = .ok (.iload_n 3, 1) := by decide +kernel
theorem d_Mo_list_92 : decode prog_10_method_25_code 92 = .ok (.iload_n 2, 1) := by decide +kernel
theorem d_Mo_list_93 : decode prog_10_method_25_code 93 = .ok (.iastore, 1) := by decide +kernel
theorem d_Mo_list_94 : decode prog_10_method_25_code 94 = .ok (.aload_n 0, 1) := by decide +kernel
theorem d_Mo_list_95 : decode prog_10_method_25_code 95 = .ok (.dup, 1) := by decide +kernel
theorem d_Mo_list_96 : decode prog_10_method_25_code 96 = .ok (.getfield 123, 3) := by decide +kernel
theorem d_Mo_list_99 : decode prog_10_method_25_code 99 = .ok (.iconst 1, 1) := by decide +kernel
theorem d_Mo_list_100 : decode prog_10_method_25_code 100 = .ok (.iadd, 1) := by decide +kernel
theorem d_Mo_list_101 : decode prog_10_method_25_code 101 = .ok (.putfield 123, 3) := by decide +kernel
theorem d_Mo_list_104 : decode prog_10_method_25_code 104 = .ok (.iinc 2 1, 3) := by decide +kernel
theorem d_Mo_list_107 : decode prog_10_method_25_code 107 = .ok (.goto (-83), 3) := by decide +kernel
theorem d_Mo_list_110 : decode prog_10_method_25_code 110 = .ok (.iconst 0, 1) := by decide +kernel
theorem d_Mo_list_111 : decode prog_10_method_25_code 111 = .ok (.istore_n 2, 1) := by decide +kernel
theorem d_Mo_list_112 : decode prog_10_method_25_code 112 = .ok (.iload_n 2, 1) := by decide +kernel
theorem d_Mo_list_113 : decode prog_10_method_25_code 113 = .ok (.aload_n 0, 1) := by decide +kernel
theorem d_Mo_list_114 : decode prog_10_method_25_code 114 = .ok (.getfield 123, 3) := by decide +kernel
theorem d_Mo_list_117 : decode prog_10_method_25_code 117 = .ok (.if_icmp .ge 84, 3) := by decide +kernel
theorem d_Mo_list_120 : decode prog_10_method_25_code 120 = .ok (.aload_n 0, 1) := by decide +kernel
theorem d_Mo_list_121 : decode prog_10_method_25_code 121 = .ok (.getfield 51, 3) := by decide +kernel
theorem d_Mo_list_124 : decode prog_10_method_25_code 124 = .ok (.iload_n 2, 1) := by decide +kernel
theorem d_Mo_list_125 : decode prog_10_method_25_code 125 = .ok (.iaload, 1) := by decide +kernel
theorem d_Mo_list_126 : decode prog_10_method_25_code 126 = .ok (.istore_n 3, 1) := by decide +kernel
theorem d_Mo_list_127 : decode prog_10_method_25_code 127 = .ok (.aload_n 0, 1) := by decide +kernel
theorem d_Mo_list_128 : decode prog_10_method_25_code 128 = .ok (.getfield 45, 3) := by decide +kernel
theorem d_Mo_list_131 : decode prog_10_method_25_code 131 = .ok (.iload_n 2, 1) := by decide +kernel
theorem d_Mo_list_132 : decode prog_10_method_25_code 132 = .ok (.aload_n 0, 1) := by decide +kernel
theorem d_Mo_list_133 : decode prog_10_method_25_code 133 = .ok (.getfield 20, 3) := by decide +kernel
theorem d_Mo_list_136 : decode prog_10_method_25_code 136 = .ok (.iload_n 3, 1) := by decide +kernel
theorem d_Mo_list_137 : decode prog_10_method_25_code 137 = .ok (.iaload, 1) := by decide +kernel
theorem d_Mo_list_138 : decode prog_10_method_25_code 138 = .ok (.iastore, 1) := by decide +kernel
theorem d_Mo_list_139 : decode prog_10_method_25_code 139 = .ok (.aload_n 0, 1) := by decide +kernel
theorem d_Mo_list_140 : decode prog_10_method_25_code 140 = .ok (.getfield 48, 3) := by decide +kernel
theorem d_Mo_list_143 : decode prog_10_method_25_code 143 = .ok (.iload_n 2, 1) := by decide +kernel
theorem d_Mo_list_144 : decode prog_10_method_25_code 144 = .ok (.aload_n 0, 1) := by decide +kernel
theorem d_Mo_list_145 : decode prog_10_method_25_code 145 = .ok (.getfield 23, 3) := by decide +kernel
theorem d_Mo_list_148 : decode prog_10_method_25_code 148 = .ok (.iload_n 3, 1) := by decide +kernel
theorem d_Mo_list_149 : decode prog_10_method_25_code 149 = .ok (.iaload, 1) := by decide +kernel
theorem d_Mo_list_150 : decode prog_10_method_25_code 150 = .ok (.iastore, 1) := by decide +kernel
theorem d_Mo_list_151 : decode prog_10_method_25_code 151 = .ok (.iconst 0, 1) := by decide +kernel
theorem d_Mo_list_152 : decode prog_10_method_25_code 152 = .ok (.istore 4, 2) := by decide +kernel
theorem d_Mo_list_154 : decode prog_10_method_25_code 154 = .ok (.iload 4, 2) := by decide +kernel
theorem d_Mo_list_156 : decode prog_10_method_25_code 156 = .ok (.aload_n 0, 1) := by decide +kernel
theorem d_Mo_list_157 : decode prog_10_method_25_code 157 = .ok (.getfield 23, 3) := by decide +kernel
theorem d_Mo_list_160 : decode prog_10_method_25_code 160 = .ok (.iload_n 3, 1) := by decide +kernel
theorem d_Mo_list_161 : decode prog_10_method_25_code 161 = .ok (.iaload, 1) := by decide +kernel
theorem d_Mo_list_162 : decode prog_10_method_25_code 162 = .ok (.if_icmp .ge 33, 3) := by decide +kernel
theorem d_Mo_list_165 : decode prog_10_method_25_code 165 = .ok (.aload_n 0, 1) := by decide +kernel
theorem d_Mo_list_166 : decode prog_10_method_25_code 166 = .ok (.getfield 54, 3) := by decide +kernel
theorem d_Mo_list_169 : decode prog_10_method_25_code 169 = .ok (.bipush 100, 2) := by decide +kernel
theorem d_Mo_list_171 : decode prog_10_method_25_code 171 = .ok (.iload_n 2, 1) := by decide +kernel
theorem d_Mo_list_172 : decode prog_10_method_25_code 172 = .ok (.imul, 1) := by decide +kernel
theorem d_Mo_list_173 : decode prog_10_method_25_code 173 = .ok (.iload 4, 2) := by decide +kernel
theorem d_Mo_list_175 : decode prog_10_method_25_code 175 = .ok (.iadd, 1) := by decide +kernel
theorem d_Mo_list_176 : decode prog_10_method_25_code 176 = .ok (.aload_n 0, 1) := by decide +kernel
theorem d_Mo_list_177 : decode prog_10_method_25_code 177 = .ok (.getfield 29, 3) := by decide +kernel
theorem d_Mo_list_180 : decode prog_10_method_25_code 180 = .ok (.bipush 100, 2) := by decide +kernel
theorem d_Mo_list_182 : decode prog_10_method_25_code 182 = .ok (.iload_n 3, 1) := by decide +kernel
theorem d_Mo_list_183 : decode prog_10_method_25_code 183 = .ok (.imul, 1) := by decide +kernel
theorem d_Mo_list_184 : decode prog_10_method_25_code 184 = .ok (.iload 4, 2) := by decide +kernel
theorem d_Mo_list_186 : decode prog_10_method_25_code 186 = .ok (.iadd, 1) := by decide +kernel
theorem d_Mo_list_187 : decode prog_10_method_25_code 187 = .ok (.baload, 1) := by decide +kernel
theorem d_Mo_list_188 : decode prog_10_method_25_code 188 = .ok (.bastore, 1) := by decide +kernel
theorem d_Mo_list_189 : decode prog_10_method_25_code 189 = .ok (.iinc 4 1, 3) := by decide +kernel
theorem d_Mo_list_192 : decode prog_10_method_25_code 192 = .ok (.goto (-38), 3) := by decide +kernel
theorem d_Mo_list_195 : decode prog_10_method_25_code 195 = .ok (.iinc 2 1, 3) := by decide +kernel
theorem d_Mo_list_198 : decode prog_10_method_25_code 198 = .ok (.goto (-86), 3) := by decide +kernel
theorem d_Mo_list_201 : decode prog_10_method_25_code 201 = .ok (.aload_n 0, 1) := by decide +kernel
theorem d_Mo_list_202 : decode prog_10_method_25_code 202 = .ok (.getfield 123, 3) := by decide +kernel
theorem d_Mo_list_205 : decode prog_10_method_25_code 205 = .ok (.ireturn, 1) := by decide +kernel
theorem d_Mo_isAhead_0 : decode prog_10_method_24_code 0 = .ok (.aload_n 0, 1) := by decide +kernel
theorem d_Mo_isAhead_1 : decode prog_10_method_24_code 1 = .ok (.getfield 20, 3) := by decide +kernel
theorem d_Mo_isAhead_4 : decode prog_10_method_24_code 4 = .ok (.iload_n 1, 1) := by decide +kernel
theorem d_Mo_isAhead_5 : decode prog_10_method_24_code 5 = .ok (.iaload, 1) := by decide +kernel
theorem d_Mo_isAhead_6 : decode prog_10_method_24_code 6 = .ok (.aload_n 0, 1) := by decide +kernel
theorem d_Mo_isAhead_7 : decode prog_10_method_24_code 7 = .ok (.getfield 20, 3) := by decide +kernel
theorem d_Mo_isAhead_10 : decode prog_10_method_24_code 10 = .ok (.iload_n 2, 1) := by decide +kernel
theorem d_Mo_isAhead_11 : decode prog_10_method_24_code 11 = .ok (.iaload, 1) := by decide +kernel
theorem d_Mo_isAhead_12 : decode prog_10_method_24_code 12 = .ok (.if_icmp .eq 24, 3) := by decide +kernel
theorem d_Mo_isAhead_15 : decode prog_10_method_24_code 15 = .ok (.aload_n 0, 1) := by decide +kernel
theorem d_Mo_isAhead_16 : decode prog_10_method_24_code 16 = .ok (.getfield 20, 3) := by decide +kernel
theorem d_Mo_isAhead_19 : decode prog_10_method_24_code 19 = .ok (.iload_n 1, 1) := by decide +kernel
theorem d_Mo_isAhead_20 : decode prog_10_method_24_code 20 = .ok (.iaload, 1) := by decide +kernel
theorem d_Mo_isAhead_21 : decode prog_10_method_24_code 21 = .ok (.aload_n 0, 1) := by decide +kernel
theorem d_Mo_isAhead_22 : decode prog_10_method_24_code 22 = .ok (.getfield 20, 3) := by decide +kernel
theorem d_Mo_isAhead_25 : decode prog_10_method_24_code 25 = .ok (.iload_n 2, 1) := by decide +kernel
theorem d_Mo_isAhead_26 : decode prog_10_method_24_code 26 = .ok (.iaload, 1) := by decide +kernel
theorem d_Mo_isAhead_27 : decode prog_10_method_24_code 27 = .ok (.if_icmp .ge 7, 3) := by decide +kernel
theorem d_Mo_isAhead_30 : decode prog_10_method_24_code 30 = .ok (.iconst 1, 1) := by decide +kernel
theorem d_Mo_isAhead_31 : decode prog_10_method_24_code 31 = .ok (.goto 4, 3) := by decide +kernel
theorem d_Mo_isAhead_34 : decode prog_10_method_24_code 34 = .ok (.iconst 0, 1) := by decide +kernel
theorem d_Mo_isAhead_35 : decode prog_10_method_24_code 35 = .ok (.ireturn, 1) := by decide +kernel
theorem d_Mo_isAhead_36 : decode prog_10_method_24_code 36 = .ok (.iconst 0, 1) := by decide +kernel
theorem d_Mo_isAhead_37 : decode prog_10_method_24_code 37 = .ok (.istore_n 3, 1) := by decide +kernel
theorem d_Mo_isAhead_38 : decode prog_10_method_24_code 38 = .ok (.iload_n 3, 1) := by decide +kernel
theorem d_Mo_isAhead_39 : decode prog_10_method_24_code 39 = .ok (.bipush 100, 2) := by decide +kernel
theorem d_Mo_isAhead_41 : decode prog_10_method_24_code 41 = .ok (.if_icmp .ge 45, 3) := by decide +kernel
theorem d_Mo_isAhead_44 : decode prog_10_method_24_code 44 = .ok (.aload_n 0, 1) := by decide +kernel
theorem d_Mo_isAhead_45 : decode prog_10_method_24_code 45 = .ok (.iload_n 1, 1) := by decide +kernel
theorem d_Mo_isAhead_46 : decode prog_10_method_24_code 46 = .ok (.iload_n 3, 1) := by decide +kernel
theorem d_Mo_isAhead_47 : decode prog_10_method_24_code 47 = .ok (.invokevirtual 120, 3) := by decide +kernel
theorem d_Mo_isAhead_50 : decode prog_10_method_24_code 50 = .ok (.aload_n 0, 1) := by decide +kernel
theorem d_Mo_isAhead_51 : decode prog_10_method_24_code 51 = .ok (.iload_n 2, 1) := by decide +kernel
theorem d_Mo_isAhead_52 : decode prog_10_method_24_code 52 = .ok (.iload_n 3, 1) := by decide +kernel
theorem d_Mo_isAhead_53 : decode prog_10_method_24_code 53 = .ok (.invokevirtual 120, 3) := by decide +kernel
theorem d_Mo_isAhead_56 : decode prog_10_method_24_code 56 = .ok (.if_icmp .eq 24, 3) := by decide +kernel
theorem d_Mo_isAhead_59 : decode prog_10_method_24_code 59 = .ok (.aload_n 0, 1) := by decide +kernel
theorem d_Mo_isAhead_60 : decode prog_10_method_24_code 60 = .ok (.iload_n 1, 1) := by decide +kernel
theorem d_Mo_isAhead_61 : decode prog_10_method_24_code 61 = .ok (.iload_n 3, 1) := by decide +kernel
theorem d_Mo_isAhead_62 : decode prog_10_method_24_code 62 = .ok (.invokevirtual 120, 3) := by decide +kernel
theorem d_Mo_isAhead_65 : decode prog_10_method_24_code 65 = .ok (.aload_n 0, 1) := by decide +kernel
theorem d_Mo_isAhead_66 : decode prog_10_method_24_code 66 = .ok (.iload_n 2, 1) := by decide +kernel
theorem d_Mo_isAhead_67 : decode prog_10_method_24_code 67 = .ok (.iload_n 3, 1) := by decide +kernel
theorem d_Mo_isAhead_68 : decode prog_10_method_24_code 68 = .ok (.invokevirtual 120, 3) := by decide +kernel
theorem d_Mo_isAhead_71 : decode prog_10_method_24_code 71 = .ok (.if_icmp .ge 7, 3) := by decide +kernel
theorem d_Mo_isAhead_74 : decode prog_10_method_24_code 74 = .ok (.iconst 1, 1) := by decide +kernel
theorem d_Mo_isAhead_75 : decode prog_10_method_24_code 75 = .ok (.goto 4, 3) := by decide +kernel
theorem d_Mo_isAhead_78 : decode prog_10_method_24_code 78 = .ok (.iconst 0, 1) := by decide +kernel
theorem d_Mo_isAhead_79 : decode prog_10_method_24_code 79 = .ok (.ireturn, 1) := by decide +kernel
theorem d_Mo_isAhead_80 : decode prog_10_method_24_code 80 = .ok (.iinc 3 1, 3) := by decide +kernel
theorem d_Mo_isAhead_83 : decode prog_10_method_24_code 83 = .ok (.goto (-45), 3) := by decide +kernel
theorem d_Mo_isAhead_86 : decode prog_10_method_24_code 86 = .ok (.iconst 0, 1) := by decide +kernel
theorem d_Mo_isAhead_87 : decode prog_10_method_24_code 87 = .ok (.ireturn, 1) := by decide +kernel
theorem d_Mo_rank_0 : decode prog_10_method_23_code 0 = .ok (.iload_n 2, 1) := by decide +kernel
theorem d_Mo_rank_1 : decode prog_10_method_23_code 1 = .ok (.aload_n 0, 1) := by decide +kernel
theorem d_Mo_rank_2 : decode prog_10_method_23_code 2 = .ok (.getfield 23, 3) := by decide +kernel
theorem d_Mo_rank_5 : decode prog_10_method_23_code 5 = .ok (.iload_n 1, 1) := by decide +kernel
theorem d_Mo_rank_6 : decode prog_10_method_23_code 6 = .ok (.iaload, 1) := by decide +kernel
theorem d_Mo_rank_7 : decode prog_10_method_23_code 7 = .ok (.if_icmp .lt 5, 3) := by decide +kernel
theorem d_Mo_rank_10 : decode prog_10_method_23_code 10 = .ok (.iconst 0, 1) := by decide +kernel
theorem d_Mo_rank_11 : decode prog_10_method_23_code 11 = .ok (.ireturn, 1) := by decide +kernel
theorem d_Mo_rank_12 : decode prog_10_method_23_code 12 = .ok (.aload_n 0, 1) := by decide +kernel
theorem d_Mo_rank_13 : decode prog_10_method_23_code 13 = .ok (.getfield 29, 3) := by decide +kernel
theorem d_Mo_rank_16 : decode prog_10_method_23_code 16 = .ok (.bipush 100, 2) := by decide +kernel
theorem d_Mo_rank_18 : decode prog_10_method_23_code 18 = .ok (.iload_n 1, 1) := by decide +kernel
theorem d_Mo_rank_19 : decode prog_10_method_23_code 19 = .ok (.imul, 1) := by decide +kernel
theorem d_Mo_rank_20 : decode prog_10_method_23_code 20 = .ok (.iload_n 2, 1) := by decide +kernel
theorem d_Mo_rank_21 : decode prog_10_method_23_code 21 = .ok (.iadd, 1) := by decide +kernel
theorem d_Mo_rank_22 : decode prog_10_method_23_code 22 = .ok (.baload, 1) := by decide +kernel
theorem d_Mo_rank_23 : decode prog_10_method_23_code 23 = .ok (.sipush 255, 3) := by decide +kernel
theorem d_Mo_rank_26 : decode prog_10_method_23_code 26 = .ok (.iand, 1) := by decide +kernel
theorem d_Mo_rank_27 : decode prog_10_method_23_code 27 = .ok (.istore_n 3, 1) := by decide +kernel
theorem d_Mo_rank_28 : decode prog_10_method_23_code 28 = .ok (.iload_n 3, 1) := by decide +kernel
theorem d_Mo_rank_29 : decode prog_10_method_23_code 29 = .ok (.bipush 47, 2) := by decide +kernel
theorem d_Mo_rank_31 : decode prog_10_method_23_code 31 = .ok (.if_icmp .ne 7, 3) := by decide +kernel
theorem d_Mo_rank_34 : decode prog_10_method_23_code 34 = .ok (.iconst 1, 1) := by decide +kernel
theorem d_Mo_rank_35 : decode prog_10_method_23_code 35 = .ok (.goto 6, 3) := by decide +kernel
theorem d_Mo_rank_38 : decode prog_10_method_23_code 38 = .ok (.iconst 2, 1) := by decide +kernel
theorem d_Mo_rank_39 : decode prog_10_method_23_code 39 = .ok (.iload_n 3, 1) := by decide +kernel
theorem d_Mo_rank_40 : decode prog_10_method_23_code 40 = .ok (.iadd, 1) := by decide +kernel
theorem d_Mo_rank_41 : decode prog_10_method_23_code 41 = .ok (.ireturn, 1) := by decide +kernel
theorem d_Mo_listed_0 : decode prog_10_method_26_code 0 = .ok (.aload_n 0, 1) := by decide +kernel
theorem d_Mo_listed_1 : decode prog_10_method_26_code 1 = .ok (.iconst 0, 1) := by decide +kernel
theorem d_Mo_listed_2 : decode prog_10_method_26_code 2 = .ok (.putfield 57, 3) := by decide +kernel
theorem d_Mo_listed_5 : decode prog_10_method_26_code 5 = .ok (.iload_n 1, 1) := by decide +kernel
theorem d_Mo_listed_6 : decode prog_10_method_26_code 6 = .ok (.ifCond .lt 26, 3) := by decide +kernel
theorem d_Mo_listed_9 : decode prog_10_method_26_code 9 = .ok (.iload_n 1, 1) := by decide +kernel
theorem d_Mo_listed_10 : decode prog_10_method_26_code 10 = .ok (.aload_n 0, 1) := by decide +kernel
theorem d_Mo_listed_11 : decode prog_10_method_26_code 11 = .ok (.getfield 123, 3) := by decide +kernel
theorem d_Mo_listed_14 : decode prog_10_method_26_code 14 = .ok (.if_icmp .ge 18, 3) := by decide +kernel
theorem d_Mo_listed_17 : decode prog_10_method_26_code 17 = .ok (.iload_n 2, 1) := by decide +kernel
theorem d_Mo_listed_18 : decode prog_10_method_26_code 18 = .ok (.iconst (-1), 1) := by decide +kernel
theorem d_Mo_listed_19 : decode prog_10_method_26_code 19 = .ok (.if_icmp .lt 13, 3) := by decide +kernel
theorem d_Mo_listed_22 : decode prog_10_method_26_code 22 = .ok (.iload_n 2, 1) := by decide +kernel
theorem d_Mo_listed_23 : decode prog_10_method_26_code 23 = .ok (.aload_n 0, 1) := by decide +kernel
theorem d_Mo_listed_24 : decode prog_10_method_26_code 24 = .ok (.getfield 48, 3) := by decide +kernel
theorem d_Mo_listed_27 : decode prog_10_method_26_code 27 = .ok (.iload_n 1, 1) := by decide +kernel
theorem d_Mo_listed_28 : decode prog_10_method_26_code 28 = .ok (.iaload, 1) := by decide +kernel
theorem d_Mo_listed_29 : decode prog_10_method_26_code 29 = .ok (.if_icmp .lt 5, 3) := by decide +kernel
theorem d_Mo_listed_32 : decode prog_10_method_26_code 32 = .ok (.iconst (-1), 1) := by decide +kernel
theorem d_Mo_listed_33 : decode prog_10_method_26_code 33 = .ok (.ireturn, 1) := by decide +kernel
theorem d_Mo_listed_34 : decode prog_10_method_26_code 34 = .ok (.iload_n 2, 1) := by decide +kernel
theorem d_Mo_listed_35 : decode prog_10_method_26_code 35 = .ok (.iconst (-1), 1) := by decide +kernel
theorem d_Mo_listed_36 : decode prog_10_method_26_code 36 = .ok (.if_icmp .ne 12, 3) := by decide +kernel
theorem d_Mo_listed_39 : decode prog_10_method_26_code 39 = .ok (.aload_n 0, 1) := by decide +kernel
theorem d_Mo_listed_40 : decode prog_10_method_26_code 40 = .ok (.getfield 45, 3) := by decide +kernel
theorem d_Mo_listed_43 : decode prog_10_method_26_code 43 = .ok (.iload_n 1, 1) := by decide +kernel
theorem d_Mo_listed_44 : decode prog_10_method_26_code 44 = .ok (.iaload, 1) := by decide +kernel
theorem d_Mo_listed_45 : decode prog_10_method_26_code 45 = .ok (.goto 18, 3) := by decide +kernel
theorem d_Mo_listed_48 : decode prog_10_method_26_code 48 = .ok (.aload_n 0, 1) := by decide +kernel
theorem d_Mo_listed_49 : decode prog_10_method_26_code 49 = .ok (.getfield 54, 3) := by decide +kernel
theorem d_Mo_listed_52 : decode prog_10_method_26_code 52 = .ok (.bipush 100, 2) := by decide +kernel
theorem d_Mo_listed_54 : decode prog_10_method_26_code 54 = .ok (.iload_n 1, 1) := by decide +kernel
theorem d_Mo_listed_55 : decode prog_10_method_26_code 55 = .ok (.imul, 1) := by decide +kernel
theorem d_Mo_listed_56 : decode prog_10_method_26_code 56 = .ok (.iload_n 2, 1) := by decide +kernel
theorem d_Mo_listed_57 : decode prog_10_method_26_code 57 = .ok (.iadd, 1) := by decide +kernel
theorem d_Mo_listed_58 : decode prog_10_method_26_code 58 = .ok (.baload, 1) := by decide +kernel
theorem d_Mo_listed_59 : decode prog_10_method_26_code 59 = .ok (.sipush 255, 3) := by decide +kernel
theorem d_Mo_listed_62 : decode prog_10_method_26_code 62 = .ok (.iand, 1) := by decide +kernel
theorem d_Mo_listed_63 : decode prog_10_method_26_code 63 = .ok (.ireturn, 1) := by decide +kernel
theorem d_Mo_count_0 : decode prog_10_method_27_code 0 = .ok (.aload_n 0, 1) := by decide +kernel
theorem d_Mo_count_1 : decode prog_10_method_27_code 1 = .ok (.iconst 0, 1) := by decide +kernel
theorem d_Mo_count_2 : decode prog_10_method_27_code 2 = .ok (.putfield 57, 3) := by decide +kernel
theorem d_Mo_count_5 : decode prog_10_method_27_code 5 = .ok (.iload_n 1, 1) := by decide +kernel
theorem d_Mo_count_6 : decode prog_10_method_27_code 6 = .ok (.ifCond .lt 9, 3) := by decide +kernel
theorem d_Mo_count_9 : decode prog_10_method_27_code 9 = .ok (.iload_n 1, 1) := by decide +kernel
theorem d_Mo_count_10 : decode prog_10_method_27_code 10 = .ok (.bipush 10, 2) := by decide +kernel
theorem d_Mo_count_12 : decode prog_10_method_27_code 12 = .ok (.if_icmp .le 5, 3) := by decide +kernel
theorem d_Mo_count_15 : decode prog_10_method_27_code 15 = .ok (.iconst (-1), 1) := by decide +kernel
theorem d_Mo_count_16 : decode prog_10_method_27_code 16 = .ok (.ireturn, 1) := by decide +kernel
theorem d_Mo_count_17 : decode prog_10_method_27_code 17 = .ok (.iconst 0, 1) := by decide +kernel
theorem d_Mo_count_18 : decode prog_10_method_27_code 18 = .ok (.istore_n 2, 1) := by decide +kernel
theorem d_Mo_count_19 : decode prog_10_method_27_code 19 = .ok (.iconst 0, 1) := by decide +kernel
theorem d_Mo_count_20 : decode prog_10_method_27_code 20 = .ok (.istore_n 3, 1) := by decide +kernel
theorem d_Mo_count_21 : decode prog_10_method_27_code 21 = .ok (.iload_n 3, 1) := by decide +kernel
theorem d_Mo_count_22 : decode prog_10_method_27_code 22 = .ok (.aload_n 0, 1) := by decide +kernel
theorem d_Mo_count_23 : decode prog_10_method_27_code 23 = .ok (.getfield 67, 3) := by decide +kernel
theorem d_Mo_count_26 : decode prog_10_method_27_code 26 = .ok (.if_icmp .ge 27, 3) := by decide +kernel
theorem d_Mo_count_29 : decode prog_10_method_27_code 29 = .ok (.iload_n 2, 1) := by decide +kernel
theorem d_Mo_count_30 : decode prog_10_method_27_code 30 = .ok (.aload_n 0, 1) := by decide +kernel
theorem d_Mo_count_31 : decode prog_10_method_27_code 31 = .ok (.getfield 16, 3) := by decide +kernel
theorem d_Mo_count_34 : decode prog_10_method_27_code 34 = .ok (.iload_n 3, 1) := by decide +kernel
theorem d_Mo_count_35 : decode prog_10_method_27_code 35 = .ok (.iaload, 1) := by decide +kernel
theorem d_Mo_count_36 : decode prog_10_method_27_code 36 = .ok (.iload_n 1, 1) := by decide +kernel
theorem d_Mo_count_37 : decode prog_10_method_27_code 37 = .ok (.if_icmp .ne 7, 3) := by decide +kernel
theorem d_Mo_count_40 : decode prog_10_method_27_code 40 = .ok (.iconst 1, 1) := by decide +kernel
theorem d_Mo_count_41 : decode prog_10_method_27_code 41 = .ok (.goto 4, 3) := by decide +kernel
theorem d_Mo_count_44 : decode prog_10_method_27_code 44 = .ok (.iconst 0, 1) := by decide +kernel
theorem d_Mo_count_45 : decode prog_10_method_27_code 45 = .ok (.iadd, 1) := by decide +kernel
theorem d_Mo_count_46 : decode prog_10_method_27_code 46 = .ok (.istore_n 2, 1) := by decide +kernel
theorem d_Mo_count_47 : decode prog_10_method_27_code 47 = .ok (.iinc 3 1, 3) := by decide +kernel
theorem d_Mo_count_50 : decode prog_10_method_27_code 50 = .ok (.goto (-29), 3) := by decide +kernel
theorem d_Mo_count_53 : decode prog_10_method_27_code 53 = .ok (.iload_n 1, 1) := by decide +kernel
theorem d_Mo_count_54 : decode prog_10_method_27_code 54 = .ok (.bipush 7, 2) := by decide +kernel
theorem d_Mo_count_56 : decode prog_10_method_27_code 56 = .ok (.if_icmp .ge 7, 3) := by decide +kernel
theorem d_Mo_count_59 : decode prog_10_method_27_code 59 = .ok (.iload_n 2, 1) := by decide +kernel
theorem d_Mo_count_60 : decode prog_10_method_27_code 60 = .ok (.goto 46, 3) := by decide +kernel
theorem d_Mo_count_63 : decode prog_10_method_27_code 63 = .ok (.iload_n 1, 1) := by decide +kernel
theorem d_Mo_count_64 : decode prog_10_method_27_code 64 = .ok (.bipush 7, 2) := by decide +kernel
theorem d_Mo_count_66 : decode prog_10_method_27_code 66 = .ok (.if_icmp .ne 10, 3) := by decide +kernel
theorem d_Mo_count_69 : decode prog_10_method_27_code 69 = .ok (.aload_n 0, 1) := by decide +kernel
theorem d_Mo_count_70 : decode prog_10_method_27_code 70 = .ok (.getfield 67, 3) := by decide +kernel
theorem d_Mo_count_73 : decode prog_10_method_27_code 73 = .ok (.goto 33, 3) := by decide +kernel
theorem d_Mo_count_76 : decode prog_10_method_27_code 76 = .ok (.iload_n 1, 1) := by decide +kernel
theorem d_Mo_count_77 : decode prog_10_method_27_code 77 = .ok (.bipush 8, 2) := by decide +kernel
theorem d_Mo_count_79 : decode prog_10_method_27_code 79 = .ok (.if_icmp .ne 10, 3) := by decide +kernel
theorem d_Mo_count_82 : decode prog_10_method_27_code 82 = .ok (.aload_n 0, 1) := by decide +kernel
theorem d_Mo_count_83 : decode prog_10_method_27_code 83 = .ok (.getfield 86, 3) := by decide +kernel
theorem d_Mo_count_86 : decode prog_10_method_27_code 86 = .ok (.goto 20, 3) := by decide +kernel
theorem d_Mo_count_89 : decode prog_10_method_27_code 89 = .ok (.iload_n 1, 1) := by decide +kernel
theorem d_Mo_count_90 : decode prog_10_method_27_code 90 = .ok (.bipush 9, 2) := by decide +kernel
theorem d_Mo_count_92 : decode prog_10_method_27_code 92 = .ok (.if_icmp .ne 10, 3) := by decide +kernel
theorem d_Mo_count_95 : decode prog_10_method_27_code 95 = .ok (.aload_n 0, 1) := by decide +kernel
theorem d_Mo_count_96 : decode prog_10_method_27_code 96 = .ok (.getfield 61, 3) := by decide +kernel
theorem d_Mo_count_99 : decode prog_10_method_27_code 99 = .ok (.goto 7, 3) := by decide +kernel
theorem d_Mo_count_102 : decode prog_10_method_27_code 102 = .ok (.aload_n 0, 1) := by decide +kernel
theorem d_Mo_count_103 : decode prog_10_method_27_code 103 = .ok (.getfield 89, 3) := by decide +kernel
theorem d_Mo_count_106 : decode prog_10_method_27_code 106 = .ok (.ireturn, 1) := by decide +kernel
