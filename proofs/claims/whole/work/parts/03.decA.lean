theorem d_Bd_init_0 : decode prog_1_method_1_code 0 = .ok (.aload_n 0, 1) := by decide +kernel
theorem d_Bd_init_1 : decode prog_1_method_1_code 1 = .ok (.invokespecial 1, 3) := by decide +kernel
theorem d_Bd_init_4 : decode prog_1_method_1_code 4 = .ok (.aload_n 0, 1) := by decide +kernel
theorem d_Bd_init_5 : decode prog_1_method_1_code 5 = .ok (.new 7, 3) := by decide +kernel
theorem d_Bd_init_8 : decode prog_1_method_1_code 8 = .ok (.dup, 1) := by decide +kernel
theorem d_Bd_init_9 : decode prog_1_method_1_code 9 = .ok (.invokespecial 9, 3) := by decide +kernel
theorem d_Bd_init_12 : decode prog_1_method_1_code 12 = .ok (.putfield 10, 3) := by decide +kernel
theorem d_Bd_init_15 : decode prog_1_method_1_code 15 = .ok (.aload_n 0, 1) := by decide +kernel
theorem d_Bd_init_16 : decode prog_1_method_1_code 16 = .ok (.new 16, 3) := by decide +kernel
theorem d_Bd_init_19 : decode prog_1_method_1_code 19 = .ok (.dup, 1) := by decide +kernel
theorem d_Bd_init_20 : decode prog_1_method_1_code 20 = .ok (.invokespecial 18, 3) := by decide +kernel
theorem d_Bd_init_23 : decode prog_1_method_1_code 23 = .ok (.putfield 19, 3) := by decide +kernel
theorem d_Bd_init_26 : decode prog_1_method_1_code 26 = .ok (.aload_n 0, 1) := by decide +kernel
theorem d_Bd_init_27 : decode prog_1_method_1_code 27 = .ok (.new 16, 3) := by decide +kernel
theorem d_Bd_init_30 : decode prog_1_method_1_code 30 = .ok (.dup, 1) := by decide +kernel
theorem d_Bd_init_31 : decode prog_1_method_1_code 31 = .ok (.invokespecial 18, 3) := by decide +kernel
theorem d_Bd_init_34 : decode prog_1_method_1_code 34 = .ok (.putfield 23, 3) := by decide +kernel
theorem d_Bd_init_37 : decode prog_1_method_1_code 37 = .ok (.aload_n 0, 1) := by decide +kernel
theorem d_Bd_init_38 : decode prog_1_method_1_code 38 = .ok (.new 16, 3) := by decide +kernel
theorem d_Bd_init_41 : decode prog_1_method_1_code 41 = .ok (.dup, 1) := by decide +kernel
theorem d_Bd_init_42 : decode prog_1_method_1_code 42 = .ok (.invokespecial 18, 3) := by decide +kernel
theorem d_Bd_init_45 : decode prog_1_method_1_code 45 = .ok (.putfield 26, 3) := by decide +kernel
theorem d_Bd_init_48 : decode prog_1_method_1_code 48 = .ok (.aload_n 0, 1) := by decide +kernel
theorem d_Bd_init_49 : decode prog_1_method_1_code 49 = .ok (.new 29, 3) := by decide +kernel
theorem d_Bd_init_52 : decode prog_1_method_1_code 52 = .ok (.dup, 1) := by decide +kernel
theorem d_Bd_init_53 : decode prog_1_method_1_code 53 = .ok (.invokespecial 31, 3) := by decide +kernel
theorem d_Bd_init_56 : decode prog_1_method_1_code 56 = .ok (.putfield 32, 3) := by decide +kernel
theorem d_Bd_init_59 : decode prog_1_method_1_code 59 = .ok (.aload_n 0, 1) := by decide +kernel
theorem d_Bd_init_60 : decode prog_1_method_1_code 60 = .ok (.new 36, 3) := by decide +kernel
theorem d_Bd_init_63 : decode prog_1_method_1_code 63 = .ok (.dup, 1) := by decide +kernel
theorem d_Bd_init_64 : decode prog_1_method_1_code 64 = .ok (.iconst 0, 1) := by decide +kernel
theorem d_Bd_init_65 : decode prog_1_method_1_code 65 = .ok (.newarray .byte, 2) := by decide +kernel
theorem d_Bd_init_67 : decode prog_1_method_1_code 67 = .ok (.invokespecial 38, 3) := by decide +kernel
theorem d_Bd_init_70 : decode prog_1_method_1_code 70 = .ok (.putfield 41, 3) := by decide +kernel
theorem d_Bd_init_73 : decode prog_1_method_1_code 73 = .ok (.aload_n 0, 1) := by decide +kernel
theorem d_Bd_init_74 : decode prog_1_method_1_code 74 = .ok (.iconst 0, 1) := by decide +kernel
theorem d_Bd_init_75 : decode prog_1_method_1_code 75 = .ok (.putfield 45, 3) := by decide +kernel
theorem d_Bd_init_78 : decode prog_1_method_1_code 78 = .ok (.return_, 1) := by decide +kernel
theorem d_Tp_init_0 : decode prog_8_method_1_code 0 = .ok (.aload_n 0, 1) := by decide +kernel
theorem d_Tp_init_1 : decode prog_8_method_1_code 1 = .ok (.invokespecial 3, 3) := by decide +kernel
theorem d_Tp_init_4 : decode prog_8_method_1_code 4 = .ok (.aload_n 0, 1) := by decide +kernel
theorem d_Tp_init_5 : decode prog_8_method_1_code 5 = .ok (.sipush 400, 3) := by decide +kernel
theorem d_Tp_init_8 : decode prog_8_method_1_code 8 = .ok (.newarray .byte, 2) := by decide +kernel
theorem d_Tp_init_10 : decode prog_8_method_1_code 10 = .ok (.putfield 9, 3) := by decide +kernel
theorem d_Tp_init_13 : decode prog_8_method_1_code 13 = .ok (.aload_n 0, 1) := by decide +kernel
theorem d_Tp_init_14 : decode prog_8_method_1_code 14 = .ok (.iconst 0, 1) := by decide +kernel
theorem d_Tp_init_15 : decode prog_8_method_1_code 15 = .ok (.putfield 15, 3) := by decide +kernel
theorem d_Tp_init_18 : decode prog_8_method_1_code 18 = .ok (.return_, 1) := by decide +kernel
theorem d_Fi_init_0 : decode prog_3_method_1_code 0 = .ok (.aload_n 0, 1) := by decide +kernel
theorem d_Fi_init_1 : decode prog_3_method_1_code 1 = .ok (.invokespecial 3, 3) := by decide +kernel
theorem d_Fi_init_4 : decode prog_3_method_1_code 4 = .ok (.aload_n 0, 1) := by decide +kernel
theorem d_Fi_init_5 : decode prog_3_method_1_code 5 = .ok (.bipush 60, 2) := by decide +kernel
theorem d_Fi_init_7 : decode prog_3_method_1_code 7 = .ok (.anewarray 9, 3) := by decide +kernel
theorem d_Fi_init_10 : decode prog_3_method_1_code 10 = .ok (.putfield 11, 3) := by decide +kernel
theorem d_Fi_init_13 : decode prog_3_method_1_code 13 = .ok (.aload_n 0, 1) := by decide +kernel
theorem d_Fi_init_14 : decode prog_3_method_1_code 14 = .ok (.iconst 0, 1) := by decide +kernel
theorem d_Fi_init_15 : decode prog_3_method_1_code 15 = .ok (.putfield 17, 3) := by decide +kernel
theorem d_Fi_init_18 : decode prog_3_method_1_code 18 = .ok (.return_, 1) := by decide +kernel
theorem d_Jo_init_0 : decode prog_4_method_1_code 0 = .ok (.aload_n 0, 1) := by decide +kernel
theorem d_Jo_init_1 : decode prog_4_method_1_code 1 = .ok (.invokespecial 3, 3) := by decide +kernel
theorem d_Jo_init_4 : decode prog_4_method_1_code 4 = .ok (.aload_n 0, 1) := by decide +kernel
theorem d_Jo_init_5 : decode prog_4_method_1_code 5 = .ok (.sipush 200, 3) := by decide +kernel
theorem d_Jo_init_8 : decode prog_4_method_1_code 8 = .ok (.anewarray 9, 3) := by decide +kernel
theorem d_Jo_init_11 : decode prog_4_method_1_code 11 = .ok (.putfield 11, 3) := by decide +kernel
theorem d_Jo_init_14 : decode prog_4_method_1_code 14 = .ok (.aload_n 0, 1) := by decide +kernel
theorem d_Jo_init_15 : decode prog_4_method_1_code 15 = .ok (.iconst 0, 1) := by decide +kernel
theorem d_Jo_init_16 : decode prog_4_method_1_code 16 = .ok (.putfield 17, 3) := by decide +kernel
theorem d_Jo_init_19 : decode prog_4_method_1_code 19 = .ok (.return_, 1) := by decide +kernel
theorem d_By_init_0 : decode prog_2_method_1_code 0 = .ok (.aload_n 0, 1) := by decide +kernel
theorem d_By_init_1 : decode prog_2_method_1_code 1 = .ok (.invokespecial 3, 3) := by decide +kernel
theorem d_By_init_4 : decode prog_2_method_1_code 4 = .ok (.aload_n 0, 1) := by decide +kernel
theorem d_By_init_5 : decode prog_2_method_1_code 5 = .ok (.aload_n 1, 1) := by decide +kernel
theorem d_By_init_6 : decode prog_2_method_1_code 6 = .ok (.putfield 9, 3) := by decide +kernel
theorem d_By_init_9 : decode prog_2_method_1_code 9 = .ok (.return_, 1) := by decide +kernel
theorem d_Bd_put_0 : decode prog_1_method_2_code 0 = .ok (.aload_n 0, 1) := by decide +kernel
theorem d_Bd_put_1 : decode prog_1_method_2_code 1 = .ok (.getfield 10, 3) := by decide +kernel
theorem d_Bd_put_4 : decode prog_1_method_2_code 4 = .ok (.lload_n 1, 1) := by decide +kernel
theorem d_Bd_put_5 : decode prog_1_method_2_code 5 = .ok (.iload_n 3, 1) := by decide +kernel
theorem d_Bd_put_6 : decode prog_1_method_2_code 6 = .ok (.invokevirtual 49, 3) := by decide +kernel
theorem d_Bd_put_9 : decode prog_1_method_2_code 9 = .ok (.ireturn, 1) := by decide +kernel
theorem d_Tp_append_0 : decode prog_8_method_2_code 0 = .ok (.iload_n 3, 1) := by decide +kernel
theorem d_Tp_append_1 : decode prog_8_method_2_code 1 = .ok (.ifCond .lt 23, 3) := by decide +kernel
theorem d_Tp_append_4 : decode prog_8_method_2_code 4 = .ok (.iload_n 3, 1) := by decide +kernel
theorem d_Tp_append_5 : decode prog_8_method_2_code 5 = .ok (.bipush 8, 2) := by decide +kernel
theorem d_Tp_append_7 : decode prog_8_method_2_code 7 = .ok (.if_icmp .gt 17, 3) := by decide +kernel
theorem d_Tp_append_10 : decode prog_8_method_2_code 10 = .ok (.iload_n 3, 1) := by decide +kernel
theorem d_Tp_append_11 : decode prog_8_method_2_code 11 = .ok (.aload_n 0, 1) := by decide +kernel
theorem d_Tp_append_12 : decode prog_8_method_2_code 12 = .ok (.getfield 9, 3) := by decide +kernel
theorem d_Tp_append_15 : decode prog_8_method_2_code 15 = .ok (.arraylength, 1) := by decide +kernel
theorem d_Tp_append_16 : decode prog_8_method_2_code 16 = .ok (.aload_n 0, 1) := by decide +kernel
theorem d_Tp_append_17 : decode prog_8_method_2_code 17 = .ok (.getfield 15, 3) := by decide +kernel
theorem d_Tp_append_20 : decode prog_8_method_2_code 20 = .ok (.isub, 1) := by decide +kernel
theorem d_Tp_append_21 : decode prog_8_method_2_code 21 = .ok (.if_icmp .le 5, 3) := by decide +kernel
theorem d_Tp_append_24 : decode prog_8_method_2_code 24 = .ok (.iconst 0, 1) := by decide +kernel
theorem d_Tp_append_25 : decode prog_8_method_2_code 25 = .ok (.ireturn, 1) := by decide +kernel
theorem d_Tp_append_26 : decode prog_8_method_2_code 26 = .ok (.iload_n 3, 1) := by decide +kernel
theorem d_Tp_append_27 : decode prog_8_method_2_code 27 = .ok (.iconst 1, 1) := by decide +kernel
theorem d_Tp_append_28 : decode prog_8_method_2_code 28 = .ok (.isub, 1) := by decide +kernel
theorem d_Tp_append_29 : decode prog_8_method_2_code 29 = .ok (.istore 4, 2) := by decide +kernel
theorem d_Tp_append_31 : decode prog_8_method_2_code 31 = .ok (.iload 4, 2) := by decide +kernel
theorem d_Tp_append_33 : decode prog_8_method_2_code 33 = .ok (.ifCond .lt 37, 3) := by decide +kernel
theorem d_Tp_append_36 : decode prog_8_method_2_code 36 = .ok (.aload_n 0, 1) := by decide +kernel
theorem d_Tp_append_37 : decode prog_8_method_2_code 37 = .ok (.getfield 9, 3) := by decide +kernel
theorem d_Tp_append_40 : decode prog_8_method_2_code 40 = .ok (.aload_n 0, 1) := by decide +kernel
theorem d_Tp_append_41 : decode prog_8_method_2_code 41 = .ok (.getfield 15, 3) := by decide +kernel
theorem d_Tp_append_44 : decode prog_8_method_2_code 44 = .ok (.lload_n 1, 1) := by decide +kernel
theorem d_Tp_append_45 : decode prog_8_method_2_code 45 = .ok (.bipush 8, 2) := by decide +kernel
theorem d_Tp_append_47 : decode prog_8_method_2_code 47 = .ok (.iload 4, 2) := by decide +kernel
theorem d_Tp_append_49 : decode prog_8_method_2_code 49 = .ok (.imul, 1) := by decide +kernel
theorem d_Tp_append_50 : decode prog_8_method_2_code 50 = .ok (.lushr, 1) := by decide +kernel
theorem d_Tp_append_51 : decode prog_8_method_2_code 51 = .ok (.l2i, 1) := by decide +kernel
theorem d_Tp_append_52 : decode prog_8_method_2_code 52 = .ok (.i2b, 1) := by decide +kernel
theorem d_Tp_append_53 : decode prog_8_method_2_code 53 = .ok (.bastore, 1) := by decide +kernel
theorem d_Tp_append_54 : decode prog_8_method_2_code 54 = .ok (.aload_n 0, 1) := by decide +kernel
theorem d_Tp_append_55 : decode prog_8_method_2_code 55 = .ok (.dup, 1) := by decide +kernel
theorem d_Tp_append_56 : decode prog_8_method_2_code 56 = .ok (.getfield 15, 3) := by decide +kernel
theorem d_Tp_append_59 : decode prog_8_method_2_code 59 = .ok (.iconst 1, 1) := by decide +kernel
theorem d_Tp_append_60 : decode prog_8_method_2_code 60 = .ok (.iadd, 1) := by decide +kernel
theorem d_Tp_append_61 : decode prog_8_method_2_code 61 = .ok (.putfield 15, 3) := by decide +kernel
theorem d_Tp_append_64 : decode prog_8_method_2_code 64 = .ok (.iinc 4 (-1), 3) := by decide +kernel
theorem d_Tp_append_67 : decode prog_8_method_2_code 67 = .ok (.goto (-36), 3) := by decide +kernel
theorem d_Tp_append_70 : decode prog_8_method_2_code 70 = .ok (.iconst 1, 1) := by decide +kernel
theorem d_Tp_append_71 : decode prog_8_method_2_code 71 = .ok (.ireturn, 1) := by decide +kernel
theorem d_Bd_sync_0 : decode prog_1_method_7_code 0 = .ok (.aload_n 0, 1) := by decide +kernel
theorem d_Bd_sync_1 : decode prog_1_method_7_code 1 = .ok (.getfield 32, 3) := by decide +kernel
theorem d_Bd_sync_4 : decode prog_1_method_7_code 4 = .ok (.getfield 119, 3) := by decide +kernel
theorem d_Bd_sync_7 : decode prog_1_method_7_code 7 = .ok (.istore_n 1, 1) := by decide +kernel
theorem d_Bd_sync_8 : decode prog_1_method_7_code 8 = .ok (.aload_n 0, 1) := by decide +kernel
theorem d_Bd_sync_9 : decode prog_1_method_7_code 9 = .ok (.getfield 23, 3) := by decide +kernel
theorem d_Bd_sync_12 : decode prog_1_method_7_code 12 = .ok (.aload_n 0, 1) := by decide +kernel
theorem d_Bd_sync_13 : decode prog_1_method_7_code 13 = .ok (.getfield 19, 3) := by decide +kernel
theorem d_Bd_sync_16 : decode prog_1_method_7_code 16 = .ok (.invokevirtual 120, 3) := by decide +kernel
theorem d_Bd_sync_19 : decode prog_1_method_7_code 19 = .ok (.aload_n 0, 1) := by decide +kernel
theorem d_Bd_sync_20 : decode prog_1_method_7_code 20 = .ok (.getfield 32, 3) := by decide +kernel
theorem d_Bd_sync_23 : decode prog_1_method_7_code 23 = .ok (.invokevirtual 124, 3) := by decide +kernel
theorem d_Bd_sync_26 : decode prog_1_method_7_code 26 = .ok (.aload_n 0, 1) := by decide +kernel
theorem d_Bd_sync_27 : decode prog_1_method_7_code 27 = .ok (.dup, 1) := by decide +kernel
theorem d_Bd_sync_28 : decode prog_1_method_7_code 28 = .ok (.getfield 45, 3) := by decide +kernel
theorem d_Bd_sync_31 : decode prog_1_method_7_code 31 = .ok (.iconst 1, 1) := by decide +kernel
theorem d_Bd_sync_32 : decode prog_1_method_7_code 32 = .ok (.iadd, 1) := by decide +kernel
theorem d_Bd_sync_33 : decode prog_1_method_7_code 33 = .ok (.putfield 45, 3) := by decide +kernel
theorem d_Bd_sync_36 : decode prog_1_method_7_code 36 = .ok (.iload_n 1, 1) := by decide +kernel
theorem d_Bd_sync_37 : decode prog_1_method_7_code 37 = .ok (.ireturn, 1) := by decide +kernel
theorem d_Fi_copyFrom_0 : decode prog_3_method_7_code 0 = .ok (.aload_n 0, 1) := by decide +kernel
theorem d_Fi_copyFrom_1 : decode prog_3_method_7_code 1 = .ok (.aload_n 1, 1) := by decide +kernel
theorem d_Fi_copyFrom_2 : decode prog_3_method_7_code 2 = .ok (.getfield 17, 3) := by decide +kernel
theorem d_Fi_copyFrom_5 : decode prog_3_method_7_code 5 = .ok (.putfield 17, 3) := by decide +kernel
theorem d_Fi_copyFrom_8 : decode prog_3_method_7_code 8 = .ok (.iconst 0, 1) := by decide +kernel
theorem d_Fi_copyFrom_9 : decode prog_3_method_7_code 9 = .ok (.istore_n 2, 1) := by decide +kernel
theorem d_Fi_copyFrom_10 : decode prog_3_method_7_code 10 = .ok (.iload_n 2, 1) := by decide +kernel
theorem d_Fi_copyFrom_11 : decode prog_3_method_7_code 11 = .ok (.aload_n 0, 1) := by decide +kernel
theorem d_Fi_copyFrom_12 : decode prog_3_method_7_code 12 = .ok (.getfield 17, 3) := by decide +kernel
theorem d_Fi_copyFrom_15 : decode prog_3_method_7_code 15 = .ok (.if_icmp .ge 21, 3) := by decide +kernel
theorem d_Fi_copyFrom_18 : decode prog_3_method_7_code 18 = .ok (.aload_n 0, 1) := by decide +kernel
theorem d_Fi_copyFrom_19 : decode prog_3_method_7_code 19 = .ok (.getfield 11, 3) := by decide +kernel
theorem d_Fi_copyFrom_22 : decode prog_3_method_7_code 22 = .ok (.iload_n 2, 1) := by decide +kernel
theorem d_Fi_copyFrom_23 : decode prog_3_method_7_code 23 = .ok (.aload_n 1, 1) := by decide +kernel
theorem d_Fi_copyFrom_24 : decode prog_3_method_7_code 24 = .ok (.getfield 11, 3) := by decide +kernel
theorem d_Fi_copyFrom_27 : decode prog_3_method_7_code 27 = .ok (.iload_n 2, 1) := by decide +kernel
theorem d_Fi_copyFrom_28 : decode prog_3_method_7_code 28 = .ok (.aaload, 1) := by decide +kernel
theorem d_Fi_copyFrom_29 : decode prog_3_method_7_code 29 = .ok (.aastore, 1) := by decide +kernel
theorem d_Fi_copyFrom_30 : decode prog_3_method_7_code 30 = .ok (.iinc 2 1, 3) := by decide +kernel
theorem d_Fi_copyFrom_33 : decode prog_3_method_7_code 33 = .ok (.goto (-23), 3) := by decide +kernel
theorem d_Fi_copyFrom_36 : decode prog_3_method_7_code 36 = .ok (.return_, 1) := by decide +kernel
theorem d_Jo_clear_0 : decode prog_4_method_5_code 0 = .ok (.aload_n 0, 1) := by decide +kernel
theorem d_Jo_clear_1 : decode prog_4_method_5_code 1 = .ok (.iconst 0, 1) := by decide +kernel
theorem d_Jo_clear_2 : decode prog_4_method_5_code 2 = .ok (.putfield 17, 3) := by decide +kernel
theorem d_Jo_clear_5 : decode prog_4_method_5_code 5 = .ok (.return_, 1) := by decide +kernel
theorem d_Bd_size_0 : decode prog_1_method_9_code 0 = .ok (.aload_n 0, 1) := by decide +kernel
theorem d_Bd_size_1 : decode prog_1_method_9_code 1 = .ok (.getfield 19, 3) := by decide +kernel
theorem d_Bd_size_4 : decode prog_1_method_9_code 4 = .ok (.aload_n 0, 1) := by decide +kernel
theorem d_Bd_size_5 : decode prog_1_method_9_code 5 = .ok (.iload_n 1, 1) := by decide +kernel
theorem d_Bd_size_6 : decode prog_1_method_9_code 6 = .ok (.iload_n 2, 1) := by decide +kernel
theorem d_Bd_size_7 : decode prog_1_method_9_code 7 = .ok (.invokevirtual 74, 3) := by decide +kernel
theorem d_Bd_size_10 : decode prog_1_method_9_code 10 = .ok (.invokevirtual 82, 3) := by decide +kernel
theorem d_Bd_size_13 : decode prog_1_method_9_code 13 = .ok (.astore_n 3, 1) := by decide +kernel
theorem d_Bd_size_14 : decode prog_1_method_9_code 14 = .ok (.aload_n 3, 1) := by decide +kernel
theorem d_Bd_size_15 : decode prog_1_method_9_code 15 = .ok (.ifnonnull 7, 3) := by decide +kernel
theorem d_Bd_size_18 : decode prog_1_method_9_code 18 = .ok (.iconst (-1), 1) := by decide +kernel
theorem d_Bd_size_19 : decode prog_1_method_9_code 19 = .ok (.goto 10, 3) := by decide +kernel
theorem d_Bd_size_22 : decode prog_1_method_9_code 22 = .ok (.aload_n 3, 1) := by decide +kernel
theorem d_Bd_size_23 : decode prog_1_method_9_code 23 = .ok (.getfield 116, 3) := by decide +kernel
theorem d_Bd_size_26 : decode prog_1_method_9_code 26 = .ok (.invokevirtual 67, 3) := by decide +kernel
theorem d_Bd_size_29 : decode prog_1_method_9_code 29 = .ok (.ireturn, 1) := by decide +kernel
theorem d_Bd_nameOf_0 : decode prog_1_method_18_code 0 = .ok (.new 157, 3) := by decide +kernel
theorem d_Bd_nameOf_3 : decode prog_1_method_18_code 3 = .ok (.dup, 1) := by decide +kernel
theorem d_Bd_nameOf_4 : decode prog_1_method_18_code 4 = .ok (.iload_n 1, 1) := by decide +kernel
theorem d_Bd_nameOf_5 : decode prog_1_method_18_code 5 = .ok (.iload_n 2, 1) := by decide +kernel
theorem d_Bd_nameOf_6 : decode prog_1_method_18_code 6 = .ok (.aload_n 0, 1) := by decide +kernel
theorem d_Bd_nameOf_7 : decode prog_1_method_18_code 7 = .ok (.getfield 41, 3) := by decide +kernel
theorem d_Bd_nameOf_10 : decode prog_1_method_18_code 10 = .ok (.invokespecial 177, 3) := by decide +kernel
theorem d_Bd_nameOf_13 : decode prog_1_method_18_code 13 = .ok (.areturn, 1) := by decide +kernel
theorem d_Nm_init_0 : decode prog_5_method_1_code 0 = .ok (.aload_n 0, 1) := by decide +kernel
theorem d_Nm_init_1 : decode prog_5_method_1_code 1 = .ok (.invokespecial 1, 3) := by decide +kernel
theorem d_Nm_init_4 : decode prog_5_method_1_code 4 = .ok (.aload_n 0, 1) := by decide +kernel
theorem d_Nm_init_5 : decode prog_5_method_1_code 5 = .ok (.iload_n 1, 1) := by decide +kernel
theorem d_Nm_init_6 : decode prog_5_method_1_code 6 = .ok (.putfield 7, 3) := by decide +kernel
theorem d_Nm_init_9 : decode prog_5_method_1_code 9 = .ok (.aload_n 0, 1) := by decide +kernel
theorem d_Nm_init_10 : decode prog_5_method_1_code 10 = .ok (.iload_n 2, 1) := by decide +kernel
theorem d_Nm_init_11 : decode prog_5_method_1_code 11 = .ok (.putfield 13, 3) := by decide +kernel
theorem d_Nm_init_14 : decode prog_5_method_1_code 14 = .ok (.aload_n 0, 1) := by decide +kernel
theorem d_Nm_init_15 : decode prog_5_method_1_code 15 = .ok (.aload_n 3, 1) := by decide +kernel
theorem d_Nm_init_16 : decode prog_5_method_1_code 16 = .ok (.putfield 16, 3) := by decide +kernel
theorem d_Nm_init_19 : decode prog_5_method_1_code 19 = .ok (.return_, 1) := by decide +kernel
theorem d_Fi_find_0 : decode prog_3_method_4_code 0 = .ok (.aload_n 0, 1) := by decide +kernel
theorem d_Fi_find_1 : decode prog_3_method_4_code 1 = .ok (.aload_n 0, 1) := by decide +kernel
theorem d_Fi_find_2 : decode prog_3_method_4_code 2 = .ok (.aload_n 1, 1) := by decide +kernel
theorem d_Fi_find_3 : decode prog_3_method_4_code 3 = .ok (.invokevirtual 21, 3) := by decide +kernel
theorem d_Fi_find_6 : decode prog_3_method_4_code 6 = .ok (.invokevirtual 25, 3) := by decide +kernel
theorem d_Fi_find_9 : decode prog_3_method_4_code 9 = .ok (.areturn, 1) := by decide +kernel
theorem d_Fi_indexOf_0 : decode prog_3_method_10_code 0 = .ok (.iconst 0, 1) := by decide +kernel
theorem d_Fi_indexOf_1 : decode prog_3_method_10_code 1 = .ok (.istore_n 2, 1) := by decide +kernel
theorem d_Fi_indexOf_2 : decode prog_3_method_10_code 2 = .ok (.iload_n 2, 1) := by decide +kernel
theorem d_Fi_indexOf_3 : decode prog_3_method_10_code 3 = .ok (.aload_n 0, 1) := by decide +kernel
theorem d_Fi_indexOf_4 : decode prog_3_method_10_code 4 = .ok (.getfield 17, 3) := by decide +kernel
theorem d_Fi_indexOf_7 : decode prog_3_method_10_code 7 = .ok (.if_icmp .ge 36, 3) := by decide +kernel
theorem d_Fi_indexOf_10 : decode prog_3_method_10_code 10 = .ok (.aload_n 0, 1) := by decide +kernel
theorem d_Fi_indexOf_11 : decode prog_3_method_10_code 11 = .ok (.getfield 11, 3) := by decide +kernel
theorem d_Fi_indexOf_14 : decode prog_3_method_10_code 14 = .ok (.iload_n 2, 1) := by decide +kernel
theorem d_Fi_indexOf_15 : decode prog_3_method_10_code 15 = .ok (.aaload, 1) := by decide +kernel
theorem d_Fi_indexOf_16 : decode prog_3_method_10_code 16 = .ok (.ifnull 21, 3) := by decide +kernel
theorem d_Fi_indexOf_19 : decode prog_3_method_10_code 19 = .ok (.aload_n 1, 1) := by decide +kernel
theorem d_Fi_indexOf_20 : decode prog_3_method_10_code 20 = .ok (.aload_n 0, 1) := by decide +kernel
theorem d_Fi_indexOf_21 : decode prog_3_method_10_code 21 = .ok (.getfield 11, 3) := by decide +kernel
theorem d_Fi_indexOf_24 : decode prog_3_method_10_code 24 = .ok (.iload_n 2, 1) := by decide +kernel
theorem d_Fi_indexOf_25 : decode prog_3_method_10_code 25 = .ok (.aaload, 1) := by decide +kernel
theorem d_Fi_indexOf_26 : decode prog_3_method_10_code 26 = .ok (.getfield 47, 3) := by decide +kernel
theorem d_Fi_indexOf_29 : decode prog_3_method_10_code 29 = .ok (.invokevirtual 59, 3) := by decide +kernel
theorem d_Fi_indexOf_32 : decode prog_3_method_10_code 32 = .ok (.ifCond .ne 5, 3) := by decide +kernel
theorem d_Fi_indexOf_35 : decode prog_3_method_10_code 35 = .ok (.iload_n 2, 1) := by decide +kernel
theorem d_Fi_indexOf_36 : decode prog_3_method_10_code 36 = .ok (.ireturn, 1) := by decide +kernel
theorem d_Fi_indexOf_37 : decode prog_3_method_10_code 37 = .ok (.iinc 2 1, 3) := by decide +kernel
theorem d_Fi_indexOf_40 : decode prog_3_method_10_code 40 = .ok (.goto (-38), 3) := by decide +kernel
theorem d_Fi_indexOf_43 : decode prog_3_method_10_code 43 = .ok (.iconst (-1), 1) := by decide +kernel
theorem d_Fi_indexOf_44 : decode prog_3_method_10_code 44 = .ok (.ireturn, 1) := by decide +kernel
theorem d_Nm_order_0 : decode prog_5_method_2_code 0 = .ok (.aload_n 0, 1) := by decide +kernel
theorem d_Nm_order_1 : decode prog_5_method_2_code 1 = .ok (.getfield 7, 3) := by decide +kernel
theorem d_Nm_order_4 : decode prog_5_method_2_code 4 = .ok (.aload_n 1, 1) := by decide +kernel
theorem d_Nm_order_5 : decode prog_5_method_2_code 5 = .ok (.getfield 7, 3) := by decide +kernel
theorem d_Nm_order_8 : decode prog_5_method_2_code 8 = .ok (.if_icmp .eq 15, 3) := by decide +kernel
theorem d_Nm_order_11 : decode prog_5_method_2_code 11 = .ok (.aload_n 0, 1) := by decide +kernel
theorem d_Nm_order_12 : decode prog_5_method_2_code 12 = .ok (.getfield 7, 3) := by decide +kernel
theorem d_Nm_order_15 : decode prog_5_method_2_code 15 = .ok (.aload_n 1, 1) := by decide +kernel
theorem d_Nm_order_16 : decode prog_5_method_2_code 16 = .ok (.getfield 7, 3) := by decide +kernel
theorem d_Nm_order_19 : decode prog_5_method_2_code 19 = .ok (.invokestatic 20, 3) := by decide +kernel
theorem d_Nm_order_22 : decode prog_5_method_2_code 22 = .ok (.ireturn, 1) := by decide +kernel
theorem d_Nm_order_23 : decode prog_5_method_2_code 23 = .ok (.aload_n 0, 1) := by decide +kernel
theorem d_Nm_order_24 : decode prog_5_method_2_code 24 = .ok (.getfield 13, 3) := by decide +kernel
theorem d_Nm_order_27 : decode prog_5_method_2_code 27 = .ok (.aload_n 1, 1) := by decide +kernel
theorem d_Nm_order_28 : decode prog_5_method_2_code 28 = .ok (.getfield 13, 3) := by decide +kernel
theorem d_Nm_order_31 : decode prog_5_method_2_code 31 = .ok (.if_icmp .eq 15, 3) := by decide +kernel
theorem d_Nm_order_34 : decode prog_5_method_2_code 34 = .ok (.aload_n 0, 1) := by decide +kernel
theorem d_Nm_order_35 : decode prog_5_method_2_code 35 = .ok (.getfield 13, 3) := by decide +kernel
theorem d_Nm_order_38 : decode prog_5_method_2_code 38 = .ok (.aload_n 1, 1) := by decide +kernel
theorem d_Nm_order_39 : decode prog_5_method_2_code 39 = .ok (.getfield 13, 3) := by decide +kernel
theorem d_Nm_order_42 : decode prog_5_method_2_code 42 = .ok (.invokestatic 20, 3) := by decide +kernel
theorem d_Nm_order_45 : decode prog_5_method_2_code 45 = .ok (.ireturn, 1) := by decide +kernel
theorem d_Nm_order_46 : decode prog_5_method_2_code 46 = .ok (.aload_n 0, 1) := by decide +kernel
theorem d_Nm_order_47 : decode prog_5_method_2_code 47 = .ok (.getfield 16, 3) := by decide +kernel
theorem d_Nm_order_50 : decode prog_5_method_2_code 50 = .ok (.aload_n 1, 1) := by decide +kernel
theorem d_Nm_order_51 : decode prog_5_method_2_code 51 = .ok (.getfield 16, 3) := by decide +kernel
theorem d_Nm_order_54 : decode prog_5_method_2_code 54 = .ok (.invokevirtual 26, 3) := by decide +kernel
theorem d_Nm_order_57 : decode prog_5_method_2_code 57 = .ok (.ireturn, 1) := by decide +kernel
theorem d_It_compare_0 : decode prog_16_method_40_code 0 = .ok (.iload_n 0, 1) := by decide +kernel
theorem d_It_compare_1 : decode prog_16_method_40_code 1 = .ok (.iload_n 1, 1) := by decide +kernel
theorem d_It_compare_2 : decode prog_16_method_40_code 2 = .ok (.if_icmp .ge 7, 3) := by decide +kernel
theorem d_It_compare_5 : decode prog_16_method_40_code 5 = .ok (.iconst (-1), 1) := by decide +kernel
theorem d_It_compare_6 : decode prog_16_method_40_code 6 = .ok (.goto 13, 3) := by decide +kernel
theorem d_It_compare_9 : decode prog_16_method_40_code 9 = .ok (.iload_n 0, 1) := by decide +kernel
theorem d_It_compare_10 : decode prog_16_method_40_code 10 = .ok (.iload_n 1, 1) := by decide +kernel
theorem d_It_compare_11 : decode prog_16_method_40_code 11 = .ok (.if_icmp .ne 7, 3) := by decide +kernel
theorem d_It_compare_14 : decode prog_16_method_40_code 14 = .ok (.iconst 0, 1) := by decide +kernel
theorem d_It_compare_15 : decode prog_16_method_40_code 15 = .ok (.goto 4, 3) := by decide +kernel
theorem d_It_compare_18 : decode prog_16_method_40_code 18 = .ok (.iconst 1, 1) := by decide +kernel
theorem d_It_compare_19 : decode prog_16_method_40_code 19 = .ok (.ireturn, 1) := by decide +kernel
theorem d_By_order_0 : decode prog_2_method_4_code 0 = .ok (.iconst 0, 1) := by decide +kernel
theorem d_By_order_1 : decode prog_2_method_4_code 1 = .ok (.istore_n 2, 1) := by decide +kernel
theorem d_By_order_2 : decode prog_2_method_4_code 2 = .ok (.iload_n 2, 1) := by decide +kernel
theorem d_By_order_3 : decode prog_2_method_4_code 3 = .ok (.aload_n 0, 1) := by decide +kernel
theorem d_By_order_4 : decode prog_2_method_4_code 4 = .ok (.getfield 9, 3) := by decide +kernel
theorem d_By_order_7 : decode prog_2_method_4_code 7 = .ok (.arraylength, 1) := by decide +kernel
theorem d_By_order_8 : decode prog_2_method_4_code 8 = .ok (.if_icmp .ge 73, 3) := by decide +kernel
theorem d_By_order_11 : decode prog_2_method_4_code 11 = .ok (.iload_n 2, 1) := by decide +kernel
theorem d_By_order_12 : decode prog_2_method_4_code 12 = .ok (.aload_n 1, 1) := by decide +kernel
theorem d_By_order_13 : decode prog_2_method_4_code 13 = .ok (.getfield 9, 3) := by decide +kernel
theorem d_By_order_16 : decode prog_2_method_4_code 16 = .ok (.arraylength, 1) := by decide +kernel
theorem d_By_order_17 : decode prog_2_method_4_code 17 = .ok (.if_icmp .ge 64, 3) := by decide +kernel
theorem d_By_order_20 : decode prog_2_method_4_code 20 = .ok (.aload_n 0, 1) := by decide +kernel
theorem d_By_order_21 : decode prog_2_method_4_code 21 = .ok (.getfield 9, 3) := by decide +kernel
theorem d_By_order_24 : decode prog_2_method_4_code 24 = .ok (.iload_n 2, 1) := by decide +kernel
theorem d_By_order_25 : decode prog_2_method_4_code 25 = .ok (.baload, 1) := by decide +kernel
theorem d_By_order_26 : decode prog_2_method_4_code 26 = .ok (.sipush 255, 3) := by decide +kernel
theorem d_By_order_29 : decode prog_2_method_4_code 29 = .ok (.iand, 1) := by decide +kernel
theorem d_By_order_30 : decode prog_2_method_4_code 30 = .ok (.istore_n 3, 1) := by decide +kernel
theorem d_By_order_31 : decode prog_2_method_4_code 31 = .ok (.aload_n 1, 1) := by decide +kernel
theorem d_By_order_32 : decode prog_2_method_4_code 32 = .ok (.getfield 9, 3) := by decide +kernel
theorem d_By_order_35 : decode prog_2_method_4_code 35 = .ok (.iload_n 2, 1) := by decide +kernel
theorem d_By_order_36 : decode prog_2_method_4_code 36 = .ok (.baload, 1) := by decide +kernel
theorem d_By_order_37 : decode prog_2_method_4_code 37 = .ok (.sipush 255, 3) := by decide +kernel
theorem d_By_order_40 : decode prog_2_method_4_code 40 = .ok (.iand, 1) := by decide +kernel
theorem d_By_order_41 : decode prog_2_method_4_code 41 = .ok (.istore 4, 2) := by decide +kernel
theorem d_By_order_43 : decode prog_2_method_4_code 43 = .ok (.iload_n 3, 1) := by decide +kernel
theorem d_By_order_44 : decode prog_2_method_4_code 44 = .ok (.iload 4, 2) := by decide +kernel
theorem d_By_order_46 : decode prog_2_method_4_code 46 = .ok (.if_icmp .eq 29, 3) := by decide +kernel
theorem d_By_order_49 : decode prog_2_method_4_code 49 = .ok (.iload_n 3, 1) := by decide +kernel
theorem d_By_order_50 : decode prog_2_method_4_code 50 = .ok (.bipush 47, 2) := by decide +kernel
theorem d_By_order_52 : decode prog_2_method_4_code 52 = .ok (.if_icmp .ne 7, 3) := by decide +kernel
theorem d_By_order_55 : decode prog_2_method_4_code 55 = .ok (.iconst (-1), 1) := by decide +kernel
theorem d_By_order_56 : decode prog_2_method_4_code 56 = .ok (.goto 18, 3) := by decide +kernel
theorem d_By_order_59 : decode prog_2_method_4_code 59 = .ok (.iload 4, 2) := by decide +kernel
theorem d_By_order_61 : decode prog_2_method_4_code 61 = .ok (.bipush 47, 2) := by decide +kernel
theorem d_By_order_63 : decode prog_2_method_4_code 63 = .ok (.if_icmp .ne 7, 3) := by decide +kernel
theorem d_By_order_66 : decode prog_2_method_4_code 66 = .ok (.iconst 1, 1) := by decide +kernel
theorem d_By_order_67 : decode prog_2_method_4_code 67 = .ok (.goto 7, 3) := by decide +kernel
theorem d_By_order_70 : decode prog_2_method_4_code 70 = .ok (.iload_n 3, 1) := by decide +kernel
theorem d_By_order_71 : decode prog_2_method_4_code 71 = .ok (.iload 4, 2) := by decide +kernel
theorem d_By_order_73 : decode prog_2_method_4_code 73 = .ok (.isub, 1) := by decide +kernel
theorem d_By_order_74 : decode prog_2_method_4_code 74 = .ok (.ireturn, 1) := by decide +kernel
theorem d_By_order_75 : decode prog_2_method_4_code 75 = .ok (.iinc 2 1, 3) := by decide +kernel
theorem d_By_order_78 : decode prog_2_method_4_code 78 = .ok (.goto (-76), 3) := by decide +kernel
theorem d_By_order_81 : decode prog_2_method_4_code 81 = .ok (.aload_n 0, 1) := by decide +kernel
theorem d_By_order_82 : decode prog_2_method_4_code 82 = .ok (.getfield 9, 3) := by decide +kernel
theorem d_By_order_85 : decode prog_2_method_4_code 85 = .ok (.arraylength, 1) := by decide +kernel
theorem d_By_order_86 : decode prog_2_method_4_code 86 = .ok (.aload_n 1, 1) := by decide +kernel
theorem d_By_order_87 : decode prog_2_method_4_code 87 = .ok (.getfield 9, 3) := by decide +kernel
theorem d_By_order_90 : decode prog_2_method_4_code 90 = .ok (.arraylength, 1) := by decide +kernel
theorem d_By_order_91 : decode prog_2_method_4_code 91 = .ok (.isub, 1) := by decide +kernel
theorem d_By_order_92 : decode prog_2_method_4_code 92 = .ok (.ireturn, 1) := by decide +kernel
theorem d_Fi_nth_0 : decode prog_3_method_3_code 0 = .ok (.iload_n 1, 1) := by decide +kernel
theorem d_Fi_nth_1 : decode prog_3_method_3_code 1 = .ok (.ifCond .lt 20, 3) := by decide +kernel
theorem d_Fi_nth_4 : decode prog_3_method_3_code 4 = .ok (.iload_n 1, 1) := by decide +kernel
theorem d_Fi_nth_5 : decode prog_3_method_3_code 5 = .ok (.aload_n 0, 1) := by decide +kernel
theorem d_Fi_nth_6 : decode prog_3_method_3_code 6 = .ok (.getfield 17, 3) := by decide +kernel
theorem d_Fi_nth_9 : decode prog_3_method_3_code 9 = .ok (.if_icmp .ge 12, 3) := by decide +kernel
theorem d_Fi_nth_12 : decode prog_3_method_3_code 12 = .ok (.aload_n 0, 1) := by decide +kernel
theorem d_Fi_nth_13 : decode prog_3_method_3_code 13 = .ok (.getfield 11, 3) := by decide +kernel
theorem d_Fi_nth_16 : decode prog_3_method_3_code 16 = .ok (.iload_n 1, 1) := by decide +kernel
theorem d_Fi_nth_17 : decode prog_3_method_3_code 17 = .ok (.aaload, 1) := by decide +kernel
theorem d_Fi_nth_18 : decode prog_3_method_3_code 18 = .ok (.goto 4, 3) := by decide +kernel
theorem d_Fi_nth_21 : decode prog_3_method_3_code 21 = .ok (.aconst_null, 1) := by decide +kernel
theorem d_Fi_nth_22 : decode prog_3_method_3_code 22 = .ok (.areturn, 1) := by decide +kernel
theorem d_By_length_0 : decode prog_2_method_2_code 0 = .ok (.aload_n 0, 1) := by decide +kernel
theorem d_By_length_1 : decode prog_2_method_2_code 1 = .ok (.getfield 9, 3) := by decide +kernel
theorem d_By_length_4 : decode prog_2_method_2_code 4 = .ok (.arraylength, 1) := by decide +kernel
theorem d_By_length_5 : decode prog_2_method_2_code 5 = .ok (.ireturn, 1) := by decide +kernel
theorem d_Bd_at_0 : decode prog_1_method_10_code 0 = .ok (.aload_n 0, 1) := by decide +kernel
theorem d_Bd_at_1 : decode prog_1_method_10_code 1 = .ok (.getfield 19, 3) := by decide +kernel
theorem d_Bd_at_4 : decode prog_1_method_10_code 4 = .ok (.aload_n 0, 1) := by decide +kernel
theorem d_Bd_at_5 : decode prog_1_method_10_code 5 = .ok (.iload_n 1, 1) := by decide +kernel
theorem d_Bd_at_6 : decode prog_1_method_10_code 6 = .ok (.iload_n 2, 1) := by decide +kernel
theorem d_Bd_at_7 : decode prog_1_method_10_code 7 = .ok (.invokevirtual 74, 3) := by decide +kernel
theorem d_Bd_at_10 : decode prog_1_method_10_code 10 = .ok (.invokevirtual 82, 3) := by decide +kernel
theorem d_Bd_at_13 : decode prog_1_method_10_code 13 = .ok (.astore 4, 2) := by decide +kernel
theorem d_Bd_at_15 : decode prog_1_method_10_code 15 = .ok (.aload 4, 2) := by decide +kernel
theorem d_Bd_at_17 : decode prog_1_method_10_code 17 = .ok (.ifnonnull 7, 3) := by decide +kernel
theorem d_Bd_at_20 : decode prog_1_method_10_code 20 = .ok (.iconst (-1), 1) := by decide +kernel
theorem d_Bd_at_21 : decode prog_1_method_10_code 21 = .ok (.goto 12, 3) := by decide +kernel
theorem d_Bd_at_24 : decode prog_1_method_10_code 24 = .ok (.aload 4, 2) := by decide +kernel
theorem d_Bd_at_26 : decode prog_1_method_10_code 26 = .ok (.getfield 116, 3) := by decide +kernel
theorem d_Bd_at_29 : decode prog_1_method_10_code 29 = .ok (.iload_n 3, 1) := by decide +kernel
theorem d_Bd_at_30 : decode prog_1_method_10_code 30 = .ok (.invokevirtual 139, 3) := by decide +kernel
theorem d_Bd_at_33 : decode prog_1_method_10_code 33 = .ok (.ireturn, 1) := by decide +kernel
theorem d_By_byteAt_0 : decode prog_2_method_3_code 0 = .ok (.iload_n 1, 1) := by decide +kernel
theorem d_By_byteAt_1 : decode prog_2_method_3_code 1 = .ok (.ifCond .lt 25, 3) := by decide +kernel
theorem d_By_byteAt_4 : decode prog_2_method_3_code 4 = .ok (.iload_n 1, 1) := by decide +kernel
theorem d_By_byteAt_5 : decode prog_2_method_3_code 5 = .ok (.aload_n 0, 1) := by decide +kernel
theorem d_By_byteAt_6 : decode prog_2_method_3_code 6 = .ok (.getfield 9, 3) := by decide +kernel
theorem d_By_byteAt_9 : decode prog_2_method_3_code 9 = .ok (.arraylength, 1) := by decide +kernel
theorem d_By_byteAt_10 : decode prog_2_method_3_code 10 = .ok (.if_icmp .ge 16, 3) := by decide +kernel
theorem d_By_byteAt_13 : decode prog_2_method_3_code 13 = .ok (.aload_n 0, 1) := by decide +kernel
theorem d_By_byteAt_14 : decode prog_2_method_3_code 14 = .ok (.getfield 9, 3) := by decide +kernel
theorem d_By_byteAt_17 : decode prog_2_method_3_code 17 = .ok (.iload_n 1, 1) := by decide +kernel
theorem d_By_byteAt_18 : decode prog_2_method_3_code 18 = .ok (.baload, 1) := by decide +kernel
theorem d_By_byteAt_19 : decode prog_2_method_3_code 19 = .ok (.sipush 255, 3) := by decide +kernel
theorem d_By_byteAt_22 : decode prog_2_method_3_code 22 = .ok (.iand, 1) := by decide +kernel
theorem d_By_byteAt_23 : decode prog_2_method_3_code 23 = .ok (.goto 4, 3) := by decide +kernel
theorem d_By_byteAt_26 : decode prog_2_method_3_code 26 = .ok (.iconst (-1), 1) := by decide +kernel
theorem d_By_byteAt_27 : decode prog_2_method_3_code 27 = .ok (.ireturn, 1) := by decide +kernel
theorem d_Bd_list_0 : decode prog_1_method_11_code 0 = .ok (.iload_n 1, 1) := by decide +kernel
theorem d_Bd_list_1 : decode prog_1_method_11_code 1 = .ok (.invokestatic 143, 3) := by decide +kernel
theorem d_Bd_list_4 : decode prog_1_method_11_code 4 = .ok (.ifCond .ne 5, 3) := by decide +kernel
theorem d_Bd_list_7 : decode prog_1_method_11_code 7 = .ok (.iconst (-1), 1) := by decide +kernel
theorem d_Bd_list_8 : decode prog_1_method_11_code 8 = .ok (.ireturn, 1) := by decide +kernel
theorem d_Bd_list_9 : decode prog_1_method_11_code 9 = .ok (.aload_n 0, 1) := by decide +kernel
theorem d_Bd_list_10 : decode prog_1_method_11_code 10 = .ok (.getfield 26, 3) := by decide +kernel
theorem d_Bd_list_13 : decode prog_1_method_11_code 13 = .ok (.aload_n 0, 1) := by decide +kernel
theorem d_Bd_list_14 : decode prog_1_method_11_code 14 = .ok (.getfield 19, 3) := by decide +kernel
theorem d_Bd_list_17 : decode prog_1_method_11_code 17 = .ok (.iload_n 1, 1) := by decide +kernel
theorem d_Bd_list_18 : decode prog_1_method_11_code 18 = .ok (.invokevirtual 147, 3) := by decide +kernel
theorem d_Bd_list_21 : decode prog_1_method_11_code 21 = .ok (.aload_n 0, 1) := by decide +kernel
theorem d_Bd_list_22 : decode prog_1_method_11_code 22 = .ok (.getfield 26, 3) := by decide +kernel
theorem d_Bd_list_25 : decode prog_1_method_11_code 25 = .ok (.getfield 151, 3) := by decide +kernel
theorem d_Bd_list_28 : decode prog_1_method_11_code 28 = .ok (.ireturn, 1) := by decide +kernel
theorem d_Bd_isSort_0 : decode prog_1_method_14_code 0 = .ok (.iload_n 0, 1) := by decide +kernel
theorem d_Bd_isSort_1 : decode prog_1_method_14_code 1 = .ok (.ifCond .lt 13, 3) := by decide +kernel
theorem d_Bd_isSort_4 : decode prog_1_method_14_code 4 = .ok (.iload_n 0, 1) := by decide +kernel
theorem d_Bd_isSort_5 : decode prog_1_method_14_code 5 = .ok (.bipush 7, 2) := by decide +kernel
theorem d_Bd_isSort_7 : decode prog_1_method_14_code 7 = .ok (.if_icmp .ge 7, 3) := by decide +kernel
theorem d_Bd_isSort_10 : decode prog_1_method_14_code 10 = .ok (.iconst 1, 1) := by decide +kernel
theorem d_Bd_isSort_11 : decode prog_1_method_14_code 11 = .ok (.goto 4, 3) := by decide +kernel
theorem d_Bd_isSort_14 : decode prog_1_method_14_code 14 = .ok (.iconst 0, 1) := by decide +kernel
theorem d_Bd_isSort_15 : decode prog_1_method_14_code 15 = .ok (.ireturn, 1) := by decide +kernel
theorem d_Fi_copySortFrom_0 : decode prog_3_method_8_code 0 = .ok (.aload_n 0, 1) := by decide +kernel
theorem d_Fi_copySortFrom_1 : decode prog_3_method_8_code 1 = .ok (.iconst 0, 1) := by decide +kernel
theorem d_Fi_copySortFrom_2 : decode prog_3_method_8_code 2 = .ok (.putfield 17, 3) := by decide +kernel
theorem d_Fi_copySortFrom_5 : decode prog_3_method_8_code 5 = .ok (.iconst 0, 1) := by decide +kernel
theorem d_Fi_copySortFrom_6 : decode prog_3_method_8_code 6 = .ok (.istore_n 3, 1) := by decide +kernel
theorem d_Fi_copySortFrom_7 : decode prog_3_method_8_code 7 = .ok (.iload_n 3, 1) := by decide +kernel
theorem d_Fi_copySortFrom_8 : decode prog_3_method_8_code 8 = .ok (.aload_n 1, 1) := by decide +kernel
theorem d_Fi_copySortFrom_9 : decode prog_3_method_8_code 9 = .ok (.getfield 17, 3) := by decide +kernel
theorem d_Fi_copySortFrom_12 : decode prog_3_method_8_code 12 = .ok (.if_icmp .ge 32, 3) := by decide +kernel
theorem d_Fi_copySortFrom_15 : decode prog_3_method_8_code 15 = .ok (.aload_n 1, 1) := by decide +kernel
theorem d_Fi_copySortFrom_16 : decode prog_3_method_8_code 16 = .ok (.getfield 11, 3) := by decide +kernel
theorem d_Fi_copySortFrom_19 : decode prog_3_method_8_code 19 = .ok (.iload_n 3, 1) := by decide +kernel
theorem d_Fi_copySortFrom_20 : decode prog_3_method_8_code 20 = .ok (.aaload, 1) := by decide +kernel
theorem d_Fi_copySortFrom_21 : decode prog_3_method_8_code 21 = .ok (.iload_n 2, 1) := by decide +kernel
theorem d_Fi_copySortFrom_22 : decode prog_3_method_8_code 22 = .ok (.invokestatic 29, 3) := by decide +kernel
theorem d_Fi_copySortFrom_25 : decode prog_3_method_8_code 25 = .ok (.ifCond .eq 13, 3) := by decide +kernel
theorem d_Fi_copySortFrom_28 : decode prog_3_method_8_code 28 = .ok (.aload_n 0, 1) := by decide +kernel
theorem d_Fi_copySortFrom_29 : decode prog_3_method_8_code 29 = .ok (.aload_n 1, 1) := by decide +kernel
theorem d_Fi_copySortFrom_30 : decode prog_3_method_8_code 30 = .ok (.getfield 11, 3) := by decide +kernel
theorem d_Fi_copySortFrom_33 : decode prog_3_method_8_code 33 = .ok (.iload_n 3, 1) := by decide +kernel
theorem d_Fi_copySortFrom_34 : decode prog_3_method_8_code 34 = .ok (.aaload, 1) := by decide +kernel
theorem d_Fi_copySortFrom_35 : decode prog_3_method_8_code 35 = .ok (.invokevirtual 50, 3) := by decide +kernel
theorem d_Fi_copySortFrom_38 : decode prog_3_method_8_code 38 = .ok (.iinc 3 1, 3) := by decide +kernel
theorem d_Fi_copySortFrom_41 : decode prog_3_method_8_code 41 = .ok (.goto (-34), 3) := by decide +kernel
theorem d_Fi_copySortFrom_44 : decode prog_3_method_8_code 44 = .ok (.return_, 1) := by decide +kernel
theorem d_Fi_isOfSort_0 : decode prog_3_method_9_code 0 = .ok (.aload_n 0, 1) := by decide +kernel
theorem d_Fi_isOfSort_1 : decode prog_3_method_9_code 1 = .ok (.ifnull 18, 3) := by decide +kernel
theorem d_Fi_isOfSort_4 : decode prog_3_method_9_code 4 = .ok (.aload_n 0, 1) := by decide +kernel
theorem d_Fi_isOfSort_5 : decode prog_3_method_9_code 5 = .ok (.getfield 47, 3) := by decide +kernel
theorem d_Fi_isOfSort_8 : decode prog_3_method_9_code 8 = .ok (.getfield 54, 3) := by decide +kernel
theorem d_Fi_isOfSort_11 : decode prog_3_method_9_code 11 = .ok (.iload_n 1, 1) := by decide +kernel
theorem d_Fi_isOfSort_12 : decode prog_3_method_9_code 12 = .ok (.if_icmp .ne 7, 3) := by decide +kernel
theorem d_Fi_isOfSort_15 : decode prog_3_method_9_code 15 = .ok (.iconst 1, 1) := by decide +kernel
theorem d_Fi_isOfSort_16 : decode prog_3_method_9_code 16 = .ok (.goto 4, 3) := by decide +kernel
theorem d_Fi_isOfSort_19 : decode prog_3_method_9_code 19 = .ok (.iconst 0, 1) := by decide +kernel
theorem d_Fi_isOfSort_20 : decode prog_3_method_9_code 20 = .ok (.ireturn, 1) := by decide +kernel
theorem d_Fi_insert_0 : decode prog_3_method_12_code 0 = .ok (.aload_n 1, 1) := by decide +kernel
theorem d_Fi_insert_1 : decode prog_3_method_12_code 1 = .ok (.ifnull 10, 3) := by decide +kernel
theorem d_Fi_insert_4 : decode prog_3_method_12_code 4 = .ok (.aload_n 0, 1) := by decide +kernel
theorem d_Fi_insert_5 : decode prog_3_method_12_code 5 = .ok (.invokevirtual 62, 3) := by decide +kernel
theorem d_Fi_insert_8 : decode prog_3_method_12_code 8 = .ok (.ifCond .eq 4, 3) := by decide +kernel
theorem d_Fi_insert_11 : decode prog_3_method_12_code 11 = .ok (.return_, 1) := by decide +kernel
theorem d_Fi_insert_12 : decode prog_3_method_12_code 12 = .ok (.aload_n 0, 1) := by decide +kernel
theorem d_Fi_insert_13 : decode prog_3_method_12_code 13 = .ok (.getfield 17, 3) := by decide +kernel
theorem d_Fi_insert_16 : decode prog_3_method_12_code 16 = .ok (.istore_n 2, 1) := by decide +kernel
theorem d_Fi_insert_17 : decode prog_3_method_12_code 17 = .ok (.iload_n 2, 1) := by decide +kernel
theorem d_Fi_insert_18 : decode prog_3_method_12_code 18 = .ok (.ifCond .le 55, 3) := by decide +kernel
theorem d_Fi_insert_21 : decode prog_3_method_12_code 21 = .ok (.aload_n 0, 1) := by decide +kernel
theorem d_Fi_insert_22 : decode prog_3_method_12_code 22 = .ok (.getfield 11, 3) := by decide +kernel
theorem d_Fi_insert_25 : decode prog_3_method_12_code 25 = .ok (.iload_n 2, 1) := by decide +kernel
theorem d_Fi_insert_26 : decode prog_3_method_12_code 26 = .ok (.iconst 1, 1) := by decide +kernel
theorem d_Fi_insert_27 : decode prog_3_method_12_code 27 = .ok (.isub, 1) := by decide +kernel
theorem d_Fi_insert_28 : decode prog_3_method_12_code 28 = .ok (.aaload, 1) := by decide +kernel
theorem d_Fi_insert_29 : decode prog_3_method_12_code 29 = .ok (.ifnull 44, 3) := by decide +kernel
theorem d_Fi_insert_32 : decode prog_3_method_12_code 32 = .ok (.aload_n 1, 1) := by decide +kernel
theorem d_Fi_insert_33 : decode prog_3_method_12_code 33 = .ok (.getfield 47, 3) := by decide +kernel
theorem d_Fi_insert_36 : decode prog_3_method_12_code 36 = .ok (.aload_n 0, 1) := by decide +kernel
theorem d_Fi_insert_37 : decode prog_3_method_12_code 37 = .ok (.getfield 11, 3) := by decide +kernel
theorem d_Fi_insert_40 : decode prog_3_method_12_code 40 = .ok (.iload_n 2, 1) := by decide +kernel
theorem d_Fi_insert_41 : decode prog_3_method_12_code 41 = .ok (.iconst 1, 1) := by decide +kernel
theorem d_Fi_insert_42 : decode prog_3_method_12_code 42 = .ok (.isub, 1) := by decide +kernel
theorem d_Fi_insert_43 : decode prog_3_method_12_code 43 = .ok (.aaload, 1) := by decide +kernel
theorem d_Fi_insert_44 : decode prog_3_method_12_code 44 = .ok (.getfield 47, 3) := by decide +kernel
theorem d_Fi_insert_47 : decode prog_3_method_12_code 47 = .ok (.invokevirtual 59, 3) := by decide +kernel
theorem d_Fi_insert_50 : decode prog_3_method_12_code 50 = .ok (.ifCond .ge 23, 3) := by decide +kernel
theorem d_Fi_insert_53 : decode prog_3_method_12_code 53 = .ok (.aload_n 0, 1) := by decide +kernel
theorem d_Fi_insert_54 : decode prog_3_method_12_code 54 = .ok (.getfield 11, 3) := by decide +kernel
theorem d_Fi_insert_57 : decode prog_3_method_12_code 57 = .ok (.iload_n 2, 1) := by decide +kernel
theorem d_Fi_insert_58 : decode prog_3_method_12_code 58 = .ok (.aload_n 0, 1) := by decide +kernel
theorem d_Fi_insert_59 : decode prog_3_method_12_code 59 = .ok (.getfield 11, 3) := by decide +kernel
theorem d_Fi_insert_62 : decode prog_3_method_12_code 62 = .ok (.iload_n 2, 1) := by decide +kernel
theorem d_Fi_insert_63 : decode prog_3_method_12_code 63 = .ok (.iconst 1, 1) := by decide +kernel
theorem d_Fi_insert_64 : decode prog_3_method_12_code 64 = .ok (.isub, 1) := by decide +kernel
theorem d_Fi_insert_65 : decode prog_3_method_12_code 65 = .ok (.aaload, 1) := by decide +kernel
theorem d_Fi_insert_66 : decode prog_3_method_12_code 66 = .ok (.aastore, 1) := by decide +kernel
theorem d_Fi_insert_67 : decode prog_3_method_12_code 67 = .ok (.iinc 2 (-1), 3) := by decide +kernel
theorem d_Fi_insert_70 : decode prog_3_method_12_code 70 = .ok (.goto (-53), 3) := by decide +kernel
theorem d_Fi_insert_73 : decode prog_3_method_12_code 73 = .ok (.aload_n 0, 1) := by decide +kernel
theorem d_Fi_insert_74 : decode prog_3_method_12_code 74 = .ok (.getfield 11, 3) := by decide +kernel
theorem d_Fi_insert_77 : decode prog_3_method_12_code 77 = .ok (.iload_n 2, 1) := by decide +kernel
theorem d_Fi_insert_78 : decode prog_3_method_12_code 78 = .ok (.aload_n 1, 1) := by decide +kernel
theorem d_Fi_insert_79 : decode prog_3_method_12_code 79 = .ok (.aastore, 1) := by decide +kernel
theorem d_Fi_insert_80 : decode prog_3_method_12_code 80 = .ok (.aload_n 0, 1) := by decide +kernel
theorem d_Fi_insert_81 : decode prog_3_method_12_code 81 = .ok (.dup, 1) := by decide +kernel
theorem d_Fi_insert_82 : decode prog_3_method_12_code 82 = .ok (.getfield 17, 3) := by decide +kernel
theorem d_Fi_insert_85 : decode prog_3_method_12_code 85 = .ok (.iconst 1, 1) := by decide +kernel
theorem d_Fi_insert_86 : decode prog_3_method_12_code 86 = .ok (.iadd, 1) := by decide +kernel
theorem d_Fi_insert_87 : decode prog_3_method_12_code 87 = .ok (.putfield 17, 3) := by decide +kernel
theorem d_Fi_insert_90 : decode prog_3_method_12_code 90 = .ok (.return_, 1) := by decide +kernel
theorem d_Fi_isFull_0 : decode prog_3_method_2_code 0 = .ok (.aload_n 0, 1) := by decide +kernel
theorem d_Fi_isFull_1 : decode prog_3_method_2_code 1 = .ok (.getfield 17, 3) := by decide +kernel
theorem d_Fi_isFull_4 : decode prog_3_method_2_code 4 = .ok (.aload_n 0, 1) := by decide +kernel
theorem d_Fi_isFull_5 : decode prog_3_method_2_code 5 = .ok (.getfield 11, 3) := by decide +kernel
theorem d_Fi_isFull_8 : decode prog_3_method_2_code 8 = .ok (.arraylength, 1) := by decide +kernel
theorem d_Fi_isFull_9 : decode prog_3_method_2_code 9 = .ok (.if_icmp .lt 7, 3) := by decide +kernel
theorem d_Fi_isFull_12 : decode prog_3_method_2_code 12 = .ok (.iconst 1, 1) := by decide +kernel
theorem d_Fi_isFull_13 : decode prog_3_method_2_code 13 = .ok (.goto 4, 3) := by decide +kernel
theorem d_Fi_isFull_16 : decode prog_3_method_2_code 16 = .ok (.iconst 0, 1) := by decide +kernel
theorem d_Fi_isFull_17 : decode prog_3_method_2_code 17 = .ok (.ireturn, 1) := by decide +kernel
theorem d_Bd_listed_0 : decode prog_1_method_12_code 0 = .ok (.aload_n 0, 1) := by decide +kernel
theorem d_Bd_listed_1 : decode prog_1_method_12_code 1 = .ok (.getfield 26, 3) := by decide +kernel
theorem d_Bd_listed_4 : decode prog_1_method_12_code 4 = .ok (.iload_n 1, 1) := by decide +kernel
theorem d_Bd_listed_5 : decode prog_1_method_12_code 5 = .ok (.invokevirtual 152, 3) := by decide +kernel
theorem d_Bd_listed_8 : decode prog_1_method_12_code 8 = .ok (.astore_n 3, 1) := by decide +kernel
theorem d_Bd_listed_9 : decode prog_1_method_12_code 9 = .ok (.aload_n 3, 1) := by decide +kernel
theorem d_Bd_listed_10 : decode prog_1_method_12_code 10 = .ok (.ifnonnull 5, 3) := by decide +kernel
theorem d_Bd_listed_13 : decode prog_1_method_12_code 13 = .ok (.iconst (-1), 1) := by decide +kernel
theorem d_Bd_listed_14 : decode prog_1_method_12_code 14 = .ok (.ireturn, 1) := by decide +kernel
theorem d_Bd_listed_15 : decode prog_1_method_12_code 15 = .ok (.iload_n 2, 1) := by decide +kernel
theorem d_Bd_listed_16 : decode prog_1_method_12_code 16 = .ok (.iconst (-1), 1) := by decide +kernel
theorem d_Bd_listed_17 : decode prog_1_method_12_code 17 = .ok (.if_icmp .ne 13, 3) := by decide +kernel
theorem d_Bd_listed_20 : decode prog_1_method_12_code 20 = .ok (.aload_n 3, 1) := by decide +kernel
theorem d_Bd_listed_21 : decode prog_1_method_12_code 21 = .ok (.getfield 112, 3) := by decide +kernel
theorem d_Bd_listed_24 : decode prog_1_method_12_code 24 = .ok (.getfield 156, 3) := by decide +kernel
theorem d_Bd_listed_27 : decode prog_1_method_12_code 27 = .ok (.goto 14, 3) := by decide +kernel
theorem d_Bd_listed_30 : decode prog_1_method_12_code 30 = .ok (.aload_n 3, 1) := by decide +kernel
theorem d_Bd_listed_31 : decode prog_1_method_12_code 31 = .ok (.getfield 112, 3) := by decide +kernel
theorem d_Bd_listed_34 : decode prog_1_method_12_code 34 = .ok (.getfield 161, 3) := by decide +kernel
theorem d_Bd_listed_37 : decode prog_1_method_12_code 37 = .ok (.iload_n 2, 1) := by decide +kernel
theorem d_Bd_listed_38 : decode prog_1_method_12_code 38 = .ok (.invokevirtual 139, 3) := by decide +kernel
theorem d_Bd_listed_41 : decode prog_1_method_12_code 41 = .ok (.ireturn, 1) := by decide +kernel
theorem d_Bd_count_0 : decode prog_1_method_13_code 0 = .ok (.iload_n 1, 1) := by decide +kernel
theorem d_Bd_count_1 : decode prog_1_method_13_code 1 = .ok (.invokestatic 143, 3) := by decide +kernel
theorem d_Bd_count_4 : decode prog_1_method_13_code 4 = .ok (.ifCond .eq 12, 3) := by decide +kernel
theorem d_Bd_count_7 : decode prog_1_method_13_code 7 = .ok (.aload_n 0, 1) := by decide +kernel
theorem d_Bd_count_8 : decode prog_1_method_13_code 8 = .ok (.getfield 19, 3) := by decide +kernel
theorem d_Bd_count_11 : decode prog_1_method_13_code 11 = .ok (.iload_n 1, 1) := by decide +kernel
theorem d_Bd_count_12 : decode prog_1_method_13_code 12 = .ok (.invokevirtual 164, 3) := by decide +kernel
theorem d_Bd_count_15 : decode prog_1_method_13_code 15 = .ok (.ireturn, 1) := by decide +kernel
theorem d_Bd_count_16 : decode prog_1_method_13_code 16 = .ok (.iload_n 1, 1) := by decide +kernel
theorem d_Bd_count_17 : decode prog_1_method_13_code 17 = .ok (.tableswitch 60 7 10 #[31, 39, 47, 55], 31) := by decide +kernel
theorem d_Bd_count_48 : decode prog_1_method_13_code 48 = .ok (.aload_n 0, 1) := by decide +kernel
theorem d_Bd_count_49 : decode prog_1_method_13_code 49 = .ok (.getfield 19, 3) := by decide +kernel
theorem d_Bd_count_52 : decode prog_1_method_13_code 52 = .ok (.getfield 151, 3) := by decide +kernel
theorem d_Bd_count_55 : decode prog_1_method_13_code 55 = .ok (.ireturn, 1) := by decide +kernel
theorem d_Bd_count_56 : decode prog_1_method_13_code 56 = .ok (.aload_n 0, 1) := by decide +kernel
theorem d_Bd_count_57 : decode prog_1_method_13_code 57 = .ok (.getfield 32, 3) := by decide +kernel
theorem d_Bd_count_60 : decode prog_1_method_13_code 60 = .ok (.getfield 119, 3) := by decide +kernel
theorem d_Bd_count_63 : decode prog_1_method_13_code 63 = .ok (.ireturn, 1) := by decide +kernel
theorem d_Bd_count_64 : decode prog_1_method_13_code 64 = .ok (.aload_n 0, 1) := by decide +kernel
theorem d_Bd_count_65 : decode prog_1_method_13_code 65 = .ok (.getfield 10, 3) := by decide +kernel
theorem d_Bd_count_68 : decode prog_1_method_13_code 68 = .ok (.getfield 53, 3) := by decide +kernel
theorem d_Bd_count_71 : decode prog_1_method_13_code 71 = .ok (.ireturn, 1) := by decide +kernel
theorem d_Bd_count_72 : decode prog_1_method_13_code 72 = .ok (.aload_n 0, 1) := by decide +kernel
theorem d_Bd_count_73 : decode prog_1_method_13_code 73 = .ok (.getfield 45, 3) := by decide +kernel
theorem d_Bd_count_76 : decode prog_1_method_13_code 76 = .ok (.ireturn, 1) := by decide +kernel
theorem d_Bd_count_77 : decode prog_1_method_13_code 77 = .ok (.iconst (-1), 1) := by decide +kernel
theorem d_Bd_count_78 : decode prog_1_method_13_code 78 = .ok (.ireturn, 1) := by decide +kernel
theorem d_Fi_countOfSort_0 : decode prog_3_method_5_code 0 = .ok (.iconst 0, 1) := by decide +kernel
theorem d_Fi_countOfSort_1 : decode prog_3_method_5_code 1 = .ok (.istore_n 2, 1) := by decide +kernel
theorem d_Fi_countOfSort_2 : decode prog_3_method_5_code 2 = .ok (.iconst 0, 1) := by decide +kernel
theorem d_Fi_countOfSort_3 : decode prog_3_method_5_code 3 = .ok (.istore_n 3, 1) := by decide +kernel
theorem d_Fi_countOfSort_4 : decode prog_3_method_5_code 4 = .ok (.iload_n 3, 1) := by decide +kernel
theorem d_Fi_countOfSort_5 : decode prog_3_method_5_code 5 = .ok (.aload_n 0, 1) := by decide +kernel
theorem d_Fi_countOfSort_6 : decode prog_3_method_5_code 6 = .ok (.getfield 17, 3) := by decide +kernel
theorem d_Fi_countOfSort_9 : decode prog_3_method_5_code 9 = .ok (.if_icmp .ge 25, 3) := by decide +kernel
theorem d_Fi_countOfSort_12 : decode prog_3_method_5_code 12 = .ok (.aload_n 0, 1) := by decide +kernel
theorem d_Fi_countOfSort_13 : decode prog_3_method_5_code 13 = .ok (.getfield 11, 3) := by decide +kernel
theorem d_Fi_countOfSort_16 : decode prog_3_method_5_code 16 = .ok (.iload_n 3, 1) := by decide +kernel
theorem d_Fi_countOfSort_17 : decode prog_3_method_5_code 17 = .ok (.aaload, 1) := by decide +kernel
theorem d_Fi_countOfSort_18 : decode prog_3_method_5_code 18 = .ok (.iload_n 1, 1) := by decide +kernel
theorem d_Fi_countOfSort_19 : decode prog_3_method_5_code 19 = .ok (.invokestatic 29, 3) := by decide +kernel
theorem d_Fi_countOfSort_22 : decode prog_3_method_5_code 22 = .ok (.ifCond .eq 6, 3) := by decide +kernel
theorem d_Fi_countOfSort_25 : decode prog_3_method_5_code 25 = .ok (.iinc 2 1, 3) := by decide +kernel
theorem d_Fi_countOfSort_28 : decode prog_3_method_5_code 28 = .ok (.iinc 3 1, 3) := by decide +kernel
theorem d_Fi_countOfSort_31 : decode prog_3_method_5_code 31 = .ok (.goto (-27), 3) := by decide +kernel
theorem d_Fi_countOfSort_34 : decode prog_3_method_5_code 34 = .ok (.iload_n 2, 1) := by decide +kernel
theorem d_Fi_countOfSort_35 : decode prog_3_method_5_code 35 = .ok (.ireturn, 1) := by decide +kernel
theorem d_Bd_path_0 : decode prog_1_method_3_code 0 = .ok (.aload_n 0, 1) := by decide +kernel
theorem d_Bd_path_1 : decode prog_1_method_3_code 1 = .ok (.getfield 10, 3) := by decide +kernel
theorem d_Bd_path_4 : decode prog_1_method_3_code 4 = .ok (.getfield 53, 3) := by decide +kernel
theorem d_Bd_path_7 : decode prog_1_method_3_code 7 = .ok (.bipush 100, 2) := by decide +kernel
theorem d_Bd_path_9 : decode prog_1_method_3_code 9 = .ok (.if_icmp .le 13, 3) := by decide +kernel
theorem d_Bd_path_12 : decode prog_1_method_3_code 12 = .ok (.new 56, 3) := by decide +kernel
theorem d_Bd_path_15 : decode prog_1_method_3_code 15 = .ok (.dup, 1) := by decide +kernel
theorem d_Bd_path_16 : decode prog_1_method_3_code 16 = .ok (.ldc 58, 2) := by decide +kernel
theorem d_Bd_path_18 : decode prog_1_method_3_code 18 = .ok (.invokespecial 60, 3) := by decide +kernel
theorem d_Bd_path_21 : decode prog_1_method_3_code 21 = .ok (.athrow, 1) := by decide +kernel
theorem d_Bd_path_22 : decode prog_1_method_3_code 22 = .ok (.aload_n 0, 1) := by decide +kernel
theorem d_Bd_path_23 : decode prog_1_method_3_code 23 = .ok (.aload_n 0, 1) := by decide +kernel
theorem d_Bd_path_24 : decode prog_1_method_3_code 24 = .ok (.getfield 10, 3) := by decide +kernel
theorem d_Bd_path_27 : decode prog_1_method_3_code 27 = .ok (.invokevirtual 63, 3) := by decide +kernel
theorem d_Bd_path_30 : decode prog_1_method_3_code 30 = .ok (.putfield 41, 3) := by decide +kernel
theorem d_Bd_path_33 : decode prog_1_method_3_code 33 = .ok (.aload_n 0, 1) := by decide +kernel
theorem d_Bd_path_34 : decode prog_1_method_3_code 34 = .ok (.getfield 41, 3) := by decide +kernel
theorem d_Bd_path_37 : decode prog_1_method_3_code 37 = .ok (.invokevirtual 67, 3) := by decide +kernel
theorem d_Bd_path_40 : decode prog_1_method_3_code 40 = .ok (.ireturn, 1) := by decide +kernel
theorem d_Tp_take_0 : decode prog_8_method_3_code 0 = .ok (.new 19, 3) := by decide +kernel
theorem d_Tp_take_3 : decode prog_8_method_3_code 3 = .ok (.dup, 1) := by decide +kernel
theorem d_Tp_take_4 : decode prog_8_method_3_code 4 = .ok (.aload_n 0, 1) := by decide +kernel
theorem d_Tp_take_5 : decode prog_8_method_3_code 5 = .ok (.getfield 9, 3) := by decide +kernel
theorem d_Tp_take_8 : decode prog_8_method_3_code 8 = .ok (.aload_n 0, 1) := by decide +kernel
theorem d_Tp_take_9 : decode prog_8_method_3_code 9 = .ok (.getfield 15, 3) := by decide +kernel
theorem d_Tp_take_12 : decode prog_8_method_3_code 12 = .ok (.invokestatic 21, 3) := by decide +kernel
theorem d_Tp_take_15 : decode prog_8_method_3_code 15 = .ok (.invokespecial 27, 3) := by decide +kernel
theorem d_Tp_take_18 : decode prog_8_method_3_code 18 = .ok (.astore_n 1, 1) := by decide +kernel
theorem d_Tp_take_19 : decode prog_8_method_3_code 19 = .ok (.aload_n 0, 1) := by decide +kernel
theorem d_Tp_take_20 : decode prog_8_method_3_code 20 = .ok (.iconst 0, 1) := by decide +kernel
theorem d_Tp_take_21 : decode prog_8_method_3_code 21 = .ok (.putfield 15, 3) := by decide +kernel
theorem d_Tp_take_24 : decode prog_8_method_3_code 24 = .ok (.aload_n 1, 1) := by decide +kernel
theorem d_Tp_take_25 : decode prog_8_method_3_code 25 = .ok (.areturn, 1) := by decide +kernel
theorem d_Ar_copyOf_0 : decode prog_22_method_121_code 0 = .ok (.iload_n 1, 1) := by decide +kernel
theorem d_Ar_copyOf_1 : decode prog_22_method_121_code 1 = .ok (.aload_n 0, 1) := by decide +kernel
theorem d_Ar_copyOf_2 : decode prog_22_method_121_code 2 = .ok (.arraylength, 1) := by decide +kernel
theorem d_Ar_copyOf_3 : decode prog_22_method_121_code 3 = .ok (.if_icmp .ne 11, 3) := by decide +kernel
theorem d_Ar_copyOf_6 : decode prog_22_method_121_code 6 = .ok (.aload_n 0, 1) := by decide +kernel
theorem d_Ar_copyOf_7 : decode prog_22_method_121_code 7 = .ok (.invokevirtual 310, 3) := by decide +kernel
theorem d_Ar_copyOf_10 : decode prog_22_method_121_code 10 = .ok (.checkcast 311, 3) := by decide +kernel
theorem d_Ar_copyOf_13 : decode prog_22_method_121_code 13 = .ok (.areturn, 1) := by decide +kernel
theorem d_Ar_copyOf_14 : decode prog_22_method_121_code 14 = .ok (.iload_n 1, 1) := by decide +kernel
theorem d_Ar_copyOf_15 : decode prog_22_method_121_code 15 = .ok (.newarray .byte, 2) := by decide +kernel
theorem d_Ar_copyOf_17 : decode prog_22_method_121_code 17 = .ok (.astore_n 2, 1) := by decide +kernel
theorem d_Ar_copyOf_18 : decode prog_22_method_121_code 18 = .ok (.aload_n 0, 1) := by decide +kernel
theorem d_Ar_copyOf_19 : decode prog_22_method_121_code 19 = .ok (.iconst 0, 1) := by decide +kernel
theorem d_Ar_copyOf_20 : decode prog_22_method_121_code 20 = .ok (.aload_n 2, 1) := by decide +kernel
theorem d_Ar_copyOf_21 : decode prog_22_method_121_code 21 = .ok (.iconst 0, 1) := by decide +kernel
theorem d_Ar_copyOf_22 : decode prog_22_method_121_code 22 = .ok (.aload_n 0, 1) := by decide +kernel
theorem d_Ar_copyOf_23 : decode prog_22_method_121_code 23 = .ok (.arraylength, 1) := by decide +kernel
theorem d_Ar_copyOf_24 : decode prog_22_method_121_code 24 = .ok (.iload_n 1, 1) := by decide +kernel
theorem d_Ar_copyOf_25 : decode prog_22_method_121_code 25 = .ok (.invokestatic 304, 3) := by decide +kernel
theorem d_Ar_copyOf_28 : decode prog_22_method_121_code 28 = .ok (.invokestatic 150, 3) := by decide +kernel
theorem d_Ar_copyOf_31 : decode prog_22_method_121_code 31 = .ok (.aload_n 2, 1) := by decide +kernel
theorem d_Ar_copyOf_32 : decode prog_22_method_121_code 32 = .ok (.areturn, 1) := by decide +kernel
theorem d_Ma_min_0 : decode prog_17_method_69_code 0 = .ok (.iload_n 0, 1) := by decide +kernel
theorem d_Ma_min_1 : decode prog_17_method_69_code 1 = .ok (.iload_n 1, 1) := by decide +kernel
theorem d_Ma_min_2 : decode prog_17_method_69_code 2 = .ok (.if_icmp .gt 7, 3) := by decide +kernel
theorem d_Ma_min_5 : decode prog_17_method_69_code 5 = .ok (.iload_n 0, 1) := by decide +kernel
theorem d_Ma_min_6 : decode prog_17_method_69_code 6 = .ok (.goto 4, 3) := by decide +kernel
theorem d_Ma_min_9 : decode prog_17_method_69_code 9 = .ok (.iload_n 1, 1) := by decide +kernel
theorem d_Ma_min_10 : decode prog_17_method_69_code 10 = .ok (.ireturn, 1) := by decide +kernel
theorem d_Bd_write_0 : decode prog_1_method_4_code 0 = .ok (.iload_n 1, 1) := by decide +kernel
theorem d_Bd_write_1 : decode prog_1_method_4_code 1 = .ok (.iload_n 2, 1) := by decide +kernel
theorem d_Bd_write_2 : decode prog_1_method_4_code 2 = .ok (.invokestatic 70, 3) := by decide +kernel
theorem d_Bd_write_5 : decode prog_1_method_4_code 5 = .ok (.aload_n 0, 1) := by decide +kernel
theorem d_Bd_write_6 : decode prog_1_method_4_code 6 = .ok (.iload_n 1, 1) := by decide +kernel
theorem d_Bd_write_7 : decode prog_1_method_4_code 7 = .ok (.iload_n 2, 1) := by decide +kernel
theorem d_Bd_write_8 : decode prog_1_method_4_code 8 = .ok (.invokevirtual 74, 3) := by decide +kernel
theorem d_Bd_write_11 : decode prog_1_method_4_code 11 = .ok (.astore_n 3, 1) := by decide +kernel
theorem d_Bd_write_12 : decode prog_1_method_4_code 12 = .ok (.aload_n 0, 1) := by decide +kernel
theorem d_Bd_write_13 : decode prog_1_method_4_code 13 = .ok (.getfield 19, 3) := by decide +kernel
theorem d_Bd_write_16 : decode prog_1_method_4_code 16 = .ok (.invokevirtual 78, 3) := by decide +kernel
theorem d_Bd_write_19 : decode prog_1_method_4_code 19 = .ok (.ifCond .eq 24, 3) := by decide +kernel
theorem d_Bd_write_22 : decode prog_1_method_4_code 22 = .ok (.aload_n 0, 1) := by decide +kernel
theorem d_Bd_write_23 : decode prog_1_method_4_code 23 = .ok (.getfield 19, 3) := by decide +kernel
theorem d_Bd_write_26 : decode prog_1_method_4_code 26 = .ok (.aload_n 3, 1) := by decide +kernel
theorem d_Bd_write_27 : decode prog_1_method_4_code 27 = .ok (.invokevirtual 82, 3) := by decide +kernel
theorem d_Bd_write_30 : decode prog_1_method_4_code 30 = .ok (.ifnonnull 13, 3) := by decide +kernel
theorem d_Bd_write_33 : decode prog_1_method_4_code 33 = .ok (.new 86, 3) := by decide +kernel
theorem d_Bd_write_36 : decode prog_1_method_4_code 36 = .ok (.dup, 1) := by decide +kernel
theorem d_Bd_write_37 : decode prog_1_method_4_code 37 = .ok (.ldc 88, 2) := by decide +kernel
theorem d_Bd_write_39 : decode prog_1_method_4_code 39 = .ok (.invokespecial 90, 3) := by decide +kernel
theorem d_Bd_write_42 : decode prog_1_method_4_code 42 = .ok (.athrow, 1) := by decide +kernel
theorem d_Bd_write_43 : decode prog_1_method_4_code 43 = .ok (.aload_n 0, 1) := by decide +kernel
theorem d_Bd_write_44 : decode prog_1_method_4_code 44 = .ok (.invokevirtual 91, 3) := by decide +kernel
theorem d_Bd_write_47 : decode prog_1_method_4_code 47 = .ok (.aload_n 0, 1) := by decide +kernel
theorem d_Bd_write_48 : decode prog_1_method_4_code 48 = .ok (.new 94, 3) := by decide +kernel
theorem d_Bd_write_51 : decode prog_1_method_4_code 51 = .ok (.dup, 1) := by decide +kernel
theorem d_Bd_write_52 : decode prog_1_method_4_code 52 = .ok (.aload_n 3, 1) := by decide +kernel
theorem d_Bd_write_53 : decode prog_1_method_4_code 53 = .ok (.new 96, 3) := by decide +kernel
theorem d_Bd_write_56 : decode prog_1_method_4_code 56 = .ok (.dup, 1) := by decide +kernel
theorem d_Bd_write_57 : decode prog_1_method_4_code 57 = .ok (.aload_n 3, 1) := by decide +kernel
theorem d_Bd_write_58 : decode prog_1_method_4_code 58 = .ok (.aload_n 0, 1) := by decide +kernel
theorem d_Bd_write_59 : decode prog_1_method_4_code 59 = .ok (.getfield 10, 3) := by decide +kernel
theorem d_Bd_write_62 : decode prog_1_method_4_code 62 = .ok (.invokevirtual 63, 3) := by decide +kernel
theorem d_Bd_write_65 : decode prog_1_method_4_code 65 = .ok (.invokespecial 98, 3) := by decide +kernel
theorem d_Bd_write_68 : decode prog_1_method_4_code 68 = .ok (.invokespecial 101, 3) := by decide +kernel
theorem d_Bd_write_71 : decode prog_1_method_4_code 71 = .ok (.invokevirtual 104, 3) := by decide +kernel
theorem d_Bd_write_74 : decode prog_1_method_4_code 74 = .ok (.return_, 1) := by decide +kernel
theorem d_Bd_refuseWrongName_0 : decode prog_1_method_15_code 0 = .ok (.iload_n 0, 1) := by decide +kernel
theorem d_Bd_refuseWrongName_1 : decode prog_1_method_15_code 1 = .ok (.invokestatic 143, 3) := by decide +kernel
theorem d_Bd_refuseWrongName_4 : decode prog_1_method_15_code 4 = .ok (.ifCond .eq 7, 3) := by decide +kernel
theorem d_Bd_refuseWrongName_7 : decode prog_1_method_15_code 7 = .ok (.iload_n 1, 1) := by decide +kernel
theorem d_Bd_refuseWrongName_8 : decode prog_1_method_15_code 8 = .ok (.ifCond .ge 13, 3) := by decide +kernel
theorem d_Bd_refuseWrongName_11 : decode prog_1_method_15_code 11 = .ok (.new 167, 3) := by decide +kernel
theorem d_Bd_refuseWrongName_14 : decode prog_1_method_15_code 14 = .ok (.dup, 1) := by decide +kernel
theorem d_Bd_refuseWrongName_15 : decode prog_1_method_15_code 15 = .ok (.ldc 169, 2) := by decide +kernel
theorem d_Bd_refuseWrongName_17 : decode prog_1_method_15_code 17 = .ok (.invokespecial 171, 3) := by decide +kernel
theorem d_Bd_refuseWrongName_20 : decode prog_1_method_15_code 20 = .ok (.athrow, 1) := by decide +kernel
theorem d_Bd_refuseWrongName_21 : decode prog_1_method_15_code 21 = .ok (.return_, 1) := by decide +kernel
theorem d_Bd_refuseFullJournal_0 : decode prog_1_method_16_code 0 = .ok (.aload_n 0, 1) := by decide +kernel
theorem d_Bd_refuseFullJournal_1 : decode prog_1_method_16_code 1 = .ok (.getfield 32, 3) := by decide +kernel
theorem d_Bd_refuseFullJournal_4 : decode prog_1_method_16_code 4 = .ok (.invokevirtual 172, 3) := by decide +kernel
theorem d_Bd_refuseFullJournal_7 : decode prog_1_method_16_code 7 = .ok (.ifCond .eq 13, 3) := by decide +kernel
theorem d_Bd_refuseFullJournal_10 : decode prog_1_method_16_code 10 = .ok (.new 86, 3) := by decide +kernel
theorem d_Bd_refuseFullJournal_13 : decode prog_1_method_16_code 13 = .ok (.dup, 1) := by decide +kernel
theorem d_Bd_refuseFullJournal_14 : decode prog_1_method_16_code 14 = .ok (.ldc 173, 2) := by decide +kernel
theorem d_Bd_refuseFullJournal_16 : decode prog_1_method_16_code 16 = .ok (.invokespecial 90, 3) := by decide +kernel
theorem d_Bd_refuseFullJournal_19 : decode prog_1_method_16_code 19 = .ok (.athrow, 1) := by decide +kernel
theorem d_Bd_refuseFullJournal_20 : decode prog_1_method_16_code 20 = .ok (.return_, 1) := by decide +kernel
theorem d_Jo_isFull_0 : decode prog_4_method_2_code 0 = .ok (.aload_n 0, 1) := by decide +kernel
theorem d_Jo_isFull_1 : decode prog_4_method_2_code 1 = .ok (.getfield 17, 3) := by decide +kernel
theorem d_Jo_isFull_4 : decode prog_4_method_2_code 4 = .ok (.aload_n 0, 1) := by decide +kernel
theorem d_Jo_isFull_5 : decode prog_4_method_2_code 5 = .ok (.getfield 11, 3) := by decide +kernel
theorem d_Jo_isFull_8 : decode prog_4_method_2_code 8 = .ok (.arraylength, 1) := by decide +kernel
theorem d_Jo_isFull_9 : decode prog_4_method_2_code 9 = .ok (.if_icmp .lt 7, 3) := by decide +kernel
theorem d_Jo_isFull_12 : decode prog_4_method_2_code 12 = .ok (.iconst 1, 1) := by decide +kernel
theorem d_Jo_isFull_13 : decode prog_4_method_2_code 13 = .ok (.goto 4, 3) := by decide +kernel
theorem d_Jo_isFull_16 : decode prog_4_method_2_code 16 = .ok (.iconst 0, 1) := by decide +kernel
theorem d_Jo_isFull_17 : decode prog_4_method_2_code 17 = .ok (.ireturn, 1) := by decide +kernel
theorem d_Sf_init_0 : decode prog_7_method_1_code 0 = .ok (.aload_n 0, 1) := by decide +kernel
theorem d_Sf_init_1 : decode prog_7_method_1_code 1 = .ok (.invokespecial 1, 3) := by decide +kernel
theorem d_Sf_init_4 : decode prog_7_method_1_code 4 = .ok (.aload_n 0, 1) := by decide +kernel
theorem d_Sf_init_5 : decode prog_7_method_1_code 5 = .ok (.aload_n 1, 1) := by decide +kernel
theorem d_Sf_init_6 : decode prog_7_method_1_code 6 = .ok (.putfield 7, 3) := by decide +kernel
theorem d_Sf_init_9 : decode prog_7_method_1_code 9 = .ok (.aload_n 0, 1) := by decide +kernel
theorem d_Sf_init_10 : decode prog_7_method_1_code 10 = .ok (.aload_n 2, 1) := by decide +kernel
theorem d_Sf_init_11 : decode prog_7_method_1_code 11 = .ok (.putfield 13, 3) := by decide +kernel
theorem d_Sf_init_14 : decode prog_7_method_1_code 14 = .ok (.return_, 1) := by decide +kernel
theorem d_Op_init_0 : decode prog_6_method_1_code 0 = .ok (.aload_n 0, 1) := by decide +kernel
theorem d_Op_init_1 : decode prog_6_method_1_code 1 = .ok (.invokespecial 1, 3) := by decide +kernel
theorem d_Op_init_4 : decode prog_6_method_1_code 4 = .ok (.aload_n 0, 1) := by decide +kernel
theorem d_Op_init_5 : decode prog_6_method_1_code 5 = .ok (.aload_n 1, 1) := by decide +kernel
theorem d_Op_init_6 : decode prog_6_method_1_code 6 = .ok (.putfield 7, 3) := by decide +kernel
theorem d_Op_init_9 : decode prog_6_method_1_code 9 = .ok (.aload_n 0, 1) := by decide +kernel
theorem d_Op_init_10 : decode prog_6_method_1_code 10 = .ok (.aload_n 2, 1) := by decide +kernel
theorem d_Op_init_11 : decode prog_6_method_1_code 11 = .ok (.putfield 13, 3) := by decide +kernel
theorem d_Op_init_14 : decode prog_6_method_1_code 14 = .ok (.return_, 1) := by decide +kernel
theorem d_Bd_perform_0 : decode prog_1_method_19_code 0 = .ok (.aload_n 0, 1) := by decide +kernel
theorem d_Bd_perform_1 : decode prog_1_method_19_code 1 = .ok (.getfield 19, 3) := by decide +kernel
theorem d_Bd_perform_4 : decode prog_1_method_19_code 4 = .ok (.aload_n 1, 1) := by decide +kernel
theorem d_Bd_perform_5 : decode prog_1_method_19_code 5 = .ok (.invokevirtual 180, 3) := by decide +kernel
theorem d_Bd_perform_8 : decode prog_1_method_19_code 8 = .ok (.aload_n 0, 1) := by decide +kernel
theorem d_Bd_perform_9 : decode prog_1_method_19_code 9 = .ok (.getfield 32, 3) := by decide +kernel
theorem d_Bd_perform_12 : decode prog_1_method_19_code 12 = .ok (.aload_n 1, 1) := by decide +kernel
theorem d_Bd_perform_13 : decode prog_1_method_19_code 13 = .ok (.invokevirtual 183, 3) := by decide +kernel
theorem d_Bd_perform_16 : decode prog_1_method_19_code 16 = .ok (.aload_n 0, 1) := by decide +kernel
theorem d_Bd_perform_17 : decode prog_1_method_19_code 17 = .ok (.dup, 1) := by decide +kernel
theorem d_Bd_perform_18 : decode prog_1_method_19_code 18 = .ok (.getfield 45, 3) := by decide +kernel
theorem d_Bd_perform_21 : decode prog_1_method_19_code 21 = .ok (.iconst 1, 1) := by decide +kernel
theorem d_Bd_perform_22 : decode prog_1_method_19_code 22 = .ok (.iadd, 1) := by decide +kernel
theorem d_Bd_perform_23 : decode prog_1_method_19_code 23 = .ok (.putfield 45, 3) := by decide +kernel
theorem d_Bd_perform_26 : decode prog_1_method_19_code 26 = .ok (.return_, 1) := by decide +kernel
theorem d_Fi_apply_0 : decode prog_3_method_6_code 0 = .ok (.aload_n 1, 1) := by decide +kernel
theorem d_Fi_apply_1 : decode prog_3_method_6_code 1 = .ok (.ifnonnull 4, 3) := by decide +kernel
theorem d_Fi_apply_4 : decode prog_3_method_6_code 4 = .ok (.return_, 1) := by decide +kernel
theorem d_Fi_apply_5 : decode prog_3_method_6_code 5 = .ok (.aload_n 0, 1) := by decide +kernel
theorem d_Fi_apply_6 : decode prog_3_method_6_code 6 = .ok (.aload_n 1, 1) := by decide +kernel
theorem d_Fi_apply_7 : decode prog_3_method_6_code 7 = .ok (.getfield 33, 3) := by decide +kernel
theorem d_Fi_apply_10 : decode prog_3_method_6_code 10 = .ok (.invokevirtual 39, 3) := by decide +kernel
theorem d_Fi_apply_13 : decode prog_3_method_6_code 13 = .ok (.aload_n 1, 1) := by decide +kernel
theorem d_Fi_apply_14 : decode prog_3_method_6_code 14 = .ok (.getfield 43, 3) := by decide +kernel
theorem d_Fi_apply_17 : decode prog_3_method_6_code 17 = .ok (.ifnull 22, 3) := by decide +kernel
theorem d_Fi_apply_20 : decode prog_3_method_6_code 20 = .ok (.aload_n 0, 1) := by decide +kernel
theorem d_Fi_apply_21 : decode prog_3_method_6_code 21 = .ok (.aload_n 1, 1) := by decide +kernel
theorem d_Fi_apply_22 : decode prog_3_method_6_code 22 = .ok (.getfield 43, 3) := by decide +kernel
theorem d_Fi_apply_25 : decode prog_3_method_6_code 25 = .ok (.getfield 47, 3) := by decide +kernel
theorem d_Fi_apply_28 : decode prog_3_method_6_code 28 = .ok (.invokevirtual 39, 3) := by decide +kernel
theorem d_Fi_apply_31 : decode prog_3_method_6_code 31 = .ok (.aload_n 0, 1) := by decide +kernel
theorem d_Fi_apply_32 : decode prog_3_method_6_code 32 = .ok (.aload_n 1, 1) := by decide +kernel
theorem d_Fi_apply_33 : decode prog_3_method_6_code 33 = .ok (.getfield 43, 3) := by decide +kernel
theorem d_Fi_apply_36 : decode prog_3_method_6_code 36 = .ok (.invokevirtual 50, 3) := by decide +kernel
theorem d_Fi_apply_39 : decode prog_3_method_6_code 39 = .ok (.return_, 1) := by decide +kernel
theorem d_Fi_remove_0 : decode prog_3_method_11_code 0 = .ok (.aload_n 0, 1) := by decide +kernel
theorem d_Fi_remove_1 : decode prog_3_method_11_code 1 = .ok (.aload_n 1, 1) := by decide +kernel
theorem d_Fi_remove_2 : decode prog_3_method_11_code 2 = .ok (.invokevirtual 21, 3) := by decide +kernel
theorem d_Fi_remove_5 : decode prog_3_method_11_code 5 = .ok (.istore_n 2, 1) := by decide +kernel
theorem d_Fi_remove_6 : decode prog_3_method_11_code 6 = .ok (.iload_n 2, 1) := by decide +kernel
theorem d_Fi_remove_7 : decode prog_3_method_11_code 7 = .ok (.iconst (-1), 1) := by decide +kernel
theorem d_Fi_remove_8 : decode prog_3_method_11_code 8 = .ok (.if_icmp .ne 4, 3) := by decide +kernel
theorem d_Fi_remove_11 : decode prog_3_method_11_code 11 = .ok (.return_, 1) := by decide +kernel
theorem d_Fi_remove_12 : decode prog_3_method_11_code 12 = .ok (.aload_n 0, 1) := by decide +kernel
theorem d_Fi_remove_13 : decode prog_3_method_11_code 13 = .ok (.dup, 1) := by decide +kernel
theorem d_Fi_remove_14 : decode prog_3_method_11_code 14 = .ok (.getfield 17, 3) := by decide +kernel
theorem d_Fi_remove_17 : decode prog_3_method_11_code 17 = .ok (.iconst 1, 1) := by decide +kernel
theorem d_Fi_remove_18 : decode prog_3_method_11_code 18 = .ok (.isub, 1) := by decide +kernel
theorem d_Fi_remove_19 : decode prog_3_method_11_code 19 = .ok (.putfield 17, 3) := by decide +kernel
theorem d_Fi_remove_22 : decode prog_3_method_11_code 22 = .ok (.iload_n 2, 1) := by decide +kernel
theorem d_Fi_remove_23 : decode prog_3_method_11_code 23 = .ok (.istore_n 3, 1) := by decide +kernel
theorem d_Fi_remove_24 : decode prog_3_method_11_code 24 = .ok (.iload_n 3, 1) := by decide +kernel
theorem d_Fi_remove_25 : decode prog_3_method_11_code 25 = .ok (.aload_n 0, 1) := by decide +kernel
theorem d_Fi_remove_26 : decode prog_3_method_11_code 26 = .ok (.getfield 17, 3) := by decide +kernel
theorem d_Fi_remove_29 : decode prog_3_method_11_code 29 = .ok (.if_icmp .ge 23, 3) := by decide +kernel
theorem d_Fi_remove_32 : decode prog_3_method_11_code 32 = .ok (.aload_n 0, 1) := by decide +kernel
theorem d_Fi_remove_33 : decode prog_3_method_11_code 33 = .ok (.getfield 11, 3) := by decide +kernel
theorem d_Fi_remove_36 : decode prog_3_method_11_code 36 = .ok (.iload_n 3, 1) := by decide +kernel
theorem d_Fi_remove_37 : decode prog_3_method_11_code 37 = .ok (.aload_n 0, 1) := by decide +kernel
theorem d_Fi_remove_38 : decode prog_3_method_11_code 38 = .ok (.getfield 11, 3) := by decide +kernel
theorem d_Fi_remove_41 : decode prog_3_method_11_code 41 = .ok (.iload_n 3, 1) := by decide +kernel
theorem d_Fi_remove_42 : decode prog_3_method_11_code 42 = .ok (.iconst 1, 1) := by decide +kernel
theorem d_Fi_remove_43 : decode prog_3_method_11_code 43 = .ok (.iadd, 1) := by decide +kernel
theorem d_Fi_remove_44 : decode prog_3_method_11_code 44 = .ok (.aaload, 1) := by decide +kernel
theorem d_Fi_remove_45 : decode prog_3_method_11_code 45 = .ok (.aastore, 1) := by decide +kernel
theorem d_Fi_remove_46 : decode prog_3_method_11_code 46 = .ok (.iinc 3 1, 3) := by decide +kernel
theorem d_Fi_remove_49 : decode prog_3_method_11_code 49 = .ok (.goto (-25), 3) := by decide +kernel
theorem d_Fi_remove_52 : decode prog_3_method_11_code 52 = .ok (.return_, 1) := by decide +kernel
theorem d_Jo_append_0 : decode prog_4_method_3_code 0 = .ok (.aload_n 0, 1) := by decide +kernel
theorem d_Jo_append_1 : decode prog_4_method_3_code 1 = .ok (.getfield 17, 3) := by decide +kernel
theorem d_Jo_append_4 : decode prog_4_method_3_code 4 = .ok (.aload_n 0, 1) := by decide +kernel
theorem d_Jo_append_5 : decode prog_4_method_3_code 5 = .ok (.getfield 11, 3) := by decide +kernel
theorem d_Jo_append_8 : decode prog_4_method_3_code 8 = .ok (.arraylength, 1) := by decide +kernel
theorem d_Jo_append_9 : decode prog_4_method_3_code 9 = .ok (.if_icmp .ge 23, 3) := by decide +kernel
theorem d_Jo_append_12 : decode prog_4_method_3_code 12 = .ok (.aload_n 0, 1) := by decide +kernel
theorem d_Jo_append_13 : decode prog_4_method_3_code 13 = .ok (.getfield 11, 3) := by decide +kernel
theorem d_Jo_append_16 : decode prog_4_method_3_code 16 = .ok (.aload_n 0, 1) := by decide +kernel
theorem d_Jo_append_17 : decode prog_4_method_3_code 17 = .ok (.getfield 17, 3) := by decide +kernel
theorem d_Jo_append_20 : decode prog_4_method_3_code 20 = .ok (.aload_n 1, 1) := by decide +kernel
theorem d_Jo_append_21 : decode prog_4_method_3_code 21 = .ok (.aastore, 1) := by decide +kernel
theorem d_Jo_append_22 : decode prog_4_method_3_code 22 = .ok (.aload_n 0, 1) := by decide +kernel
theorem d_Jo_append_23 : decode prog_4_method_3_code 23 = .ok (.dup, 1) := by decide +kernel
theorem d_Jo_append_24 : decode prog_4_method_3_code 24 = .ok (.getfield 17, 3) := by decide +kernel
theorem d_Jo_append_27 : decode prog_4_method_3_code 27 = .ok (.iconst 1, 1) := by decide +kernel
theorem d_Jo_append_28 : decode prog_4_method_3_code 28 = .ok (.iadd, 1) := by decide +kernel
theorem d_Jo_append_29 : decode prog_4_method_3_code 29 = .ok (.putfield 17, 3) := by decide +kernel
theorem d_Jo_append_32 : decode prog_4_method_3_code 32 = .ok (.return_, 1) := by decide +kernel
theorem d_Bd_rename_0 : decode prog_1_method_5_code 0 = .ok (.iload_n 1, 1) := by decide +kernel
theorem d_Bd_rename_1 : decode prog_1_method_5_code 1 = .ok (.iload_n 2, 1) := by decide +kernel
theorem d_Bd_rename_2 : decode prog_1_method_5_code 2 = .ok (.invokestatic 70, 3) := by decide +kernel
theorem d_Bd_rename_5 : decode prog_1_method_5_code 5 = .ok (.iload_n 3, 1) := by decide +kernel
theorem d_Bd_rename_6 : decode prog_1_method_5_code 6 = .ok (.iload 4, 2) := by decide +kernel
theorem d_Bd_rename_8 : decode prog_1_method_5_code 8 = .ok (.invokestatic 70, 3) := by decide +kernel
theorem d_Bd_rename_11 : decode prog_1_method_5_code 11 = .ok (.aload_n 0, 1) := by decide +kernel
theorem d_Bd_rename_12 : decode prog_1_method_5_code 12 = .ok (.iload_n 1, 1) := by decide +kernel
theorem d_Bd_rename_13 : decode prog_1_method_5_code 13 = .ok (.iload_n 2, 1) := by decide +kernel
theorem d_Bd_rename_14 : decode prog_1_method_5_code 14 = .ok (.invokevirtual 108, 3) := by decide +kernel
theorem d_Bd_rename_17 : decode prog_1_method_5_code 17 = .ok (.astore 5, 2) := by decide +kernel
theorem d_Bd_rename_19 : decode prog_1_method_5_code 19 = .ok (.aload_n 0, 1) := by decide +kernel
theorem d_Bd_rename_20 : decode prog_1_method_5_code 20 = .ok (.invokevirtual 91, 3) := by decide +kernel
theorem d_Bd_rename_23 : decode prog_1_method_5_code 23 = .ok (.aload_n 0, 1) := by decide +kernel
theorem d_Bd_rename_24 : decode prog_1_method_5_code 24 = .ok (.new 94, 3) := by decide +kernel
theorem d_Bd_rename_27 : decode prog_1_method_5_code 27 = .ok (.dup, 1) := by decide +kernel
theorem d_Bd_rename_28 : decode prog_1_method_5_code 28 = .ok (.aload 5, 2) := by decide +kernel
theorem d_Bd_rename_30 : decode prog_1_method_5_code 30 = .ok (.getfield 112, 3) := by decide +kernel
theorem d_Bd_rename_33 : decode prog_1_method_5_code 33 = .ok (.new 96, 3) := by decide +kernel
theorem d_Bd_rename_36 : decode prog_1_method_5_code 36 = .ok (.dup, 1) := by decide +kernel
theorem d_Bd_rename_37 : decode prog_1_method_5_code 37 = .ok (.aload_n 0, 1) := by decide +kernel
theorem d_Bd_rename_38 : decode prog_1_method_5_code 38 = .ok (.iload_n 3, 1) := by decide +kernel
theorem d_Bd_rename_39 : decode prog_1_method_5_code 39 = .ok (.iload 4, 2) := by decide +kernel
theorem d_Bd_rename_41 : decode prog_1_method_5_code 41 = .ok (.invokevirtual 74, 3) := by decide +kernel
theorem d_Bd_rename_44 : decode prog_1_method_5_code 44 = .ok (.aload 5, 2) := by decide +kernel
theorem d_Bd_rename_46 : decode prog_1_method_5_code 46 = .ok (.getfield 116, 3) := by decide +kernel
theorem d_Bd_rename_49 : decode prog_1_method_5_code 49 = .ok (.invokespecial 98, 3) := by decide +kernel
theorem d_Bd_rename_52 : decode prog_1_method_5_code 52 = .ok (.invokespecial 101, 3) := by decide +kernel
theorem d_Bd_rename_55 : decode prog_1_method_5_code 55 = .ok (.invokevirtual 104, 3) := by decide +kernel
theorem d_Bd_rename_58 : decode prog_1_method_5_code 58 = .ok (.return_, 1) := by decide +kernel
theorem d_Bd_fileToChange_0 : decode prog_1_method_17_code 0 = .ok (.aload_n 0, 1) := by decide +kernel
theorem d_Bd_fileToChange_1 : decode prog_1_method_17_code 1 = .ok (.getfield 19, 3) := by decide +kernel
theorem d_Bd_fileToChange_4 : decode prog_1_method_17_code 4 = .ok (.aload_n 0, 1) := by decide +kernel
theorem d_Bd_fileToChange_5 : decode prog_1_method_17_code 5 = .ok (.iload_n 1, 1) := by decide +kernel
theorem d_Bd_fileToChange_6 : decode prog_1_method_17_code 6 = .ok (.iload_n 2, 1) := by decide +kernel
theorem d_Bd_fileToChange_7 : decode prog_1_method_17_code 7 = .ok (.invokevirtual 74, 3) := by decide +kernel
theorem d_Bd_fileToChange_10 : decode prog_1_method_17_code 10 = .ok (.invokevirtual 82, 3) := by decide +kernel
theorem d_Bd_fileToChange_13 : decode prog_1_method_17_code 13 = .ok (.astore_n 3, 1) := by decide +kernel
theorem d_Bd_fileToChange_14 : decode prog_1_method_17_code 14 = .ok (.aload_n 3, 1) := by decide +kernel
theorem d_Bd_fileToChange_15 : decode prog_1_method_17_code 15 = .ok (.ifnonnull 13, 3) := by decide +kernel
theorem d_Bd_fileToChange_18 : decode prog_1_method_17_code 18 = .ok (.new 56, 3) := by decide +kernel
theorem d_Bd_fileToChange_21 : decode prog_1_method_17_code 21 = .ok (.dup, 1) := by decide +kernel
theorem d_Bd_fileToChange_22 : decode prog_1_method_17_code 22 = .ok (.ldc 175, 2) := by decide +kernel
theorem d_Bd_fileToChange_24 : decode prog_1_method_17_code 24 = .ok (.invokespecial 60, 3) := by decide +kernel
theorem d_Bd_fileToChange_27 : decode prog_1_method_17_code 27 = .ok (.athrow, 1) := by decide +kernel
theorem d_Bd_fileToChange_28 : decode prog_1_method_17_code 28 = .ok (.aload_n 3, 1) := by decide +kernel
theorem d_Bd_fileToChange_29 : decode prog_1_method_17_code 29 = .ok (.areturn, 1) := by decide +kernel
theorem d_Bd_delete_0 : decode prog_1_method_6_code 0 = .ok (.iload_n 1, 1) := by decide +kernel
theorem d_Bd_delete_1 : decode prog_1_method_6_code 1 = .ok (.iload_n 2, 1) := by decide +kernel
theorem d_Bd_delete_2 : decode prog_1_method_6_code 2 = .ok (.invokestatic 70, 3) := by decide +kernel
theorem d_Bd_delete_5 : decode prog_1_method_6_code 5 = .ok (.aload_n 0, 1) := by decide +kernel
theorem d_Bd_delete_6 : decode prog_1_method_6_code 6 = .ok (.iload_n 1, 1) := by decide +kernel
theorem d_Bd_delete_7 : decode prog_1_method_6_code 7 = .ok (.iload_n 2, 1) := by decide +kernel
theorem d_Bd_delete_8 : decode prog_1_method_6_code 8 = .ok (.invokevirtual 108, 3) := by decide +kernel
theorem d_Bd_delete_11 : decode prog_1_method_6_code 11 = .ok (.astore_n 3, 1) := by decide +kernel
theorem d_Bd_delete_12 : decode prog_1_method_6_code 12 = .ok (.aload_n 0, 1) := by decide +kernel
theorem d_Bd_delete_13 : decode prog_1_method_6_code 13 = .ok (.invokevirtual 91, 3) := by decide +kernel
theorem d_Bd_delete_16 : decode prog_1_method_6_code 16 = .ok (.aload_n 0, 1) := by decide +kernel
theorem d_Bd_delete_17 : decode prog_1_method_6_code 17 = .ok (.new 94, 3) := by decide +kernel
theorem d_Bd_delete_20 : decode prog_1_method_6_code 20 = .ok (.dup, 1) := by decide +kernel
theorem d_Bd_delete_21 : decode prog_1_method_6_code 21 = .ok (.aload_n 3, 1) := by decide +kernel
theorem d_Bd_delete_22 : decode prog_1_method_6_code 22 = .ok (.getfield 112, 3) := by decide +kernel
theorem d_Bd_delete_25 : decode prog_1_method_6_code 25 = .ok (.aconst_null, 1) := by decide +kernel
theorem d_Bd_delete_26 : decode prog_1_method_6_code 26 = .ok (.invokespecial 101, 3) := by decide +kernel
theorem d_Bd_delete_29 : decode prog_1_method_6_code 29 = .ok (.invokevirtual 104, 3) := by decide +kernel
theorem d_Bd_delete_32 : decode prog_1_method_6_code 32 = .ok (.return_, 1) := by decide +kernel
theorem d_Bd_breakOff_0 : decode prog_1_method_8_code 0 = .ok (.iload_n 1, 1) := by decide +kernel
theorem d_Bd_breakOff_1 : decode prog_1_method_8_code 1 = .ok (.ifCond .ge 13, 3) := by decide +kernel
theorem d_Bd_breakOff_4 : decode prog_1_method_8_code 4 = .ok (.new 56, 3) := by decide +kernel
theorem d_Bd_breakOff_7 : decode prog_1_method_8_code 7 = .ok (.dup, 1) := by decide +kernel
theorem d_Bd_breakOff_8 : decode prog_1_method_8_code 8 = .ok (.ldc 127, 2) := by decide +kernel
theorem d_Bd_breakOff_10 : decode prog_1_method_8_code 10 = .ok (.invokespecial 60, 3) := by decide +kernel
theorem d_Bd_breakOff_13 : decode prog_1_method_8_code 13 = .ok (.athrow, 1) := by decide +kernel
theorem d_Bd_breakOff_14 : decode prog_1_method_8_code 14 = .ok (.iload_n 1, 1) := by decide +kernel
theorem d_Bd_breakOff_15 : decode prog_1_method_8_code 15 = .ok (.aload_n 0, 1) := by decide +kernel
theorem d_Bd_breakOff_16 : decode prog_1_method_8_code 16 = .ok (.getfield 32, 3) := by decide +kernel
theorem d_Bd_breakOff_19 : decode prog_1_method_8_code 19 = .ok (.getfield 119, 3) := by decide +kernel
theorem d_Bd_breakOff_22 : decode prog_1_method_8_code 22 = .ok (.invokestatic 129, 3) := by decide +kernel
theorem d_Bd_breakOff_25 : decode prog_1_method_8_code 25 = .ok (.istore_n 2, 1) := by decide +kernel
theorem d_Bd_breakOff_26 : decode prog_1_method_8_code 26 = .ok (.aload_n 0, 1) := by decide +kernel
theorem d_Bd_breakOff_27 : decode prog_1_method_8_code 27 = .ok (.getfield 32, 3) := by decide +kernel
theorem d_Bd_breakOff_30 : decode prog_1_method_8_code 30 = .ok (.iload_n 2, 1) := by decide +kernel
theorem d_Bd_breakOff_31 : decode prog_1_method_8_code 31 = .ok (.aload_n 0, 1) := by decide +kernel
theorem d_Bd_breakOff_32 : decode prog_1_method_8_code 32 = .ok (.getfield 23, 3) := by decide +kernel
theorem d_Bd_breakOff_35 : decode prog_1_method_8_code 35 = .ok (.invokevirtual 135, 3) := by decide +kernel
theorem d_Bd_breakOff_38 : decode prog_1_method_8_code 38 = .ok (.aload_n 0, 1) := by decide +kernel
theorem d_Bd_breakOff_39 : decode prog_1_method_8_code 39 = .ok (.getfield 19, 3) := by decide +kernel
theorem d_Bd_breakOff_42 : decode prog_1_method_8_code 42 = .ok (.aload_n 0, 1) := by decide +kernel
theorem d_Bd_breakOff_43 : decode prog_1_method_8_code 43 = .ok (.getfield 23, 3) := by decide +kernel
theorem d_Bd_breakOff_46 : decode prog_1_method_8_code 46 = .ok (.invokevirtual 120, 3) := by decide +kernel
theorem d_Bd_breakOff_49 : decode prog_1_method_8_code 49 = .ok (.aload_n 0, 1) := by decide +kernel
theorem d_Bd_breakOff_50 : decode prog_1_method_8_code 50 = .ok (.getfield 32, 3) := by decide +kernel
theorem d_Bd_breakOff_53 : decode prog_1_method_8_code 53 = .ok (.invokevirtual 124, 3) := by decide +kernel
theorem d_Bd_breakOff_56 : decode prog_1_method_8_code 56 = .ok (.iload_n 2, 1) := by decide +kernel
theorem d_Bd_breakOff_57 : decode prog_1_method_8_code 57 = .ok (.ireturn, 1) := by decide +kernel
theorem d_Jo_replayFirst_0 : decode prog_4_method_4_code 0 = .ok (.iload_n 1, 1) := by decide +kernel
theorem d_Jo_replayFirst_1 : decode prog_4_method_4_code 1 = .ok (.aload_n 0, 1) := by decide +kernel
theorem d_Jo_replayFirst_2 : decode prog_4_method_4_code 2 = .ok (.getfield 17, 3) := by decide +kernel
theorem d_Jo_replayFirst_5 : decode prog_4_method_4_code 5 = .ok (.invokestatic 21, 3) := by decide +kernel
theorem d_Jo_replayFirst_8 : decode prog_4_method_4_code 8 = .ok (.istore_n 3, 1) := by decide +kernel
theorem d_Jo_replayFirst_9 : decode prog_4_method_4_code 9 = .ok (.iconst 0, 1) := by decide +kernel
theorem d_Jo_replayFirst_10 : decode prog_4_method_4_code 10 = .ok (.istore 4, 2) := by decide +kernel
theorem d_Jo_replayFirst_12 : decode prog_4_method_4_code 12 = .ok (.iload 4, 2) := by decide +kernel
theorem d_Jo_replayFirst_14 : decode prog_4_method_4_code 14 = .ok (.iload_n 3, 1) := by decide +kernel
theorem d_Jo_replayFirst_15 : decode prog_4_method_4_code 15 = .ok (.if_icmp .ge 20, 3) := by decide +kernel
theorem d_Jo_replayFirst_18 : decode prog_4_method_4_code 18 = .ok (.aload_n 2, 1) := by decide +kernel
theorem d_Jo_replayFirst_19 : decode prog_4_method_4_code 19 = .ok (.aload_n 0, 1) := by decide +kernel
theorem d_Jo_replayFirst_20 : decode prog_4_method_4_code 20 = .ok (.getfield 11, 3) := by decide +kernel
theorem d_Jo_replayFirst_23 : decode prog_4_method_4_code 23 = .ok (.iload 4, 2) := by decide +kernel
theorem d_Jo_replayFirst_25 : decode prog_4_method_4_code 25 = .ok (.aaload, 1) := by decide +kernel
theorem d_Jo_replayFirst_26 : decode prog_4_method_4_code 26 = .ok (.invokevirtual 27, 3) := by decide +kernel
theorem d_Jo_replayFirst_29 : decode prog_4_method_4_code 29 = .ok (.iinc 4 1, 3) := by decide +kernel
theorem d_Jo_replayFirst_32 : decode prog_4_method_4_code 32 = .ok (.goto (-20), 3) := by decide +kernel
theorem d_Jo_replayFirst_35 : decode prog_4_method_4_code 35 = .ok (.return_, 1) := by decide +kernel
