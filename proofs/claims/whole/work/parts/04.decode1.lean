theorem dX9_insert_40 : decode cX9_insert 40 = .ok (.dload_n 3, 1) := by decide +kernel
theorem dX9_insert_41 : decode cX9_insert 41 = .ok (.aload_n 1, 1) := by decide +kernel
theorem dX9_insert_42 : decode cX9_insert 42 = .ok (.iload 5, 2) := by decide +kernel
theorem dX9_insert_44 : decode cX9_insert 44 = .ok (.iconst 1, 1) := by decide +kernel
theorem dX9_insert_45 : decode cX9_insert 45 = .ok (.isub, 1) := by decide +kernel
theorem dX9_insert_46 : decode cX9_insert 46 = .ok (.invokevirtual 49, 3) := by decide +kernel
theorem dX9_insert_49 : decode cX9_insert 49 = .ok (.invokestatic 119, 3) := by decide +kernel
theorem dX9_insert_52 : decode cX9_insert 52 = .ok (.ifCond .eq 21, 3) := by decide +kernel
theorem dX9_insert_55 : decode cX9_insert 55 = .ok (.aload_n 1, 1) := by decide +kernel
theorem dX9_insert_56 : decode cX9_insert 56 = .ok (.iload 5, 2) := by decide +kernel
theorem dX9_insert_58 : decode cX9_insert 58 = .ok (.aload_n 1, 1) := by decide +kernel
theorem dX9_insert_59 : decode cX9_insert 59 = .ok (.iload 5, 2) := by decide +kernel
theorem dX9_insert_61 : decode cX9_insert 61 = .ok (.iconst 1, 1) := by decide +kernel
theorem dX9_insert_62 : decode cX9_insert 62 = .ok (.isub, 1) := by decide +kernel
theorem dX9_insert_63 : decode cX9_insert 63 = .ok (.iconst 0, 1) := by decide +kernel
theorem dX9_insert_64 : decode cX9_insert 64 = .ok (.invokevirtual 82, 3) := by decide +kernel
theorem dX9_insert_67 : decode cX9_insert 67 = .ok (.iinc 5 (-1), 3) := by decide +kernel
theorem dX9_insert_70 : decode cX9_insert 70 = .ok (.goto (-46), 3) := by decide +kernel
theorem dX9_insert_73 : decode cX9_insert 73 = .ok (.aload_n 1, 1) := by decide +kernel
theorem dX9_insert_74 : decode cX9_insert 74 = .ok (.iload 5, 2) := by decide +kernel
theorem dX9_insert_76 : decode cX9_insert 76 = .ok (.dload_n 3, 1) := by decide +kernel
theorem dX9_insert_77 : decode cX9_insert 77 = .ok (.invokevirtual 63, 3) := by decide +kernel
theorem dX9_insert_80 : decode cX9_insert 80 = .ok (.return_, 1) := by decide +kernel
theorem dX9_countLess_0 : decode cX9_countLess 0 = .ok (.aload_n 0, 1) := by decide +kernel
theorem dX9_countLess_1 : decode cX9_countLess 1 = .ok (.getfield 14, 3) := by decide +kernel
theorem dX9_countLess_4 : decode cX9_countLess 4 = .ok (.iload_n 2, 1) := by decide +kernel
theorem dX9_countLess_5 : decode cX9_countLess 5 = .ok (.invokevirtual 45, 3) := by decide +kernel
theorem dX9_countLess_8 : decode cX9_countLess 8 = .ok (.ifCond .eq 4, 3) := by decide +kernel
theorem dX9_countLess_11 : decode cX9_countLess 11 = .ok (.return_, 1) := by decide +kernel
theorem dX9_countLess_12 : decode cX9_countLess 12 = .ok (.iconst 0, 1) := by decide +kernel
theorem dX9_countLess_13 : decode cX9_countLess 13 = .ok (.istore_n 3, 1) := by decide +kernel
theorem dX9_countLess_14 : decode cX9_countLess 14 = .ok (.iconst 0, 1) := by decide +kernel
theorem dX9_countLess_15 : decode cX9_countLess 15 = .ok (.istore 4, 2) := by decide +kernel
theorem dX9_countLess_17 : decode cX9_countLess 17 = .ok (.iload 4, 2) := by decide +kernel
theorem dX9_countLess_19 : decode cX9_countLess 19 = .ok (.bipush 16, 2) := by decide +kernel
theorem dX9_countLess_21 : decode cX9_countLess 21 = .ok (.if_icmp .ge 45, 3) := by decide +kernel
theorem dX9_countLess_24 : decode cX9_countLess 24 = .ok (.aload_n 0, 1) := by decide +kernel
theorem dX9_countLess_25 : decode cX9_countLess 25 = .ok (.getfield 14, 3) := by decide +kernel
theorem dX9_countLess_28 : decode cX9_countLess 28 = .ok (.iload 4, 2) := by decide +kernel
theorem dX9_countLess_30 : decode cX9_countLess 30 = .ok (.invokevirtual 45, 3) := by decide +kernel
theorem dX9_countLess_33 : decode cX9_countLess 33 = .ok (.ifCond .ne 27, 3) := by decide +kernel
theorem dX9_countLess_36 : decode cX9_countLess 36 = .ok (.aload_n 0, 1) := by decide +kernel
theorem dX9_countLess_37 : decode cX9_countLess 37 = .ok (.getfield 14, 3) := by decide +kernel
theorem dX9_countLess_40 : decode cX9_countLess 40 = .ok (.iload 4, 2) := by decide +kernel
theorem dX9_countLess_42 : decode cX9_countLess 42 = .ok (.invokevirtual 49, 3) := by decide +kernel
theorem dX9_countLess_45 : decode cX9_countLess 45 = .ok (.aload_n 0, 1) := by decide +kernel
theorem dX9_countLess_46 : decode cX9_countLess 46 = .ok (.getfield 14, 3) := by decide +kernel
theorem dX9_countLess_49 : decode cX9_countLess 49 = .ok (.iload_n 2, 1) := by decide +kernel
theorem dX9_countLess_50 : decode cX9_countLess 50 = .ok (.invokevirtual 49, 3) := by decide +kernel
theorem dX9_countLess_53 : decode cX9_countLess 53 = .ok (.dcmp .g, 1) := by decide +kernel
theorem dX9_countLess_54 : decode cX9_countLess 54 = .ok (.ifCond .ge 6, 3) := by decide +kernel
theorem dX9_countLess_57 : decode cX9_countLess 57 = .ok (.iinc 3 1, 3) := by decide +kernel
theorem dX9_countLess_60 : decode cX9_countLess 60 = .ok (.iinc 4 1, 3) := by decide +kernel
theorem dX9_countLess_63 : decode cX9_countLess 63 = .ok (.goto (-46), 3) := by decide +kernel
theorem dX9_countLess_66 : decode cX9_countLess 66 = .ok (.aload_n 1, 1) := by decide +kernel
theorem dX9_countLess_67 : decode cX9_countLess 67 = .ok (.iload_n 2, 1) := by decide +kernel
theorem dX9_countLess_68 : decode cX9_countLess 68 = .ok (.iload_n 3, 1) := by decide +kernel
theorem dX9_countLess_69 : decode cX9_countLess 69 = .ok (.i2d, 1) := by decide +kernel
theorem dX9_countLess_70 : decode cX9_countLess 70 = .ok (.invokevirtual 63, 3) := by decide +kernel
theorem dX9_countLess_73 : decode cX9_countLess 73 = .ok (.return_, 1) := by decide +kernel
theorem dX9_step_0 : decode cX9_step 0 = .ok (.iload_n 2, 1) := by decide +kernel
theorem dX9_step_1 : decode cX9_step 1 = .ok (.iconst 1, 1) := by decide +kernel
theorem dX9_step_2 : decode cX9_step 2 = .ok (.if_icmp .lt 27, 3) := by decide +kernel
theorem dX9_step_5 : decode cX9_step 5 = .ok (.aload_n 0, 1) := by decide +kernel
theorem dX9_step_6 : decode cX9_step 6 = .ok (.getfield 14, 3) := by decide +kernel
theorem dX9_step_9 : decode cX9_step 9 = .ok (.iload_n 2, 1) := by decide +kernel
theorem dX9_step_10 : decode cX9_step 10 = .ok (.invokevirtual 45, 3) := by decide +kernel
theorem dX9_step_13 : decode cX9_step 13 = .ok (.ifCond .ne 16, 3) := by decide +kernel
theorem dX9_step_16 : decode cX9_step 16 = .ok (.aload_n 0, 1) := by decide +kernel
theorem dX9_step_17 : decode cX9_step 17 = .ok (.getfield 14, 3) := by decide +kernel
theorem dX9_step_20 : decode cX9_step 20 = .ok (.iload_n 2, 1) := by decide +kernel
theorem dX9_step_21 : decode cX9_step 21 = .ok (.iconst 1, 1) := by decide +kernel
theorem dX9_step_22 : decode cX9_step 22 = .ok (.isub, 1) := by decide +kernel
theorem dX9_step_23 : decode cX9_step 23 = .ok (.invokevirtual 45, 3) := by decide +kernel
theorem dX9_step_26 : decode cX9_step 26 = .ok (.ifCond .eq 4, 3) := by decide +kernel
theorem dX9_step_29 : decode cX9_step 29 = .ok (.return_, 1) := by decide +kernel
theorem dX9_step_30 : decode cX9_step 30 = .ok (.aload_n 0, 1) := by decide +kernel
theorem dX9_step_31 : decode cX9_step 31 = .ok (.getfield 14, 3) := by decide +kernel
theorem dX9_step_34 : decode cX9_step 34 = .ok (.iload_n 2, 1) := by decide +kernel
theorem dX9_step_35 : decode cX9_step 35 = .ok (.invokevirtual 49, 3) := by decide +kernel
theorem dX9_step_38 : decode cX9_step 38 = .ok (.dstore 4, 2) := by decide +kernel
theorem dX9_step_40 : decode cX9_step 40 = .ok (.aload_n 0, 1) := by decide +kernel
theorem dX9_step_41 : decode cX9_step 41 = .ok (.getfield 14, 3) := by decide +kernel
theorem dX9_step_44 : decode cX9_step 44 = .ok (.iload_n 2, 1) := by decide +kernel
theorem dX9_step_45 : decode cX9_step 45 = .ok (.iconst 1, 1) := by decide +kernel
theorem dX9_step_46 : decode cX9_step 46 = .ok (.isub, 1) := by decide +kernel
theorem dX9_step_47 : decode cX9_step 47 = .ok (.invokevirtual 49, 3) := by decide +kernel
theorem dX9_step_50 : decode cX9_step 50 = .ok (.dstore 6, 2) := by decide +kernel
theorem dX9_step_52 : decode cX9_step 52 = .ok (.bipush 10, 2) := by decide +kernel
theorem dX9_step_54 : decode cX9_step 54 = .ok (.dload 4, 2) := by decide +kernel
theorem dX9_step_56 : decode cX9_step 56 = .ok (.dload 6, 2) := by decide +kernel
theorem dX9_step_58 : decode cX9_step 58 = .ok (.invokestatic 67, 3) := by decide +kernel
theorem dX9_step_61 : decode cX9_step 61 = .ok (.ifCond .ne 17, 3) := by decide +kernel
theorem dX9_step_64 : decode cX9_step 64 = .ok (.aload_n 1, 1) := by decide +kernel
theorem dX9_step_65 : decode cX9_step 65 = .ok (.iload_n 2, 1) := by decide +kernel
theorem dX9_step_66 : decode cX9_step 66 = .ok (.dload 4, 2) := by decide +kernel
theorem dX9_step_68 : decode cX9_step 68 = .ok (.dload 6, 2) := by decide +kernel
theorem dX9_step_70 : decode cX9_step 70 = .ok (.dneg, 1) := by decide +kernel
theorem dX9_step_71 : decode cX9_step 71 = .ok (.iload_n 3, 1) := by decide +kernel
theorem dX9_step_72 : decode cX9_step 72 = .ok (.invokestatic 123, 3) := by decide +kernel
theorem dX9_step_75 : decode cX9_step 75 = .ok (.invokevirtual 63, 3) := by decide +kernel
theorem dX9_step_78 : decode cX9_step 78 = .ok (.return_, 1) := by decide +kernel
theorem dX9_countSo_0 : decode cX9_countSo 0 = .ok (.iload_n 2, 1) := by decide +kernel
theorem dX9_countSo_1 : decode cX9_countSo 1 = .ok (.ifCond .le 13, 3) := by decide +kernel
theorem dX9_countSo_4 : decode cX9_countSo 4 = .ok (.aload_n 1, 1) := by decide +kernel
theorem dX9_countSo_5 : decode cX9_countSo 5 = .ok (.iload_n 2, 1) := by decide +kernel
theorem dX9_countSo_6 : decode cX9_countSo 6 = .ok (.iconst 1, 1) := by decide +kernel
theorem dX9_countSo_7 : decode cX9_countSo 7 = .ok (.isub, 1) := by decide +kernel
theorem dX9_countSo_8 : decode cX9_countSo 8 = .ok (.invokevirtual 49, 3) := by decide +kernel
theorem dX9_countSo_11 : decode cX9_countSo 11 = .ok (.goto 4, 3) := by decide +kernel
theorem dX9_countSo_14 : decode cX9_countSo 14 = .ok (.dconst 0, 1) := by decide +kernel
theorem dX9_countSo_15 : decode cX9_countSo 15 = .ok (.dstore 4, 2) := by decide +kernel
theorem dX9_countSo_17 : decode cX9_countSo 17 = .ok (.aload_n 1, 1) := by decide +kernel
theorem dX9_countSo_18 : decode cX9_countSo 18 = .ok (.iload_n 2, 1) := by decide +kernel
theorem dX9_countSo_19 : decode cX9_countSo 19 = .ok (.iload_n 3, 1) := by decide +kernel
theorem dX9_countSo_20 : decode cX9_countSo 20 = .ok (.aload_n 0, 1) := by decide +kernel
theorem dX9_countSo_21 : decode cX9_countSo 21 = .ok (.getfield 14, 3) := by decide +kernel
theorem dX9_countSo_24 : decode cX9_countSo 24 = .ok (.iload_n 2, 1) := by decide +kernel
theorem dX9_countSo_25 : decode cX9_countSo 25 = .ok (.aload_n 0, 1) := by decide +kernel
theorem dX9_countSo_26 : decode cX9_countSo 26 = .ok (.getfield 20, 3) := by decide +kernel
theorem dX9_countSo_29 : decode cX9_countSo 29 = .ok (.iload_n 2, 1) := by decide +kernel
theorem dX9_countSo_30 : decode cX9_countSo 30 = .ok (.invokestatic 106, 3) := by decide +kernel
theorem dX9_countSo_33 : decode cX9_countSo 33 = .ok (.ifCond .eq 10, 3) := by decide +kernel
theorem dX9_countSo_36 : decode cX9_countSo 36 = .ok (.dload 4, 2) := by decide +kernel
theorem dX9_countSo_38 : decode cX9_countSo 38 = .ok (.dconst 1, 1) := by decide +kernel
theorem dX9_countSo_39 : decode cX9_countSo 39 = .ok (.dadd, 1) := by decide +kernel
theorem dX9_countSo_40 : decode cX9_countSo 40 = .ok (.goto 5, 3) := by decide +kernel
theorem dX9_countSo_43 : decode cX9_countSo 43 = .ok (.dload 4, 2) := by decide +kernel
theorem dX9_countSo_45 : decode cX9_countSo 45 = .ok (.invokevirtual 63, 3) := by decide +kernel
theorem dX9_countSo_48 : decode cX9_countSo 48 = .ok (.return_, 1) := by decide +kernel
theorem dX10_init_0 : decode cX10_init 0 = .ok (.aload_n 0, 1) := by decide +kernel
theorem dX10_init_1 : decode cX10_init 1 = .ok (.invokespecial 1, 3) := by decide +kernel
theorem dX10_init_4 : decode cX10_init 4 = .ok (.aload_n 0, 1) := by decide +kernel
theorem dX10_init_5 : decode cX10_init 5 = .ok (.bipush 12, 2) := by decide +kernel
theorem dX10_init_7 : decode cX10_init 7 = .ok (.anewarray 9, 3) := by decide +kernel
theorem dX10_init_10 : decode cX10_init 10 = .ok (.putfield 11, 3) := by decide +kernel
theorem dX10_init_13 : decode cX10_init 13 = .ok (.aload_n 0, 1) := by decide +kernel
theorem dX10_init_14 : decode cX10_init 14 = .ok (.new 15, 3) := by decide +kernel
theorem dX10_init_17 : decode cX10_init 17 = .ok (.dup, 1) := by decide +kernel
theorem dX10_init_18 : decode cX10_init 18 = .ok (.bipush 8, 2) := by decide +kernel
theorem dX10_init_20 : decode cX10_init 20 = .ok (.invokespecial 17, 3) := by decide +kernel
theorem dX10_init_23 : decode cX10_init 23 = .ok (.putfield 20, 3) := by decide +kernel
theorem dX10_init_26 : decode cX10_init 26 = .ok (.aload_n 0, 1) := by decide +kernel
theorem dX10_init_27 : decode cX10_init 27 = .ok (.new 24, 3) := by decide +kernel
theorem dX10_init_30 : decode cX10_init 30 = .ok (.dup, 1) := by decide +kernel
theorem dX10_init_31 : decode cX10_init 31 = .ok (.invokespecial 26, 3) := by decide +kernel
theorem dX10_init_34 : decode cX10_init 34 = .ok (.putfield 27, 3) := by decide +kernel
theorem dX10_init_37 : decode cX10_init 37 = .ok (.aload_n 0, 1) := by decide +kernel
theorem dX10_init_38 : decode cX10_init 38 = .ok (.bipush 10, 2) := by decide +kernel
theorem dX10_init_40 : decode cX10_init 40 = .ok (.anewarray 31, 3) := by decide +kernel
theorem dX10_init_43 : decode cX10_init 43 = .ok (.putfield 33, 3) := by decide +kernel
theorem dX10_init_46 : decode cX10_init 46 = .ok (.aload_n 0, 1) := by decide +kernel
theorem dX10_init_47 : decode cX10_init 47 = .ok (.iconst 0, 1) := by decide +kernel
theorem dX10_init_48 : decode cX10_init 48 = .ok (.putfield 37, 3) := by decide +kernel
theorem dX10_init_51 : decode cX10_init 51 = .ok (.aload_n 0, 1) := by decide +kernel
theorem dX10_init_52 : decode cX10_init 52 = .ok (.iconst 0, 1) := by decide +kernel
theorem dX10_init_53 : decode cX10_init 53 = .ok (.putfield 41, 3) := by decide +kernel
theorem dX10_init_56 : decode cX10_init 56 = .ok (.aload_n 0, 1) := by decide +kernel
theorem dX10_init_57 : decode cX10_init 57 = .ok (.aconst_null, 1) := by decide +kernel
theorem dX10_init_58 : decode cX10_init 58 = .ok (.putfield 44, 3) := by decide +kernel
theorem dX10_init_61 : decode cX10_init 61 = .ok (.aload_n 0, 1) := by decide +kernel
theorem dX10_init_62 : decode cX10_init 62 = .ok (.iconst 0, 1) := by decide +kernel
theorem dX10_init_63 : decode cX10_init 63 = .ok (.putfield 48, 3) := by decide +kernel
theorem dX10_init_66 : decode cX10_init 66 = .ok (.aload_n 0, 1) := by decide +kernel
theorem dX10_init_67 : decode cX10_init 67 = .ok (.bipush 12, 2) := by decide +kernel
theorem dX10_init_69 : decode cX10_init 69 = .ok (.putfield 51, 3) := by decide +kernel
theorem dX10_init_72 : decode cX10_init 72 = .ok (.iconst 0, 1) := by decide +kernel
theorem dX10_init_73 : decode cX10_init 73 = .ok (.istore_n 1, 1) := by decide +kernel
theorem dX10_init_74 : decode cX10_init 74 = .ok (.iload_n 1, 1) := by decide +kernel
theorem dX10_init_75 : decode cX10_init 75 = .ok (.bipush 12, 2) := by decide +kernel
theorem dX10_init_77 : decode cX10_init 77 = .ok (.if_icmp .ge 22, 3) := by decide +kernel
theorem dX10_init_80 : decode cX10_init 80 = .ok (.aload_n 0, 1) := by decide +kernel
theorem dX10_init_81 : decode cX10_init 81 = .ok (.getfield 11, 3) := by decide +kernel
theorem dX10_init_84 : decode cX10_init 84 = .ok (.iload_n 1, 1) := by decide +kernel
theorem dX10_init_85 : decode cX10_init 85 = .ok (.new 9, 3) := by decide +kernel
theorem dX10_init_88 : decode cX10_init 88 = .ok (.dup, 1) := by decide +kernel
theorem dX10_init_89 : decode cX10_init 89 = .ok (.invokespecial 54, 3) := by decide +kernel
theorem dX10_init_92 : decode cX10_init 92 = .ok (.aastore, 1) := by decide +kernel
theorem dX10_init_93 : decode cX10_init 93 = .ok (.iinc 1 1, 3) := by decide +kernel
theorem dX10_init_96 : decode cX10_init 96 = .ok (.goto (-22), 3) := by decide +kernel
theorem dX10_init_99 : decode cX10_init 99 = .ok (.iconst 0, 1) := by decide +kernel
theorem dX10_init_100 : decode cX10_init 100 = .ok (.istore_n 1, 1) := by decide +kernel
theorem dX10_init_101 : decode cX10_init 101 = .ok (.iload_n 1, 1) := by decide +kernel
theorem dX10_init_102 : decode cX10_init 102 = .ok (.bipush 10, 2) := by decide +kernel
theorem dX10_init_104 : decode cX10_init 104 = .ok (.if_icmp .ge 22, 3) := by decide +kernel
theorem dX10_init_107 : decode cX10_init 107 = .ok (.aload_n 0, 1) := by decide +kernel
theorem dX10_init_108 : decode cX10_init 108 = .ok (.getfield 33, 3) := by decide +kernel
theorem dX10_init_111 : decode cX10_init 111 = .ok (.iload_n 1, 1) := by decide +kernel
theorem dX10_init_112 : decode cX10_init 112 = .ok (.new 31, 3) := by decide +kernel
theorem dX10_init_115 : decode cX10_init 115 = .ok (.dup, 1) := by decide +kernel
theorem dX10_init_116 : decode cX10_init 116 = .ok (.invokespecial 55, 3) := by decide +kernel
theorem dX10_init_119 : decode cX10_init 119 = .ok (.aastore, 1) := by decide +kernel
theorem dX10_init_120 : decode cX10_init 120 = .ok (.iinc 1 1, 3) := by decide +kernel
theorem dX10_init_123 : decode cX10_init 123 = .ok (.goto (-22), 3) := by decide +kernel
theorem dX10_init_126 : decode cX10_init 126 = .ok (.return_, 1) := by decide +kernel
theorem dX10_set_0 : decode cX10_set 0 = .ok (.aload_n 0, 1) := by decide +kernel
theorem dX10_set_1 : decode cX10_set 1 = .ok (.iload_n 1, 1) := by decide +kernel
theorem dX10_set_2 : decode cX10_set 2 = .ok (.invokevirtual 56, 3) := by decide +kernel
theorem dX10_set_5 : decode cX10_set 5 = .ok (.ifCond .eq 18, 3) := by decide +kernel
theorem dX10_set_8 : decode cX10_set 8 = .ok (.iload_n 2, 1) := by decide +kernel
theorem dX10_set_9 : decode cX10_set 9 = .ok (.invokestatic 60, 3) := by decide +kernel
theorem dX10_set_12 : decode cX10_set 12 = .ok (.ifCond .eq 11, 3) := by decide +kernel
theorem dX10_set_15 : decode cX10_set 15 = .ok (.iload 4, 2) := by decide +kernel
theorem dX10_set_17 : decode cX10_set 17 = .ok (.invokestatic 63, 3) := by decide +kernel
theorem dX10_set_20 : decode cX10_set 20 = .ok (.ifCond .ne 5, 3) := by decide +kernel
theorem dX10_set_23 : decode cX10_set 23 = .ok (.iconst 0, 1) := by decide +kernel
theorem dX10_set_24 : decode cX10_set 24 = .ok (.ireturn, 1) := by decide +kernel
theorem dX10_set_25 : decode cX10_set 25 = .ok (.aload_n 0, 1) := by decide +kernel
theorem dX10_set_26 : decode cX10_set 26 = .ok (.getfield 11, 3) := by decide +kernel
theorem dX10_set_29 : decode cX10_set 29 = .ok (.iload_n 1, 1) := by decide +kernel
theorem dX10_set_30 : decode cX10_set 30 = .ok (.aaload, 1) := by decide +kernel
theorem dX10_set_31 : decode cX10_set 31 = .ok (.astore 5, 2) := by decide +kernel
theorem dX10_set_33 : decode cX10_set 33 = .ok (.aload_n 0, 1) := by decide +kernel
theorem dX10_set_34 : decode cX10_set 34 = .ok (.new 66, 3) := by decide +kernel
theorem dX10_set_37 : decode cX10_set 37 = .ok (.dup, 1) := by decide +kernel
theorem dX10_set_38 : decode cX10_set 38 = .ok (.aload_n 0, 1) := by decide +kernel
theorem dX10_set_39 : decode cX10_set 39 = .ok (.getfield 44, 3) := by decide +kernel
theorem dX10_set_42 : decode cX10_set 42 = .ok (.iload_n 1, 1) := by decide +kernel
theorem dX10_set_43 : decode cX10_set 43 = .ok (.aload 5, 2) := by decide +kernel
theorem dX10_set_45 : decode cX10_set 45 = .ok (.getfield 68, 3) := by decide +kernel
theorem dX10_set_48 : decode cX10_set 48 = .ok (.iload_n 2, 1) := by decide +kernel
theorem dX10_set_49 : decode cX10_set 49 = .ok (.invokespecial 71, 3) := by decide +kernel
theorem dX10_set_52 : decode cX10_set 52 = .ok (.invokevirtual 74, 3) := by decide +kernel
theorem dX10_set_55 : decode cX10_set 55 = .ok (.aload 5, 2) := by decide +kernel
theorem dX10_set_57 : decode cX10_set 57 = .ok (.getfield 68, 3) := by decide +kernel
theorem dX10_set_60 : decode cX10_set 60 = .ok (.iload_n 2, 1) := by decide +kernel
theorem dX10_set_61 : decode cX10_set 61 = .ok (.iload_n 3, 1) := by decide +kernel
theorem dX10_set_62 : decode cX10_set 62 = .ok (.i2d, 1) := by decide +kernel
theorem dX10_set_63 : decode cX10_set 63 = .ok (.iload 4, 2) := by decide +kernel
theorem dX10_set_65 : decode cX10_set 65 = .ok (.invokestatic 78, 3) := by decide +kernel
theorem dX10_set_68 : decode cX10_set 68 = .ok (.dmul, 1) := by decide +kernel
theorem dX10_set_69 : decode cX10_set 69 = .ok (.aload 5, 2) := by decide +kernel
theorem dX10_set_71 : decode cX10_set 71 = .ok (.getfield 84, 3) := by decide +kernel
theorem dX10_set_74 : decode cX10_set 74 = .ok (.invokestatic 88, 3) := by decide +kernel
theorem dX10_set_77 : decode cX10_set 77 = .ok (.invokevirtual 92, 3) := by decide +kernel
theorem dX10_set_80 : decode cX10_set 80 = .ok (.iconst 1, 1) := by decide +kernel
theorem dX10_set_81 : decode cX10_set 81 = .ok (.ireturn, 1) := by decide +kernel
theorem dX10_special_0 : decode cX10_special 0 = .ok (.aload_n 0, 1) := by decide +kernel
theorem dX10_special_1 : decode cX10_special 1 = .ok (.iload_n 1, 1) := by decide +kernel
theorem dX10_special_2 : decode cX10_special 2 = .ok (.invokevirtual 56, 3) := by decide +kernel
theorem dX10_special_5 : decode cX10_special 5 = .ok (.ifCond .eq 17, 3) := by decide +kernel
theorem dX10_special_8 : decode cX10_special 8 = .ok (.iload_n 2, 1) := by decide +kernel
theorem dX10_special_9 : decode cX10_special 9 = .ok (.invokestatic 60, 3) := by decide +kernel
theorem dX10_special_12 : decode cX10_special 12 = .ok (.ifCond .eq 10, 3) := by decide +kernel
theorem dX10_special_15 : decode cX10_special 15 = .ok (.iload_n 3, 1) := by decide +kernel
theorem dX10_special_16 : decode cX10_special 16 = .ok (.invokestatic 96, 3) := by decide +kernel
theorem dX10_special_19 : decode cX10_special 19 = .ok (.ifCond .ne 5, 3) := by decide +kernel
theorem dX10_special_22 : decode cX10_special 22 = .ok (.iconst 0, 1) := by decide +kernel
theorem dX10_special_23 : decode cX10_special 23 = .ok (.ireturn, 1) := by decide +kernel
theorem dX10_special_24 : decode cX10_special 24 = .ok (.aload_n 0, 1) := by decide +kernel
theorem dX10_special_25 : decode cX10_special 25 = .ok (.getfield 11, 3) := by decide +kernel
theorem dX10_special_28 : decode cX10_special 28 = .ok (.iload_n 1, 1) := by decide +kernel
theorem dX10_special_29 : decode cX10_special 29 = .ok (.aaload, 1) := by decide +kernel
theorem dX10_special_30 : decode cX10_special 30 = .ok (.astore 4, 2) := by decide +kernel
theorem dX10_special_32 : decode cX10_special 32 = .ok (.aload_n 0, 1) := by decide +kernel
theorem dX10_special_33 : decode cX10_special 33 = .ok (.new 66, 3) := by decide +kernel
theorem dX10_special_36 : decode cX10_special 36 = .ok (.dup, 1) := by decide +kernel
theorem dX10_special_37 : decode cX10_special 37 = .ok (.aload_n 0, 1) := by decide +kernel
theorem dX10_special_38 : decode cX10_special 38 = .ok (.getfield 44, 3) := by decide +kernel
theorem dX10_special_41 : decode cX10_special 41 = .ok (.iload_n 1, 1) := by decide +kernel
theorem dX10_special_42 : decode cX10_special 42 = .ok (.aload 4, 2) := by decide +kernel
theorem dX10_special_44 : decode cX10_special 44 = .ok (.getfield 68, 3) := by decide +kernel
theorem dX10_special_47 : decode cX10_special 47 = .ok (.iload_n 2, 1) := by decide +kernel
theorem dX10_special_48 : decode cX10_special 48 = .ok (.invokespecial 71, 3) := by decide +kernel
theorem dX10_special_51 : decode cX10_special 51 = .ok (.invokevirtual 74, 3) := by decide +kernel
theorem dX10_special_54 : decode cX10_special 54 = .ok (.aload 4, 2) := by decide +kernel
theorem dX10_special_56 : decode cX10_special 56 = .ok (.getfield 68, 3) := by decide +kernel
theorem dX10_special_59 : decode cX10_special 59 = .ok (.iload_n 2, 1) := by decide +kernel
theorem dX10_special_60 : decode cX10_special 60 = .ok (.iload_n 3, 1) := by decide +kernel
theorem dX10_special_61 : decode cX10_special 61 = .ok (.aload 4, 2) := by decide +kernel
theorem dX10_special_63 : decode cX10_special 63 = .ok (.getfield 84, 3) := by decide +kernel
theorem dX10_special_66 : decode cX10_special 66 = .ok (.invokevirtual 99, 3) := by decide +kernel
theorem dX10_special_69 : decode cX10_special 69 = .ok (.iconst 1, 1) := by decide +kernel
theorem dX10_special_70 : decode cX10_special 70 = .ok (.ireturn, 1) := by decide +kernel
theorem dX10_constant_0 : decode cX10_constant 0 = .ok (.iload_n 1, 1) := by decide +kernel
theorem dX10_constant_1 : decode cX10_constant 1 = .ok (.invokestatic 103, 3) := by decide +kernel
theorem dX10_constant_4 : decode cX10_constant 4 = .ok (.ifCond .eq 17, 3) := by decide +kernel
theorem dX10_constant_7 : decode cX10_constant 7 = .ok (.iload_n 3, 1) := by decide +kernel
theorem dX10_constant_8 : decode cX10_constant 8 = .ok (.invokestatic 63, 3) := by decide +kernel
theorem dX10_constant_11 : decode cX10_constant 11 = .ok (.ifCond .eq 10, 3) := by decide +kernel
theorem dX10_constant_14 : decode cX10_constant 14 = .ok (.aload_n 0, 1) := by decide +kernel
theorem dX10_constant_15 : decode cX10_constant 15 = .ok (.invokevirtual 106, 3) := by decide +kernel
theorem dX10_constant_18 : decode cX10_constant 18 = .ok (.ifCond .ne 5, 3) := by decide +kernel
theorem dX10_constant_21 : decode cX10_constant 21 = .ok (.iconst 0, 1) := by decide +kernel
theorem dX10_constant_22 : decode cX10_constant 22 = .ok (.ireturn, 1) := by decide +kernel
theorem dX10_constant_23 : decode cX10_constant 23 = .ok (.aload_n 0, 1) := by decide +kernel
theorem dX10_constant_24 : decode cX10_constant 24 = .ok (.new 66, 3) := by decide +kernel
theorem dX10_constant_27 : decode cX10_constant 27 = .ok (.dup, 1) := by decide +kernel
theorem dX10_constant_28 : decode cX10_constant 28 = .ok (.aload_n 0, 1) := by decide +kernel
theorem dX10_constant_29 : decode cX10_constant 29 = .ok (.getfield 44, 3) := by decide +kernel
theorem dX10_constant_32 : decode cX10_constant 32 = .ok (.iconst 0, 1) := by decide +kernel
theorem dX10_constant_33 : decode cX10_constant 33 = .ok (.aload_n 0, 1) := by decide +kernel
theorem dX10_constant_34 : decode cX10_constant 34 = .ok (.getfield 20, 3) := by decide +kernel
theorem dX10_constant_37 : decode cX10_constant 37 = .ok (.iload_n 1, 1) := by decide +kernel
theorem dX10_constant_38 : decode cX10_constant 38 = .ok (.invokespecial 71, 3) := by decide +kernel
theorem dX10_constant_41 : decode cX10_constant 41 = .ok (.invokevirtual 74, 3) := by decide +kernel
theorem dX10_constant_44 : decode cX10_constant 44 = .ok (.aload_n 0, 1) := by decide +kernel
theorem dX10_constant_45 : decode cX10_constant 45 = .ok (.getfield 20, 3) := by decide +kernel
theorem dX10_constant_48 : decode cX10_constant 48 = .ok (.iload_n 1, 1) := by decide +kernel
theorem dX10_constant_49 : decode cX10_constant 49 = .ok (.iload_n 2, 1) := by decide +kernel
theorem dX10_constant_50 : decode cX10_constant 50 = .ok (.i2d, 1) := by decide +kernel
theorem dX10_constant_51 : decode cX10_constant 51 = .ok (.iload_n 3, 1) := by decide +kernel
theorem dX10_constant_52 : decode cX10_constant 52 = .ok (.invokestatic 78, 3) := by decide +kernel
theorem dX10_constant_55 : decode cX10_constant 55 = .ok (.dmul, 1) := by decide +kernel
theorem dX10_constant_56 : decode cX10_constant 56 = .ok (.invokevirtual 92, 3) := by decide +kernel
theorem dX10_constant_59 : decode cX10_constant 59 = .ok (.iconst 1, 1) := by decide +kernel
theorem dX10_constant_60 : decode cX10_constant 60 = .ok (.ireturn, 1) := by decide +kernel
theorem dX10_constantSpecial_0 : decode cX10_constantSpecial 0 = .ok (.iload_n 1, 1) := by decide +kernel
theorem dX10_constantSpecial_1 : decode cX10_constantSpecial 1 = .ok (.invokestatic 103, 3) := by decide +kernel
theorem dX10_constantSpecial_4 : decode cX10_constantSpecial 4 = .ok (.ifCond .eq 17, 3) := by decide +kernel
theorem dX10_constantSpecial_7 : decode cX10_constantSpecial 7 = .ok (.iload_n 2, 1) := by decide +kernel
theorem dX10_constantSpecial_8 : decode cX10_constantSpecial 8 = .ok (.invokestatic 96, 3) := by decide +kernel
theorem dX10_constantSpecial_11 : decode cX10_constantSpecial 11 = .ok (.ifCond .eq 10, 3) := by decide +kernel
theorem dX10_constantSpecial_14 : decode cX10_constantSpecial 14 = .ok (.aload_n 0, 1) := by decide +kernel
theorem dX10_constantSpecial_15 : decode cX10_constantSpecial 15 = .ok (.invokevirtual 106, 3) := by decide +kernel
theorem dX10_constantSpecial_18 : decode cX10_constantSpecial 18 = .ok (.ifCond .ne 5, 3) := by decide +kernel
theorem dX10_constantSpecial_21 : decode cX10_constantSpecial 21 = .ok (.iconst 0, 1) := by decide +kernel
theorem dX10_constantSpecial_22 : decode cX10_constantSpecial 22 = .ok (.ireturn, 1) := by decide +kernel
theorem dX10_constantSpecial_23 : decode cX10_constantSpecial 23 = .ok (.aload_n 0, 1) := by decide +kernel
theorem dX10_constantSpecial_24 : decode cX10_constantSpecial 24 = .ok (.new 66, 3) := by decide +kernel
theorem dX10_constantSpecial_27 : decode cX10_constantSpecial 27 = .ok (.dup, 1) := by decide +kernel
theorem dX10_constantSpecial_28 : decode cX10_constantSpecial 28 = .ok (.aload_n 0, 1) := by decide +kernel
theorem dX10_constantSpecial_29 : decode cX10_constantSpecial 29 = .ok (.getfield 44, 3) := by decide +kernel
theorem dX10_constantSpecial_32 : decode cX10_constantSpecial 32 = .ok (.iconst 0, 1) := by decide +kernel
theorem dX10_constantSpecial_33 : decode cX10_constantSpecial 33 = .ok (.aload_n 0, 1) := by decide +kernel
theorem dX10_constantSpecial_34 : decode cX10_constantSpecial 34 = .ok (.getfield 20, 3) := by decide +kernel
theorem dX10_constantSpecial_37 : decode cX10_constantSpecial 37 = .ok (.iload_n 1, 1) := by decide +kernel
theorem dX10_constantSpecial_38 : decode cX10_constantSpecial 38 = .ok (.invokespecial 71, 3) := by decide +kernel
theorem dX10_constantSpecial_41 : decode cX10_constantSpecial 41 = .ok (.invokevirtual 74, 3) := by decide +kernel
theorem dX10_constantSpecial_44 : decode cX10_constantSpecial 44 = .ok (.aload_n 0, 1) := by decide +kernel
theorem dX10_constantSpecial_45 : decode cX10_constantSpecial 45 = .ok (.getfield 20, 3) := by decide +kernel
theorem dX10_constantSpecial_48 : decode cX10_constantSpecial 48 = .ok (.iload_n 1, 1) := by decide +kernel
theorem dX10_constantSpecial_49 : decode cX10_constantSpecial 49 = .ok (.iload_n 2, 1) := by decide +kernel
theorem dX10_constantSpecial_50 : decode cX10_constantSpecial 50 = .ok (.iconst 0, 1) := by decide +kernel
theorem dX10_constantSpecial_51 : decode cX10_constantSpecial 51 = .ok (.invokevirtual 99, 3) := by decide +kernel
theorem dX10_constantSpecial_54 : decode cX10_constantSpecial 54 = .ok (.iconst 1, 1) := by decide +kernel
theorem dX10_constantSpecial_55 : decode cX10_constantSpecial 55 = .ok (.ireturn, 1) := by decide +kernel
theorem dX10_formula_0 : decode cX10_formula 0 = .ok (.iload_n 1, 1) := by decide +kernel
theorem dX10_formula_1 : decode cX10_formula 1 = .ok (.invokestatic 110, 3) := by decide +kernel
theorem dX10_formula_4 : decode cX10_formula 4 = .ok (.ifCond .eq 21, 3) := by decide +kernel
theorem dX10_formula_7 : decode cX10_formula 7 = .ok (.iload 5, 2) := by decide +kernel
theorem dX10_formula_9 : decode cX10_formula 9 = .ok (.invokestatic 113, 3) := by decide +kernel
theorem dX10_formula_12 : decode cX10_formula 12 = .ok (.ifCond .eq 13, 3) := by decide +kernel
theorem dX10_formula_15 : decode cX10_formula 15 = .ok (.iload_n 2, 1) := by decide +kernel
theorem dX10_formula_16 : decode cX10_formula 16 = .ok (.ifCond .lt 9, 3) := by decide +kernel
theorem dX10_formula_19 : decode cX10_formula 19 = .ok (.iload_n 2, 1) := by decide +kernel
theorem dX10_formula_20 : decode cX10_formula 20 = .ok (.bipush 27, 2) := by decide +kernel
theorem dX10_formula_22 : decode cX10_formula 22 = .ok (.if_icmp .lt 5, 3) := by decide +kernel
theorem dX10_formula_25 : decode cX10_formula 25 = .ok (.iconst 0, 1) := by decide +kernel
theorem dX10_formula_26 : decode cX10_formula 26 = .ok (.ireturn, 1) := by decide +kernel
theorem dX10_formula_27 : decode cX10_formula 27 = .ok (.iload_n 3, 1) := by decide +kernel
theorem dX10_formula_28 : decode cX10_formula 28 = .ok (.ifCond .lt 34, 3) := by decide +kernel
theorem dX10_formula_31 : decode cX10_formula 31 = .ok (.iload_n 3, 1) := by decide +kernel
theorem dX10_formula_32 : decode cX10_formula 32 = .ok (.iload_n 1, 1) := by decide +kernel
theorem dX10_formula_33 : decode cX10_formula 33 = .ok (.if_icmp .ge 29, 3) := by decide +kernel
theorem dX10_formula_36 : decode cX10_formula 36 = .ok (.iload 4, 2) := by decide +kernel
theorem dX10_formula_38 : decode cX10_formula 38 = .ok (.ifCond .lt 24, 3) := by decide +kernel
theorem dX10_formula_41 : decode cX10_formula 41 = .ok (.iload 4, 2) := by decide +kernel
theorem dX10_formula_43 : decode cX10_formula 43 = .ok (.iload_n 1, 1) := by decide +kernel
theorem dX10_formula_44 : decode cX10_formula 44 = .ok (.if_icmp .lt 11, 3) := by decide +kernel
theorem dX10_formula_47 : decode cX10_formula 47 = .ok (.iload 4, 2) := by decide +kernel
theorem dX10_formula_49 : decode cX10_formula 49 = .ok (.invokestatic 116, 3) := by decide +kernel
theorem dX10_formula_52 : decode cX10_formula 52 = .ok (.ifCond .eq 10, 3) := by decide +kernel
theorem dX10_formula_55 : decode cX10_formula 55 = .ok (.aload_n 0, 1) := by decide +kernel
theorem dX10_formula_56 : decode cX10_formula 56 = .ok (.invokevirtual 106, 3) := by decide +kernel
theorem dX10_formula_59 : decode cX10_formula 59 = .ok (.ifCond .ne 5, 3) := by decide +kernel
theorem dX10_formula_62 : decode cX10_formula 62 = .ok (.iconst 0, 1) := by decide +kernel
theorem dX10_formula_63 : decode cX10_formula 63 = .ok (.ireturn, 1) := by decide +kernel
theorem dX10_formula_64 : decode cX10_formula 64 = .ok (.aload_n 0, 1) := by decide +kernel
theorem dX10_formula_65 : decode cX10_formula 65 = .ok (.getfield 11, 3) := by decide +kernel
theorem dX10_formula_68 : decode cX10_formula 68 = .ok (.iload_n 1, 1) := by decide +kernel
theorem dX10_formula_69 : decode cX10_formula 69 = .ok (.aaload, 1) := by decide +kernel
theorem dX10_formula_70 : decode cX10_formula 70 = .ok (.astore 6, 2) := by decide +kernel
theorem dX10_formula_72 : decode cX10_formula 72 = .ok (.aload_n 0, 1) := by decide +kernel
theorem dX10_formula_73 : decode cX10_formula 73 = .ok (.new 119, 3) := by decide +kernel
theorem dX10_formula_76 : decode cX10_formula 76 = .ok (.dup, 1) := by decide +kernel
theorem dX10_formula_77 : decode cX10_formula 77 = .ok (.aload_n 0, 1) := by decide +kernel
theorem dX10_formula_78 : decode cX10_formula 78 = .ok (.getfield 44, 3) := by decide +kernel
theorem dX10_formula_81 : decode cX10_formula 81 = .ok (.iload_n 1, 1) := by decide +kernel
theorem dX10_formula_82 : decode cX10_formula 82 = .ok (.aload 6, 2) := by decide +kernel
theorem dX10_formula_84 : decode cX10_formula 84 = .ok (.invokespecial 121, 3) := by decide +kernel
theorem dX10_formula_87 : decode cX10_formula 87 = .ok (.invokevirtual 74, 3) := by decide +kernel
theorem dX10_formula_90 : decode cX10_formula 90 = .ok (.aload 6, 2) := by decide +kernel
theorem dX10_formula_92 : decode cX10_formula 92 = .ok (.iload_n 2, 1) := by decide +kernel
theorem dX10_formula_93 : decode cX10_formula 93 = .ok (.putfield 124, 3) := by decide +kernel
theorem dX10_formula_96 : decode cX10_formula 96 = .ok (.aload 6, 2) := by decide +kernel
theorem dX10_formula_98 : decode cX10_formula 98 = .ok (.iload_n 3, 1) := by decide +kernel
theorem dX10_formula_99 : decode cX10_formula 99 = .ok (.putfield 127, 3) := by decide +kernel
theorem dX10_formula_102 : decode cX10_formula 102 = .ok (.aload 6, 2) := by decide +kernel
theorem dX10_formula_104 : decode cX10_formula 104 = .ok (.iload 4, 2) := by decide +kernel
theorem dX10_formula_106 : decode cX10_formula 106 = .ok (.putfield 130, 3) := by decide +kernel
theorem dX10_formula_109 : decode cX10_formula 109 = .ok (.aload 6, 2) := by decide +kernel
theorem dX10_formula_111 : decode cX10_formula 111 = .ok (.iload 5, 2) := by decide +kernel
theorem dX10_formula_113 : decode cX10_formula 113 = .ok (.putfield 133, 3) := by decide +kernel
theorem dX10_formula_116 : decode cX10_formula 116 = .ok (.iconst 1, 1) := by decide +kernel
theorem dX10_formula_117 : decode cX10_formula 117 = .ok (.ireturn, 1) := by decide +kernel
theorem dX10_input_0 : decode cX10_input 0 = .ok (.iload_n 1, 1) := by decide +kernel
theorem dX10_input_1 : decode cX10_input 1 = .ok (.invokestatic 110, 3) := by decide +kernel
theorem dX10_input_4 : decode cX10_input 4 = .ok (.ifCond .eq 22, 3) := by decide +kernel
theorem dX10_input_7 : decode cX10_input 7 = .ok (.aload_n 0, 1) := by decide +kernel
theorem dX10_input_8 : decode cX10_input 8 = .ok (.getfield 11, 3) := by decide +kernel
theorem dX10_input_11 : decode cX10_input 11 = .ok (.iload_n 1, 1) := by decide +kernel
theorem dX10_input_12 : decode cX10_input 12 = .ok (.aaload, 1) := by decide +kernel
theorem dX10_input_13 : decode cX10_input 13 = .ok (.invokevirtual 136, 3) := by decide +kernel
theorem dX10_input_16 : decode cX10_input 16 = .ok (.ifCond .eq 10, 3) := by decide +kernel
theorem dX10_input_19 : decode cX10_input 19 = .ok (.aload_n 0, 1) := by decide +kernel
theorem dX10_input_20 : decode cX10_input 20 = .ok (.invokevirtual 106, 3) := by decide +kernel
theorem dX10_input_23 : decode cX10_input 23 = .ok (.ifCond .ne 5, 3) := by decide +kernel
theorem dX10_input_26 : decode cX10_input 26 = .ok (.iconst 0, 1) := by decide +kernel
theorem dX10_input_27 : decode cX10_input 27 = .ok (.ireturn, 1) := by decide +kernel
theorem dX10_input_28 : decode cX10_input 28 = .ok (.aload_n 0, 1) := by decide +kernel
theorem dX10_input_29 : decode cX10_input 29 = .ok (.iload_n 1, 1) := by decide +kernel
theorem dX10_input_30 : decode cX10_input 30 = .ok (.invokevirtual 139, 3) := by decide +kernel
theorem dX10_input_33 : decode cX10_input 33 = .ok (.aload_n 0, 1) := by decide +kernel
theorem dX10_input_34 : decode cX10_input 34 = .ok (.getfield 11, 3) := by decide +kernel
theorem dX10_input_37 : decode cX10_input 37 = .ok (.iload_n 1, 1) := by decide +kernel
theorem dX10_input_38 : decode cX10_input 38 = .ok (.aaload, 1) := by decide +kernel
theorem dX10_input_39 : decode cX10_input 39 = .ok (.astore_n 2, 1) := by decide +kernel
theorem dX10_input_40 : decode cX10_input 40 = .ok (.aload_n 0, 1) := by decide +kernel
theorem dX10_input_41 : decode cX10_input 41 = .ok (.new 119, 3) := by decide +kernel
theorem dX10_input_44 : decode cX10_input 44 = .ok (.dup, 1) := by decide +kernel
theorem dX10_input_45 : decode cX10_input 45 = .ok (.aload_n 0, 1) := by decide +kernel
theorem dX10_input_46 : decode cX10_input 46 = .ok (.getfield 44, 3) := by decide +kernel
theorem dX10_input_49 : decode cX10_input 49 = .ok (.iload_n 1, 1) := by decide +kernel
theorem dX10_input_50 : decode cX10_input 50 = .ok (.aload_n 2, 1) := by decide +kernel
theorem dX10_input_51 : decode cX10_input 51 = .ok (.invokespecial 121, 3) := by decide +kernel
theorem dX10_input_54 : decode cX10_input 54 = .ok (.invokevirtual 74, 3) := by decide +kernel
theorem dX10_input_57 : decode cX10_input 57 = .ok (.aload_n 2, 1) := by decide +kernel
theorem dX10_input_58 : decode cX10_input 58 = .ok (.iconst (-1), 1) := by decide +kernel
theorem dX10_input_59 : decode cX10_input 59 = .ok (.putfield 124, 3) := by decide +kernel
theorem dX10_input_62 : decode cX10_input 62 = .ok (.iconst 1, 1) := by decide +kernel
theorem dX10_input_63 : decode cX10_input 63 = .ok (.ireturn, 1) := by decide +kernel
theorem dX10_width_0 : decode cX10_width 0 = .ok (.iload_n 1, 1) := by decide +kernel
theorem dX10_width_1 : decode cX10_width 1 = .ok (.invokestatic 110, 3) := by decide +kernel
theorem dX10_width_4 : decode cX10_width 4 = .ok (.ifCond .eq 23, 3) := by decide +kernel
theorem dX10_width_7 : decode cX10_width 7 = .ok (.aload_n 0, 1) := by decide +kernel
theorem dX10_width_8 : decode cX10_width 8 = .ok (.getfield 11, 3) := by decide +kernel
theorem dX10_width_11 : decode cX10_width 11 = .ok (.iload_n 1, 1) := by decide +kernel
theorem dX10_width_12 : decode cX10_width 12 = .ok (.aaload, 1) := by decide +kernel
theorem dX10_width_13 : decode cX10_width 13 = .ok (.getfield 84, 3) := by decide +kernel
theorem dX10_width_16 : decode cX10_width 16 = .ok (.iload_n 2, 1) := by decide +kernel
theorem dX10_width_17 : decode cX10_width 17 = .ok (.if_icmp .eq 10, 3) := by decide +kernel
theorem dX10_width_20 : decode cX10_width 20 = .ok (.aload_n 0, 1) := by decide +kernel
theorem dX10_width_21 : decode cX10_width 21 = .ok (.invokevirtual 106, 3) := by decide +kernel
theorem dX10_width_24 : decode cX10_width 24 = .ok (.ifCond .ne 5, 3) := by decide +kernel
theorem dX10_width_27 : decode cX10_width 27 = .ok (.iconst 0, 1) := by decide +kernel
theorem dX10_width_28 : decode cX10_width 28 = .ok (.ireturn, 1) := by decide +kernel
theorem dX10_width_29 : decode cX10_width 29 = .ok (.aload_n 0, 1) := by decide +kernel
theorem dX10_width_30 : decode cX10_width 30 = .ok (.getfield 11, 3) := by decide +kernel
theorem dX10_width_33 : decode cX10_width 33 = .ok (.iload_n 1, 1) := by decide +kernel
theorem dX10_width_34 : decode cX10_width 34 = .ok (.aaload, 1) := by decide +kernel
theorem dX10_width_35 : decode cX10_width 35 = .ok (.astore_n 3, 1) := by decide +kernel
theorem dX10_width_36 : decode cX10_width 36 = .ok (.aload_n 0, 1) := by decide +kernel
theorem dX10_width_37 : decode cX10_width 37 = .ok (.new 119, 3) := by decide +kernel
theorem dX10_width_40 : decode cX10_width 40 = .ok (.dup, 1) := by decide +kernel
theorem dX10_width_41 : decode cX10_width 41 = .ok (.aload_n 0, 1) := by decide +kernel
theorem dX10_width_42 : decode cX10_width 42 = .ok (.getfield 44, 3) := by decide +kernel
theorem dX10_width_45 : decode cX10_width 45 = .ok (.iload_n 1, 1) := by decide +kernel
theorem dX10_width_46 : decode cX10_width 46 = .ok (.aload_n 3, 1) := by decide +kernel
theorem dX10_width_47 : decode cX10_width 47 = .ok (.invokespecial 121, 3) := by decide +kernel
theorem dX10_width_50 : decode cX10_width 50 = .ok (.invokevirtual 74, 3) := by decide +kernel
theorem dX10_width_53 : decode cX10_width 53 = .ok (.aload_n 3, 1) := by decide +kernel
theorem dX10_width_54 : decode cX10_width 54 = .ok (.iload_n 2, 1) := by decide +kernel
theorem dX10_width_55 : decode cX10_width 55 = .ok (.putfield 84, 3) := by decide +kernel
theorem dX10_width_58 : decode cX10_width 58 = .ok (.aload_n 3, 1) := by decide +kernel
theorem dX10_width_59 : decode cX10_width 59 = .ok (.invokevirtual 136, 3) := by decide +kernel
theorem dX10_width_62 : decode cX10_width 62 = .ok (.ifCond .ne 35, 3) := by decide +kernel
theorem dX10_width_65 : decode cX10_width 65 = .ok (.iconst 0, 1) := by decide +kernel
theorem dX10_width_66 : decode cX10_width 66 = .ok (.istore 4, 2) := by decide +kernel
theorem dX10_width_68 : decode cX10_width 68 = .ok (.iload 4, 2) := by decide +kernel
theorem dX10_width_70 : decode cX10_width 70 = .ok (.bipush 16, 2) := by decide +kernel
theorem dX10_width_72 : decode cX10_width 72 = .ok (.if_icmp .ge 25, 3) := by decide +kernel
theorem dX10_width_75 : decode cX10_width 75 = .ok (.aload_n 3, 1) := by decide +kernel
theorem dX10_width_76 : decode cX10_width 76 = .ok (.getfield 68, 3) := by decide +kernel
theorem dX10_width_79 : decode cX10_width 79 = .ok (.iload 4, 2) := by decide +kernel
theorem dX10_width_81 : decode cX10_width 81 = .ok (.aload_n 3, 1) := by decide +kernel
theorem dX10_width_82 : decode cX10_width 82 = .ok (.getfield 68, 3) := by decide +kernel
theorem dX10_width_85 : decode cX10_width 85 = .ok (.iload 4, 2) := by decide +kernel
theorem dX10_width_87 : decode cX10_width 87 = .ok (.iload_n 2, 1) := by decide +kernel
theorem dX10_width_88 : decode cX10_width 88 = .ok (.invokevirtual 142, 3) := by decide +kernel
theorem dX10_width_91 : decode cX10_width 91 = .ok (.iinc 4 1, 3) := by decide +kernel
theorem dX10_width_94 : decode cX10_width 94 = .ok (.goto (-26), 3) := by decide +kernel
theorem dX10_width_97 : decode cX10_width 97 = .ok (.iconst 1, 1) := by decide +kernel
theorem dX10_width_98 : decode cX10_width 98 = .ok (.ireturn, 1) := by decide +kernel
theorem dX10_back_0 : decode cX10_back 0 = .ok (.aload_n 0, 1) := by decide +kernel
theorem dX10_back_1 : decode cX10_back 1 = .ok (.getfield 44, 3) := by decide +kernel
theorem dX10_back_4 : decode cX10_back 4 = .ok (.astore_n 1, 1) := by decide +kernel
theorem dX10_back_5 : decode cX10_back 5 = .ok (.aload_n 1, 1) := by decide +kernel
theorem dX10_back_6 : decode cX10_back 6 = .ok (.ifnonnull 5, 3) := by decide +kernel
theorem dX10_back_9 : decode cX10_back 9 = .ok (.iconst (-1), 1) := by decide +kernel
theorem dX10_back_10 : decode cX10_back 10 = .ok (.ireturn, 1) := by decide +kernel
theorem dX10_back_11 : decode cX10_back 11 = .ok (.aload_n 1, 1) := by decide +kernel
theorem dX10_back_12 : decode cX10_back 12 = .ok (.invokevirtual 146, 3) := by decide +kernel
theorem dX10_back_15 : decode cX10_back 15 = .ok (.aload_n 0, 1) := by decide +kernel
theorem dX10_back_16 : decode cX10_back 16 = .ok (.aload_n 0, 1) := by decide +kernel
theorem dX10_back_17 : decode cX10_back 17 = .ok (.getfield 51, 3) := by decide +kernel
theorem dX10_back_20 : decode cX10_back 20 = .ok (.aload_n 1, 1) := by decide +kernel
theorem dX10_back_21 : decode cX10_back 21 = .ok (.getfield 151, 3) := by decide +kernel
theorem dX10_back_24 : decode cX10_back 24 = .ok (.invokestatic 154, 3) := by decide +kernel
theorem dX10_back_27 : decode cX10_back 27 = .ok (.putfield 51, 3) := by decide +kernel
theorem dX10_back_30 : decode cX10_back 30 = .ok (.aload_n 0, 1) := by decide +kernel
theorem dX10_back_31 : decode cX10_back 31 = .ok (.aload_n 1, 1) := by decide +kernel
theorem dX10_back_32 : decode cX10_back 32 = .ok (.getfield 160, 3) := by decide +kernel
theorem dX10_back_35 : decode cX10_back 35 = .ok (.putfield 44, 3) := by decide +kernel
theorem dX10_back_38 : decode cX10_back 38 = .ok (.aload_n 0, 1) := by decide +kernel
theorem dX10_back_39 : decode cX10_back 39 = .ok (.dup, 1) := by decide +kernel
theorem dX10_back_40 : decode cX10_back 40 = .ok (.getfield 48, 3) := by decide +kernel
theorem dX10_back_43 : decode cX10_back 43 = .ok (.iconst 1, 1) := by decide +kernel
theorem dX10_back_44 : decode cX10_back 44 = .ok (.isub, 1) := by decide +kernel
theorem dX10_back_45 : decode cX10_back 45 = .ok (.putfield 48, 3) := by decide +kernel
theorem dX10_back_48 : decode cX10_back 48 = .ok (.aload_n 0, 1) := by decide +kernel
theorem dX10_back_49 : decode cX10_back 49 = .ok (.getfield 48, 3) := by decide +kernel
theorem dX10_back_52 : decode cX10_back 52 = .ok (.ireturn, 1) := by decide +kernel
theorem dX10_alarm_0 : decode cX10_alarm 0 = .ok (.iload_n 1, 1) := by decide +kernel
theorem dX10_alarm_1 : decode cX10_alarm 1 = .ok (.invokestatic 110, 3) := by decide +kernel
theorem dX10_alarm_4 : decode cX10_alarm 4 = .ok (.ifCond .eq 24, 3) := by decide +kernel
theorem dX10_alarm_7 : decode cX10_alarm 7 = .ok (.iload_n 2, 1) := by decide +kernel
theorem dX10_alarm_8 : decode cX10_alarm 8 = .ok (.invokestatic 113, 3) := by decide +kernel
theorem dX10_alarm_11 : decode cX10_alarm 11 = .ok (.ifCond .eq 17, 3) := by decide +kernel
theorem dX10_alarm_14 : decode cX10_alarm 14 = .ok (.iload_n 3, 1) := by decide +kernel
theorem dX10_alarm_15 : decode cX10_alarm 15 = .ok (.invokestatic 110, 3) := by decide +kernel
theorem dX10_alarm_18 : decode cX10_alarm 18 = .ok (.ifCond .ne 12, 3) := by decide +kernel
theorem dX10_alarm_21 : decode cX10_alarm 21 = .ok (.iload_n 3, 1) := by decide +kernel
theorem dX10_alarm_22 : decode cX10_alarm 22 = .ok (.invokestatic 116, 3) := by decide +kernel
theorem dX10_alarm_25 : decode cX10_alarm 25 = .ok (.ifCond .ne 5, 3) := by decide +kernel
theorem dX10_alarm_28 : decode cX10_alarm 28 = .ok (.iconst (-1), 1) := by decide +kernel
theorem dX10_alarm_29 : decode cX10_alarm 29 = .ok (.ireturn, 1) := by decide +kernel
theorem dX10_alarm_30 : decode cX10_alarm 30 = .ok (.aload_n 0, 1) := by decide +kernel
theorem dX10_alarm_31 : decode cX10_alarm 31 = .ok (.getfield 37, 3) := by decide +kernel
theorem dX10_alarm_34 : decode cX10_alarm 34 = .ok (.bipush 10, 2) := by decide +kernel
theorem dX10_alarm_36 : decode cX10_alarm 36 = .ok (.if_icmp .lt 5, 3) := by decide +kernel
theorem dX10_alarm_39 : decode cX10_alarm 39 = .ok (.iconst (-1), 1) := by decide +kernel
theorem dX10_alarm_40 : decode cX10_alarm 40 = .ok (.ireturn, 1) := by decide +kernel
theorem dX10_alarm_41 : decode cX10_alarm 41 = .ok (.aload_n 0, 1) := by decide +kernel
theorem dX10_alarm_42 : decode cX10_alarm 42 = .ok (.getfield 33, 3) := by decide +kernel
theorem dX10_alarm_45 : decode cX10_alarm 45 = .ok (.aload_n 0, 1) := by decide +kernel
theorem dX10_alarm_46 : decode cX10_alarm 46 = .ok (.getfield 37, 3) := by decide +kernel
theorem dX10_alarm_49 : decode cX10_alarm 49 = .ok (.aaload, 1) := by decide +kernel
theorem dX10_alarm_50 : decode cX10_alarm 50 = .ok (.astore 4, 2) := by decide +kernel
theorem dX10_alarm_52 : decode cX10_alarm 52 = .ok (.aload 4, 2) := by decide +kernel
theorem dX10_alarm_54 : decode cX10_alarm 54 = .ok (.iload_n 1, 1) := by decide +kernel
theorem dX10_alarm_55 : decode cX10_alarm 55 = .ok (.putfield 163, 3) := by decide +kernel
theorem dX10_alarm_58 : decode cX10_alarm 58 = .ok (.aload 4, 2) := by decide +kernel
theorem dX10_alarm_60 : decode cX10_alarm 60 = .ok (.iload_n 2, 1) := by decide +kernel
theorem dX10_alarm_61 : decode cX10_alarm 61 = .ok (.putfield 164, 3) := by decide +kernel
theorem dX10_alarm_64 : decode cX10_alarm 64 = .ok (.aload 4, 2) := by decide +kernel
theorem dX10_alarm_66 : decode cX10_alarm 66 = .ok (.iload_n 3, 1) := by decide +kernel
theorem dX10_alarm_67 : decode cX10_alarm 67 = .ok (.putfield 165, 3) := by decide +kernel
theorem dX10_alarm_70 : decode cX10_alarm 70 = .ok (.aload_n 0, 1) := by decide +kernel
theorem dX10_alarm_71 : decode cX10_alarm 71 = .ok (.dup, 1) := by decide +kernel
theorem dX10_alarm_72 : decode cX10_alarm 72 = .ok (.getfield 37, 3) := by decide +kernel
theorem dX10_alarm_75 : decode cX10_alarm 75 = .ok (.iconst 1, 1) := by decide +kernel
theorem dX10_alarm_76 : decode cX10_alarm 76 = .ok (.iadd, 1) := by decide +kernel
theorem dX10_alarm_77 : decode cX10_alarm 77 = .ok (.putfield 37, 3) := by decide +kernel
theorem dX10_alarm_80 : decode cX10_alarm 80 = .ok (.aload_n 0, 1) := by decide +kernel
theorem dX10_alarm_81 : decode cX10_alarm 81 = .ok (.getfield 37, 3) := by decide +kernel
theorem dX10_alarm_84 : decode cX10_alarm 84 = .ok (.iconst 1, 1) := by decide +kernel
theorem dX10_alarm_85 : decode cX10_alarm 85 = .ok (.isub, 1) := by decide +kernel
theorem dX10_alarm_86 : decode cX10_alarm 86 = .ok (.ireturn, 1) := by decide +kernel
theorem dX10_ring_0 : decode cX10_ring 0 = .ok (.aload_n 0, 1) := by decide +kernel
theorem dX10_ring_1 : decode cX10_ring 1 = .ok (.bipush 11, 2) := by decide +kernel
theorem dX10_ring_3 : decode cX10_ring 3 = .ok (.invokevirtual 139, 3) := by decide +kernel
theorem dX10_ring_6 : decode cX10_ring 6 = .ok (.aload_n 0, 1) := by decide +kernel
theorem dX10_ring_7 : decode cX10_ring 7 = .ok (.dup, 1) := by decide +kernel
theorem dX10_ring_8 : decode cX10_ring 8 = .ok (.getfield 41, 3) := by decide +kernel
theorem dX10_ring_11 : decode cX10_ring 11 = .ok (.iconst 1, 1) := by decide +kernel
theorem dX10_ring_12 : decode cX10_ring 12 = .ok (.iadd, 1) := by decide +kernel
theorem dX10_ring_13 : decode cX10_ring 13 = .ok (.putfield 41, 3) := by decide +kernel
theorem dX10_ring_16 : decode cX10_ring 16 = .ok (.iconst 0, 1) := by decide +kernel
theorem dX10_ring_17 : decode cX10_ring 17 = .ok (.istore_n 1, 1) := by decide +kernel
theorem dX10_ring_18 : decode cX10_ring 18 = .ok (.iconst 0, 1) := by decide +kernel
theorem dX10_ring_19 : decode cX10_ring 19 = .ok (.istore_n 2, 1) := by decide +kernel
theorem dX10_ring_20 : decode cX10_ring 20 = .ok (.iload_n 2, 1) := by decide +kernel
theorem dX10_ring_21 : decode cX10_ring 21 = .ok (.aload_n 0, 1) := by decide +kernel
theorem dX10_ring_22 : decode cX10_ring 22 = .ok (.getfield 37, 3) := by decide +kernel
theorem dX10_ring_25 : decode cX10_ring 25 = .ok (.if_icmp .ge 49, 3) := by decide +kernel
theorem dX10_ring_28 : decode cX10_ring 28 = .ok (.iload_n 2, 1) := by decide +kernel
theorem dX10_ring_29 : decode cX10_ring 29 = .ok (.bipush 10, 2) := by decide +kernel
theorem dX10_ring_31 : decode cX10_ring 31 = .ok (.if_icmp .ge 43, 3) := by decide +kernel
theorem dX10_ring_34 : decode cX10_ring 34 = .ok (.aload_n 0, 1) := by decide +kernel
theorem dX10_ring_35 : decode cX10_ring 35 = .ok (.getfield 33, 3) := by decide +kernel
theorem dX10_ring_38 : decode cX10_ring 38 = .ok (.iload_n 2, 1) := by decide +kernel
theorem dX10_ring_39 : decode cX10_ring 39 = .ok (.aaload, 1) := by decide +kernel
theorem dX10_ring_40 : decode cX10_ring 40 = .ok (.aload_n 0, 1) := by decide +kernel
theorem dX10_ring_41 : decode cX10_ring 41 = .ok (.aload_n 0, 1) := by decide +kernel
theorem dX10_ring_42 : decode cX10_ring 42 = .ok (.getfield 33, 3) := by decide +kernel
theorem dX10_ring_45 : decode cX10_ring 45 = .ok (.iload_n 2, 1) := by decide +kernel
theorem dX10_ring_46 : decode cX10_ring 46 = .ok (.aaload, 1) := by decide +kernel
theorem dX10_ring_47 : decode cX10_ring 47 = .ok (.invokevirtual 166, 3) := by decide +kernel
theorem dX10_ring_50 : decode cX10_ring 50 = .ok (.invokevirtual 170, 3) := by decide +kernel
theorem dX10_ring_53 : decode cX10_ring 53 = .ok (.iload_n 1, 1) := by decide +kernel
theorem dX10_ring_54 : decode cX10_ring 54 = .ok (.aload_n 0, 1) := by decide +kernel
theorem dX10_ring_55 : decode cX10_ring 55 = .ok (.getfield 33, 3) := by decide +kernel
theorem dX10_ring_58 : decode cX10_ring 58 = .ok (.iload_n 2, 1) := by decide +kernel
theorem dX10_ring_59 : decode cX10_ring 59 = .ok (.aaload, 1) := by decide +kernel
theorem dX10_ring_60 : decode cX10_ring 60 = .ok (.getfield 173, 3) := by decide +kernel
theorem dX10_ring_63 : decode cX10_ring 63 = .ok (.invokestatic 176, 3) := by decide +kernel
theorem dX10_ring_66 : decode cX10_ring 66 = .ok (.iadd, 1) := by decide +kernel
theorem dX10_ring_67 : decode cX10_ring 67 = .ok (.istore_n 1, 1) := by decide +kernel
theorem dX10_ring_68 : decode cX10_ring 68 = .ok (.iinc 2 1, 3) := by decide +kernel
theorem dX10_ring_71 : decode cX10_ring 71 = .ok (.goto (-51), 3) := by decide +kernel
theorem dX10_ring_74 : decode cX10_ring 74 = .ok (.iload_n 1, 1) := by decide +kernel
theorem dX10_ring_75 : decode cX10_ring 75 = .ok (.ireturn, 1) := by decide +kernel
theorem dX10_reading_0 : decode cX10_reading 0 = .ok (.iload_n 1, 1) := by decide +kernel
theorem dX10_reading_1 : decode cX10_reading 1 = .ok (.invokestatic 110, 3) := by decide +kernel
theorem dX10_reading_4 : decode cX10_reading 4 = .ok (.ifCond .eq 10, 3) := by decide +kernel
theorem dX10_reading_7 : decode cX10_reading 7 = .ok (.iload_n 2, 1) := by decide +kernel
theorem dX10_reading_8 : decode cX10_reading 8 = .ok (.invokestatic 60, 3) := by decide +kernel
theorem dX10_reading_11 : decode cX10_reading 11 = .ok (.ifCond .ne 5, 3) := by decide +kernel
theorem dX10_reading_14 : decode cX10_reading 14 = .ok (.dconst 0, 1) := by decide +kernel
theorem dX10_reading_15 : decode cX10_reading 15 = .ok (.dreturn, 1) := by decide +kernel
theorem dX10_reading_16 : decode cX10_reading 16 = .ok (.aload_n 0, 1) := by decide +kernel
theorem dX10_reading_17 : decode cX10_reading 17 = .ok (.iload_n 1, 1) := by decide +kernel
theorem dX10_reading_18 : decode cX10_reading 18 = .ok (.invokevirtual 139, 3) := by decide +kernel
theorem dX10_reading_21 : decode cX10_reading 21 = .ok (.aload_n 0, 1) := by decide +kernel
theorem dX10_reading_22 : decode cX10_reading 22 = .ok (.getfield 11, 3) := by decide +kernel
theorem dX10_reading_25 : decode cX10_reading 25 = .ok (.iload_n 1, 1) := by decide +kernel
theorem dX10_reading_26 : decode cX10_reading 26 = .ok (.aaload, 1) := by decide +kernel
theorem dX10_reading_27 : decode cX10_reading 27 = .ok (.getfield 68, 3) := by decide +kernel
theorem dX10_reading_30 : decode cX10_reading 30 = .ok (.iload_n 2, 1) := by decide +kernel
theorem dX10_reading_31 : decode cX10_reading 31 = .ok (.invokevirtual 182, 3) := by decide +kernel
theorem dX10_reading_34 : decode cX10_reading 34 = .ok (.dreturn, 1) := by decide +kernel
theorem dX10_isBlank_0 : decode cX10_isBlank 0 = .ok (.iload_n 1, 1) := by decide +kernel
theorem dX10_isBlank_1 : decode cX10_isBlank 1 = .ok (.invokestatic 110, 3) := by decide +kernel
theorem dX10_isBlank_4 : decode cX10_isBlank 4 = .ok (.ifCond .eq 10, 3) := by decide +kernel
theorem dX10_isBlank_7 : decode cX10_isBlank 7 = .ok (.iload_n 2, 1) := by decide +kernel
theorem dX10_isBlank_8 : decode cX10_isBlank 8 = .ok (.invokestatic 60, 3) := by decide +kernel
theorem dX10_isBlank_11 : decode cX10_isBlank 11 = .ok (.ifCond .ne 5, 3) := by decide +kernel
theorem dX10_isBlank_14 : decode cX10_isBlank 14 = .ok (.iconst 0, 1) := by decide +kernel
theorem dX10_isBlank_15 : decode cX10_isBlank 15 = .ok (.ireturn, 1) := by decide +kernel
theorem dX10_isBlank_16 : decode cX10_isBlank 16 = .ok (.aload_n 0, 1) := by decide +kernel
theorem dX10_isBlank_17 : decode cX10_isBlank 17 = .ok (.iload_n 1, 1) := by decide +kernel
theorem dX10_isBlank_18 : decode cX10_isBlank 18 = .ok (.invokevirtual 139, 3) := by decide +kernel
theorem dX10_isBlank_21 : decode cX10_isBlank 21 = .ok (.aload_n 0, 1) := by decide +kernel
theorem dX10_isBlank_22 : decode cX10_isBlank 22 = .ok (.getfield 11, 3) := by decide +kernel
theorem dX10_isBlank_25 : decode cX10_isBlank 25 = .ok (.iload_n 1, 1) := by decide +kernel
theorem dX10_isBlank_26 : decode cX10_isBlank 26 = .ok (.aaload, 1) := by decide +kernel
theorem dX10_isBlank_27 : decode cX10_isBlank 27 = .ok (.getfield 68, 3) := by decide +kernel
theorem dX10_isBlank_30 : decode cX10_isBlank 30 = .ok (.iload_n 2, 1) := by decide +kernel
theorem dX10_isBlank_31 : decode cX10_isBlank 31 = .ok (.invokevirtual 185, 3) := by decide +kernel
theorem dX10_isBlank_34 : decode cX10_isBlank 34 = .ok (.ireturn, 1) := by decide +kernel
theorem dX10_isMinus_0 : decode cX10_isMinus 0 = .ok (.iload_n 1, 1) := by decide +kernel
theorem dX10_isMinus_1 : decode cX10_isMinus 1 = .ok (.invokestatic 110, 3) := by decide +kernel
theorem dX10_isMinus_4 : decode cX10_isMinus 4 = .ok (.ifCond .eq 10, 3) := by decide +kernel
theorem dX10_isMinus_7 : decode cX10_isMinus 7 = .ok (.iload_n 2, 1) := by decide +kernel
theorem dX10_isMinus_8 : decode cX10_isMinus 8 = .ok (.invokestatic 60, 3) := by decide +kernel
theorem dX10_isMinus_11 : decode cX10_isMinus 11 = .ok (.ifCond .ne 5, 3) := by decide +kernel
theorem dX10_isMinus_14 : decode cX10_isMinus 14 = .ok (.iconst 0, 1) := by decide +kernel
theorem dX10_isMinus_15 : decode cX10_isMinus 15 = .ok (.ireturn, 1) := by decide +kernel
theorem dX10_isMinus_16 : decode cX10_isMinus 16 = .ok (.aload_n 0, 1) := by decide +kernel
theorem dX10_isMinus_17 : decode cX10_isMinus 17 = .ok (.iload_n 1, 1) := by decide +kernel
theorem dX10_isMinus_18 : decode cX10_isMinus 18 = .ok (.invokevirtual 139, 3) := by decide +kernel
theorem dX10_isMinus_21 : decode cX10_isMinus 21 = .ok (.aload_n 0, 1) := by decide +kernel
theorem dX10_isMinus_22 : decode cX10_isMinus 22 = .ok (.getfield 11, 3) := by decide +kernel
theorem dX10_isMinus_25 : decode cX10_isMinus 25 = .ok (.iload_n 1, 1) := by decide +kernel
theorem dX10_isMinus_26 : decode cX10_isMinus 26 = .ok (.aaload, 1) := by decide +kernel
theorem dX10_isMinus_27 : decode cX10_isMinus 27 = .ok (.getfield 68, 3) := by decide +kernel
theorem dX10_isMinus_30 : decode cX10_isMinus 30 = .ok (.iload_n 2, 1) := by decide +kernel
theorem dX10_isMinus_31 : decode cX10_isMinus 31 = .ok (.invokevirtual 182, 3) := by decide +kernel
theorem dX10_isMinus_34 : decode cX10_isMinus 34 = .ok (.invokestatic 188, 3) := by decide +kernel
theorem dX10_isMinus_37 : decode cX10_isMinus 37 = .ok (.ireturn, 1) := by decide +kernel
theorem dX10_bits_0 : decode cX10_bits 0 = .ok (.iload_n 1, 1) := by decide +kernel
theorem dX10_bits_1 : decode cX10_bits 1 = .ok (.invokestatic 110, 3) := by decide +kernel
theorem dX10_bits_4 : decode cX10_bits 4 = .ok (.ifCond .eq 10, 3) := by decide +kernel
theorem dX10_bits_7 : decode cX10_bits 7 = .ok (.iload_n 2, 1) := by decide +kernel
theorem dX10_bits_8 : decode cX10_bits 8 = .ok (.invokestatic 60, 3) := by decide +kernel
theorem dX10_bits_11 : decode cX10_bits 11 = .ok (.ifCond .ne 5, 3) := by decide +kernel
theorem dX10_bits_14 : decode cX10_bits 14 = .ok (.lconst 0, 1) := by decide +kernel
theorem dX10_bits_15 : decode cX10_bits 15 = .ok (.lreturn, 1) := by decide +kernel
theorem dX10_bits_16 : decode cX10_bits 16 = .ok (.aload_n 0, 1) := by decide +kernel
theorem dX10_bits_17 : decode cX10_bits 17 = .ok (.iload_n 1, 1) := by decide +kernel
theorem dX10_bits_18 : decode cX10_bits 18 = .ok (.invokevirtual 139, 3) := by decide +kernel
theorem dX10_bits_21 : decode cX10_bits 21 = .ok (.aload_n 0, 1) := by decide +kernel
theorem dX10_bits_22 : decode cX10_bits 22 = .ok (.getfield 11, 3) := by decide +kernel
theorem dX10_bits_25 : decode cX10_bits 25 = .ok (.iload_n 1, 1) := by decide +kernel
theorem dX10_bits_26 : decode cX10_bits 26 = .ok (.aaload, 1) := by decide +kernel
theorem dX10_bits_27 : decode cX10_bits 27 = .ok (.getfield 68, 3) := by decide +kernel
theorem dX10_bits_30 : decode cX10_bits 30 = .ok (.iload_n 2, 1) := by decide +kernel
theorem dX10_bits_31 : decode cX10_bits 31 = .ok (.invokevirtual 182, 3) := by decide +kernel
theorem dX10_bits_34 : decode cX10_bits 34 = .ok (.aload_n 0, 1) := by decide +kernel
theorem dX10_bits_35 : decode cX10_bits 35 = .ok (.getfield 11, 3) := by decide +kernel
theorem dX10_bits_38 : decode cX10_bits 38 = .ok (.iload_n 1, 1) := by decide +kernel
theorem dX10_bits_39 : decode cX10_bits 39 = .ok (.aaload, 1) := by decide +kernel
theorem dX10_bits_40 : decode cX10_bits 40 = .ok (.getfield 84, 3) := by decide +kernel
theorem dX10_bits_43 : decode cX10_bits 43 = .ok (.invokestatic 192, 3) := by decide +kernel
theorem dX10_bits_46 : decode cX10_bits 46 = .ok (.lreturn, 1) := by decide +kernel
theorem dX10_compared_0 : decode cX10_compared 0 = .ok (.iload_n 1, 1) := by decide +kernel
theorem dX10_compared_1 : decode cX10_compared 1 = .ok (.invokestatic 110, 3) := by decide +kernel
theorem dX10_compared_4 : decode cX10_compared 4 = .ok (.ifCond .eq 17, 3) := by decide +kernel
theorem dX10_compared_7 : decode cX10_compared 7 = .ok (.iload_n 3, 1) := by decide +kernel
theorem dX10_compared_8 : decode cX10_compared 8 = .ok (.invokestatic 110, 3) := by decide +kernel
theorem dX10_compared_11 : decode cX10_compared 11 = .ok (.ifCond .eq 10, 3) := by decide +kernel
theorem dX10_compared_14 : decode cX10_compared 14 = .ok (.iload_n 2, 1) := by decide +kernel
theorem dX10_compared_15 : decode cX10_compared 15 = .ok (.invokestatic 113, 3) := by decide +kernel
theorem dX10_compared_18 : decode cX10_compared 18 = .ok (.ifCond .ne 5, 3) := by decide +kernel
theorem dX10_compared_21 : decode cX10_compared 21 = .ok (.iconst (-1), 1) := by decide +kernel
theorem dX10_compared_22 : decode cX10_compared 22 = .ok (.ireturn, 1) := by decide +kernel
theorem dX10_compared_23 : decode cX10_compared 23 = .ok (.aload_n 0, 1) := by decide +kernel
theorem dX10_compared_24 : decode cX10_compared 24 = .ok (.iload_n 1, 1) := by decide +kernel
theorem dX10_compared_25 : decode cX10_compared 25 = .ok (.iload_n 3, 1) := by decide +kernel
theorem dX10_compared_26 : decode cX10_compared 26 = .ok (.invokestatic 198, 3) := by decide +kernel
theorem dX10_compared_29 : decode cX10_compared 29 = .ok (.invokevirtual 139, 3) := by decide +kernel
theorem dX10_compared_32 : decode cX10_compared 32 = .ok (.aload_n 0, 1) := by decide +kernel
theorem dX10_compared_33 : decode cX10_compared 33 = .ok (.getfield 11, 3) := by decide +kernel
theorem dX10_compared_36 : decode cX10_compared 36 = .ok (.iload_n 1, 1) := by decide +kernel
theorem dX10_compared_37 : decode cX10_compared 37 = .ok (.aaload, 1) := by decide +kernel
theorem dX10_compared_38 : decode cX10_compared 38 = .ok (.getfield 68, 3) := by decide +kernel
theorem dX10_compared_41 : decode cX10_compared 41 = .ok (.astore 4, 2) := by decide +kernel
theorem dX10_compared_43 : decode cX10_compared 43 = .ok (.aload_n 0, 1) := by decide +kernel
theorem dX10_compared_44 : decode cX10_compared 44 = .ok (.getfield 11, 3) := by decide +kernel
theorem dX10_compared_47 : decode cX10_compared 47 = .ok (.iload_n 3, 1) := by decide +kernel
theorem dX10_compared_48 : decode cX10_compared 48 = .ok (.aaload, 1) := by decide +kernel
theorem dX10_compared_49 : decode cX10_compared 49 = .ok (.getfield 68, 3) := by decide +kernel
theorem dX10_compared_52 : decode cX10_compared 52 = .ok (.astore 5, 2) := by decide +kernel
theorem dX10_compared_54 : decode cX10_compared 54 = .ok (.iconst 0, 1) := by decide +kernel
theorem dX10_compared_55 : decode cX10_compared 55 = .ok (.istore 6, 2) := by decide +kernel
theorem dX10_compared_57 : decode cX10_compared 57 = .ok (.iconst 0, 1) := by decide +kernel
theorem dX10_compared_58 : decode cX10_compared 58 = .ok (.istore 7, 2) := by decide +kernel
theorem dX10_compared_60 : decode cX10_compared 60 = .ok (.iload 7, 2) := by decide +kernel
theorem dX10_compared_62 : decode cX10_compared 62 = .ok (.bipush 16, 2) := by decide +kernel
theorem dX10_compared_64 : decode cX10_compared 64 = .ok (.if_icmp .ge 27, 3) := by decide +kernel
theorem dX10_compared_67 : decode cX10_compared 67 = .ok (.iload_n 2, 1) := by decide +kernel
theorem dX10_compared_68 : decode cX10_compared 68 = .ok (.aload 4, 2) := by decide +kernel
theorem dX10_compared_70 : decode cX10_compared 70 = .ok (.iload 7, 2) := by decide +kernel
theorem dX10_compared_72 : decode cX10_compared 72 = .ok (.aload 5, 2) := by decide +kernel
theorem dX10_compared_74 : decode cX10_compared 74 = .ok (.iload 7, 2) := by decide +kernel
theorem dX10_compared_76 : decode cX10_compared 76 = .ok (.invokestatic 201, 3) := by decide +kernel
theorem dX10_compared_79 : decode cX10_compared 79 = .ok (.ifCond .eq 6, 3) := by decide +kernel
theorem dX10_compared_82 : decode cX10_compared 82 = .ok (.iinc 6 1, 3) := by decide +kernel
theorem dX10_compared_85 : decode cX10_compared 85 = .ok (.iinc 7 1, 3) := by decide +kernel
theorem dX10_compared_88 : decode cX10_compared 88 = .ok (.goto (-28), 3) := by decide +kernel
theorem dX10_compared_91 : decode cX10_compared 91 = .ok (.iload 6, 2) := by decide +kernel
theorem dX10_compared_93 : decode cX10_compared 93 = .ok (.ireturn, 1) := by decide +kernel
theorem dX10_alarmed_0 : decode cX10_alarmed 0 = .ok (.iload_n 1, 1) := by decide +kernel
theorem dX10_alarmed_1 : decode cX10_alarmed 1 = .ok (.ifCond .lt 29, 3) := by decide +kernel
theorem dX10_alarmed_4 : decode cX10_alarmed 4 = .ok (.iload_n 1, 1) := by decide +kernel
theorem dX10_alarmed_5 : decode cX10_alarmed 5 = .ok (.aload_n 0, 1) := by decide +kernel
theorem dX10_alarmed_6 : decode cX10_alarmed 6 = .ok (.getfield 37, 3) := by decide +kernel
theorem dX10_alarmed_9 : decode cX10_alarmed 9 = .ok (.if_icmp .ge 21, 3) := by decide +kernel
theorem dX10_alarmed_12 : decode cX10_alarmed 12 = .ok (.iload_n 1, 1) := by decide +kernel
theorem dX10_alarmed_13 : decode cX10_alarmed 13 = .ok (.bipush 10, 2) := by decide +kernel
theorem dX10_alarmed_15 : decode cX10_alarmed 15 = .ok (.if_icmp .ge 15, 3) := by decide +kernel
theorem dX10_alarmed_18 : decode cX10_alarmed 18 = .ok (.aload_n 0, 1) := by decide +kernel
theorem dX10_alarmed_19 : decode cX10_alarmed 19 = .ok (.getfield 33, 3) := by decide +kernel
theorem dX10_alarmed_22 : decode cX10_alarmed 22 = .ok (.iload_n 1, 1) := by decide +kernel
theorem dX10_alarmed_23 : decode cX10_alarmed 23 = .ok (.aaload, 1) := by decide +kernel
theorem dX10_alarmed_24 : decode cX10_alarmed 24 = .ok (.getfield 207, 3) := by decide +kernel
theorem dX10_alarmed_27 : decode cX10_alarmed 27 = .ok (.ifCond .ne 5, 3) := by decide +kernel
theorem dX10_alarmed_30 : decode cX10_alarmed 30 = .ok (.iconst (-1), 1) := by decide +kernel
theorem dX10_alarmed_31 : decode cX10_alarmed 31 = .ok (.ireturn, 1) := by decide +kernel
theorem dX10_alarmed_32 : decode cX10_alarmed 32 = .ok (.aload_n 0, 1) := by decide +kernel
theorem dX10_alarmed_33 : decode cX10_alarmed 33 = .ok (.getfield 33, 3) := by decide +kernel
theorem dX10_alarmed_36 : decode cX10_alarmed 36 = .ok (.iload_n 1, 1) := by decide +kernel
theorem dX10_alarmed_37 : decode cX10_alarmed 37 = .ok (.aaload, 1) := by decide +kernel
theorem dX10_alarmed_38 : decode cX10_alarmed 38 = .ok (.iload_n 2, 1) := by decide +kernel
theorem dX10_alarmed_39 : decode cX10_alarmed 39 = .ok (.invokevirtual 210, 3) := by decide +kernel
theorem dX10_alarmed_42 : decode cX10_alarmed 42 = .ok (.ireturn, 1) := by decide +kernel
theorem dX10_told_0 : decode cX10_told 0 = .ok (.iload_n 1, 1) := by decide +kernel
theorem dX10_told_1 : decode cX10_told 1 = .ok (.bipush 12, 2) := by decide +kernel
theorem dX10_told_3 : decode cX10_told 3 = .ok (.if_icmp .ne 9, 3) := by decide +kernel
theorem dX10_told_6 : decode cX10_told 6 = .ok (.aload_n 0, 1) := by decide +kernel
theorem dX10_told_7 : decode cX10_told 7 = .ok (.iload_n 2, 1) := by decide +kernel
theorem dX10_told_8 : decode cX10_told 8 = .ok (.invokevirtual 213, 3) := by decide +kernel
theorem dX10_told_11 : decode cX10_told 11 = .ok (.ireturn, 1) := by decide +kernel
theorem dX10_told_12 : decode cX10_told 12 = .ok (.iload_n 1, 1) := by decide +kernel
theorem dX10_told_13 : decode cX10_told 13 = .ok (.invokestatic 110, 3) := by decide +kernel
theorem dX10_told_16 : decode cX10_told 16 = .ok (.ifCond .ne 5, 3) := by decide +kernel
theorem dX10_told_19 : decode cX10_told 19 = .ok (.iconst (-1), 1) := by decide +kernel
theorem dX10_told_20 : decode cX10_told 20 = .ok (.ireturn, 1) := by decide +kernel
theorem dX10_told_21 : decode cX10_told 21 = .ok (.aload_n 0, 1) := by decide +kernel
theorem dX10_told_22 : decode cX10_told 22 = .ok (.iload_n 1, 1) := by decide +kernel
theorem dX10_told_23 : decode cX10_told 23 = .ok (.invokevirtual 139, 3) := by decide +kernel
theorem dX10_told_26 : decode cX10_told 26 = .ok (.aload_n 0, 1) := by decide +kernel
theorem dX10_told_27 : decode cX10_told 27 = .ok (.getfield 11, 3) := by decide +kernel
theorem dX10_told_30 : decode cX10_told 30 = .ok (.iload_n 1, 1) := by decide +kernel
theorem dX10_told_31 : decode cX10_told 31 = .ok (.aaload, 1) := by decide +kernel
theorem dX10_told_32 : decode cX10_told 32 = .ok (.iload_n 2, 1) := by decide +kernel
theorem dX10_told_33 : decode cX10_told 33 = .ok (.invokevirtual 216, 3) := by decide +kernel
theorem dX10_told_36 : decode cX10_told 36 = .ok (.ireturn, 1) := by decide +kernel
theorem dX10_toldOfBook_0 : decode cX10_toldOfBook 0 = .ok (.iload_n 1, 1) := by decide +kernel
theorem dX10_toldOfBook_1 : decode cX10_toldOfBook 1 = .ok (.tableswitch 42 0 2 #[27, 32, 37], 27) := by decide +kernel
theorem dX10_toldOfBook_28 : decode cX10_toldOfBook 28 = .ok (.aload_n 0, 1) := by decide +kernel
theorem dX10_toldOfBook_29 : decode cX10_toldOfBook 29 = .ok (.getfield 48, 3) := by decide +kernel
theorem dX10_toldOfBook_32 : decode cX10_toldOfBook 32 = .ok (.ireturn, 1) := by decide +kernel
theorem dX10_toldOfBook_33 : decode cX10_toldOfBook 33 = .ok (.aload_n 0, 1) := by decide +kernel
theorem dX10_toldOfBook_34 : decode cX10_toldOfBook 34 = .ok (.getfield 37, 3) := by decide +kernel
theorem dX10_toldOfBook_37 : decode cX10_toldOfBook 37 = .ok (.ireturn, 1) := by decide +kernel
theorem dX10_toldOfBook_38 : decode cX10_toldOfBook 38 = .ok (.aload_n 0, 1) := by decide +kernel
theorem dX10_toldOfBook_39 : decode cX10_toldOfBook 39 = .ok (.getfield 41, 3) := by decide +kernel
theorem dX10_toldOfBook_42 : decode cX10_toldOfBook 42 = .ok (.ireturn, 1) := by decide +kernel
theorem dX10_toldOfBook_43 : decode cX10_toldOfBook 43 = .ok (.iconst (-1), 1) := by decide +kernel
theorem dX10_toldOfBook_44 : decode cX10_toldOfBook 44 = .ok (.ireturn, 1) := by decide +kernel
theorem dX10_isColumn_0 : decode cX10_isColumn 0 = .ok (.iload_n 0, 1) := by decide +kernel
theorem dX10_isColumn_1 : decode cX10_isColumn 1 = .ok (.ifCond .lt 13, 3) := by decide +kernel
theorem dX10_isColumn_4 : decode cX10_isColumn 4 = .ok (.iload_n 0, 1) := by decide +kernel
theorem dX10_isColumn_5 : decode cX10_isColumn 5 = .ok (.bipush 12, 2) := by decide +kernel
theorem dX10_isColumn_7 : decode cX10_isColumn 7 = .ok (.if_icmp .ge 7, 3) := by decide +kernel
theorem dX10_isColumn_10 : decode cX10_isColumn 10 = .ok (.iconst 1, 1) := by decide +kernel
theorem dX10_isColumn_11 : decode cX10_isColumn 11 = .ok (.goto 4, 3) := by decide +kernel
theorem dX10_isColumn_14 : decode cX10_isColumn 14 = .ok (.iconst 0, 1) := by decide +kernel
theorem dX10_isColumn_15 : decode cX10_isColumn 15 = .ok (.ireturn, 1) := by decide +kernel
theorem dX10_isPlace_0 : decode cX10_isPlace 0 = .ok (.iload_n 0, 1) := by decide +kernel
theorem dX10_isPlace_1 : decode cX10_isPlace 1 = .ok (.ifCond .lt 13, 3) := by decide +kernel
theorem dX10_isPlace_4 : decode cX10_isPlace 4 = .ok (.iload_n 0, 1) := by decide +kernel
theorem dX10_isPlace_5 : decode cX10_isPlace 5 = .ok (.bipush 16, 2) := by decide +kernel
theorem dX10_isPlace_7 : decode cX10_isPlace 7 = .ok (.if_icmp .ge 7, 3) := by decide +kernel
theorem dX10_isPlace_10 : decode cX10_isPlace 10 = .ok (.iconst 1, 1) := by decide +kernel
theorem dX10_isPlace_11 : decode cX10_isPlace 11 = .ok (.goto 4, 3) := by decide +kernel
theorem dX10_isPlace_14 : decode cX10_isPlace 14 = .ok (.iconst 0, 1) := by decide +kernel
theorem dX10_isPlace_15 : decode cX10_isPlace 15 = .ok (.ireturn, 1) := by decide +kernel
theorem dX10_isConstant_0 : decode cX10_isConstant 0 = .ok (.iload_n 0, 1) := by decide +kernel
theorem dX10_isConstant_1 : decode cX10_isConstant 1 = .ok (.ifCond .lt 13, 3) := by decide +kernel
theorem dX10_isConstant_4 : decode cX10_isConstant 4 = .ok (.iload_n 0, 1) := by decide +kernel
theorem dX10_isConstant_5 : decode cX10_isConstant 5 = .ok (.bipush 8, 2) := by decide +kernel
theorem dX10_isConstant_7 : decode cX10_isConstant 7 = .ok (.if_icmp .ge 7, 3) := by decide +kernel
theorem dX10_isConstant_10 : decode cX10_isConstant 10 = .ok (.iconst 1, 1) := by decide +kernel
theorem dX10_isConstant_11 : decode cX10_isConstant 11 = .ok (.goto 4, 3) := by decide +kernel
theorem dX10_isConstant_14 : decode cX10_isConstant 14 = .ok (.iconst 0, 1) := by decide +kernel
theorem dX10_isConstant_15 : decode cX10_isConstant 15 = .ok (.ireturn, 1) := by decide +kernel
theorem dX10_isConstantSource_0 : decode cX10_isConstantSource 0 = .ok (.iload_n 0, 1) := by decide +kernel
theorem dX10_isConstantSource_1 : decode cX10_isConstantSource 1 = .ok (.bipush 16, 2) := by decide +kernel
theorem dX10_isConstantSource_3 : decode cX10_isConstantSource 3 = .ok (.if_icmp .lt 13, 3) := by decide +kernel
theorem dX10_isConstantSource_6 : decode cX10_isConstantSource 6 = .ok (.iload_n 0, 1) := by decide +kernel
theorem dX10_isConstantSource_7 : decode cX10_isConstantSource 7 = .ok (.bipush 24, 2) := by decide +kernel
theorem dX10_isConstantSource_9 : decode cX10_isConstantSource 9 = .ok (.if_icmp .ge 7, 3) := by decide +kernel
theorem dX10_isConstantSource_12 : decode cX10_isConstantSource 12 = .ok (.iconst 1, 1) := by decide +kernel
theorem dX10_isConstantSource_13 : decode cX10_isConstantSource 13 = .ok (.goto 4, 3) := by decide +kernel
theorem dX10_isConstantSource_16 : decode cX10_isConstantSource 16 = .ok (.iconst 0, 1) := by decide +kernel
theorem dX10_isConstantSource_17 : decode cX10_isConstantSource 17 = .ok (.ireturn, 1) := by decide +kernel
theorem dX10_isComparison_0 : decode cX10_isComparison 0 = .ok (.iload_n 0, 1) := by decide +kernel
theorem dX10_isComparison_1 : decode cX10_isComparison 1 = .ok (.ifCond .lt 13, 3) := by decide +kernel
theorem dX10_isComparison_4 : decode cX10_isComparison 4 = .ok (.iload_n 0, 1) := by decide +kernel
theorem dX10_isComparison_5 : decode cX10_isComparison 5 = .ok (.bipush 12, 2) := by decide +kernel
theorem dX10_isComparison_7 : decode cX10_isComparison 7 = .ok (.if_icmp .ge 7, 3) := by decide +kernel
theorem dX10_isComparison_10 : decode cX10_isComparison 10 = .ok (.iconst 1, 1) := by decide +kernel
theorem dX10_isComparison_11 : decode cX10_isComparison 11 = .ok (.goto 4, 3) := by decide +kernel
theorem dX10_isComparison_14 : decode cX10_isComparison 14 = .ok (.iconst 0, 1) := by decide +kernel
theorem dX10_isComparison_15 : decode cX10_isComparison 15 = .ok (.ireturn, 1) := by decide +kernel
theorem dX10_isSpecial_0 : decode cX10_isSpecial 0 = .ok (.iload_n 0, 1) := by decide +kernel
theorem dX10_isSpecial_1 : decode cX10_isSpecial 1 = .ok (.ifCond .lt 13, 3) := by decide +kernel
theorem dX10_isSpecial_4 : decode cX10_isSpecial 4 = .ok (.iload_n 0, 1) := by decide +kernel
theorem dX10_isSpecial_5 : decode cX10_isSpecial 5 = .ok (.bipush 6, 2) := by decide +kernel
theorem dX10_isSpecial_7 : decode cX10_isSpecial 7 = .ok (.if_icmp .ge 7, 3) := by decide +kernel
theorem dX10_isSpecial_10 : decode cX10_isSpecial 10 = .ok (.iconst 1, 1) := by decide +kernel
theorem dX10_isSpecial_11 : decode cX10_isSpecial 11 = .ok (.goto 4, 3) := by decide +kernel
theorem dX10_isSpecial_14 : decode cX10_isSpecial 14 = .ok (.iconst 0, 1) := by decide +kernel
theorem dX10_isSpecial_15 : decode cX10_isSpecial 15 = .ok (.ireturn, 1) := by decide +kernel
theorem dX10_isPower_0 : decode cX10_isPower 0 = .ok (.iload_n 0, 1) := by decide +kernel
theorem dX10_isPower_1 : decode cX10_isPower 1 = .ok (.sipush (-1000), 3) := by decide +kernel
theorem dX10_isPower_4 : decode cX10_isPower 4 = .ok (.if_icmp .lt 14, 3) := by decide +kernel
theorem dX10_isPower_7 : decode cX10_isPower 7 = .ok (.iload_n 0, 1) := by decide +kernel
theorem dX10_isPower_8 : decode cX10_isPower 8 = .ok (.sipush 900, 3) := by decide +kernel
theorem dX10_isPower_11 : decode cX10_isPower 11 = .ok (.if_icmp .gt 7, 3) := by decide +kernel
theorem dX10_isPower_14 : decode cX10_isPower 14 = .ok (.iconst 1, 1) := by decide +kernel
theorem dX10_isPower_15 : decode cX10_isPower 15 = .ok (.goto 4, 3) := by decide +kernel
theorem dX10_isPower_18 : decode cX10_isPower 18 = .ok (.iconst 0, 1) := by decide +kernel
theorem dX10_isPower_19 : decode cX10_isPower 19 = .ok (.ireturn, 1) := by decide +kernel
theorem dX10_hasRoom_0 : decode cX10_hasRoom 0 = .ok (.aload_n 0, 1) := by decide +kernel
theorem dX10_hasRoom_1 : decode cX10_hasRoom 1 = .ok (.getfield 48, 3) := by decide +kernel
theorem dX10_hasRoom_4 : decode cX10_hasRoom 4 = .ok (.sipush 512, 3) := by decide +kernel
theorem dX10_hasRoom_7 : decode cX10_hasRoom 7 = .ok (.if_icmp .ge 7, 3) := by decide +kernel
theorem dX10_hasRoom_10 : decode cX10_hasRoom 10 = .ok (.iconst 1, 1) := by decide +kernel
theorem dX10_hasRoom_11 : decode cX10_hasRoom 11 = .ok (.goto 4, 3) := by decide +kernel
theorem dX10_hasRoom_14 : decode cX10_hasRoom 14 = .ok (.iconst 0, 1) := by decide +kernel
theorem dX10_hasRoom_15 : decode cX10_hasRoom 15 = .ok (.ireturn, 1) := by decide +kernel
theorem dX10_takesReadings_0 : decode cX10_takesReadings 0 = .ok (.iload_n 1, 1) := by decide +kernel
theorem dX10_takesReadings_1 : decode cX10_takesReadings 1 = .ok (.invokestatic 110, 3) := by decide +kernel
theorem dX10_takesReadings_4 : decode cX10_takesReadings 4 = .ok (.ifCond .eq 26, 3) := by decide +kernel
theorem dX10_takesReadings_7 : decode cX10_takesReadings 7 = .ok (.aload_n 0, 1) := by decide +kernel
theorem dX10_takesReadings_8 : decode cX10_takesReadings 8 = .ok (.getfield 11, 3) := by decide +kernel
theorem dX10_takesReadings_11 : decode cX10_takesReadings 11 = .ok (.iload_n 1, 1) := by decide +kernel
theorem dX10_takesReadings_12 : decode cX10_takesReadings 12 = .ok (.aaload, 1) := by decide +kernel
theorem dX10_takesReadings_13 : decode cX10_takesReadings 13 = .ok (.invokevirtual 136, 3) := by decide +kernel
theorem dX10_takesReadings_16 : decode cX10_takesReadings 16 = .ok (.ifCond .ne 14, 3) := by decide +kernel
theorem dX10_takesReadings_19 : decode cX10_takesReadings 19 = .ok (.aload_n 0, 1) := by decide +kernel
theorem dX10_takesReadings_20 : decode cX10_takesReadings 20 = .ok (.invokevirtual 106, 3) := by decide +kernel
theorem dX10_takesReadings_23 : decode cX10_takesReadings 23 = .ok (.ifCond .eq 7, 3) := by decide +kernel
theorem dX10_takesReadings_26 : decode cX10_takesReadings 26 = .ok (.iconst 1, 1) := by decide +kernel
theorem dX10_takesReadings_27 : decode cX10_takesReadings 27 = .ok (.goto 4, 3) := by decide +kernel
theorem dX10_takesReadings_30 : decode cX10_takesReadings 30 = .ok (.iconst 0, 1) := by decide +kernel
theorem dX10_takesReadings_31 : decode cX10_takesReadings 31 = .ok (.ireturn, 1) := by decide +kernel
theorem dX10_remember_0 : decode cX10_remember 0 = .ok (.aload_n 0, 1) := by decide +kernel
theorem dX10_remember_1 : decode cX10_remember 1 = .ok (.aload_n 1, 1) := by decide +kernel
theorem dX10_remember_2 : decode cX10_remember 2 = .ok (.putfield 44, 3) := by decide +kernel
theorem dX10_remember_5 : decode cX10_remember 5 = .ok (.aload_n 0, 1) := by decide +kernel
theorem dX10_remember_6 : decode cX10_remember 6 = .ok (.dup, 1) := by decide +kernel
theorem dX10_remember_7 : decode cX10_remember 7 = .ok (.getfield 48, 3) := by decide +kernel
theorem dX10_remember_10 : decode cX10_remember 10 = .ok (.iconst 1, 1) := by decide +kernel
theorem dX10_remember_11 : decode cX10_remember 11 = .ok (.iadd, 1) := by decide +kernel
theorem dX10_remember_12 : decode cX10_remember 12 = .ok (.putfield 48, 3) := by decide +kernel
theorem dX10_remember_15 : decode cX10_remember 15 = .ok (.aload_n 0, 1) := by decide +kernel
theorem dX10_remember_16 : decode cX10_remember 16 = .ok (.aload_n 0, 1) := by decide +kernel
theorem dX10_remember_17 : decode cX10_remember 17 = .ok (.getfield 51, 3) := by decide +kernel
theorem dX10_remember_20 : decode cX10_remember 20 = .ok (.aload_n 1, 1) := by decide +kernel
theorem dX10_remember_21 : decode cX10_remember 21 = .ok (.getfield 151, 3) := by decide +kernel
theorem dX10_remember_24 : decode cX10_remember 24 = .ok (.invokestatic 154, 3) := by decide +kernel
theorem dX10_remember_27 : decode cX10_remember 27 = .ok (.putfield 51, 3) := by decide +kernel
theorem dX10_remember_30 : decode cX10_remember 30 = .ok (.return_, 1) := by decide +kernel
theorem dX10_refresh_0 : decode cX10_refresh 0 = .ok (.aload_n 0, 1) := by decide +kernel
theorem dX10_refresh_1 : decode cX10_refresh 1 = .ok (.getfield 51, 3) := by decide +kernel
theorem dX10_refresh_4 : decode cX10_refresh 4 = .ok (.iconst 0, 1) := by decide +kernel
theorem dX10_refresh_5 : decode cX10_refresh 5 = .ok (.invokestatic 198, 3) := by decide +kernel
theorem dX10_refresh_8 : decode cX10_refresh 8 = .ok (.istore_n 2, 1) := by decide +kernel
theorem dX10_refresh_9 : decode cX10_refresh 9 = .ok (.iload_n 2, 1) := by decide +kernel
theorem dX10_refresh_10 : decode cX10_refresh 10 = .ok (.iload_n 1, 1) := by decide +kernel
theorem dX10_refresh_11 : decode cX10_refresh 11 = .ok (.if_icmp .gt 57, 3) := by decide +kernel
theorem dX10_refresh_14 : decode cX10_refresh 14 = .ok (.iload_n 2, 1) := by decide +kernel
theorem dX10_refresh_15 : decode cX10_refresh 15 = .ok (.bipush 12, 2) := by decide +kernel
theorem dX10_refresh_17 : decode cX10_refresh 17 = .ok (.if_icmp .ge 51, 3) := by decide +kernel
theorem dX10_refresh_20 : decode cX10_refresh 20 = .ok (.aload_n 0, 1) := by decide +kernel
theorem dX10_refresh_21 : decode cX10_refresh 21 = .ok (.getfield 11, 3) := by decide +kernel
theorem dX10_refresh_24 : decode cX10_refresh 24 = .ok (.iload_n 2, 1) := by decide +kernel
theorem dX10_refresh_25 : decode cX10_refresh 25 = .ok (.aaload, 1) := by decide +kernel
theorem dX10_refresh_26 : decode cX10_refresh 26 = .ok (.invokevirtual 136, 3) := by decide +kernel
theorem dX10_refresh_29 : decode cX10_refresh 29 = .ok (.ifCond .eq 26, 3) := by decide +kernel
theorem dX10_refresh_32 : decode cX10_refresh 32 = .ok (.aload_n 0, 1) := by decide +kernel
theorem dX10_refresh_33 : decode cX10_refresh 33 = .ok (.aload_n 0, 1) := by decide +kernel
theorem dX10_refresh_34 : decode cX10_refresh 34 = .ok (.getfield 11, 3) := by decide +kernel
theorem dX10_refresh_37 : decode cX10_refresh 37 = .ok (.iload_n 2, 1) := by decide +kernel
theorem dX10_refresh_38 : decode cX10_refresh 38 = .ok (.aaload, 1) := by decide +kernel
theorem dX10_refresh_39 : decode cX10_refresh 39 = .ok (.invokevirtual 217, 3) := by decide +kernel
theorem dX10_refresh_42 : decode cX10_refresh 42 = .ok (.aload_n 0, 1) := by decide +kernel
theorem dX10_refresh_43 : decode cX10_refresh 43 = .ok (.getfield 27, 3) := by decide +kernel
theorem dX10_refresh_46 : decode cX10_refresh 46 = .ok (.aload_n 0, 1) := by decide +kernel
theorem dX10_refresh_47 : decode cX10_refresh 47 = .ok (.getfield 11, 3) := by decide +kernel
theorem dX10_refresh_50 : decode cX10_refresh 50 = .ok (.iload_n 2, 1) := by decide +kernel
theorem dX10_refresh_51 : decode cX10_refresh 51 = .ok (.aaload, 1) := by decide +kernel
theorem dX10_refresh_52 : decode cX10_refresh 52 = .ok (.invokevirtual 221, 3) := by decide +kernel
theorem dX10_refresh_55 : decode cX10_refresh 55 = .ok (.aload_n 0, 1) := by decide +kernel
theorem dX10_refresh_56 : decode cX10_refresh 56 = .ok (.iload_n 2, 1) := by decide +kernel
theorem dX10_refresh_57 : decode cX10_refresh 57 = .ok (.iconst 1, 1) := by decide +kernel
theorem dX10_refresh_58 : decode cX10_refresh 58 = .ok (.iadd, 1) := by decide +kernel
theorem dX10_refresh_59 : decode cX10_refresh 59 = .ok (.putfield 51, 3) := by decide +kernel
theorem dX10_refresh_62 : decode cX10_refresh 62 = .ok (.iinc 2 1, 3) := by decide +kernel
theorem dX10_refresh_65 : decode cX10_refresh 65 = .ok (.goto (-56), 3) := by decide +kernel
theorem dX10_refresh_68 : decode cX10_refresh 68 = .ok (.return_, 1) := by decide +kernel
theorem dX10_load_0 : decode cX10_load 0 = .ok (.aload_n 0, 1) := by decide +kernel
theorem dX10_load_1 : decode cX10_load 1 = .ok (.getfield 11, 3) := by decide +kernel
theorem dX10_load_4 : decode cX10_load 4 = .ok (.aload_n 1, 1) := by decide +kernel
theorem dX10_load_5 : decode cX10_load 5 = .ok (.getfield 127, 3) := by decide +kernel
theorem dX10_load_8 : decode cX10_load 8 = .ok (.aaload, 1) := by decide +kernel
theorem dX10_load_9 : decode cX10_load 9 = .ok (.getfield 68, 3) := by decide +kernel
theorem dX10_load_12 : decode cX10_load 12 = .ok (.astore_n 2, 1) := by decide +kernel
theorem dX10_load_13 : decode cX10_load 13 = .ok (.aload_n 0, 1) := by decide +kernel
theorem dX10_load_14 : decode cX10_load 14 = .ok (.aload_n 1, 1) := by decide +kernel
theorem dX10_load_15 : decode cX10_load 15 = .ok (.getfield 130, 3) := by decide +kernel
theorem dX10_load_18 : decode cX10_load 18 = .ok (.invokevirtual 224, 3) := by decide +kernel
theorem dX10_load_21 : decode cX10_load 21 = .ok (.astore_n 3, 1) := by decide +kernel
theorem dX10_load_22 : decode cX10_load 22 = .ok (.iconst 0, 1) := by decide +kernel
theorem dX10_load_23 : decode cX10_load 23 = .ok (.istore 4, 2) := by decide +kernel
theorem dX10_load_25 : decode cX10_load 25 = .ok (.iload 4, 2) := by decide +kernel
theorem dX10_load_27 : decode cX10_load 27 = .ok (.bipush 16, 2) := by decide +kernel
theorem dX10_load_29 : decode cX10_load 29 = .ok (.if_icmp .ge 54, 3) := by decide +kernel
theorem dX10_load_32 : decode cX10_load 32 = .ok (.aload_n 0, 1) := by decide +kernel
theorem dX10_load_33 : decode cX10_load 33 = .ok (.getfield 27, 3) := by decide +kernel
theorem dX10_load_36 : decode cX10_load 36 = .ok (.getfield 228, 3) := by decide +kernel
theorem dX10_load_39 : decode cX10_load 39 = .ok (.iload 4, 2) := by decide +kernel
theorem dX10_load_41 : decode cX10_load 41 = .ok (.aload_n 2, 1) := by decide +kernel
theorem dX10_load_42 : decode cX10_load 42 = .ok (.iload 4, 2) := by decide +kernel
theorem dX10_load_44 : decode cX10_load 44 = .ok (.aload_n 1, 1) := by decide +kernel
theorem dX10_load_45 : decode cX10_load 45 = .ok (.getfield 84, 3) := by decide +kernel
theorem dX10_load_48 : decode cX10_load 48 = .ok (.invokevirtual 142, 3) := by decide +kernel
theorem dX10_load_51 : decode cX10_load 51 = .ok (.aload_n 0, 1) := by decide +kernel
theorem dX10_load_52 : decode cX10_load 52 = .ok (.getfield 27, 3) := by decide +kernel
theorem dX10_load_55 : decode cX10_load 55 = .ok (.getfield 231, 3) := by decide +kernel
theorem dX10_load_58 : decode cX10_load 58 = .ok (.iload 4, 2) := by decide +kernel
theorem dX10_load_60 : decode cX10_load 60 = .ok (.aload_n 3, 1) := by decide +kernel
theorem dX10_load_61 : decode cX10_load 61 = .ok (.aload_n 1, 1) := by decide +kernel
theorem dX10_load_62 : decode cX10_load 62 = .ok (.getfield 130, 3) := by decide +kernel
theorem dX10_load_65 : decode cX10_load 65 = .ok (.iload 4, 2) := by decide +kernel
theorem dX10_load_67 : decode cX10_load 67 = .ok (.invokestatic 234, 3) := by decide +kernel
theorem dX10_load_70 : decode cX10_load 70 = .ok (.aload_n 1, 1) := by decide +kernel
theorem dX10_load_71 : decode cX10_load 71 = .ok (.getfield 84, 3) := by decide +kernel
theorem dX10_load_74 : decode cX10_load 74 = .ok (.invokevirtual 142, 3) := by decide +kernel
theorem dX10_load_77 : decode cX10_load 77 = .ok (.iinc 4 1, 3) := by decide +kernel
theorem dX10_load_80 : decode cX10_load 80 = .ok (.goto (-55), 3) := by decide +kernel
theorem dX10_load_83 : decode cX10_load 83 = .ok (.return_, 1) := by decide +kernel
theorem dX10_sourceOf_0 : decode cX10_sourceOf 0 = .ok (.iload_n 1, 1) := by decide +kernel
theorem dX10_sourceOf_1 : decode cX10_sourceOf 1 = .ok (.invokestatic 116, 3) := by decide +kernel
theorem dX10_sourceOf_4 : decode cX10_sourceOf 4 = .ok (.ifCond .eq 10, 3) := by decide +kernel
theorem dX10_sourceOf_7 : decode cX10_sourceOf 7 = .ok (.aload_n 0, 1) := by decide +kernel
theorem dX10_sourceOf_8 : decode cX10_sourceOf 8 = .ok (.getfield 20, 3) := by decide +kernel
theorem dX10_sourceOf_11 : decode cX10_sourceOf 11 = .ok (.goto 12, 3) := by decide +kernel
theorem dX10_sourceOf_14 : decode cX10_sourceOf 14 = .ok (.aload_n 0, 1) := by decide +kernel
theorem dX10_sourceOf_15 : decode cX10_sourceOf 15 = .ok (.getfield 11, 3) := by decide +kernel
theorem dX10_sourceOf_18 : decode cX10_sourceOf 18 = .ok (.iload_n 1, 1) := by decide +kernel
theorem dX10_sourceOf_19 : decode cX10_sourceOf 19 = .ok (.aaload, 1) := by decide +kernel
theorem dX10_sourceOf_20 : decode cX10_sourceOf 20 = .ok (.getfield 68, 3) := by decide +kernel
theorem dX10_sourceOf_23 : decode cX10_sourceOf 23 = .ok (.areturn, 1) := by decide +kernel
theorem dX10_placeIn_0 : decode cX10_placeIn 0 = .ok (.iload_n 0, 1) := by decide +kernel
theorem dX10_placeIn_1 : decode cX10_placeIn 1 = .ok (.invokestatic 116, 3) := by decide +kernel
theorem dX10_placeIn_4 : decode cX10_placeIn 4 = .ok (.ifCond .eq 10, 3) := by decide +kernel
theorem dX10_placeIn_7 : decode cX10_placeIn 7 = .ok (.iload_n 0, 1) := by decide +kernel
theorem dX10_placeIn_8 : decode cX10_placeIn 8 = .ok (.bipush 16, 2) := by decide +kernel
theorem dX10_placeIn_10 : decode cX10_placeIn 10 = .ok (.isub, 1) := by decide +kernel
theorem dX10_placeIn_11 : decode cX10_placeIn 11 = .ok (.goto 4, 3) := by decide +kernel
theorem dX10_placeIn_14 : decode cX10_placeIn 14 = .ok (.iload_n 1, 1) := by decide +kernel
theorem dX10_placeIn_15 : decode cX10_placeIn 15 = .ok (.ireturn, 1) := by decide +kernel
theorem dX10_placesWhere_0 : decode cX10_placesWhere 0 = .ok (.aload_n 0, 1) := by decide +kernel
theorem dX10_placesWhere_1 : decode cX10_placesWhere 1 = .ok (.getfield 11, 3) := by decide +kernel
theorem dX10_placesWhere_4 : decode cX10_placesWhere 4 = .ok (.aload_n 1, 1) := by decide +kernel
theorem dX10_placesWhere_5 : decode cX10_placesWhere 5 = .ok (.getfield 163, 3) := by decide +kernel
theorem dX10_placesWhere_8 : decode cX10_placesWhere 8 = .ok (.aaload, 1) := by decide +kernel
theorem dX10_placesWhere_9 : decode cX10_placesWhere 9 = .ok (.getfield 68, 3) := by decide +kernel
theorem dX10_placesWhere_12 : decode cX10_placesWhere 12 = .ok (.astore_n 2, 1) := by decide +kernel
theorem dX10_placesWhere_13 : decode cX10_placesWhere 13 = .ok (.aload_n 0, 1) := by decide +kernel
theorem dX10_placesWhere_14 : decode cX10_placesWhere 14 = .ok (.aload_n 1, 1) := by decide +kernel
theorem dX10_placesWhere_15 : decode cX10_placesWhere 15 = .ok (.getfield 165, 3) := by decide +kernel
theorem dX10_placesWhere_18 : decode cX10_placesWhere 18 = .ok (.invokevirtual 224, 3) := by decide +kernel
theorem dX10_placesWhere_21 : decode cX10_placesWhere 21 = .ok (.astore_n 3, 1) := by decide +kernel
theorem dX10_placesWhere_22 : decode cX10_placesWhere 22 = .ok (.iconst 0, 1) := by decide +kernel
theorem dX10_placesWhere_23 : decode cX10_placesWhere 23 = .ok (.istore 4, 2) := by decide +kernel
theorem dX10_placesWhere_25 : decode cX10_placesWhere 25 = .ok (.iconst 0, 1) := by decide +kernel
theorem dX10_placesWhere_26 : decode cX10_placesWhere 26 = .ok (.istore 5, 2) := by decide +kernel
theorem dX10_placesWhere_28 : decode cX10_placesWhere 28 = .ok (.iload 5, 2) := by decide +kernel
theorem dX10_placesWhere_30 : decode cX10_placesWhere 30 = .ok (.bipush 16, 2) := by decide +kernel
theorem dX10_placesWhere_32 : decode cX10_placesWhere 32 = .ok (.if_icmp .ge 41, 3) := by decide +kernel
theorem dX10_placesWhere_35 : decode cX10_placesWhere 35 = .ok (.aload_n 1, 1) := by decide +kernel
theorem dX10_placesWhere_36 : decode cX10_placesWhere 36 = .ok (.getfield 164, 3) := by decide +kernel
theorem dX10_placesWhere_39 : decode cX10_placesWhere 39 = .ok (.aload_n 2, 1) := by decide +kernel
theorem dX10_placesWhere_40 : decode cX10_placesWhere 40 = .ok (.iload 5, 2) := by decide +kernel
theorem dX10_placesWhere_42 : decode cX10_placesWhere 42 = .ok (.aload_n 3, 1) := by decide +kernel
theorem dX10_placesWhere_43 : decode cX10_placesWhere 43 = .ok (.aload_n 1, 1) := by decide +kernel
theorem dX10_placesWhere_44 : decode cX10_placesWhere 44 = .ok (.getfield 165, 3) := by decide +kernel
theorem dX10_placesWhere_47 : decode cX10_placesWhere 47 = .ok (.iload 5, 2) := by decide +kernel
theorem dX10_placesWhere_49 : decode cX10_placesWhere 49 = .ok (.invokestatic 234, 3) := by decide +kernel
theorem dX10_placesWhere_52 : decode cX10_placesWhere 52 = .ok (.invokestatic 201, 3) := by decide +kernel
theorem dX10_placesWhere_55 : decode cX10_placesWhere 55 = .ok (.ifCond .eq 12, 3) := by decide +kernel
theorem dX10_placesWhere_58 : decode cX10_placesWhere 58 = .ok (.iload 4, 2) := by decide +kernel
theorem dX10_placesWhere_60 : decode cX10_placesWhere 60 = .ok (.iconst 1, 1) := by decide +kernel
theorem dX10_placesWhere_61 : decode cX10_placesWhere 61 = .ok (.iload 5, 2) := by decide +kernel
theorem dX10_placesWhere_63 : decode cX10_placesWhere 63 = .ok (.ishl, 1) := by decide +kernel
theorem dX10_placesWhere_64 : decode cX10_placesWhere 64 = .ok (.ior, 1) := by decide +kernel
theorem dX10_placesWhere_65 : decode cX10_placesWhere 65 = .ok (.istore 4, 2) := by decide +kernel
theorem dX10_placesWhere_67 : decode cX10_placesWhere 67 = .ok (.iinc 5 1, 3) := by decide +kernel
theorem dX10_placesWhere_70 : decode cX10_placesWhere 70 = .ok (.goto (-42), 3) := by decide +kernel
theorem dX10_placesWhere_73 : decode cX10_placesWhere 73 = .ok (.iload 4, 2) := by decide +kernel
theorem dX10_placesWhere_75 : decode cX10_placesWhere 75 = .ok (.ireturn, 1) := by decide +kernel
theorem dX11_init_0 : decode cX11_init 0 = .ok (.aload_n 0, 1) := by decide +kernel
theorem dX11_init_1 : decode cX11_init 1 = .ok (.invokespecial 3, 3) := by decide +kernel
theorem dX11_init_4 : decode cX11_init 4 = .ok (.aload_n 0, 1) := by decide +kernel
theorem dX11_init_5 : decode cX11_init 5 = .ok (.sipush 200, 3) := by decide +kernel
theorem dX11_init_8 : decode cX11_init 8 = .ok (.newarray .double, 2) := by decide +kernel
theorem dX11_init_10 : decode cX11_init 10 = .ok (.putfield 9, 3) := by decide +kernel
theorem dX11_init_13 : decode cX11_init 13 = .ok (.aload_n 0, 1) := by decide +kernel
theorem dX11_init_14 : decode cX11_init 14 = .ok (.sipush 200, 3) := by decide +kernel
theorem dX11_init_17 : decode cX11_init 17 = .ok (.newarray .boolean, 2) := by decide +kernel
theorem dX11_init_19 : decode cX11_init 19 = .ok (.putfield 15, 3) := by decide +kernel
theorem dX11_init_22 : decode cX11_init 22 = .ok (.aload_n 0, 1) := by decide +kernel
theorem dX11_init_23 : decode cX11_init 23 = .ok (.bipush 12, 2) := by decide +kernel
theorem dX11_init_25 : decode cX11_init 25 = .ok (.newarray .boolean, 2) := by decide +kernel
theorem dX11_init_27 : decode cX11_init 27 = .ok (.putfield 19, 3) := by decide +kernel
theorem dX11_init_30 : decode cX11_init 30 = .ok (.aload_n 0, 1) := by decide +kernel
theorem dX11_init_31 : decode cX11_init 31 = .ok (.bipush 48, 2) := by decide +kernel
theorem dX11_init_33 : decode cX11_init 33 = .ok (.newarray .int, 2) := by decide +kernel
theorem dX11_init_35 : decode cX11_init 35 = .ok (.putfield 22, 3) := by decide +kernel
theorem dX11_init_38 : decode cX11_init 38 = .ok (.aload_n 0, 1) := by decide +kernel
theorem dX11_init_39 : decode cX11_init 39 = .ok (.sipush 200, 3) := by decide +kernel
theorem dX11_init_42 : decode cX11_init 42 = .ok (.newarray .double, 2) := by decide +kernel
theorem dX11_init_44 : decode cX11_init 44 = .ok (.putfield 26, 3) := by decide +kernel
theorem dX11_init_47 : decode cX11_init 47 = .ok (.aload_n 0, 1) := by decide +kernel
theorem dX11_init_48 : decode cX11_init 48 = .ok (.sipush 200, 3) := by decide +kernel
theorem dX11_init_51 : decode cX11_init 51 = .ok (.newarray .boolean, 2) := by decide +kernel
theorem dX11_init_53 : decode cX11_init 53 = .ok (.putfield 29, 3) := by decide +kernel
theorem dX11_init_56 : decode cX11_init 56 = .ok (.aload_n 0, 1) := by decide +kernel
theorem dX11_init_57 : decode cX11_init 57 = .ok (.ldc 32, 2) := by decide +kernel
theorem dX11_init_59 : decode cX11_init 59 = .ok (.newarray .double, 2) := by decide +kernel
theorem dX11_init_61 : decode cX11_init 61 = .ok (.putfield 33, 3) := by decide +kernel
theorem dX11_init_64 : decode cX11_init 64 = .ok (.aload_n 0, 1) := by decide +kernel
theorem dX11_init_65 : decode cX11_init 65 = .ok (.ldc 32, 2) := by decide +kernel
theorem dX11_init_67 : decode cX11_init 67 = .ok (.newarray .boolean, 2) := by decide +kernel
theorem dX11_init_69 : decode cX11_init 69 = .ok (.putfield 36, 3) := by decide +kernel
theorem dX11_init_72 : decode cX11_init 72 = .ok (.aload_n 0, 1) := by decide +kernel
theorem dX11_init_73 : decode cX11_init 73 = .ok (.sipush 6144, 3) := by decide +kernel
theorem dX11_init_76 : decode cX11_init 76 = .ok (.newarray .boolean, 2) := by decide +kernel
theorem dX11_init_78 : decode cX11_init 78 = .ok (.putfield 39, 3) := by decide +kernel
theorem dX11_init_81 : decode cX11_init 81 = .ok (.aload_n 0, 1) := by decide +kernel
theorem dX11_init_82 : decode cX11_init 82 = .ok (.sipush 24576, 3) := by decide +kernel
theorem dX11_init_85 : decode cX11_init 85 = .ok (.newarray .int, 2) := by decide +kernel
theorem dX11_init_87 : decode cX11_init 87 = .ok (.putfield 42, 3) := by decide +kernel
theorem dX11_init_90 : decode cX11_init 90 = .ok (.aload_n 0, 1) := by decide +kernel
theorem dX11_init_91 : decode cX11_init 91 = .ok (.bipush 30, 2) := by decide +kernel
theorem dX11_init_93 : decode cX11_init 93 = .ok (.newarray .int, 2) := by decide +kernel
theorem dX11_init_95 : decode cX11_init 95 = .ok (.putfield 45, 3) := by decide +kernel
theorem dX11_init_98 : decode cX11_init 98 = .ok (.aload_n 0, 1) := by decide +kernel
theorem dX11_init_99 : decode cX11_init 99 = .ok (.bipush 10, 2) := by decide +kernel
theorem dX11_init_101 : decode cX11_init 101 = .ok (.newarray .int, 2) := by decide +kernel
theorem dX11_init_103 : decode cX11_init 103 = .ok (.putfield 48, 3) := by decide +kernel
theorem dX11_init_106 : decode cX11_init 106 = .ok (.aload_n 0, 1) := by decide +kernel
theorem dX11_init_107 : decode cX11_init 107 = .ok (.bipush 10, 2) := by decide +kernel
theorem dX11_init_109 : decode cX11_init 109 = .ok (.newarray .int, 2) := by decide +kernel
theorem dX11_init_111 : decode cX11_init 111 = .ok (.putfield 51, 3) := by decide +kernel
theorem dX11_init_114 : decode cX11_init 114 = .ok (.aload_n 0, 1) := by decide +kernel
theorem dX11_init_115 : decode cX11_init 115 = .ok (.bipush 10, 2) := by decide +kernel
theorem dX11_init_117 : decode cX11_init 117 = .ok (.newarray .boolean, 2) := by decide +kernel
theorem dX11_init_119 : decode cX11_init 119 = .ok (.putfield 54, 3) := by decide +kernel
theorem dX11_init_122 : decode cX11_init 122 = .ok (.iconst 0, 1) := by decide +kernel
theorem dX11_init_123 : decode cX11_init 123 = .ok (.istore_n 1, 1) := by decide +kernel
theorem dX11_init_124 : decode cX11_init 124 = .ok (.iload_n 1, 1) := by decide +kernel
theorem dX11_init_125 : decode cX11_init 125 = .ok (.sipush 200, 3) := by decide +kernel
theorem dX11_init_128 : decode cX11_init 128 = .ok (.if_icmp .ge 16, 3) := by decide +kernel
theorem dX11_init_131 : decode cX11_init 131 = .ok (.aload_n 0, 1) := by decide +kernel
theorem dX11_init_132 : decode cX11_init 132 = .ok (.getfield 15, 3) := by decide +kernel
theorem dX11_init_135 : decode cX11_init 135 = .ok (.iload_n 1, 1) := by decide +kernel
theorem dX11_init_136 : decode cX11_init 136 = .ok (.iconst 1, 1) := by decide +kernel
theorem dX11_init_137 : decode cX11_init 137 = .ok (.bastore, 1) := by decide +kernel
theorem dX11_init_138 : decode cX11_init 138 = .ok (.iinc 1 1, 3) := by decide +kernel
theorem dX11_init_141 : decode cX11_init 141 = .ok (.goto (-17), 3) := by decide +kernel
theorem dX11_init_144 : decode cX11_init 144 = .ok (.iconst 0, 1) := by decide +kernel
theorem dX11_init_145 : decode cX11_init 145 = .ok (.istore_n 1, 1) := by decide +kernel
theorem dX11_init_146 : decode cX11_init 146 = .ok (.iload_n 1, 1) := by decide +kernel
theorem dX11_init_147 : decode cX11_init 147 = .ok (.bipush 12, 2) := by decide +kernel
theorem dX11_init_149 : decode cX11_init 149 = .ok (.if_icmp .ge 18, 3) := by decide +kernel
theorem dX11_init_152 : decode cX11_init 152 = .ok (.aload_n 0, 1) := by decide +kernel
theorem dX11_init_153 : decode cX11_init 153 = .ok (.getfield 22, 3) := by decide +kernel
theorem dX11_init_156 : decode cX11_init 156 = .ok (.iconst 4, 1) := by decide +kernel
theorem dX11_init_157 : decode cX11_init 157 = .ok (.iload_n 1, 1) := by decide +kernel
theorem dX11_init_158 : decode cX11_init 158 = .ok (.imul, 1) := by decide +kernel
theorem dX11_init_159 : decode cX11_init 159 = .ok (.iconst (-1), 1) := by decide +kernel
theorem dX11_init_160 : decode cX11_init 160 = .ok (.iastore, 1) := by decide +kernel
theorem dX11_init_161 : decode cX11_init 161 = .ok (.iinc 1 1, 3) := by decide +kernel
theorem dX11_init_164 : decode cX11_init 164 = .ok (.goto (-18), 3) := by decide +kernel
theorem dX11_init_167 : decode cX11_init 167 = .ok (.return_, 1) := by decide +kernel
theorem dX11_isIn_0 : decode cX11_isIn 0 = .ok (.iload_n 0, 1) := by decide +kernel
theorem dX11_isIn_1 : decode cX11_isIn 1 = .ok (.iload_n 1, 1) := by decide +kernel
theorem dX11_isIn_2 : decode cX11_isIn 2 = .ok (.if_icmp .lt 12, 3) := by decide +kernel
theorem dX11_isIn_5 : decode cX11_isIn 5 = .ok (.iload_n 0, 1) := by decide +kernel
theorem dX11_isIn_6 : decode cX11_isIn 6 = .ok (.iload_n 2, 1) := by decide +kernel
theorem dX11_isIn_7 : decode cX11_isIn 7 = .ok (.if_icmp .gt 7, 3) := by decide +kernel
theorem dX11_isIn_10 : decode cX11_isIn 10 = .ok (.iconst 1, 1) := by decide +kernel
theorem dX11_isIn_11 : decode cX11_isIn 11 = .ok (.goto 4, 3) := by decide +kernel
theorem dX11_isIn_14 : decode cX11_isIn 14 = .ok (.iconst 0, 1) := by decide +kernel
theorem dX11_isIn_15 : decode cX11_isIn 15 = .ok (.ireturn, 1) := by decide +kernel
theorem dX11_isZero_0 : decode cX11_isZero 0 = .ok (.dload_n 0, 1) := by decide +kernel
theorem dX11_isZero_1 : decode cX11_isZero 1 = .ok (.dconst 0, 1) := by decide +kernel
theorem dX11_isZero_2 : decode cX11_isZero 2 = .ok (.dcmp .l, 1) := by decide +kernel
theorem dX11_isZero_3 : decode cX11_isZero 3 = .ok (.ifCond .ne 7, 3) := by decide +kernel
theorem dX11_isZero_6 : decode cX11_isZero 6 = .ok (.iconst 1, 1) := by decide +kernel
theorem dX11_isZero_7 : decode cX11_isZero 7 = .ok (.goto 4, 3) := by decide +kernel
theorem dX11_isZero_10 : decode cX11_isZero 10 = .ok (.iconst 0, 1) := by decide +kernel
theorem dX11_isZero_11 : decode cX11_isZero 11 = .ok (.ireturn, 1) := by decide +kernel
theorem dX11_isInfinite_0 : decode cX11_isInfinite 0 = .ok (.dload_n 0, 1) := by decide +kernel
theorem dX11_isInfinite_1 : decode cX11_isInfinite 1 = .ok (.ldc2_w 57, 3) := by decide +kernel
theorem dX11_isInfinite_4 : decode cX11_isInfinite 4 = .ok (.dcmp .l, 1) := by decide +kernel
theorem dX11_isInfinite_5 : decode cX11_isInfinite 5 = .ok (.ifCond .eq 11, 3) := by decide +kernel
theorem dX11_isInfinite_8 : decode cX11_isInfinite 8 = .ok (.dload_n 0, 1) := by decide +kernel
theorem dX11_isInfinite_9 : decode cX11_isInfinite 9 = .ok (.ldc2_w 59, 3) := by decide +kernel
theorem dX11_isInfinite_12 : decode cX11_isInfinite 12 = .ok (.dcmp .l, 1) := by decide +kernel
theorem dX11_isInfinite_13 : decode cX11_isInfinite 13 = .ok (.ifCond .ne 7, 3) := by decide +kernel
theorem dX11_isInfinite_16 : decode cX11_isInfinite 16 = .ok (.iconst 1, 1) := by decide +kernel
theorem dX11_isInfinite_17 : decode cX11_isInfinite 17 = .ok (.goto 4, 3) := by decide +kernel
theorem dX11_isInfinite_20 : decode cX11_isInfinite 20 = .ok (.iconst 0, 1) := by decide +kernel
theorem dX11_isInfinite_21 : decode cX11_isInfinite 21 = .ok (.ireturn, 1) := by decide +kernel
theorem dX11_hasMinus_0 : decode cX11_hasMinus 0 = .ok (.dload_n 0, 1) := by decide +kernel
theorem dX11_hasMinus_1 : decode cX11_hasMinus 1 = .ok (.invokestatic 61, 3) := by decide +kernel
theorem dX11_hasMinus_4 : decode cX11_hasMinus 4 = .ok (.ifCond .eq 19, 3) := by decide +kernel
theorem dX11_hasMinus_7 : decode cX11_hasMinus 7 = .ok (.dconst 1, 1) := by decide +kernel
theorem dX11_hasMinus_8 : decode cX11_hasMinus 8 = .ok (.dload_n 0, 1) := by decide +kernel
theorem dX11_hasMinus_9 : decode cX11_hasMinus 9 = .ok (.ddiv, 1) := by decide +kernel
theorem dX11_hasMinus_10 : decode cX11_hasMinus 10 = .ok (.dconst 0, 1) := by decide +kernel
theorem dX11_hasMinus_11 : decode cX11_hasMinus 11 = .ok (.dcmp .g, 1) := by decide +kernel
theorem dX11_hasMinus_12 : decode cX11_hasMinus 12 = .ok (.ifCond .ge 7, 3) := by decide +kernel
theorem dX11_hasMinus_15 : decode cX11_hasMinus 15 = .ok (.iconst 1, 1) := by decide +kernel
theorem dX11_hasMinus_16 : decode cX11_hasMinus 16 = .ok (.goto 18, 3) := by decide +kernel
theorem dX11_hasMinus_19 : decode cX11_hasMinus 19 = .ok (.iconst 0, 1) := by decide +kernel
theorem dX11_hasMinus_20 : decode cX11_hasMinus 20 = .ok (.goto 14, 3) := by decide +kernel
theorem dX11_hasMinus_23 : decode cX11_hasMinus 23 = .ok (.dload_n 0, 1) := by decide +kernel
theorem dX11_hasMinus_24 : decode cX11_hasMinus 24 = .ok (.dconst 0, 1) := by decide +kernel
theorem dX11_hasMinus_25 : decode cX11_hasMinus 25 = .ok (.dcmp .g, 1) := by decide +kernel
theorem dX11_hasMinus_26 : decode cX11_hasMinus 26 = .ok (.ifCond .ge 7, 3) := by decide +kernel
theorem dX11_hasMinus_29 : decode cX11_hasMinus 29 = .ok (.iconst 1, 1) := by decide +kernel
theorem dX11_hasMinus_30 : decode cX11_hasMinus 30 = .ok (.goto 4, 3) := by decide +kernel
theorem dX11_hasMinus_33 : decode cX11_hasMinus 33 = .ok (.iconst 0, 1) := by decide +kernel
theorem dX11_hasMinus_34 : decode cX11_hasMinus 34 = .ok (.ireturn, 1) := by decide +kernel
theorem dX11_zero_0 : decode cX11_zero 0 = .ok (.iload_n 0, 1) := by decide +kernel
theorem dX11_zero_1 : decode cX11_zero 1 = .ok (.ifCond .eq 9, 3) := by decide +kernel
theorem dX11_zero_4 : decode cX11_zero 4 = .ok (.ldc2_w 65, 3) := by decide +kernel
theorem dX11_zero_7 : decode cX11_zero 7 = .ok (.goto 4, 3) := by decide +kernel
theorem dX11_zero_10 : decode cX11_zero 10 = .ok (.dconst 0, 1) := by decide +kernel
theorem dX11_zero_11 : decode cX11_zero 11 = .ok (.dreturn, 1) := by decide +kernel
theorem dX11_brought_0 : decode cX11_brought 0 = .ok (.iload_n 2, 1) := by decide +kernel
theorem dX11_brought_1 : decode cX11_brought 1 = .ok (.ifCond .eq 9, 3) := by decide +kernel
theorem dX11_brought_4 : decode cX11_brought 4 = .ok (.dload_n 0, 1) := by decide +kernel
theorem dX11_brought_5 : decode cX11_brought 5 = .ok (.d2f, 1) := by decide +kernel
theorem dX11_brought_6 : decode cX11_brought 6 = .ok (.f2d, 1) := by decide +kernel
theorem dX11_brought_7 : decode cX11_brought 7 = .ok (.goto 4, 3) := by decide +kernel
theorem dX11_brought_10 : decode cX11_brought 10 = .ok (.dload_n 0, 1) := by decide +kernel
theorem dX11_brought_11 : decode cX11_brought 11 = .ok (.dreturn, 1) := by decide +kernel
theorem dX11_isLower_0 : decode cX11_isLower 0 = .ok (.dload_n 0, 1) := by decide +kernel
theorem dX11_isLower_1 : decode cX11_isLower 1 = .ok (.dload_n 2, 1) := by decide +kernel
theorem dX11_isLower_2 : decode cX11_isLower 2 = .ok (.dcmp .g, 1) := by decide +kernel
theorem dX11_isLower_3 : decode cX11_isLower 3 = .ok (.ifCond .lt 31, 3) := by decide +kernel
theorem dX11_isLower_6 : decode cX11_isLower 6 = .ok (.dload_n 0, 1) := by decide +kernel
theorem dX11_isLower_7 : decode cX11_isLower 7 = .ok (.invokestatic 61, 3) := by decide +kernel
theorem dX11_isLower_10 : decode cX11_isLower 10 = .ok (.ifCond .eq 28, 3) := by decide +kernel
theorem dX11_isLower_13 : decode cX11_isLower 13 = .ok (.dload_n 2, 1) := by decide +kernel
theorem dX11_isLower_14 : decode cX11_isLower 14 = .ok (.invokestatic 61, 3) := by decide +kernel
theorem dX11_isLower_17 : decode cX11_isLower 17 = .ok (.ifCond .eq 21, 3) := by decide +kernel
theorem dX11_isLower_20 : decode cX11_isLower 20 = .ok (.dload_n 0, 1) := by decide +kernel
theorem dX11_isLower_21 : decode cX11_isLower 21 = .ok (.invokestatic 67, 3) := by decide +kernel
theorem dX11_isLower_24 : decode cX11_isLower 24 = .ok (.ifCond .eq 14, 3) := by decide +kernel
theorem dX11_isLower_27 : decode cX11_isLower 27 = .ok (.dload_n 2, 1) := by decide +kernel
theorem dX11_isLower_28 : decode cX11_isLower 28 = .ok (.invokestatic 67, 3) := by decide +kernel
theorem dX11_isLower_31 : decode cX11_isLower 31 = .ok (.ifCond .ne 7, 3) := by decide +kernel
theorem dX11_isLower_34 : decode cX11_isLower 34 = .ok (.iconst 1, 1) := by decide +kernel
theorem dX11_isLower_35 : decode cX11_isLower 35 = .ok (.goto 4, 3) := by decide +kernel
theorem dX11_isLower_38 : decode cX11_isLower 38 = .ok (.iconst 0, 1) := by decide +kernel
theorem dX11_isLower_39 : decode cX11_isLower 39 = .ok (.ireturn, 1) := by decide +kernel
theorem dX11_isSo_0 : decode cX11_isSo 0 = .ok (.iload_n 0, 1) := by decide +kernel
theorem dX11_isSo_1 : decode cX11_isSo 1 = .ok (.bipush 6, 2) := by decide +kernel
theorem dX11_isSo_3 : decode cX11_isSo 3 = .ok (.irem, 1) := by decide +kernel
theorem dX11_isSo_4 : decode cX11_isSo 4 = .ok (.istore 7, 2) := by decide +kernel
theorem dX11_isSo_6 : decode cX11_isSo 6 = .ok (.iload_n 3, 1) := by decide +kernel
theorem dX11_isSo_7 : decode cX11_isSo 7 = .ok (.ifCond .ne 8, 3) := by decide +kernel
theorem dX11_isSo_10 : decode cX11_isSo 10 = .ok (.iload 6, 2) := by decide +kernel
theorem dX11_isSo_12 : decode cX11_isSo 12 = .ok (.ifCond .eq 19, 3) := by decide +kernel
theorem dX11_isSo_15 : decode cX11_isSo 15 = .ok (.iload 7, 2) := by decide +kernel
theorem dX11_isSo_17 : decode cX11_isSo 17 = .ok (.iconst 5, 1) := by decide +kernel
theorem dX11_isSo_18 : decode cX11_isSo 18 = .ok (.if_icmp .ne 7, 3) := by decide +kernel
theorem dX11_isSo_21 : decode cX11_isSo 21 = .ok (.iconst 1, 1) := by decide +kernel
theorem dX11_isSo_22 : decode cX11_isSo 22 = .ok (.goto 4, 3) := by decide +kernel
theorem dX11_isSo_25 : decode cX11_isSo 25 = .ok (.iconst 0, 1) := by decide +kernel
theorem dX11_isSo_26 : decode cX11_isSo 26 = .ok (.istore 8, 2) := by decide +kernel
theorem dX11_isSo_28 : decode cX11_isSo 28 = .ok (.goto 121, 3) := by decide +kernel
theorem dX11_isSo_31 : decode cX11_isSo 31 = .ok (.iload 7, 2) := by decide +kernel
theorem dX11_isSo_33 : decode cX11_isSo 33 = .ok (.ifCond .ne 18, 3) := by decide +kernel
theorem dX11_isSo_36 : decode cX11_isSo 36 = .ok (.dload_n 1, 1) := by decide +kernel
theorem dX11_isSo_37 : decode cX11_isSo 37 = .ok (.dload 4, 2) := by decide +kernel
theorem dX11_isSo_39 : decode cX11_isSo 39 = .ok (.dcmp .g, 1) := by decide +kernel
theorem dX11_isSo_40 : decode cX11_isSo 40 = .ok (.ifCond .ge 7, 3) := by decide +kernel
theorem dX11_isSo_43 : decode cX11_isSo 43 = .ok (.iconst 1, 1) := by decide +kernel
theorem dX11_isSo_44 : decode cX11_isSo 44 = .ok (.goto 103, 3) := by decide +kernel
theorem dX11_isSo_47 : decode cX11_isSo 47 = .ok (.iconst 0, 1) := by decide +kernel
theorem dX11_isSo_48 : decode cX11_isSo 48 = .ok (.goto 99, 3) := by decide +kernel
theorem dX11_isSo_51 : decode cX11_isSo 51 = .ok (.iload 7, 2) := by decide +kernel
theorem dX11_isSo_53 : decode cX11_isSo 53 = .ok (.iconst 1, 1) := by decide +kernel
theorem dX11_isSo_54 : decode cX11_isSo 54 = .ok (.if_icmp .ne 18, 3) := by decide +kernel
theorem dX11_isSo_57 : decode cX11_isSo 57 = .ok (.dload_n 1, 1) := by decide +kernel
theorem dX11_isSo_58 : decode cX11_isSo 58 = .ok (.dload 4, 2) := by decide +kernel
theorem dX11_isSo_60 : decode cX11_isSo 60 = .ok (.dcmp .g, 1) := by decide +kernel
theorem dX11_isSo_61 : decode cX11_isSo 61 = .ok (.ifCond .gt 7, 3) := by decide +kernel
theorem dX11_isSo_64 : decode cX11_isSo 64 = .ok (.iconst 1, 1) := by decide +kernel
theorem dX11_isSo_65 : decode cX11_isSo 65 = .ok (.goto 82, 3) := by decide +kernel
theorem dX11_isSo_68 : decode cX11_isSo 68 = .ok (.iconst 0, 1) := by decide +kernel
theorem dX11_isSo_69 : decode cX11_isSo 69 = .ok (.goto 78, 3) := by decide +kernel
theorem dX11_isSo_72 : decode cX11_isSo 72 = .ok (.iload 7, 2) := by decide +kernel
theorem dX11_isSo_74 : decode cX11_isSo 74 = .ok (.iconst 2, 1) := by decide +kernel
theorem dX11_isSo_75 : decode cX11_isSo 75 = .ok (.if_icmp .ne 18, 3) := by decide +kernel
theorem dX11_isSo_78 : decode cX11_isSo 78 = .ok (.dload_n 1, 1) := by decide +kernel
theorem dX11_isSo_79 : decode cX11_isSo 79 = .ok (.dload 4, 2) := by decide +kernel
theorem dX11_isSo_81 : decode cX11_isSo 81 = .ok (.dcmp .l, 1) := by decide +kernel
theorem dX11_isSo_82 : decode cX11_isSo 82 = .ok (.ifCond .le 7, 3) := by decide +kernel
theorem dX11_isSo_85 : decode cX11_isSo 85 = .ok (.iconst 1, 1) := by decide +kernel
theorem dX11_isSo_86 : decode cX11_isSo 86 = .ok (.goto 61, 3) := by decide +kernel
theorem dX11_isSo_89 : decode cX11_isSo 89 = .ok (.iconst 0, 1) := by decide +kernel
theorem dX11_isSo_90 : decode cX11_isSo 90 = .ok (.goto 57, 3) := by decide +kernel
theorem dX11_isSo_93 : decode cX11_isSo 93 = .ok (.iload 7, 2) := by decide +kernel
theorem dX11_isSo_95 : decode cX11_isSo 95 = .ok (.iconst 3, 1) := by decide +kernel
theorem dX11_isSo_96 : decode cX11_isSo 96 = .ok (.if_icmp .ne 18, 3) := by decide +kernel
theorem dX11_isSo_99 : decode cX11_isSo 99 = .ok (.dload_n 1, 1) := by decide +kernel
theorem dX11_isSo_100 : decode cX11_isSo 100 = .ok (.dload 4, 2) := by decide +kernel
theorem dX11_isSo_102 : decode cX11_isSo 102 = .ok (.dcmp .l, 1) := by decide +kernel
theorem dX11_isSo_103 : decode cX11_isSo 103 = .ok (.ifCond .lt 7, 3) := by decide +kernel
theorem dX11_isSo_106 : decode cX11_isSo 106 = .ok (.iconst 1, 1) := by decide +kernel
theorem dX11_isSo_107 : decode cX11_isSo 107 = .ok (.goto 40, 3) := by decide +kernel
theorem dX11_isSo_110 : decode cX11_isSo 110 = .ok (.iconst 0, 1) := by decide +kernel
theorem dX11_isSo_111 : decode cX11_isSo 111 = .ok (.goto 36, 3) := by decide +kernel
theorem dX11_isSo_114 : decode cX11_isSo 114 = .ok (.iload 7, 2) := by decide +kernel
theorem dX11_isSo_116 : decode cX11_isSo 116 = .ok (.iconst 4, 1) := by decide +kernel
theorem dX11_isSo_117 : decode cX11_isSo 117 = .ok (.if_icmp .ne 18, 3) := by decide +kernel
theorem dX11_isSo_120 : decode cX11_isSo 120 = .ok (.dload_n 1, 1) := by decide +kernel
theorem dX11_isSo_121 : decode cX11_isSo 121 = .ok (.dload 4, 2) := by decide +kernel
theorem dX11_isSo_123 : decode cX11_isSo 123 = .ok (.dcmp .l, 1) := by decide +kernel
theorem dX11_isSo_124 : decode cX11_isSo 124 = .ok (.ifCond .ne 7, 3) := by decide +kernel
theorem dX11_isSo_127 : decode cX11_isSo 127 = .ok (.iconst 1, 1) := by decide +kernel
theorem dX11_isSo_128 : decode cX11_isSo 128 = .ok (.goto 19, 3) := by decide +kernel
theorem dX11_isSo_131 : decode cX11_isSo 131 = .ok (.iconst 0, 1) := by decide +kernel
theorem dX11_isSo_132 : decode cX11_isSo 132 = .ok (.goto 15, 3) := by decide +kernel
theorem dX11_isSo_135 : decode cX11_isSo 135 = .ok (.dload_n 1, 1) := by decide +kernel
theorem dX11_isSo_136 : decode cX11_isSo 136 = .ok (.dload 4, 2) := by decide +kernel
theorem dX11_isSo_138 : decode cX11_isSo 138 = .ok (.dcmp .l, 1) := by decide +kernel
theorem dX11_isSo_139 : decode cX11_isSo 139 = .ok (.ifCond .eq 7, 3) := by decide +kernel
theorem dX11_isSo_142 : decode cX11_isSo 142 = .ok (.iconst 1, 1) := by decide +kernel
theorem dX11_isSo_143 : decode cX11_isSo 143 = .ok (.goto 4, 3) := by decide +kernel
theorem dX11_isSo_146 : decode cX11_isSo 146 = .ok (.iconst 0, 1) := by decide +kernel
theorem dX11_isSo_147 : decode cX11_isSo 147 = .ok (.istore 8, 2) := by decide +kernel
theorem dX11_isSo_149 : decode cX11_isSo 149 = .ok (.iload_n 0, 1) := by decide +kernel
theorem dX11_isSo_150 : decode cX11_isSo 150 = .ok (.bipush 6, 2) := by decide +kernel
theorem dX11_isSo_152 : decode cX11_isSo 152 = .ok (.if_icmp .ge 8, 3) := by decide +kernel
theorem dX11_isSo_155 : decode cX11_isSo 155 = .ok (.iload 8, 2) := by decide +kernel
theorem dX11_isSo_157 : decode cX11_isSo 157 = .ok (.goto 13, 3) := by decide +kernel
theorem dX11_isSo_160 : decode cX11_isSo 160 = .ok (.iload 8, 2) := by decide +kernel
theorem dX11_isSo_162 : decode cX11_isSo 162 = .ok (.ifCond .ne 7, 3) := by decide +kernel
theorem dX11_isSo_165 : decode cX11_isSo 165 = .ok (.iconst 1, 1) := by decide +kernel
theorem dX11_isSo_166 : decode cX11_isSo 166 = .ok (.goto 4, 3) := by decide +kernel
theorem dX11_isSo_169 : decode cX11_isSo 169 = .ok (.iconst 0, 1) := by decide +kernel
theorem dX11_isSo_170 : decode cX11_isSo 170 = .ok (.ireturn, 1) := by decide +kernel
theorem dX11_whole_0 : decode cX11_whole 0 = .ok (.dload_n 0, 1) := by decide +kernel
theorem dX11_whole_1 : decode cX11_whole 1 = .ok (.ldc2_w 70, 3) := by decide +kernel
theorem dX11_whole_4 : decode cX11_whole 4 = .ok (.dcmp .l, 1) := by decide +kernel
theorem dX11_whole_5 : decode cX11_whole 5 = .ok (.ifCond .ge 11, 3) := by decide +kernel
theorem dX11_whole_8 : decode cX11_whole 8 = .ok (.dload_n 0, 1) := by decide +kernel
theorem dX11_whole_9 : decode cX11_whole 9 = .ok (.ldc2_w 72, 3) := by decide +kernel
theorem dX11_whole_12 : decode cX11_whole 12 = .ok (.dcmp .g, 1) := by decide +kernel
theorem dX11_whole_13 : decode cX11_whole 13 = .ok (.ifCond .gt 5, 3) := by decide +kernel
theorem dX11_whole_16 : decode cX11_whole 16 = .ok (.dload_n 0, 1) := by decide +kernel
theorem dX11_whole_17 : decode cX11_whole 17 = .ok (.dreturn, 1) := by decide +kernel
theorem dX11_whole_18 : decode cX11_whole 18 = .ok (.dload_n 0, 1) := by decide +kernel
theorem dX11_whole_19 : decode cX11_whole 19 = .ok (.d2l, 1) := by decide +kernel
theorem dX11_whole_20 : decode cX11_whole 20 = .ok (.lstore_n 3, 1) := by decide +kernel
theorem dX11_whole_21 : decode cX11_whole 21 = .ok (.dload_n 0, 1) := by decide +kernel
theorem dX11_whole_22 : decode cX11_whole 22 = .ok (.lload_n 3, 1) := by decide +kernel
theorem dX11_whole_23 : decode cX11_whole 23 = .ok (.l2d, 1) := by decide +kernel
theorem dX11_whole_24 : decode cX11_whole 24 = .ok (.dsub, 1) := by decide +kernel
theorem dX11_whole_25 : decode cX11_whole 25 = .ok (.dstore 5, 2) := by decide +kernel
theorem dX11_whole_27 : decode cX11_whole 27 = .ok (.iload_n 2, 1) := by decide +kernel
theorem dX11_whole_28 : decode cX11_whole 28 = .ok (.ifCond .ne 21, 3) := by decide +kernel
theorem dX11_whole_31 : decode cX11_whole 31 = .ok (.lload_n 3, 1) := by decide +kernel
theorem dX11_whole_32 : decode cX11_whole 32 = .ok (.dload 5, 2) := by decide +kernel
theorem dX11_whole_34 : decode cX11_whole 34 = .ok (.dconst 0, 1) := by decide +kernel
theorem dX11_whole_35 : decode cX11_whole 35 = .ok (.dcmp .g, 1) := by decide +kernel
theorem dX11_whole_36 : decode cX11_whole 36 = .ok (.ifCond .ge 7, 3) := by decide +kernel
theorem dX11_whole_39 : decode cX11_whole 39 = .ok (.lconst 1, 1) := by decide +kernel
theorem dX11_whole_40 : decode cX11_whole 40 = .ok (.goto 4, 3) := by decide +kernel
theorem dX11_whole_43 : decode cX11_whole 43 = .ok (.lconst 0, 1) := by decide +kernel
theorem dX11_whole_44 : decode cX11_whole 44 = .ok (.lsub, 1) := by decide +kernel
theorem dX11_whole_45 : decode cX11_whole 45 = .ok (.lstore_n 3, 1) := by decide +kernel
theorem dX11_whole_46 : decode cX11_whole 46 = .ok (.goto 101, 3) := by decide +kernel
theorem dX11_whole_49 : decode cX11_whole 49 = .ok (.iload_n 2, 1) := by decide +kernel
theorem dX11_whole_50 : decode cX11_whole 50 = .ok (.iconst 1, 1) := by decide +kernel
theorem dX11_whole_51 : decode cX11_whole 51 = .ok (.if_icmp .ne 21, 3) := by decide +kernel
theorem dX11_whole_54 : decode cX11_whole 54 = .ok (.lload_n 3, 1) := by decide +kernel
theorem dX11_whole_55 : decode cX11_whole 55 = .ok (.dload 5, 2) := by decide +kernel
theorem dX11_whole_57 : decode cX11_whole 57 = .ok (.dconst 0, 1) := by decide +kernel
theorem dX11_whole_58 : decode cX11_whole 58 = .ok (.dcmp .l, 1) := by decide +kernel
theorem dX11_whole_59 : decode cX11_whole 59 = .ok (.ifCond .le 7, 3) := by decide +kernel
theorem dX11_whole_62 : decode cX11_whole 62 = .ok (.lconst 1, 1) := by decide +kernel
theorem dX11_whole_63 : decode cX11_whole 63 = .ok (.goto 4, 3) := by decide +kernel
theorem dX11_whole_66 : decode cX11_whole 66 = .ok (.lconst 0, 1) := by decide +kernel
theorem dX11_whole_67 : decode cX11_whole 67 = .ok (.ladd, 1) := by decide +kernel
theorem dX11_whole_68 : decode cX11_whole 68 = .ok (.lstore_n 3, 1) := by decide +kernel
theorem dX11_whole_69 : decode cX11_whole 69 = .ok (.goto 78, 3) := by decide +kernel
theorem dX11_whole_72 : decode cX11_whole 72 = .ok (.lload_n 3, 1) := by decide +kernel
theorem dX11_whole_73 : decode cX11_whole 73 = .ok (.lconst 1, 1) := by decide +kernel
theorem dX11_whole_74 : decode cX11_whole 74 = .ok (.land, 1) := by decide +kernel
theorem dX11_whole_75 : decode cX11_whole 75 = .ok (.lconst 1, 1) := by decide +kernel
theorem dX11_whole_76 : decode cX11_whole 76 = .ok (.lcmp, 1) := by decide +kernel
theorem dX11_whole_77 : decode cX11_whole 77 = .ok (.ifCond .ne 7, 3) := by decide +kernel
theorem dX11_whole_80 : decode cX11_whole 80 = .ok (.iconst 1, 1) := by decide +kernel
theorem dX11_whole_81 : decode cX11_whole 81 = .ok (.goto 4, 3) := by decide +kernel
theorem dX11_whole_84 : decode cX11_whole 84 = .ok (.iconst 0, 1) := by decide +kernel
theorem dX11_whole_85 : decode cX11_whole 85 = .ok (.istore 7, 2) := by decide +kernel
theorem dX11_whole_87 : decode cX11_whole 87 = .ok (.lload_n 3, 1) := by decide +kernel
theorem dX11_whole_88 : decode cX11_whole 88 = .ok (.dload 5, 2) := by decide +kernel
theorem dX11_whole_90 : decode cX11_whole 90 = .ok (.ldc2_w 74, 3) := by decide +kernel
theorem dX11_whole_93 : decode cX11_whole 93 = .ok (.dcmp .l, 1) := by decide +kernel
theorem dX11_whole_94 : decode cX11_whole 94 = .ok (.ifCond .gt 17, 3) := by decide +kernel
theorem dX11_whole_97 : decode cX11_whole 97 = .ok (.dload 5, 2) := by decide +kernel
theorem dX11_whole_99 : decode cX11_whole 99 = .ok (.ldc2_w 74, 3) := by decide +kernel
theorem dX11_whole_102 : decode cX11_whole 102 = .ok (.dcmp .l, 1) := by decide +kernel
theorem dX11_whole_103 : decode cX11_whole 103 = .ok (.ifCond .ne 12, 3) := by decide +kernel
theorem dX11_whole_106 : decode cX11_whole 106 = .ok (.iload 7, 2) := by decide +kernel
theorem dX11_whole_108 : decode cX11_whole 108 = .ok (.ifCond .eq 7, 3) := by decide +kernel
theorem dX11_whole_111 : decode cX11_whole 111 = .ok (.lconst 1, 1) := by decide +kernel
theorem dX11_whole_112 : decode cX11_whole 112 = .ok (.goto 33, 3) := by decide +kernel
theorem dX11_whole_115 : decode cX11_whole 115 = .ok (.dload 5, 2) := by decide +kernel
theorem dX11_whole_117 : decode cX11_whole 117 = .ok (.ldc2_w 76, 3) := by decide +kernel
theorem dX11_whole_120 : decode cX11_whole 120 = .ok (.dcmp .g, 1) := by decide +kernel
theorem dX11_whole_121 : decode cX11_whole 121 = .ok (.ifCond .lt 17, 3) := by decide +kernel
theorem dX11_whole_124 : decode cX11_whole 124 = .ok (.dload 5, 2) := by decide +kernel
theorem dX11_whole_126 : decode cX11_whole 126 = .ok (.ldc2_w 76, 3) := by decide +kernel
theorem dX11_whole_129 : decode cX11_whole 129 = .ok (.dcmp .l, 1) := by decide +kernel
theorem dX11_whole_130 : decode cX11_whole 130 = .ok (.ifCond .ne 14, 3) := by decide +kernel
theorem dX11_whole_133 : decode cX11_whole 133 = .ok (.iload 7, 2) := by decide +kernel
theorem dX11_whole_135 : decode cX11_whole 135 = .ok (.ifCond .eq 9, 3) := by decide +kernel
theorem dX11_whole_138 : decode cX11_whole 138 = .ok (.ldc2_w 78, 3) := by decide +kernel
theorem dX11_whole_141 : decode cX11_whole 141 = .ok (.goto 4, 3) := by decide +kernel
theorem dX11_whole_144 : decode cX11_whole 144 = .ok (.lconst 0, 1) := by decide +kernel
theorem dX11_whole_145 : decode cX11_whole 145 = .ok (.ladd, 1) := by decide +kernel
theorem dX11_whole_146 : decode cX11_whole 146 = .ok (.lstore_n 3, 1) := by decide +kernel
theorem dX11_whole_147 : decode cX11_whole 147 = .ok (.lload_n 3, 1) := by decide +kernel
theorem dX11_whole_148 : decode cX11_whole 148 = .ok (.lconst 0, 1) := by decide +kernel
theorem dX11_whole_149 : decode cX11_whole 149 = .ok (.lcmp, 1) := by decide +kernel
theorem dX11_whole_150 : decode cX11_whole 150 = .ok (.ifCond .ne 13, 3) := by decide +kernel
theorem dX11_whole_153 : decode cX11_whole 153 = .ok (.dload_n 0, 1) := by decide +kernel
theorem dX11_whole_154 : decode cX11_whole 154 = .ok (.invokestatic 67, 3) := by decide +kernel
theorem dX11_whole_157 : decode cX11_whole 157 = .ok (.invokestatic 80, 3) := by decide +kernel
theorem dX11_whole_160 : decode cX11_whole 160 = .ok (.goto 5, 3) := by decide +kernel
theorem dX11_whole_163 : decode cX11_whole 163 = .ok (.lload_n 3, 1) := by decide +kernel
theorem dX11_whole_164 : decode cX11_whole 164 = .ok (.l2d, 1) := by decide +kernel
theorem dX11_whole_165 : decode cX11_whole 165 = .ok (.dreturn, 1) := by decide +kernel
theorem dX11_sum_0 : decode cX11_sum 0 = .ok (.iload 4, 2) := by decide +kernel
theorem dX11_sum_2 : decode cX11_sum 2 = .ok (.ifCond .eq 12, 3) := by decide +kernel
theorem dX11_sum_5 : decode cX11_sum 5 = .ok (.dload_n 0, 1) := by decide +kernel
theorem dX11_sum_6 : decode cX11_sum 6 = .ok (.d2f, 1) := by decide +kernel
theorem dX11_sum_7 : decode cX11_sum 7 = .ok (.dload_n 2, 1) := by decide +kernel
theorem dX11_sum_8 : decode cX11_sum 8 = .ok (.d2f, 1) := by decide +kernel
theorem dX11_sum_9 : decode cX11_sum 9 = .ok (.fadd, 1) := by decide +kernel
theorem dX11_sum_10 : decode cX11_sum 10 = .ok (.f2d, 1) := by decide +kernel
theorem dX11_sum_11 : decode cX11_sum 11 = .ok (.goto 6, 3) := by decide +kernel
theorem dX11_sum_14 : decode cX11_sum 14 = .ok (.dload_n 0, 1) := by decide +kernel
theorem dX11_sum_15 : decode cX11_sum 15 = .ok (.dload_n 2, 1) := by decide +kernel
theorem dX11_sum_16 : decode cX11_sum 16 = .ok (.dadd, 1) := by decide +kernel
theorem dX11_sum_17 : decode cX11_sum 17 = .ok (.dreturn, 1) := by decide +kernel
theorem dX11_product_0 : decode cX11_product 0 = .ok (.iload 4, 2) := by decide +kernel
theorem dX11_product_2 : decode cX11_product 2 = .ok (.ifCond .eq 12, 3) := by decide +kernel
theorem dX11_product_5 : decode cX11_product 5 = .ok (.dload_n 0, 1) := by decide +kernel
theorem dX11_product_6 : decode cX11_product 6 = .ok (.d2f, 1) := by decide +kernel
theorem dX11_product_7 : decode cX11_product 7 = .ok (.dload_n 2, 1) := by decide +kernel
theorem dX11_product_8 : decode cX11_product 8 = .ok (.d2f, 1) := by decide +kernel
theorem dX11_product_9 : decode cX11_product 9 = .ok (.fmul, 1) := by decide +kernel
theorem dX11_product_10 : decode cX11_product 10 = .ok (.f2d, 1) := by decide +kernel
theorem dX11_product_11 : decode cX11_product 11 = .ok (.goto 6, 3) := by decide +kernel
theorem dX11_product_14 : decode cX11_product 14 = .ok (.dload_n 0, 1) := by decide +kernel
theorem dX11_product_15 : decode cX11_product 15 = .ok (.dload_n 2, 1) := by decide +kernel
theorem dX11_product_16 : decode cX11_product 16 = .ok (.dmul, 1) := by decide +kernel
theorem dX11_product_17 : decode cX11_product 17 = .ok (.dreturn, 1) := by decide +kernel
theorem dX11_quotient_0 : decode cX11_quotient 0 = .ok (.iload 4, 2) := by decide +kernel
theorem dX11_quotient_2 : decode cX11_quotient 2 = .ok (.ifCond .eq 12, 3) := by decide +kernel
theorem dX11_quotient_5 : decode cX11_quotient 5 = .ok (.dload_n 0, 1) := by decide +kernel
theorem dX11_quotient_6 : decode cX11_quotient 6 = .ok (.d2f, 1) := by decide +kernel
theorem dX11_quotient_7 : decode cX11_quotient 7 = .ok (.dload_n 2, 1) := by decide +kernel
theorem dX11_quotient_8 : decode cX11_quotient 8 = .ok (.d2f, 1) := by decide +kernel
theorem dX11_quotient_9 : decode cX11_quotient 9 = .ok (.fdiv, 1) := by decide +kernel
theorem dX11_quotient_10 : decode cX11_quotient 10 = .ok (.f2d, 1) := by decide +kernel
theorem dX11_quotient_11 : decode cX11_quotient 11 = .ok (.goto 6, 3) := by decide +kernel
theorem dX11_quotient_14 : decode cX11_quotient 14 = .ok (.dload_n 0, 1) := by decide +kernel
theorem dX11_quotient_15 : decode cX11_quotient 15 = .ok (.dload_n 2, 1) := by decide +kernel
theorem dX11_quotient_16 : decode cX11_quotient 16 = .ok (.ddiv, 1) := by decide +kernel
theorem dX11_quotient_17 : decode cX11_quotient 17 = .ok (.dreturn, 1) := by decide +kernel
theorem dX11_power_0 : decode cX11_power 0 = .ok (.iload_n 0, 1) := by decide +kernel
theorem dX11_power_1 : decode cX11_power 1 = .ok (.i2d, 1) := by decide +kernel
theorem dX11_power_2 : decode cX11_power 2 = .ok (.dstore_n 2, 1) := by decide +kernel
theorem dX11_power_3 : decode cX11_power 3 = .ok (.iconst 0, 1) := by decide +kernel
theorem dX11_power_4 : decode cX11_power 4 = .ok (.istore 4, 2) := by decide +kernel
theorem dX11_power_6 : decode cX11_power 6 = .ok (.iload 4, 2) := by decide +kernel
theorem dX11_power_8 : decode cX11_power 8 = .ok (.iload_n 1, 1) := by decide +kernel
theorem dX11_power_9 : decode cX11_power 9 = .ok (.if_icmp .ge 15, 3) := by decide +kernel
theorem dX11_power_12 : decode cX11_power 12 = .ok (.dload_n 2, 1) := by decide +kernel
theorem dX11_power_13 : decode cX11_power 13 = .ok (.ldc2_w 84, 3) := by decide +kernel
theorem dX11_power_16 : decode cX11_power 16 = .ok (.dmul, 1) := by decide +kernel
theorem dX11_power_17 : decode cX11_power 17 = .ok (.dstore_n 2, 1) := by decide +kernel
theorem dX11_power_18 : decode cX11_power 18 = .ok (.iinc 4 1, 3) := by decide +kernel
theorem dX11_power_21 : decode cX11_power 21 = .ok (.goto (-15), 3) := by decide +kernel
theorem dX11_power_24 : decode cX11_power 24 = .ok (.iconst 0, 1) := by decide +kernel
theorem dX11_power_25 : decode cX11_power 25 = .ok (.istore 4, 2) := by decide +kernel
theorem dX11_power_27 : decode cX11_power 27 = .ok (.iload 4, 2) := by decide +kernel
theorem dX11_power_29 : decode cX11_power 29 = .ok (.iload_n 1, 1) := by decide +kernel
theorem dX11_power_30 : decode cX11_power 30 = .ok (.if_icmp .le 15, 3) := by decide +kernel
theorem dX11_power_33 : decode cX11_power 33 = .ok (.dload_n 2, 1) := by decide +kernel
theorem dX11_power_34 : decode cX11_power 34 = .ok (.ldc2_w 84, 3) := by decide +kernel
theorem dX11_power_37 : decode cX11_power 37 = .ok (.ddiv, 1) := by decide +kernel
theorem dX11_power_38 : decode cX11_power 38 = .ok (.dstore_n 2, 1) := by decide +kernel
theorem dX11_power_39 : decode cX11_power 39 = .ok (.iinc 4 (-1), 3) := by decide +kernel
theorem dX11_power_42 : decode cX11_power 42 = .ok (.goto (-15), 3) := by decide +kernel
theorem dX11_power_45 : decode cX11_power 45 = .ok (.dload_n 2, 1) := by decide +kernel
theorem dX11_power_46 : decode cX11_power 46 = .ok (.dreturn, 1) := by decide +kernel
theorem dX11_gives_0 : decode cX11_gives 0 = .ok (.aload_n 0, 1) := by decide +kernel
theorem dX11_gives_1 : decode cX11_gives 1 = .ok (.dload_n 1, 1) := by decide +kernel
theorem dX11_gives_2 : decode cX11_gives 2 = .ok (.putfield 86, 3) := by decide +kernel
theorem dX11_gives_5 : decode cX11_gives 5 = .ok (.aload_n 0, 1) := by decide +kernel
theorem dX11_gives_6 : decode cX11_gives 6 = .ok (.iconst 0, 1) := by decide +kernel
theorem dX11_gives_7 : decode cX11_gives 7 = .ok (.putfield 90, 3) := by decide +kernel
theorem dX11_gives_10 : decode cX11_gives 10 = .ok (.return_, 1) := by decide +kernel
theorem dX11_givesNothing_0 : decode cX11_givesNothing 0 = .ok (.aload_n 0, 1) := by decide +kernel
theorem dX11_givesNothing_1 : decode cX11_givesNothing 1 = .ok (.dconst 0, 1) := by decide +kernel
theorem dX11_givesNothing_2 : decode cX11_givesNothing 2 = .ok (.putfield 86, 3) := by decide +kernel
theorem dX11_givesNothing_5 : decode cX11_givesNothing 5 = .ok (.aload_n 0, 1) := by decide +kernel
theorem dX11_givesNothing_6 : decode cX11_givesNothing 6 = .ok (.iconst 1, 1) := by decide +kernel
theorem dX11_givesNothing_7 : decode cX11_givesNothing 7 = .ok (.putfield 90, 3) := by decide +kernel
theorem dX11_givesNothing_10 : decode cX11_givesNothing 10 = .ok (.return_, 1) := by decide +kernel
theorem dX11_at_0 : decode cX11_at 0 = .ok (.iload_n 0, 1) := by decide +kernel
theorem dX11_at_1 : decode cX11_at 1 = .ok (.bipush 16, 2) := by decide +kernel
theorem dX11_at_3 : decode cX11_at 3 = .ok (.if_icmp .lt 14, 3) := by decide +kernel
theorem dX11_at_6 : decode cX11_at 6 = .ok (.sipush 192, 3) := by decide +kernel
theorem dX11_at_9 : decode cX11_at 9 = .ok (.iload_n 0, 1) := by decide +kernel
theorem dX11_at_10 : decode cX11_at 10 = .ok (.iadd, 1) := by decide +kernel
theorem dX11_at_11 : decode cX11_at 11 = .ok (.bipush 16, 2) := by decide +kernel
theorem dX11_at_13 : decode cX11_at 13 = .ok (.isub, 1) := by decide +kernel
theorem dX11_at_14 : decode cX11_at 14 = .ok (.goto 9, 3) := by decide +kernel
theorem dX11_at_17 : decode cX11_at 17 = .ok (.bipush 16, 2) := by decide +kernel
theorem dX11_at_19 : decode cX11_at 19 = .ok (.iload_n 0, 1) := by decide +kernel
theorem dX11_at_20 : decode cX11_at 20 = .ok (.imul, 1) := by decide +kernel
theorem dX11_at_21 : decode cX11_at 21 = .ok (.iload_n 1, 1) := by decide +kernel
theorem dX11_at_22 : decode cX11_at 22 = .ok (.iadd, 1) := by decide +kernel
theorem dX11_at_23 : decode cX11_at 23 = .ok (.ireturn, 1) := by decide +kernel
theorem dX11_single_0 : decode cX11_single 0 = .ok (.iload_n 1, 1) := by decide +kernel
theorem dX11_single_1 : decode cX11_single 1 = .ok (.tableswitch 173 0 7 #[47, 55, 75, 87, 99, 111, 141, 157], 47) := by decide +kernel
theorem dX11_single_48 : decode cX11_single 48 = .ok (.aload_n 0, 1) := by decide +kernel
theorem dX11_single_49 : decode cX11_single 49 = .ok (.dload_n 2, 1) := by decide +kernel
theorem dX11_single_50 : decode cX11_single 50 = .ok (.invokevirtual 94, 3) := by decide +kernel
theorem dX11_single_53 : decode cX11_single 53 = .ok (.goto 127, 3) := by decide +kernel
theorem dX11_single_56 : decode cX11_single 56 = .ok (.aload_n 0, 1) := by decide +kernel
theorem dX11_single_57 : decode cX11_single 57 = .ok (.dload_n 2, 1) := by decide +kernel
theorem dX11_single_58 : decode cX11_single 58 = .ok (.invokestatic 67, 3) := by decide +kernel
theorem dX11_single_61 : decode cX11_single 61 = .ok (.ifCond .eq 8, 3) := by decide +kernel
theorem dX11_single_64 : decode cX11_single 64 = .ok (.dload_n 2, 1) := by decide +kernel
theorem dX11_single_65 : decode cX11_single 65 = .ok (.dneg, 1) := by decide +kernel
theorem dX11_single_66 : decode cX11_single 66 = .ok (.goto 4, 3) := by decide +kernel
theorem dX11_single_69 : decode cX11_single 69 = .ok (.dload_n 2, 1) := by decide +kernel
