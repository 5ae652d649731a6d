theorem dX11_ring_91 : decode cX11_ring 91 = .ok (.iaload, 1) := by decide +kernel
theorem dX11_ring_92 : decode cX11_ring 92 = .ok (.invokestatic 235, 3) := by decide +kernel
theorem dX11_ring_95 : decode cX11_ring 95 = .ok (.iadd, 1) := by decide +kernel
theorem dX11_ring_96 : decode cX11_ring 96 = .ok (.istore_n 1, 1) := by decide +kernel
theorem dX11_ring_97 : decode cX11_ring 97 = .ok (.iinc 2 1, 3) := by decide +kernel
theorem dX11_ring_100 : decode cX11_ring 100 = .ok (.goto (-92), 3) := by decide +kernel
theorem dX11_ring_103 : decode cX11_ring 103 = .ok (.aload_n 0, 1) := by decide +kernel
theorem dX11_ring_104 : decode cX11_ring 104 = .ok (.dup, 1) := by decide +kernel
theorem dX11_ring_105 : decode cX11_ring 105 = .ok (.getfield 239, 3) := by decide +kernel
theorem dX11_ring_108 : decode cX11_ring 108 = .ok (.iconst 1, 1) := by decide +kernel
theorem dX11_ring_109 : decode cX11_ring 109 = .ok (.iadd, 1) := by decide +kernel
theorem dX11_ring_110 : decode cX11_ring 110 = .ok (.putfield 239, 3) := by decide +kernel
theorem dX11_ring_113 : decode cX11_ring 113 = .ok (.iload_n 1, 1) := by decide +kernel
theorem dX11_ring_114 : decode cX11_ring 114 = .ok (.ireturn, 1) := by decide +kernel
theorem dX11_alarmed_0 : decode cX11_alarmed 0 = .ok (.iload_n 1, 1) := by decide +kernel
theorem dX11_alarmed_1 : decode cX11_alarmed 1 = .ok (.iconst 0, 1) := by decide +kernel
theorem dX11_alarmed_2 : decode cX11_alarmed 2 = .ok (.aload_n 0, 1) := by decide +kernel
theorem dX11_alarmed_3 : decode cX11_alarmed 3 = .ok (.getfield 229, 3) := by decide +kernel
theorem dX11_alarmed_6 : decode cX11_alarmed 6 = .ok (.iconst 1, 1) := by decide +kernel
theorem dX11_alarmed_7 : decode cX11_alarmed 7 = .ok (.isub, 1) := by decide +kernel
theorem dX11_alarmed_8 : decode cX11_alarmed 8 = .ok (.invokestatic 191, 3) := by decide +kernel
theorem dX11_alarmed_11 : decode cX11_alarmed 11 = .ok (.ifCond .eq 21, 3) := by decide +kernel
theorem dX11_alarmed_14 : decode cX11_alarmed 14 = .ok (.aload_n 0, 1) := by decide +kernel
theorem dX11_alarmed_15 : decode cX11_alarmed 15 = .ok (.getfield 54, 3) := by decide +kernel
theorem dX11_alarmed_18 : decode cX11_alarmed 18 = .ok (.iload_n 1, 1) := by decide +kernel
theorem dX11_alarmed_19 : decode cX11_alarmed 19 = .ok (.baload, 1) := by decide +kernel
theorem dX11_alarmed_20 : decode cX11_alarmed 20 = .ok (.ifCond .eq 12, 3) := by decide +kernel
theorem dX11_alarmed_23 : decode cX11_alarmed 23 = .ok (.iload_n 2, 1) := by decide +kernel
theorem dX11_alarmed_24 : decode cX11_alarmed 24 = .ok (.iconst 0, 1) := by decide +kernel
theorem dX11_alarmed_25 : decode cX11_alarmed 25 = .ok (.iconst 2, 1) := by decide +kernel
theorem dX11_alarmed_26 : decode cX11_alarmed 26 = .ok (.invokestatic 191, 3) := by decide +kernel
theorem dX11_alarmed_29 : decode cX11_alarmed 29 = .ok (.ifCond .ne 5, 3) := by decide +kernel
theorem dX11_alarmed_32 : decode cX11_alarmed 32 = .ok (.iconst (-1), 1) := by decide +kernel
theorem dX11_alarmed_33 : decode cX11_alarmed 33 = .ok (.ireturn, 1) := by decide +kernel
theorem dX11_alarmed_34 : decode cX11_alarmed 34 = .ok (.iload_n 2, 1) := by decide +kernel
theorem dX11_alarmed_35 : decode cX11_alarmed 35 = .ok (.iconst 2, 1) := by decide +kernel
theorem dX11_alarmed_36 : decode cX11_alarmed 36 = .ok (.if_icmp .ge 26, 3) := by decide +kernel
theorem dX11_alarmed_39 : decode cX11_alarmed 39 = .ok (.iload_n 2, 1) := by decide +kernel
theorem dX11_alarmed_40 : decode cX11_alarmed 40 = .ok (.ifCond .ne 12, 3) := by decide +kernel
theorem dX11_alarmed_43 : decode cX11_alarmed 43 = .ok (.aload_n 0, 1) := by decide +kernel
theorem dX11_alarmed_44 : decode cX11_alarmed 44 = .ok (.getfield 48, 3) := by decide +kernel
theorem dX11_alarmed_47 : decode cX11_alarmed 47 = .ok (.iload_n 1, 1) := by decide +kernel
theorem dX11_alarmed_48 : decode cX11_alarmed 48 = .ok (.iaload, 1) := by decide +kernel
theorem dX11_alarmed_49 : decode cX11_alarmed 49 = .ok (.goto 9, 3) := by decide +kernel
theorem dX11_alarmed_52 : decode cX11_alarmed 52 = .ok (.aload_n 0, 1) := by decide +kernel
theorem dX11_alarmed_53 : decode cX11_alarmed 53 = .ok (.getfield 51, 3) := by decide +kernel
theorem dX11_alarmed_56 : decode cX11_alarmed 56 = .ok (.iload_n 1, 1) := by decide +kernel
theorem dX11_alarmed_57 : decode cX11_alarmed 57 = .ok (.iaload, 1) := by decide +kernel
theorem dX11_alarmed_58 : decode cX11_alarmed 58 = .ok (.invokestatic 235, 3) := by decide +kernel
theorem dX11_alarmed_61 : decode cX11_alarmed 61 = .ok (.ireturn, 1) := by decide +kernel
theorem dX11_alarmed_62 : decode cX11_alarmed 62 = .ok (.iconst 0, 1) := by decide +kernel
theorem dX11_alarmed_63 : decode cX11_alarmed 63 = .ok (.istore_n 3, 1) := by decide +kernel
theorem dX11_alarmed_64 : decode cX11_alarmed 64 = .ok (.iload_n 3, 1) := by decide +kernel
theorem dX11_alarmed_65 : decode cX11_alarmed 65 = .ok (.bipush 16, 2) := by decide +kernel
theorem dX11_alarmed_67 : decode cX11_alarmed 67 = .ok (.if_icmp .ge 22, 3) := by decide +kernel
theorem dX11_alarmed_70 : decode cX11_alarmed 70 = .ok (.aload_n 0, 1) := by decide +kernel
theorem dX11_alarmed_71 : decode cX11_alarmed 71 = .ok (.getfield 51, 3) := by decide +kernel
theorem dX11_alarmed_74 : decode cX11_alarmed 74 = .ok (.iload_n 1, 1) := by decide +kernel
theorem dX11_alarmed_75 : decode cX11_alarmed 75 = .ok (.iaload, 1) := by decide +kernel
theorem dX11_alarmed_76 : decode cX11_alarmed 76 = .ok (.iload_n 3, 1) := by decide +kernel
theorem dX11_alarmed_77 : decode cX11_alarmed 77 = .ok (.ishr, 1) := by decide +kernel
theorem dX11_alarmed_78 : decode cX11_alarmed 78 = .ok (.iconst 1, 1) := by decide +kernel
theorem dX11_alarmed_79 : decode cX11_alarmed 79 = .ok (.iand, 1) := by decide +kernel
theorem dX11_alarmed_80 : decode cX11_alarmed 80 = .ok (.ifCond .ne 9, 3) := by decide +kernel
theorem dX11_alarmed_83 : decode cX11_alarmed 83 = .ok (.iinc 3 1, 3) := by decide +kernel
theorem dX11_alarmed_86 : decode cX11_alarmed 86 = .ok (.goto (-22), 3) := by decide +kernel
theorem dX11_alarmed_89 : decode cX11_alarmed 89 = .ok (.iload_n 3, 1) := by decide +kernel
theorem dX11_alarmed_90 : decode cX11_alarmed 90 = .ok (.bipush 16, 2) := by decide +kernel
theorem dX11_alarmed_92 : decode cX11_alarmed 92 = .ok (.if_icmp .ge 7, 3) := by decide +kernel
theorem dX11_alarmed_95 : decode cX11_alarmed 95 = .ok (.iload_n 3, 1) := by decide +kernel
theorem dX11_alarmed_96 : decode cX11_alarmed 96 = .ok (.goto 4, 3) := by decide +kernel
theorem dX11_alarmed_99 : decode cX11_alarmed 99 = .ok (.iconst (-1), 1) := by decide +kernel
theorem dX11_alarmed_100 : decode cX11_alarmed 100 = .ok (.ireturn, 1) := by decide +kernel
theorem dX11_isThere_0 : decode cX11_isThere 0 = .ok (.iload_n 1, 1) := by decide +kernel
theorem dX11_isThere_1 : decode cX11_isThere 1 = .ok (.iconst 0, 1) := by decide +kernel
theorem dX11_isThere_2 : decode cX11_isThere 2 = .ok (.bipush 11, 2) := by decide +kernel
theorem dX11_isThere_4 : decode cX11_isThere 4 = .ok (.invokestatic 191, 3) := by decide +kernel
theorem dX11_isThere_7 : decode cX11_isThere 7 = .ok (.ifCond .eq 13, 3) := by decide +kernel
theorem dX11_isThere_10 : decode cX11_isThere 10 = .ok (.iload_n 2, 1) := by decide +kernel
theorem dX11_isThere_11 : decode cX11_isThere 11 = .ok (.iconst 0, 1) := by decide +kernel
theorem dX11_isThere_12 : decode cX11_isThere 12 = .ok (.bipush 15, 2) := by decide +kernel
theorem dX11_isThere_14 : decode cX11_isThere 14 = .ok (.invokestatic 191, 3) := by decide +kernel
theorem dX11_isThere_17 : decode cX11_isThere 17 = .ok (.ifCond .ne 5, 3) := by decide +kernel
theorem dX11_isThere_20 : decode cX11_isThere 20 = .ok (.iconst 0, 1) := by decide +kernel
theorem dX11_isThere_21 : decode cX11_isThere 21 = .ok (.ireturn, 1) := by decide +kernel
theorem dX11_isThere_22 : decode cX11_isThere 22 = .ok (.aload_n 0, 1) := by decide +kernel
theorem dX11_isThere_23 : decode cX11_isThere 23 = .ok (.invokevirtual 226, 3) := by decide +kernel
theorem dX11_isThere_26 : decode cX11_isThere 26 = .ok (.iconst 1, 1) := by decide +kernel
theorem dX11_isThere_27 : decode cX11_isThere 27 = .ok (.ireturn, 1) := by decide +kernel
theorem dX11_reading_0 : decode cX11_reading 0 = .ok (.aload_n 0, 1) := by decide +kernel
theorem dX11_reading_1 : decode cX11_reading 1 = .ok (.iload_n 1, 1) := by decide +kernel
theorem dX11_reading_2 : decode cX11_reading 2 = .ok (.iload_n 2, 1) := by decide +kernel
theorem dX11_reading_3 : decode cX11_reading 3 = .ok (.invokevirtual 242, 3) := by decide +kernel
theorem dX11_reading_6 : decode cX11_reading 6 = .ok (.ifCond .eq 31, 3) := by decide +kernel
theorem dX11_reading_9 : decode cX11_reading 9 = .ok (.aload_n 0, 1) := by decide +kernel
theorem dX11_reading_10 : decode cX11_reading 10 = .ok (.getfield 29, 3) := by decide +kernel
theorem dX11_reading_13 : decode cX11_reading 13 = .ok (.bipush 16, 2) := by decide +kernel
theorem dX11_reading_15 : decode cX11_reading 15 = .ok (.iload_n 1, 1) := by decide +kernel
theorem dX11_reading_16 : decode cX11_reading 16 = .ok (.imul, 1) := by decide +kernel
theorem dX11_reading_17 : decode cX11_reading 17 = .ok (.iload_n 2, 1) := by decide +kernel
theorem dX11_reading_18 : decode cX11_reading 18 = .ok (.iadd, 1) := by decide +kernel
theorem dX11_reading_19 : decode cX11_reading 19 = .ok (.baload, 1) := by decide +kernel
theorem dX11_reading_20 : decode cX11_reading 20 = .ok (.ifCond .ne 17, 3) := by decide +kernel
theorem dX11_reading_23 : decode cX11_reading 23 = .ok (.aload_n 0, 1) := by decide +kernel
theorem dX11_reading_24 : decode cX11_reading 24 = .ok (.getfield 26, 3) := by decide +kernel
theorem dX11_reading_27 : decode cX11_reading 27 = .ok (.bipush 16, 2) := by decide +kernel
theorem dX11_reading_29 : decode cX11_reading 29 = .ok (.iload_n 1, 1) := by decide +kernel
theorem dX11_reading_30 : decode cX11_reading 30 = .ok (.imul, 1) := by decide +kernel
theorem dX11_reading_31 : decode cX11_reading 31 = .ok (.iload_n 2, 1) := by decide +kernel
theorem dX11_reading_32 : decode cX11_reading 32 = .ok (.iadd, 1) := by decide +kernel
theorem dX11_reading_33 : decode cX11_reading 33 = .ok (.daload, 1) := by decide +kernel
theorem dX11_reading_34 : decode cX11_reading 34 = .ok (.goto 4, 3) := by decide +kernel
theorem dX11_reading_37 : decode cX11_reading 37 = .ok (.dconst 0, 1) := by decide +kernel
theorem dX11_reading_38 : decode cX11_reading 38 = .ok (.dreturn, 1) := by decide +kernel
theorem dX11_isBlank_0 : decode cX11_isBlank 0 = .ok (.aload_n 0, 1) := by decide +kernel
theorem dX11_isBlank_1 : decode cX11_isBlank 1 = .ok (.iload_n 1, 1) := by decide +kernel
theorem dX11_isBlank_2 : decode cX11_isBlank 2 = .ok (.iload_n 2, 1) := by decide +kernel
theorem dX11_isBlank_3 : decode cX11_isBlank 3 = .ok (.invokevirtual 242, 3) := by decide +kernel
theorem dX11_isBlank_6 : decode cX11_isBlank 6 = .ok (.ifCond .eq 21, 3) := by decide +kernel
theorem dX11_isBlank_9 : decode cX11_isBlank 9 = .ok (.aload_n 0, 1) := by decide +kernel
theorem dX11_isBlank_10 : decode cX11_isBlank 10 = .ok (.getfield 29, 3) := by decide +kernel
theorem dX11_isBlank_13 : decode cX11_isBlank 13 = .ok (.bipush 16, 2) := by decide +kernel
theorem dX11_isBlank_15 : decode cX11_isBlank 15 = .ok (.iload_n 1, 1) := by decide +kernel
theorem dX11_isBlank_16 : decode cX11_isBlank 16 = .ok (.imul, 1) := by decide +kernel
theorem dX11_isBlank_17 : decode cX11_isBlank 17 = .ok (.iload_n 2, 1) := by decide +kernel
theorem dX11_isBlank_18 : decode cX11_isBlank 18 = .ok (.iadd, 1) := by decide +kernel
theorem dX11_isBlank_19 : decode cX11_isBlank 19 = .ok (.baload, 1) := by decide +kernel
theorem dX11_isBlank_20 : decode cX11_isBlank 20 = .ok (.ifCond .eq 7, 3) := by decide +kernel
theorem dX11_isBlank_23 : decode cX11_isBlank 23 = .ok (.iconst 1, 1) := by decide +kernel
theorem dX11_isBlank_24 : decode cX11_isBlank 24 = .ok (.goto 4, 3) := by decide +kernel
theorem dX11_isBlank_27 : decode cX11_isBlank 27 = .ok (.iconst 0, 1) := by decide +kernel
theorem dX11_isBlank_28 : decode cX11_isBlank 28 = .ok (.ireturn, 1) := by decide +kernel
theorem dX11_isMinus_0 : decode cX11_isMinus 0 = .ok (.aload_n 0, 1) := by decide +kernel
theorem dX11_isMinus_1 : decode cX11_isMinus 1 = .ok (.iload_n 1, 1) := by decide +kernel
theorem dX11_isMinus_2 : decode cX11_isMinus 2 = .ok (.iload_n 2, 1) := by decide +kernel
theorem dX11_isMinus_3 : decode cX11_isMinus 3 = .ok (.invokevirtual 242, 3) := by decide +kernel
theorem dX11_isMinus_6 : decode cX11_isMinus 6 = .ok (.ifCond .eq 38, 3) := by decide +kernel
theorem dX11_isMinus_9 : decode cX11_isMinus 9 = .ok (.aload_n 0, 1) := by decide +kernel
theorem dX11_isMinus_10 : decode cX11_isMinus 10 = .ok (.getfield 29, 3) := by decide +kernel
theorem dX11_isMinus_13 : decode cX11_isMinus 13 = .ok (.bipush 16, 2) := by decide +kernel
theorem dX11_isMinus_15 : decode cX11_isMinus 15 = .ok (.iload_n 1, 1) := by decide +kernel
theorem dX11_isMinus_16 : decode cX11_isMinus 16 = .ok (.imul, 1) := by decide +kernel
theorem dX11_isMinus_17 : decode cX11_isMinus 17 = .ok (.iload_n 2, 1) := by decide +kernel
theorem dX11_isMinus_18 : decode cX11_isMinus 18 = .ok (.iadd, 1) := by decide +kernel
theorem dX11_isMinus_19 : decode cX11_isMinus 19 = .ok (.baload, 1) := by decide +kernel
theorem dX11_isMinus_20 : decode cX11_isMinus 20 = .ok (.ifCond .ne 24, 3) := by decide +kernel
theorem dX11_isMinus_23 : decode cX11_isMinus 23 = .ok (.aload_n 0, 1) := by decide +kernel
theorem dX11_isMinus_24 : decode cX11_isMinus 24 = .ok (.getfield 26, 3) := by decide +kernel
theorem dX11_isMinus_27 : decode cX11_isMinus 27 = .ok (.bipush 16, 2) := by decide +kernel
theorem dX11_isMinus_29 : decode cX11_isMinus 29 = .ok (.iload_n 1, 1) := by decide +kernel
theorem dX11_isMinus_30 : decode cX11_isMinus 30 = .ok (.imul, 1) := by decide +kernel
theorem dX11_isMinus_31 : decode cX11_isMinus 31 = .ok (.iload_n 2, 1) := by decide +kernel
theorem dX11_isMinus_32 : decode cX11_isMinus 32 = .ok (.iadd, 1) := by decide +kernel
theorem dX11_isMinus_33 : decode cX11_isMinus 33 = .ok (.daload, 1) := by decide +kernel
theorem dX11_isMinus_34 : decode cX11_isMinus 34 = .ok (.invokestatic 67, 3) := by decide +kernel
theorem dX11_isMinus_37 : decode cX11_isMinus 37 = .ok (.ifCond .eq 7, 3) := by decide +kernel
theorem dX11_isMinus_40 : decode cX11_isMinus 40 = .ok (.iconst 1, 1) := by decide +kernel
theorem dX11_isMinus_41 : decode cX11_isMinus 41 = .ok (.goto 4, 3) := by decide +kernel
theorem dX11_isMinus_44 : decode cX11_isMinus 44 = .ok (.iconst 0, 1) := by decide +kernel
theorem dX11_isMinus_45 : decode cX11_isMinus 45 = .ok (.ireturn, 1) := by decide +kernel
theorem dX11_digits_0 : decode cX11_digits 0 = .ok (.dload_n 0, 1) := by decide +kernel
theorem dX11_digits_1 : decode cX11_digits 1 = .ok (.invokestatic 61, 3) := by decide +kernel
theorem dX11_digits_4 : decode cX11_digits 4 = .ok (.ifCond .eq 5, 3) := by decide +kernel
theorem dX11_digits_7 : decode cX11_digits 7 = .ok (.lconst 0, 1) := by decide +kernel
theorem dX11_digits_8 : decode cX11_digits 8 = .ok (.lreturn, 1) := by decide +kernel
theorem dX11_digits_9 : decode cX11_digits 9 = .ok (.dload_n 0, 1) := by decide +kernel
theorem dX11_digits_10 : decode cX11_digits 10 = .ok (.invokestatic 111, 3) := by decide +kernel
theorem dX11_digits_13 : decode cX11_digits 13 = .ok (.ifCond .eq 15, 3) := by decide +kernel
theorem dX11_digits_16 : decode cX11_digits 16 = .ok (.ldc2_w 245, 3) := by decide +kernel
theorem dX11_digits_19 : decode cX11_digits 19 = .ok (.iload 4, 2) := by decide +kernel
theorem dX11_digits_21 : decode cX11_digits 21 = .ok (.i2l, 1) := by decide +kernel
theorem dX11_digits_22 : decode cX11_digits 22 = .ok (.lmul, 1) := by decide +kernel
theorem dX11_digits_23 : decode cX11_digits 23 = .ok (.lconst 1, 1) := by decide +kernel
theorem dX11_digits_24 : decode cX11_digits 24 = .ok (.ladd, 1) := by decide +kernel
theorem dX11_digits_25 : decode cX11_digits 25 = .ok (.iload_n 2, 1) := by decide +kernel
theorem dX11_digits_26 : decode cX11_digits 26 = .ok (.lshl, 1) := by decide +kernel
theorem dX11_digits_27 : decode cX11_digits 27 = .ok (.lreturn, 1) := by decide +kernel
theorem dX11_digits_28 : decode cX11_digits 28 = .ok (.dload_n 0, 1) := by decide +kernel
theorem dX11_digits_29 : decode cX11_digits 29 = .ok (.dstore 5, 2) := by decide +kernel
theorem dX11_digits_31 : decode cX11_digits 31 = .ok (.iconst 0, 1) := by decide +kernel
theorem dX11_digits_32 : decode cX11_digits 32 = .ok (.istore 7, 2) := by decide +kernel
theorem dX11_digits_34 : decode cX11_digits 34 = .ok (.dload 5, 2) := by decide +kernel
theorem dX11_digits_36 : decode cX11_digits 36 = .ok (.ldc2_w 84, 3) := by decide +kernel
theorem dX11_digits_39 : decode cX11_digits 39 = .ok (.dcmp .l, 1) := by decide +kernel
theorem dX11_digits_40 : decode cX11_digits 40 = .ok (.ifCond .lt 17, 3) := by decide +kernel
theorem dX11_digits_43 : decode cX11_digits 43 = .ok (.dload 5, 2) := by decide +kernel
theorem dX11_digits_45 : decode cX11_digits 45 = .ok (.ldc2_w 84, 3) := by decide +kernel
theorem dX11_digits_48 : decode cX11_digits 48 = .ok (.ddiv, 1) := by decide +kernel
theorem dX11_digits_49 : decode cX11_digits 49 = .ok (.dstore 5, 2) := by decide +kernel
theorem dX11_digits_51 : decode cX11_digits 51 = .ok (.iinc 7 1, 3) := by decide +kernel
theorem dX11_digits_54 : decode cX11_digits 54 = .ok (.goto (-20), 3) := by decide +kernel
theorem dX11_digits_57 : decode cX11_digits 57 = .ok (.dload 5, 2) := by decide +kernel
theorem dX11_digits_59 : decode cX11_digits 59 = .ok (.dconst 1, 1) := by decide +kernel
theorem dX11_digits_60 : decode cX11_digits 60 = .ok (.dcmp .g, 1) := by decide +kernel
theorem dX11_digits_61 : decode cX11_digits 61 = .ok (.ifCond .ge 23, 3) := by decide +kernel
theorem dX11_digits_64 : decode cX11_digits 64 = .ok (.iload 7, 2) := by decide +kernel
theorem dX11_digits_66 : decode cX11_digits 66 = .ok (.iload_n 3, 1) := by decide +kernel
theorem dX11_digits_67 : decode cX11_digits 67 = .ok (.if_icmp .le 17, 3) := by decide +kernel
theorem dX11_digits_70 : decode cX11_digits 70 = .ok (.dload 5, 2) := by decide +kernel
theorem dX11_digits_72 : decode cX11_digits 72 = .ok (.ldc2_w 84, 3) := by decide +kernel
theorem dX11_digits_75 : decode cX11_digits 75 = .ok (.dmul, 1) := by decide +kernel
theorem dX11_digits_76 : decode cX11_digits 76 = .ok (.dstore 5, 2) := by decide +kernel
theorem dX11_digits_78 : decode cX11_digits 78 = .ok (.iinc 7 (-1), 3) := by decide +kernel
theorem dX11_digits_81 : decode cX11_digits 81 = .ok (.goto (-24), 3) := by decide +kernel
theorem dX11_digits_84 : decode cX11_digits 84 = .ok (.lconst 1, 1) := by decide +kernel
theorem dX11_digits_85 : decode cX11_digits 85 = .ok (.iload_n 2, 1) := by decide +kernel
theorem dX11_digits_86 : decode cX11_digits 86 = .ok (.lshl, 1) := by decide +kernel
theorem dX11_digits_87 : decode cX11_digits 87 = .ok (.l2d, 1) := by decide +kernel
theorem dX11_digits_88 : decode cX11_digits 88 = .ok (.dstore 8, 2) := by decide +kernel
theorem dX11_digits_90 : decode cX11_digits 90 = .ok (.dload 5, 2) := by decide +kernel
theorem dX11_digits_92 : decode cX11_digits 92 = .ok (.dconst 1, 1) := by decide +kernel
theorem dX11_digits_93 : decode cX11_digits 93 = .ok (.dcmp .g, 1) := by decide +kernel
theorem dX11_digits_94 : decode cX11_digits 94 = .ok (.ifCond .ge 10, 3) := by decide +kernel
theorem dX11_digits_97 : decode cX11_digits 97 = .ok (.dload 5, 2) := by decide +kernel
theorem dX11_digits_99 : decode cX11_digits 99 = .ok (.dload 8, 2) := by decide +kernel
theorem dX11_digits_101 : decode cX11_digits 101 = .ok (.dmul, 1) := by decide +kernel
theorem dX11_digits_102 : decode cX11_digits 102 = .ok (.d2l, 1) := by decide +kernel
theorem dX11_digits_103 : decode cX11_digits 103 = .ok (.lreturn, 1) := by decide +kernel
theorem dX11_digits_104 : decode cX11_digits 104 = .ok (.iload 7, 2) := by decide +kernel
theorem dX11_digits_106 : decode cX11_digits 106 = .ok (.iload 4, 2) := by decide +kernel
theorem dX11_digits_108 : decode cX11_digits 108 = .ok (.iadd, 1) := by decide +kernel
theorem dX11_digits_109 : decode cX11_digits 109 = .ok (.i2l, 1) := by decide +kernel
theorem dX11_digits_110 : decode cX11_digits 110 = .ok (.iload_n 2, 1) := by decide +kernel
theorem dX11_digits_111 : decode cX11_digits 111 = .ok (.lshl, 1) := by decide +kernel
theorem dX11_digits_112 : decode cX11_digits 112 = .ok (.dload 5, 2) := by decide +kernel
theorem dX11_digits_114 : decode cX11_digits 114 = .ok (.dconst 1, 1) := by decide +kernel
theorem dX11_digits_115 : decode cX11_digits 115 = .ok (.dsub, 1) := by decide +kernel
theorem dX11_digits_116 : decode cX11_digits 116 = .ok (.dload 8, 2) := by decide +kernel
theorem dX11_digits_118 : decode cX11_digits 118 = .ok (.dmul, 1) := by decide +kernel
theorem dX11_digits_119 : decode cX11_digits 119 = .ok (.d2l, 1) := by decide +kernel
theorem dX11_digits_120 : decode cX11_digits 120 = .ok (.lor, 1) := by decide +kernel
theorem dX11_digits_121 : decode cX11_digits 121 = .ok (.lreturn, 1) := by decide +kernel
theorem dX11_bits_0 : decode cX11_bits 0 = .ok (.aload_n 0, 1) := by decide +kernel
theorem dX11_bits_1 : decode cX11_bits 1 = .ok (.iload_n 1, 1) := by decide +kernel
theorem dX11_bits_2 : decode cX11_bits 2 = .ok (.iload_n 2, 1) := by decide +kernel
theorem dX11_bits_3 : decode cX11_bits 3 = .ok (.invokevirtual 242, 3) := by decide +kernel
theorem dX11_bits_6 : decode cX11_bits 6 = .ok (.ifCond .eq 17, 3) := by decide +kernel
theorem dX11_bits_9 : decode cX11_bits 9 = .ok (.aload_n 0, 1) := by decide +kernel
theorem dX11_bits_10 : decode cX11_bits 10 = .ok (.getfield 29, 3) := by decide +kernel
theorem dX11_bits_13 : decode cX11_bits 13 = .ok (.bipush 16, 2) := by decide +kernel
theorem dX11_bits_15 : decode cX11_bits 15 = .ok (.iload_n 1, 1) := by decide +kernel
theorem dX11_bits_16 : decode cX11_bits 16 = .ok (.imul, 1) := by decide +kernel
theorem dX11_bits_17 : decode cX11_bits 17 = .ok (.iload_n 2, 1) := by decide +kernel
theorem dX11_bits_18 : decode cX11_bits 18 = .ok (.iadd, 1) := by decide +kernel
theorem dX11_bits_19 : decode cX11_bits 19 = .ok (.baload, 1) := by decide +kernel
theorem dX11_bits_20 : decode cX11_bits 20 = .ok (.ifCond .eq 5, 3) := by decide +kernel
theorem dX11_bits_23 : decode cX11_bits 23 = .ok (.lconst 0, 1) := by decide +kernel
theorem dX11_bits_24 : decode cX11_bits 24 = .ok (.lreturn, 1) := by decide +kernel
theorem dX11_bits_25 : decode cX11_bits 25 = .ok (.aload_n 0, 1) := by decide +kernel
theorem dX11_bits_26 : decode cX11_bits 26 = .ok (.getfield 26, 3) := by decide +kernel
theorem dX11_bits_29 : decode cX11_bits 29 = .ok (.bipush 16, 2) := by decide +kernel
theorem dX11_bits_31 : decode cX11_bits 31 = .ok (.iload_n 1, 1) := by decide +kernel
theorem dX11_bits_32 : decode cX11_bits 32 = .ok (.imul, 1) := by decide +kernel
theorem dX11_bits_33 : decode cX11_bits 33 = .ok (.iload_n 2, 1) := by decide +kernel
theorem dX11_bits_34 : decode cX11_bits 34 = .ok (.iadd, 1) := by decide +kernel
theorem dX11_bits_35 : decode cX11_bits 35 = .ok (.daload, 1) := by decide +kernel
theorem dX11_bits_36 : decode cX11_bits 36 = .ok (.dstore_n 3, 1) := by decide +kernel
theorem dX11_bits_37 : decode cX11_bits 37 = .ok (.dload_n 3, 1) := by decide +kernel
theorem dX11_bits_38 : decode cX11_bits 38 = .ok (.invokestatic 67, 3) := by decide +kernel
theorem dX11_bits_41 : decode cX11_bits 41 = .ok (.ifCond .eq 8, 3) := by decide +kernel
theorem dX11_bits_44 : decode cX11_bits 44 = .ok (.dload_n 3, 1) := by decide +kernel
theorem dX11_bits_45 : decode cX11_bits 45 = .ok (.dneg, 1) := by decide +kernel
theorem dX11_bits_46 : decode cX11_bits 46 = .ok (.goto 4, 3) := by decide +kernel
theorem dX11_bits_49 : decode cX11_bits 49 = .ok (.dload_n 3, 1) := by decide +kernel
theorem dX11_bits_50 : decode cX11_bits 50 = .ok (.dstore 5, 2) := by decide +kernel
theorem dX11_bits_52 : decode cX11_bits 52 = .ok (.aload_n 0, 1) := by decide +kernel
theorem dX11_bits_53 : decode cX11_bits 53 = .ok (.getfield 19, 3) := by decide +kernel
theorem dX11_bits_56 : decode cX11_bits 56 = .ok (.iload_n 1, 1) := by decide +kernel
theorem dX11_bits_57 : decode cX11_bits 57 = .ok (.baload, 1) := by decide +kernel
theorem dX11_bits_58 : decode cX11_bits 58 = .ok (.ifCond .eq 37, 3) := by decide +kernel
theorem dX11_bits_61 : decode cX11_bits 61 = .ok (.dload 5, 2) := by decide +kernel
theorem dX11_bits_63 : decode cX11_bits 63 = .ok (.bipush 23, 2) := by decide +kernel
theorem dX11_bits_65 : decode cX11_bits 65 = .ok (.bipush (-126), 2) := by decide +kernel
theorem dX11_bits_67 : decode cX11_bits 67 = .ok (.bipush 127, 2) := by decide +kernel
theorem dX11_bits_69 : decode cX11_bits 69 = .ok (.invokestatic 247, 3) := by decide +kernel
theorem dX11_bits_72 : decode cX11_bits 72 = .ok (.l2i, 1) := by decide +kernel
theorem dX11_bits_73 : decode cX11_bits 73 = .ok (.istore 7, 2) := by decide +kernel
theorem dX11_bits_75 : decode cX11_bits 75 = .ok (.dload_n 3, 1) := by decide +kernel
theorem dX11_bits_76 : decode cX11_bits 76 = .ok (.invokestatic 67, 3) := by decide +kernel
theorem dX11_bits_79 : decode cX11_bits 79 = .ok (.ifCond .eq 12, 3) := by decide +kernel
theorem dX11_bits_82 : decode cX11_bits 82 = .ok (.iload 7, 2) := by decide +kernel
theorem dX11_bits_84 : decode cX11_bits 84 = .ok (.ldc 251, 2) := by decide +kernel
theorem dX11_bits_86 : decode cX11_bits 86 = .ok (.ior, 1) := by decide +kernel
theorem dX11_bits_87 : decode cX11_bits 87 = .ok (.i2l, 1) := by decide +kernel
theorem dX11_bits_88 : decode cX11_bits 88 = .ok (.goto 6, 3) := by decide +kernel
theorem dX11_bits_91 : decode cX11_bits 91 = .ok (.iload 7, 2) := by decide +kernel
theorem dX11_bits_93 : decode cX11_bits 93 = .ok (.i2l, 1) := by decide +kernel
theorem dX11_bits_94 : decode cX11_bits 94 = .ok (.lreturn, 1) := by decide +kernel
theorem dX11_bits_95 : decode cX11_bits 95 = .ok (.dload 5, 2) := by decide +kernel
theorem dX11_bits_97 : decode cX11_bits 97 = .ok (.bipush 52, 2) := by decide +kernel
theorem dX11_bits_99 : decode cX11_bits 99 = .ok (.sipush (-1022), 3) := by decide +kernel
theorem dX11_bits_102 : decode cX11_bits 102 = .ok (.sipush 1023, 3) := by decide +kernel
theorem dX11_bits_105 : decode cX11_bits 105 = .ok (.invokestatic 247, 3) := by decide +kernel
theorem dX11_bits_108 : decode cX11_bits 108 = .ok (.lstore 7, 2) := by decide +kernel
theorem dX11_bits_110 : decode cX11_bits 110 = .ok (.dload_n 3, 1) := by decide +kernel
theorem dX11_bits_111 : decode cX11_bits 111 = .ok (.invokestatic 67, 3) := by decide +kernel
theorem dX11_bits_114 : decode cX11_bits 114 = .ok (.ifCond .eq 12, 3) := by decide +kernel
theorem dX11_bits_117 : decode cX11_bits 117 = .ok (.lload 7, 2) := by decide +kernel
theorem dX11_bits_119 : decode cX11_bits 119 = .ok (.ldc2_w 252, 3) := by decide +kernel
theorem dX11_bits_122 : decode cX11_bits 122 = .ok (.lor, 1) := by decide +kernel
theorem dX11_bits_123 : decode cX11_bits 123 = .ok (.goto 5, 3) := by decide +kernel
theorem dX11_bits_126 : decode cX11_bits 126 = .ok (.lload 7, 2) := by decide +kernel
theorem dX11_bits_128 : decode cX11_bits 128 = .ok (.lreturn, 1) := by decide +kernel
theorem dX11_compared_0 : decode cX11_compared 0 = .ok (.iload_n 1, 1) := by decide +kernel
theorem dX11_compared_1 : decode cX11_compared 1 = .ok (.iconst 0, 1) := by decide +kernel
theorem dX11_compared_2 : decode cX11_compared 2 = .ok (.bipush 11, 2) := by decide +kernel
theorem dX11_compared_4 : decode cX11_compared 4 = .ok (.invokestatic 191, 3) := by decide +kernel
theorem dX11_compared_7 : decode cX11_compared 7 = .ok (.ifCond .eq 23, 3) := by decide +kernel
theorem dX11_compared_10 : decode cX11_compared 10 = .ok (.iload_n 3, 1) := by decide +kernel
theorem dX11_compared_11 : decode cX11_compared 11 = .ok (.iconst 0, 1) := by decide +kernel
theorem dX11_compared_12 : decode cX11_compared 12 = .ok (.bipush 11, 2) := by decide +kernel
theorem dX11_compared_14 : decode cX11_compared 14 = .ok (.invokestatic 191, 3) := by decide +kernel
theorem dX11_compared_17 : decode cX11_compared 17 = .ok (.ifCond .eq 13, 3) := by decide +kernel
theorem dX11_compared_20 : decode cX11_compared 20 = .ok (.iload_n 2, 1) := by decide +kernel
theorem dX11_compared_21 : decode cX11_compared 21 = .ok (.iconst 0, 1) := by decide +kernel
theorem dX11_compared_22 : decode cX11_compared 22 = .ok (.bipush 11, 2) := by decide +kernel
theorem dX11_compared_24 : decode cX11_compared 24 = .ok (.invokestatic 191, 3) := by decide +kernel
theorem dX11_compared_27 : decode cX11_compared 27 = .ok (.ifCond .ne 5, 3) := by decide +kernel
theorem dX11_compared_30 : decode cX11_compared 30 = .ok (.iconst (-1), 1) := by decide +kernel
theorem dX11_compared_31 : decode cX11_compared 31 = .ok (.ireturn, 1) := by decide +kernel
theorem dX11_compared_32 : decode cX11_compared 32 = .ok (.aload_n 0, 1) := by decide +kernel
theorem dX11_compared_33 : decode cX11_compared 33 = .ok (.invokevirtual 226, 3) := by decide +kernel
theorem dX11_compared_36 : decode cX11_compared 36 = .ok (.iconst 0, 1) := by decide +kernel
theorem dX11_compared_37 : decode cX11_compared 37 = .ok (.istore 4, 2) := by decide +kernel
theorem dX11_compared_39 : decode cX11_compared 39 = .ok (.iconst 0, 1) := by decide +kernel
theorem dX11_compared_40 : decode cX11_compared 40 = .ok (.istore 5, 2) := by decide +kernel
theorem dX11_compared_42 : decode cX11_compared 42 = .ok (.iload 5, 2) := by decide +kernel
theorem dX11_compared_44 : decode cX11_compared 44 = .ok (.bipush 16, 2) := by decide +kernel
theorem dX11_compared_46 : decode cX11_compared 46 = .ok (.if_icmp .ge 72, 3) := by decide +kernel
theorem dX11_compared_49 : decode cX11_compared 49 = .ok (.bipush 16, 2) := by decide +kernel
theorem dX11_compared_51 : decode cX11_compared 51 = .ok (.iload_n 1, 1) := by decide +kernel
theorem dX11_compared_52 : decode cX11_compared 52 = .ok (.imul, 1) := by decide +kernel
theorem dX11_compared_53 : decode cX11_compared 53 = .ok (.iload 5, 2) := by decide +kernel
theorem dX11_compared_55 : decode cX11_compared 55 = .ok (.iadd, 1) := by decide +kernel
theorem dX11_compared_56 : decode cX11_compared 56 = .ok (.istore 6, 2) := by decide +kernel
theorem dX11_compared_58 : decode cX11_compared 58 = .ok (.bipush 16, 2) := by decide +kernel
theorem dX11_compared_60 : decode cX11_compared 60 = .ok (.iload_n 3, 1) := by decide +kernel
theorem dX11_compared_61 : decode cX11_compared 61 = .ok (.imul, 1) := by decide +kernel
theorem dX11_compared_62 : decode cX11_compared 62 = .ok (.iload 5, 2) := by decide +kernel
theorem dX11_compared_64 : decode cX11_compared 64 = .ok (.iadd, 1) := by decide +kernel
theorem dX11_compared_65 : decode cX11_compared 65 = .ok (.istore 7, 2) := by decide +kernel
theorem dX11_compared_67 : decode cX11_compared 67 = .ok (.iload 4, 2) := by decide +kernel
theorem dX11_compared_69 : decode cX11_compared 69 = .ok (.iload_n 2, 1) := by decide +kernel
theorem dX11_compared_70 : decode cX11_compared 70 = .ok (.aload_n 0, 1) := by decide +kernel
theorem dX11_compared_71 : decode cX11_compared 71 = .ok (.getfield 26, 3) := by decide +kernel
theorem dX11_compared_74 : decode cX11_compared 74 = .ok (.iload 6, 2) := by decide +kernel
theorem dX11_compared_76 : decode cX11_compared 76 = .ok (.daload, 1) := by decide +kernel
theorem dX11_compared_77 : decode cX11_compared 77 = .ok (.aload_n 0, 1) := by decide +kernel
theorem dX11_compared_78 : decode cX11_compared 78 = .ok (.getfield 29, 3) := by decide +kernel
theorem dX11_compared_81 : decode cX11_compared 81 = .ok (.iload 6, 2) := by decide +kernel
theorem dX11_compared_83 : decode cX11_compared 83 = .ok (.baload, 1) := by decide +kernel
theorem dX11_compared_84 : decode cX11_compared 84 = .ok (.aload_n 0, 1) := by decide +kernel
theorem dX11_compared_85 : decode cX11_compared 85 = .ok (.getfield 26, 3) := by decide +kernel
theorem dX11_compared_88 : decode cX11_compared 88 = .ok (.iload 7, 2) := by decide +kernel
theorem dX11_compared_90 : decode cX11_compared 90 = .ok (.daload, 1) := by decide +kernel
theorem dX11_compared_91 : decode cX11_compared 91 = .ok (.aload_n 0, 1) := by decide +kernel
theorem dX11_compared_92 : decode cX11_compared 92 = .ok (.getfield 29, 3) := by decide +kernel
theorem dX11_compared_95 : decode cX11_compared 95 = .ok (.iload 7, 2) := by decide +kernel
theorem dX11_compared_97 : decode cX11_compared 97 = .ok (.baload, 1) := by decide +kernel
theorem dX11_compared_98 : decode cX11_compared 98 = .ok (.invokestatic 150, 3) := by decide +kernel
theorem dX11_compared_101 : decode cX11_compared 101 = .ok (.ifCond .eq 7, 3) := by decide +kernel
theorem dX11_compared_104 : decode cX11_compared 104 = .ok (.iconst 1, 1) := by decide +kernel
theorem dX11_compared_105 : decode cX11_compared 105 = .ok (.goto 4, 3) := by decide +kernel
theorem dX11_compared_108 : decode cX11_compared 108 = .ok (.iconst 0, 1) := by decide +kernel
theorem dX11_compared_109 : decode cX11_compared 109 = .ok (.iadd, 1) := by decide +kernel
theorem dX11_compared_110 : decode cX11_compared 110 = .ok (.istore 4, 2) := by decide +kernel
theorem dX11_compared_112 : decode cX11_compared 112 = .ok (.iinc 5 1, 3) := by decide +kernel
theorem dX11_compared_115 : decode cX11_compared 115 = .ok (.goto (-73), 3) := by decide +kernel
theorem dX11_compared_118 : decode cX11_compared 118 = .ok (.iload 4, 2) := by decide +kernel
theorem dX11_compared_120 : decode cX11_compared 120 = .ok (.ireturn, 1) := by decide +kernel
theorem dX11_told_0 : decode cX11_told 0 = .ok (.iload_n 1, 1) := by decide +kernel
theorem dX11_told_1 : decode cX11_told 1 = .ok (.bipush 12, 2) := by decide +kernel
theorem dX11_told_3 : decode cX11_told 3 = .ok (.if_icmp .ne 40, 3) := by decide +kernel
theorem dX11_told_6 : decode cX11_told 6 = .ok (.iload_n 2, 1) := by decide +kernel
theorem dX11_told_7 : decode cX11_told 7 = .ok (.ifCond .ne 10, 3) := by decide +kernel
theorem dX11_told_10 : decode cX11_told 10 = .ok (.aload_n 0, 1) := by decide +kernel
theorem dX11_told_11 : decode cX11_told 11 = .ok (.getfield 187, 3) := by decide +kernel
theorem dX11_told_14 : decode cX11_told 14 = .ok (.goto 28, 3) := by decide +kernel
theorem dX11_told_17 : decode cX11_told 17 = .ok (.iload_n 2, 1) := by decide +kernel
theorem dX11_told_18 : decode cX11_told 18 = .ok (.iconst 1, 1) := by decide +kernel
theorem dX11_told_19 : decode cX11_told 19 = .ok (.if_icmp .ne 10, 3) := by decide +kernel
theorem dX11_told_22 : decode cX11_told 22 = .ok (.aload_n 0, 1) := by decide +kernel
theorem dX11_told_23 : decode cX11_told 23 = .ok (.getfield 229, 3) := by decide +kernel
theorem dX11_told_26 : decode cX11_told 26 = .ok (.goto 16, 3) := by decide +kernel
theorem dX11_told_29 : decode cX11_told 29 = .ok (.iload_n 2, 1) := by decide +kernel
theorem dX11_told_30 : decode cX11_told 30 = .ok (.iconst 2, 1) := by decide +kernel
theorem dX11_told_31 : decode cX11_told 31 = .ok (.if_icmp .ne 10, 3) := by decide +kernel
theorem dX11_told_34 : decode cX11_told 34 = .ok (.aload_n 0, 1) := by decide +kernel
theorem dX11_told_35 : decode cX11_told 35 = .ok (.getfield 239, 3) := by decide +kernel
theorem dX11_told_38 : decode cX11_told 38 = .ok (.goto 4, 3) := by decide +kernel
theorem dX11_told_41 : decode cX11_told 41 = .ok (.iconst (-1), 1) := by decide +kernel
theorem dX11_told_42 : decode cX11_told 42 = .ok (.ireturn, 1) := by decide +kernel
theorem dX11_told_43 : decode cX11_told 43 = .ok (.iload_n 1, 1) := by decide +kernel
theorem dX11_told_44 : decode cX11_told 44 = .ok (.iconst 0, 1) := by decide +kernel
theorem dX11_told_45 : decode cX11_told 45 = .ok (.bipush 11, 2) := by decide +kernel
theorem dX11_told_47 : decode cX11_told 47 = .ok (.invokestatic 191, 3) := by decide +kernel
theorem dX11_told_50 : decode cX11_told 50 = .ok (.ifCond .ne 5, 3) := by decide +kernel
theorem dX11_told_53 : decode cX11_told 53 = .ok (.iconst (-1), 1) := by decide +kernel
theorem dX11_told_54 : decode cX11_told 54 = .ok (.ireturn, 1) := by decide +kernel
theorem dX11_told_55 : decode cX11_told 55 = .ok (.iload_n 2, 1) := by decide +kernel
theorem dX11_told_56 : decode cX11_told 56 = .ok (.tableswitch 111 0 3 #[32, 49, 64, 102], 32) := by decide +kernel
theorem dX11_told_88 : decode cX11_told 88 = .ok (.aload_n 0, 1) := by decide +kernel
theorem dX11_told_89 : decode cX11_told 89 = .ok (.getfield 22, 3) := by decide +kernel
theorem dX11_told_92 : decode cX11_told 92 = .ok (.iconst 4, 1) := by decide +kernel
theorem dX11_told_93 : decode cX11_told 93 = .ok (.iload_n 1, 1) := by decide +kernel
theorem dX11_told_94 : decode cX11_told 94 = .ok (.imul, 1) := by decide +kernel
theorem dX11_told_95 : decode cX11_told 95 = .ok (.iaload, 1) := by decide +kernel
theorem dX11_told_96 : decode cX11_told 96 = .ok (.ifCond .ge 7, 3) := by decide +kernel
theorem dX11_told_99 : decode cX11_told 99 = .ok (.iconst 0, 1) := by decide +kernel
theorem dX11_told_100 : decode cX11_told 100 = .ok (.goto 4, 3) := by decide +kernel
theorem dX11_told_103 : decode cX11_told 103 = .ok (.iconst 1, 1) := by decide +kernel
theorem dX11_told_104 : decode cX11_told 104 = .ok (.ireturn, 1) := by decide +kernel
theorem dX11_told_105 : decode cX11_told 105 = .ok (.aload_n 0, 1) := by decide +kernel
theorem dX11_told_106 : decode cX11_told 106 = .ok (.getfield 19, 3) := by decide +kernel
theorem dX11_told_109 : decode cX11_told 109 = .ok (.iload_n 1, 1) := by decide +kernel
theorem dX11_told_110 : decode cX11_told 110 = .ok (.baload, 1) := by decide +kernel
theorem dX11_told_111 : decode cX11_told 111 = .ok (.ifCond .eq 7, 3) := by decide +kernel
theorem dX11_told_114 : decode cX11_told 114 = .ok (.iconst 1, 1) := by decide +kernel
theorem dX11_told_115 : decode cX11_told 115 = .ok (.goto 4, 3) := by decide +kernel
theorem dX11_told_118 : decode cX11_told 118 = .ok (.iconst 0, 1) := by decide +kernel
theorem dX11_told_119 : decode cX11_told 119 = .ok (.ireturn, 1) := by decide +kernel
theorem dX11_told_120 : decode cX11_told 120 = .ok (.iconst 0, 1) := by decide +kernel
theorem dX11_told_121 : decode cX11_told 121 = .ok (.istore_n 3, 1) := by decide +kernel
theorem dX11_told_122 : decode cX11_told 122 = .ok (.iconst 0, 1) := by decide +kernel
theorem dX11_told_123 : decode cX11_told 123 = .ok (.istore 4, 2) := by decide +kernel
theorem dX11_told_125 : decode cX11_told 125 = .ok (.iload 4, 2) := by decide +kernel
theorem dX11_told_127 : decode cX11_told 127 = .ok (.bipush 16, 2) := by decide +kernel
theorem dX11_told_129 : decode cX11_told 129 = .ok (.if_icmp .ge 27, 3) := by decide +kernel
theorem dX11_told_132 : decode cX11_told 132 = .ok (.iload_n 3, 1) := by decide +kernel
theorem dX11_told_133 : decode cX11_told 133 = .ok (.aload_n 0, 1) := by decide +kernel
theorem dX11_told_134 : decode cX11_told 134 = .ok (.iload_n 1, 1) := by decide +kernel
theorem dX11_told_135 : decode cX11_told 135 = .ok (.iload 4, 2) := by decide +kernel
theorem dX11_told_137 : decode cX11_told 137 = .ok (.invokevirtual 254, 3) := by decide +kernel
theorem dX11_told_140 : decode cX11_told 140 = .ok (.ifCond .eq 7, 3) := by decide +kernel
theorem dX11_told_143 : decode cX11_told 143 = .ok (.iconst 1, 1) := by decide +kernel
theorem dX11_told_144 : decode cX11_told 144 = .ok (.goto 4, 3) := by decide +kernel
theorem dX11_told_147 : decode cX11_told 147 = .ok (.iconst 0, 1) := by decide +kernel
theorem dX11_told_148 : decode cX11_told 148 = .ok (.iadd, 1) := by decide +kernel
theorem dX11_told_149 : decode cX11_told 149 = .ok (.istore_n 3, 1) := by decide +kernel
theorem dX11_told_150 : decode cX11_told 150 = .ok (.iinc 4 1, 3) := by decide +kernel
theorem dX11_told_153 : decode cX11_told 153 = .ok (.goto (-28), 3) := by decide +kernel
theorem dX11_told_156 : decode cX11_told 156 = .ok (.iload_n 3, 1) := by decide +kernel
theorem dX11_told_157 : decode cX11_told 157 = .ok (.ireturn, 1) := by decide +kernel
theorem dX11_told_158 : decode cX11_told 158 = .ok (.aload_n 0, 1) := by decide +kernel
theorem dX11_told_159 : decode cX11_told 159 = .ok (.getfield 22, 3) := by decide +kernel
theorem dX11_told_162 : decode cX11_told 162 = .ok (.iconst 4, 1) := by decide +kernel
theorem dX11_told_163 : decode cX11_told 163 = .ok (.iload_n 1, 1) := by decide +kernel
theorem dX11_told_164 : decode cX11_told 164 = .ok (.imul, 1) := by decide +kernel
theorem dX11_told_165 : decode cX11_told 165 = .ok (.iaload, 1) := by decide +kernel
theorem dX11_told_166 : decode cX11_told 166 = .ok (.ireturn, 1) := by decide +kernel
theorem dX11_told_167 : decode cX11_told 167 = .ok (.iconst (-1), 1) := by decide +kernel
theorem dX11_told_168 : decode cX11_told 168 = .ok (.ireturn, 1) := by decide +kernel
theorem dJ6_bitCount_0f7a4_0 : decode cJ6_bitCount_0f7a4 0 = .ok (.iload_n 0, 1) := by decide +kernel
theorem dJ6_bitCount_0f7a4_1 : decode cJ6_bitCount_0f7a4 1 = .ok (.iload_n 0, 1) := by decide +kernel
theorem dJ6_bitCount_0f7a4_2 : decode cJ6_bitCount_0f7a4 2 = .ok (.iconst 1, 1) := by decide +kernel
theorem dJ6_bitCount_0f7a4_3 : decode cJ6_bitCount_0f7a4 3 = .ok (.iushr, 1) := by decide +kernel
theorem dJ6_bitCount_0f7a4_4 : decode cJ6_bitCount_0f7a4 4 = .ok (.ldc_w 265, 3) := by decide +kernel
theorem dJ6_bitCount_0f7a4_7 : decode cJ6_bitCount_0f7a4 7 = .ok (.iand, 1) := by decide +kernel
theorem dJ6_bitCount_0f7a4_8 : decode cJ6_bitCount_0f7a4 8 = .ok (.isub, 1) := by decide +kernel
theorem dJ6_bitCount_0f7a4_9 : decode cJ6_bitCount_0f7a4 9 = .ok (.istore_n 0, 1) := by decide +kernel
theorem dJ6_bitCount_0f7a4_10 : decode cJ6_bitCount_0f7a4 10 = .ok (.iload_n 0, 1) := by decide +kernel
theorem dJ6_bitCount_0f7a4_11 : decode cJ6_bitCount_0f7a4 11 = .ok (.ldc_w 266, 3) := by decide +kernel
theorem dJ6_bitCount_0f7a4_14 : decode cJ6_bitCount_0f7a4 14 = .ok (.iand, 1) := by decide +kernel
theorem dJ6_bitCount_0f7a4_15 : decode cJ6_bitCount_0f7a4 15 = .ok (.iload_n 0, 1) := by decide +kernel
theorem dJ6_bitCount_0f7a4_16 : decode cJ6_bitCount_0f7a4 16 = .ok (.iconst 2, 1) := by decide +kernel
theorem dJ6_bitCount_0f7a4_17 : decode cJ6_bitCount_0f7a4 17 = .ok (.iushr, 1) := by decide +kernel
theorem dJ6_bitCount_0f7a4_18 : decode cJ6_bitCount_0f7a4 18 = .ok (.ldc_w 266, 3) := by decide +kernel
theorem dJ6_bitCount_0f7a4_21 : decode cJ6_bitCount_0f7a4 21 = .ok (.iand, 1) := by decide +kernel
theorem dJ6_bitCount_0f7a4_22 : decode cJ6_bitCount_0f7a4 22 = .ok (.iadd, 1) := by decide +kernel
theorem dJ6_bitCount_0f7a4_23 : decode cJ6_bitCount_0f7a4 23 = .ok (.istore_n 0, 1) := by decide +kernel
theorem dJ6_bitCount_0f7a4_24 : decode cJ6_bitCount_0f7a4 24 = .ok (.iload_n 0, 1) := by decide +kernel
theorem dJ6_bitCount_0f7a4_25 : decode cJ6_bitCount_0f7a4 25 = .ok (.iload_n 0, 1) := by decide +kernel
theorem dJ6_bitCount_0f7a4_26 : decode cJ6_bitCount_0f7a4 26 = .ok (.iconst 4, 1) := by decide +kernel
theorem dJ6_bitCount_0f7a4_27 : decode cJ6_bitCount_0f7a4 27 = .ok (.iushr, 1) := by decide +kernel
theorem dJ6_bitCount_0f7a4_28 : decode cJ6_bitCount_0f7a4 28 = .ok (.iadd, 1) := by decide +kernel
theorem dJ6_bitCount_0f7a4_29 : decode cJ6_bitCount_0f7a4 29 = .ok (.ldc_w 267, 3) := by decide +kernel
theorem dJ6_bitCount_0f7a4_32 : decode cJ6_bitCount_0f7a4 32 = .ok (.iand, 1) := by decide +kernel
theorem dJ6_bitCount_0f7a4_33 : decode cJ6_bitCount_0f7a4 33 = .ok (.istore_n 0, 1) := by decide +kernel
theorem dJ6_bitCount_0f7a4_34 : decode cJ6_bitCount_0f7a4 34 = .ok (.iload_n 0, 1) := by decide +kernel
theorem dJ6_bitCount_0f7a4_35 : decode cJ6_bitCount_0f7a4 35 = .ok (.iload_n 0, 1) := by decide +kernel
theorem dJ6_bitCount_0f7a4_36 : decode cJ6_bitCount_0f7a4 36 = .ok (.bipush 8, 2) := by decide +kernel
theorem dJ6_bitCount_0f7a4_38 : decode cJ6_bitCount_0f7a4 38 = .ok (.iushr, 1) := by decide +kernel
theorem dJ6_bitCount_0f7a4_39 : decode cJ6_bitCount_0f7a4 39 = .ok (.iadd, 1) := by decide +kernel
theorem dJ6_bitCount_0f7a4_40 : decode cJ6_bitCount_0f7a4 40 = .ok (.istore_n 0, 1) := by decide +kernel
theorem dJ6_bitCount_0f7a4_41 : decode cJ6_bitCount_0f7a4 41 = .ok (.iload_n 0, 1) := by decide +kernel
theorem dJ6_bitCount_0f7a4_42 : decode cJ6_bitCount_0f7a4 42 = .ok (.iload_n 0, 1) := by decide +kernel
theorem dJ6_bitCount_0f7a4_43 : decode cJ6_bitCount_0f7a4 43 = .ok (.bipush 16, 2) := by decide +kernel
theorem dJ6_bitCount_0f7a4_45 : decode cJ6_bitCount_0f7a4 45 = .ok (.iushr, 1) := by decide +kernel
theorem dJ6_bitCount_0f7a4_46 : decode cJ6_bitCount_0f7a4 46 = .ok (.iadd, 1) := by decide +kernel
theorem dJ6_bitCount_0f7a4_47 : decode cJ6_bitCount_0f7a4 47 = .ok (.istore_n 0, 1) := by decide +kernel
theorem dJ6_bitCount_0f7a4_48 : decode cJ6_bitCount_0f7a4 48 = .ok (.iload_n 0, 1) := by decide +kernel
theorem dJ6_bitCount_0f7a4_49 : decode cJ6_bitCount_0f7a4 49 = .ok (.bipush 63, 2) := by decide +kernel
theorem dJ6_bitCount_0f7a4_51 : decode cJ6_bitCount_0f7a4 51 = .ok (.iand, 1) := by decide +kernel
theorem dJ6_bitCount_0f7a4_52 : decode cJ6_bitCount_0f7a4 52 = .ok (.ireturn, 1) := by decide +kernel
theorem dJ9_max_7cf53_0 : decode cJ9_max_7cf53 0 = .ok (.iload_n 0, 1) := by decide +kernel
theorem dJ9_max_7cf53_1 : decode cJ9_max_7cf53 1 = .ok (.iload_n 1, 1) := by decide +kernel
theorem dJ9_max_7cf53_2 : decode cJ9_max_7cf53 2 = .ok (.if_icmp .lt 7, 3) := by decide +kernel
theorem dJ9_max_7cf53_5 : decode cJ9_max_7cf53 5 = .ok (.iload_n 0, 1) := by decide +kernel
theorem dJ9_max_7cf53_6 : decode cJ9_max_7cf53 6 = .ok (.goto 4, 3) := by decide +kernel
theorem dJ9_max_7cf53_9 : decode cJ9_max_7cf53 9 = .ok (.iload_n 1, 1) := by decide +kernel
theorem dJ9_max_7cf53_10 : decode cJ9_max_7cf53 10 = .ok (.ireturn, 1) := by decide +kernel
theorem dJ9_min_7cf53_0 : decode cJ9_min_7cf53 0 = .ok (.iload_n 0, 1) := by decide +kernel
theorem dJ9_min_7cf53_1 : decode cJ9_min_7cf53 1 = .ok (.iload_n 1, 1) := by decide +kernel
theorem dJ9_min_7cf53_2 : decode cJ9_min_7cf53 2 = .ok (.if_icmp .gt 7, 3) := by decide +kernel
theorem dJ9_min_7cf53_5 : decode cJ9_min_7cf53 5 = .ok (.iload_n 0, 1) := by decide +kernel
theorem dJ9_min_7cf53_6 : decode cJ9_min_7cf53 6 = .ok (.goto 4, 3) := by decide +kernel
theorem dJ9_min_7cf53_9 : decode cJ9_min_7cf53 9 = .ok (.iload_n 1, 1) := by decide +kernel
theorem dJ9_min_7cf53_10 : decode cJ9_min_7cf53 10 = .ok (.ireturn, 1) := by decide +kernel
theorem dL_law_0 : decode cL_law 0 = .ok (.new 7, 3) := by decide +kernel
theorem dL_law_3 : decode cL_law 3 = .ok (.dup, 1) := by decide +kernel
theorem dL_law_4 : decode cL_law 4 = .ok (.invokespecial 9, 3) := by decide +kernel
theorem dL_law_7 : decode cL_law 7 = .ok (.astore_n 1, 1) := by decide +kernel
theorem dL_law_8 : decode cL_law 8 = .ok (.new 10, 3) := by decide +kernel
theorem dL_law_11 : decode cL_law 11 = .ok (.dup, 1) := by decide +kernel
theorem dL_law_12 : decode cL_law 12 = .ok (.invokespecial 12, 3) := by decide +kernel
theorem dL_law_15 : decode cL_law 15 = .ok (.astore_n 2, 1) := by decide +kernel
theorem dL_law_16 : decode cL_law 16 = .ok (.iconst 0, 1) := by decide +kernel
theorem dL_law_17 : decode cL_law 17 = .ok (.istore_n 3, 1) := by decide +kernel
theorem dL_law_18 : decode cL_law 18 = .ok (.iload_n 3, 1) := by decide +kernel
theorem dL_law_19 : decode cL_law 19 = .ok (.aload_n 0, 1) := by decide +kernel
theorem dL_law_20 : decode cL_law 20 = .ok (.arraylength, 1) := by decide +kernel
theorem dL_law_21 : decode cL_law 21 = .ok (.bipush 6, 2) := by decide +kernel
theorem dL_law_23 : decode cL_law 23 = .ok (.isub, 1) := by decide +kernel
theorem dL_law_24 : decode cL_law 24 = .ok (.if_icmp .gt 744, 3) := by decide +kernel
theorem dL_law_27 : decode cL_law 27 = .ok (.aload_n 0, 1) := by decide +kernel
theorem dL_law_28 : decode cL_law 28 = .ok (.iload_n 3, 1) := by decide +kernel
theorem dL_law_29 : decode cL_law 29 = .ok (.iaload, 1) := by decide +kernel
theorem dL_law_30 : decode cL_law 30 = .ok (.bipush 31, 2) := by decide +kernel
theorem dL_law_32 : decode cL_law 32 = .ok (.iand, 1) := by decide +kernel
theorem dL_law_33 : decode cL_law 33 = .ok (.tableswitch 729 0 16 #[83, 136, 179, 222, 255, 318, 341, 390, 403, 446, 459, 520, 553, 586, 620, 663, 696], 83) := by decide +kernel
theorem dL_law_116 : decode cL_law 116 = .ok (.aload_n 1, 1) := by decide +kernel
theorem dL_law_117 : decode cL_law 117 = .ok (.aload_n 0, 1) := by decide +kernel
theorem dL_law_118 : decode cL_law 118 = .ok (.iload_n 3, 1) := by decide +kernel
theorem dL_law_119 : decode cL_law 119 = .ok (.iconst 1, 1) := by decide +kernel
theorem dL_law_120 : decode cL_law 120 = .ok (.iadd, 1) := by decide +kernel
theorem dL_law_121 : decode cL_law 121 = .ok (.iaload, 1) := by decide +kernel
theorem dL_law_122 : decode cL_law 122 = .ok (.aload_n 0, 1) := by decide +kernel
theorem dL_law_123 : decode cL_law 123 = .ok (.iload_n 3, 1) := by decide +kernel
theorem dL_law_124 : decode cL_law 124 = .ok (.iconst 2, 1) := by decide +kernel
theorem dL_law_125 : decode cL_law 125 = .ok (.iadd, 1) := by decide +kernel
theorem dL_law_126 : decode cL_law 126 = .ok (.iaload, 1) := by decide +kernel
theorem dL_law_127 : decode cL_law 127 = .ok (.aload_n 0, 1) := by decide +kernel
theorem dL_law_128 : decode cL_law 128 = .ok (.iload_n 3, 1) := by decide +kernel
theorem dL_law_129 : decode cL_law 129 = .ok (.iconst 3, 1) := by decide +kernel
theorem dL_law_130 : decode cL_law 130 = .ok (.iadd, 1) := by decide +kernel
theorem dL_law_131 : decode cL_law 131 = .ok (.iaload, 1) := by decide +kernel
theorem dL_law_132 : decode cL_law 132 = .ok (.aload_n 0, 1) := by decide +kernel
theorem dL_law_133 : decode cL_law 133 = .ok (.iload_n 3, 1) := by decide +kernel
theorem dL_law_134 : decode cL_law 134 = .ok (.iconst 4, 1) := by decide +kernel
theorem dL_law_135 : decode cL_law 135 = .ok (.iadd, 1) := by decide +kernel
theorem dL_law_136 : decode cL_law 136 = .ok (.iaload, 1) := by decide +kernel
theorem dL_law_137 : decode cL_law 137 = .ok (.invokevirtual 13, 3) := by decide +kernel
theorem dL_law_140 : decode cL_law 140 = .ok (.aload_n 2, 1) := by decide +kernel
theorem dL_law_141 : decode cL_law 141 = .ok (.aload_n 0, 1) := by decide +kernel
theorem dL_law_142 : decode cL_law 142 = .ok (.iload_n 3, 1) := by decide +kernel
theorem dL_law_143 : decode cL_law 143 = .ok (.iconst 1, 1) := by decide +kernel
theorem dL_law_144 : decode cL_law 144 = .ok (.iadd, 1) := by decide +kernel
theorem dL_law_145 : decode cL_law 145 = .ok (.iaload, 1) := by decide +kernel
theorem dL_law_146 : decode cL_law 146 = .ok (.aload_n 0, 1) := by decide +kernel
theorem dL_law_147 : decode cL_law 147 = .ok (.iload_n 3, 1) := by decide +kernel
theorem dL_law_148 : decode cL_law 148 = .ok (.iconst 2, 1) := by decide +kernel
theorem dL_law_149 : decode cL_law 149 = .ok (.iadd, 1) := by decide +kernel
theorem dL_law_150 : decode cL_law 150 = .ok (.iaload, 1) := by decide +kernel
theorem dL_law_151 : decode cL_law 151 = .ok (.aload_n 0, 1) := by decide +kernel
theorem dL_law_152 : decode cL_law 152 = .ok (.iload_n 3, 1) := by decide +kernel
theorem dL_law_153 : decode cL_law 153 = .ok (.iconst 3, 1) := by decide +kernel
theorem dL_law_154 : decode cL_law 154 = .ok (.iadd, 1) := by decide +kernel
theorem dL_law_155 : decode cL_law 155 = .ok (.iaload, 1) := by decide +kernel
theorem dL_law_156 : decode cL_law 156 = .ok (.aload_n 0, 1) := by decide +kernel
theorem dL_law_157 : decode cL_law 157 = .ok (.iload_n 3, 1) := by decide +kernel
theorem dL_law_158 : decode cL_law 158 = .ok (.iconst 4, 1) := by decide +kernel
theorem dL_law_159 : decode cL_law 159 = .ok (.iadd, 1) := by decide +kernel
theorem dL_law_160 : decode cL_law 160 = .ok (.iaload, 1) := by decide +kernel
theorem dL_law_161 : decode cL_law 161 = .ok (.invokevirtual 17, 3) := by decide +kernel
theorem dL_law_164 : decode cL_law 164 = .ok (.if_icmp .eq 598, 3) := by decide +kernel
theorem dL_law_167 : decode cL_law 167 = .ok (.iconst 0, 1) := by decide +kernel
theorem dL_law_168 : decode cL_law 168 = .ok (.ireturn, 1) := by decide +kernel
theorem dL_law_169 : decode cL_law 169 = .ok (.aload_n 1, 1) := by decide +kernel
theorem dL_law_170 : decode cL_law 170 = .ok (.aload_n 0, 1) := by decide +kernel
theorem dL_law_171 : decode cL_law 171 = .ok (.iload_n 3, 1) := by decide +kernel
theorem dL_law_172 : decode cL_law 172 = .ok (.iconst 1, 1) := by decide +kernel
theorem dL_law_173 : decode cL_law 173 = .ok (.iadd, 1) := by decide +kernel
theorem dL_law_174 : decode cL_law 174 = .ok (.iaload, 1) := by decide +kernel
theorem dL_law_175 : decode cL_law 175 = .ok (.aload_n 0, 1) := by decide +kernel
theorem dL_law_176 : decode cL_law 176 = .ok (.iload_n 3, 1) := by decide +kernel
theorem dL_law_177 : decode cL_law 177 = .ok (.iconst 2, 1) := by decide +kernel
theorem dL_law_178 : decode cL_law 178 = .ok (.iadd, 1) := by decide +kernel
theorem dL_law_179 : decode cL_law 179 = .ok (.iaload, 1) := by decide +kernel
theorem dL_law_180 : decode cL_law 180 = .ok (.aload_n 0, 1) := by decide +kernel
theorem dL_law_181 : decode cL_law 181 = .ok (.iload_n 3, 1) := by decide +kernel
theorem dL_law_182 : decode cL_law 182 = .ok (.iconst 3, 1) := by decide +kernel
theorem dL_law_183 : decode cL_law 183 = .ok (.iadd, 1) := by decide +kernel
theorem dL_law_184 : decode cL_law 184 = .ok (.iaload, 1) := by decide +kernel
theorem dL_law_185 : decode cL_law 185 = .ok (.invokevirtual 18, 3) := by decide +kernel
theorem dL_law_188 : decode cL_law 188 = .ok (.aload_n 2, 1) := by decide +kernel
theorem dL_law_189 : decode cL_law 189 = .ok (.aload_n 0, 1) := by decide +kernel
theorem dL_law_190 : decode cL_law 190 = .ok (.iload_n 3, 1) := by decide +kernel
theorem dL_law_191 : decode cL_law 191 = .ok (.iconst 1, 1) := by decide +kernel
theorem dL_law_192 : decode cL_law 192 = .ok (.iadd, 1) := by decide +kernel
theorem dL_law_193 : decode cL_law 193 = .ok (.iaload, 1) := by decide +kernel
theorem dL_law_194 : decode cL_law 194 = .ok (.aload_n 0, 1) := by decide +kernel
theorem dL_law_195 : decode cL_law 195 = .ok (.iload_n 3, 1) := by decide +kernel
theorem dL_law_196 : decode cL_law 196 = .ok (.iconst 2, 1) := by decide +kernel
theorem dL_law_197 : decode cL_law 197 = .ok (.iadd, 1) := by decide +kernel
theorem dL_law_198 : decode cL_law 198 = .ok (.iaload, 1) := by decide +kernel
theorem dL_law_199 : decode cL_law 199 = .ok (.aload_n 0, 1) := by decide +kernel
theorem dL_law_200 : decode cL_law 200 = .ok (.iload_n 3, 1) := by decide +kernel
theorem dL_law_201 : decode cL_law 201 = .ok (.iconst 3, 1) := by decide +kernel
theorem dL_law_202 : decode cL_law 202 = .ok (.iadd, 1) := by decide +kernel
theorem dL_law_203 : decode cL_law 203 = .ok (.iaload, 1) := by decide +kernel
theorem dL_law_204 : decode cL_law 204 = .ok (.invokevirtual 22, 3) := by decide +kernel
theorem dL_law_207 : decode cL_law 207 = .ok (.if_icmp .eq 555, 3) := by decide +kernel
theorem dL_law_210 : decode cL_law 210 = .ok (.iconst 0, 1) := by decide +kernel
theorem dL_law_211 : decode cL_law 211 = .ok (.ireturn, 1) := by decide +kernel
theorem dL_law_212 : decode cL_law 212 = .ok (.aload_n 1, 1) := by decide +kernel
theorem dL_law_213 : decode cL_law 213 = .ok (.aload_n 0, 1) := by decide +kernel
theorem dL_law_214 : decode cL_law 214 = .ok (.iload_n 3, 1) := by decide +kernel
theorem dL_law_215 : decode cL_law 215 = .ok (.iconst 1, 1) := by decide +kernel
theorem dL_law_216 : decode cL_law 216 = .ok (.iadd, 1) := by decide +kernel
theorem dL_law_217 : decode cL_law 217 = .ok (.iaload, 1) := by decide +kernel
theorem dL_law_218 : decode cL_law 218 = .ok (.aload_n 0, 1) := by decide +kernel
theorem dL_law_219 : decode cL_law 219 = .ok (.iload_n 3, 1) := by decide +kernel
theorem dL_law_220 : decode cL_law 220 = .ok (.iconst 2, 1) := by decide +kernel
theorem dL_law_221 : decode cL_law 221 = .ok (.iadd, 1) := by decide +kernel
theorem dL_law_222 : decode cL_law 222 = .ok (.iaload, 1) := by decide +kernel
theorem dL_law_223 : decode cL_law 223 = .ok (.aload_n 0, 1) := by decide +kernel
theorem dL_law_224 : decode cL_law 224 = .ok (.iload_n 3, 1) := by decide +kernel
theorem dL_law_225 : decode cL_law 225 = .ok (.iconst 3, 1) := by decide +kernel
theorem dL_law_226 : decode cL_law 226 = .ok (.iadd, 1) := by decide +kernel
theorem dL_law_227 : decode cL_law 227 = .ok (.iaload, 1) := by decide +kernel
theorem dL_law_228 : decode cL_law 228 = .ok (.invokevirtual 23, 3) := by decide +kernel
theorem dL_law_231 : decode cL_law 231 = .ok (.aload_n 2, 1) := by decide +kernel
theorem dL_law_232 : decode cL_law 232 = .ok (.aload_n 0, 1) := by decide +kernel
theorem dL_law_233 : decode cL_law 233 = .ok (.iload_n 3, 1) := by decide +kernel
theorem dL_law_234 : decode cL_law 234 = .ok (.iconst 1, 1) := by decide +kernel
theorem dL_law_235 : decode cL_law 235 = .ok (.iadd, 1) := by decide +kernel
theorem dL_law_236 : decode cL_law 236 = .ok (.iaload, 1) := by decide +kernel
theorem dL_law_237 : decode cL_law 237 = .ok (.aload_n 0, 1) := by decide +kernel
theorem dL_law_238 : decode cL_law 238 = .ok (.iload_n 3, 1) := by decide +kernel
theorem dL_law_239 : decode cL_law 239 = .ok (.iconst 2, 1) := by decide +kernel
theorem dL_law_240 : decode cL_law 240 = .ok (.iadd, 1) := by decide +kernel
theorem dL_law_241 : decode cL_law 241 = .ok (.iaload, 1) := by decide +kernel
theorem dL_law_242 : decode cL_law 242 = .ok (.aload_n 0, 1) := by decide +kernel
theorem dL_law_243 : decode cL_law 243 = .ok (.iload_n 3, 1) := by decide +kernel
theorem dL_law_244 : decode cL_law 244 = .ok (.iconst 3, 1) := by decide +kernel
theorem dL_law_245 : decode cL_law 245 = .ok (.iadd, 1) := by decide +kernel
theorem dL_law_246 : decode cL_law 246 = .ok (.iaload, 1) := by decide +kernel
theorem dL_law_247 : decode cL_law 247 = .ok (.invokevirtual 26, 3) := by decide +kernel
theorem dL_law_250 : decode cL_law 250 = .ok (.if_icmp .eq 512, 3) := by decide +kernel
theorem dL_law_253 : decode cL_law 253 = .ok (.iconst 0, 1) := by decide +kernel
theorem dL_law_254 : decode cL_law 254 = .ok (.ireturn, 1) := by decide +kernel
theorem dL_law_255 : decode cL_law 255 = .ok (.aload_n 1, 1) := by decide +kernel
theorem dL_law_256 : decode cL_law 256 = .ok (.aload_n 0, 1) := by decide +kernel
theorem dL_law_257 : decode cL_law 257 = .ok (.iload_n 3, 1) := by decide +kernel
theorem dL_law_258 : decode cL_law 258 = .ok (.iconst 1, 1) := by decide +kernel
theorem dL_law_259 : decode cL_law 259 = .ok (.iadd, 1) := by decide +kernel
theorem dL_law_260 : decode cL_law 260 = .ok (.iaload, 1) := by decide +kernel
theorem dL_law_261 : decode cL_law 261 = .ok (.aload_n 0, 1) := by decide +kernel
theorem dL_law_262 : decode cL_law 262 = .ok (.iload_n 3, 1) := by decide +kernel
theorem dL_law_263 : decode cL_law 263 = .ok (.iconst 2, 1) := by decide +kernel
theorem dL_law_264 : decode cL_law 264 = .ok (.iadd, 1) := by decide +kernel
theorem dL_law_265 : decode cL_law 265 = .ok (.iaload, 1) := by decide +kernel
theorem dL_law_266 : decode cL_law 266 = .ok (.invokevirtual 27, 3) := by decide +kernel
theorem dL_law_269 : decode cL_law 269 = .ok (.aload_n 2, 1) := by decide +kernel
theorem dL_law_270 : decode cL_law 270 = .ok (.aload_n 0, 1) := by decide +kernel
theorem dL_law_271 : decode cL_law 271 = .ok (.iload_n 3, 1) := by decide +kernel
theorem dL_law_272 : decode cL_law 272 = .ok (.iconst 1, 1) := by decide +kernel
theorem dL_law_273 : decode cL_law 273 = .ok (.iadd, 1) := by decide +kernel
theorem dL_law_274 : decode cL_law 274 = .ok (.iaload, 1) := by decide +kernel
theorem dL_law_275 : decode cL_law 275 = .ok (.aload_n 0, 1) := by decide +kernel
theorem dL_law_276 : decode cL_law 276 = .ok (.iload_n 3, 1) := by decide +kernel
theorem dL_law_277 : decode cL_law 277 = .ok (.iconst 2, 1) := by decide +kernel
theorem dL_law_278 : decode cL_law 278 = .ok (.iadd, 1) := by decide +kernel
theorem dL_law_279 : decode cL_law 279 = .ok (.iaload, 1) := by decide +kernel
theorem dL_law_280 : decode cL_law 280 = .ok (.invokevirtual 31, 3) := by decide +kernel
theorem dL_law_283 : decode cL_law 283 = .ok (.if_icmp .eq 479, 3) := by decide +kernel
theorem dL_law_286 : decode cL_law 286 = .ok (.iconst 0, 1) := by decide +kernel
theorem dL_law_287 : decode cL_law 287 = .ok (.ireturn, 1) := by decide +kernel
theorem dL_law_288 : decode cL_law 288 = .ok (.aload_n 1, 1) := by decide +kernel
theorem dL_law_289 : decode cL_law 289 = .ok (.aload_n 0, 1) := by decide +kernel
theorem dL_law_290 : decode cL_law 290 = .ok (.iload_n 3, 1) := by decide +kernel
theorem dL_law_291 : decode cL_law 291 = .ok (.iconst 1, 1) := by decide +kernel
theorem dL_law_292 : decode cL_law 292 = .ok (.iadd, 1) := by decide +kernel
theorem dL_law_293 : decode cL_law 293 = .ok (.iaload, 1) := by decide +kernel
theorem dL_law_294 : decode cL_law 294 = .ok (.aload_n 0, 1) := by decide +kernel
theorem dL_law_295 : decode cL_law 295 = .ok (.iload_n 3, 1) := by decide +kernel
theorem dL_law_296 : decode cL_law 296 = .ok (.iconst 2, 1) := by decide +kernel
theorem dL_law_297 : decode cL_law 297 = .ok (.iadd, 1) := by decide +kernel
theorem dL_law_298 : decode cL_law 298 = .ok (.iaload, 1) := by decide +kernel
theorem dL_law_299 : decode cL_law 299 = .ok (.aload_n 0, 1) := by decide +kernel
theorem dL_law_300 : decode cL_law 300 = .ok (.iload_n 3, 1) := by decide +kernel
theorem dL_law_301 : decode cL_law 301 = .ok (.iconst 3, 1) := by decide +kernel
theorem dL_law_302 : decode cL_law 302 = .ok (.iadd, 1) := by decide +kernel
theorem dL_law_303 : decode cL_law 303 = .ok (.iaload, 1) := by decide +kernel
theorem dL_law_304 : decode cL_law 304 = .ok (.aload_n 0, 1) := by decide +kernel
theorem dL_law_305 : decode cL_law 305 = .ok (.iload_n 3, 1) := by decide +kernel
theorem dL_law_306 : decode cL_law 306 = .ok (.iconst 4, 1) := by decide +kernel
theorem dL_law_307 : decode cL_law 307 = .ok (.iadd, 1) := by decide +kernel
theorem dL_law_308 : decode cL_law 308 = .ok (.iaload, 1) := by decide +kernel
theorem dL_law_309 : decode cL_law 309 = .ok (.aload_n 0, 1) := by decide +kernel
theorem dL_law_310 : decode cL_law 310 = .ok (.iload_n 3, 1) := by decide +kernel
theorem dL_law_311 : decode cL_law 311 = .ok (.iconst 5, 1) := by decide +kernel
theorem dL_law_312 : decode cL_law 312 = .ok (.iadd, 1) := by decide +kernel
theorem dL_law_313 : decode cL_law 313 = .ok (.iaload, 1) := by decide +kernel
theorem dL_law_314 : decode cL_law 314 = .ok (.invokevirtual 32, 3) := by decide +kernel
theorem dL_law_317 : decode cL_law 317 = .ok (.aload_n 2, 1) := by decide +kernel
theorem dL_law_318 : decode cL_law 318 = .ok (.aload_n 0, 1) := by decide +kernel
theorem dL_law_319 : decode cL_law 319 = .ok (.iload_n 3, 1) := by decide +kernel
theorem dL_law_320 : decode cL_law 320 = .ok (.iconst 1, 1) := by decide +kernel
theorem dL_law_321 : decode cL_law 321 = .ok (.iadd, 1) := by decide +kernel
theorem dL_law_322 : decode cL_law 322 = .ok (.iaload, 1) := by decide +kernel
theorem dL_law_323 : decode cL_law 323 = .ok (.aload_n 0, 1) := by decide +kernel
theorem dL_law_324 : decode cL_law 324 = .ok (.iload_n 3, 1) := by decide +kernel
theorem dL_law_325 : decode cL_law 325 = .ok (.iconst 2, 1) := by decide +kernel
theorem dL_law_326 : decode cL_law 326 = .ok (.iadd, 1) := by decide +kernel
theorem dL_law_327 : decode cL_law 327 = .ok (.iaload, 1) := by decide +kernel
theorem dL_law_328 : decode cL_law 328 = .ok (.aload_n 0, 1) := by decide +kernel
theorem dL_law_329 : decode cL_law 329 = .ok (.iload_n 3, 1) := by decide +kernel
theorem dL_law_330 : decode cL_law 330 = .ok (.iconst 3, 1) := by decide +kernel
theorem dL_law_331 : decode cL_law 331 = .ok (.iadd, 1) := by decide +kernel
theorem dL_law_332 : decode cL_law 332 = .ok (.iaload, 1) := by decide +kernel
theorem dL_law_333 : decode cL_law 333 = .ok (.aload_n 0, 1) := by decide +kernel
theorem dL_law_334 : decode cL_law 334 = .ok (.iload_n 3, 1) := by decide +kernel
theorem dL_law_335 : decode cL_law 335 = .ok (.iconst 4, 1) := by decide +kernel
theorem dL_law_336 : decode cL_law 336 = .ok (.iadd, 1) := by decide +kernel
theorem dL_law_337 : decode cL_law 337 = .ok (.iaload, 1) := by decide +kernel
theorem dL_law_338 : decode cL_law 338 = .ok (.aload_n 0, 1) := by decide +kernel
theorem dL_law_339 : decode cL_law 339 = .ok (.iload_n 3, 1) := by decide +kernel
theorem dL_law_340 : decode cL_law 340 = .ok (.iconst 5, 1) := by decide +kernel
theorem dL_law_341 : decode cL_law 341 = .ok (.iadd, 1) := by decide +kernel
theorem dL_law_342 : decode cL_law 342 = .ok (.iaload, 1) := by decide +kernel
theorem dL_law_343 : decode cL_law 343 = .ok (.invokevirtual 36, 3) := by decide +kernel
theorem dL_law_346 : decode cL_law 346 = .ok (.if_icmp .eq 416, 3) := by decide +kernel
theorem dL_law_349 : decode cL_law 349 = .ok (.iconst 0, 1) := by decide +kernel
theorem dL_law_350 : decode cL_law 350 = .ok (.ireturn, 1) := by decide +kernel
theorem dL_law_351 : decode cL_law 351 = .ok (.aload_n 1, 1) := by decide +kernel
theorem dL_law_352 : decode cL_law 352 = .ok (.aload_n 0, 1) := by decide +kernel
theorem dL_law_353 : decode cL_law 353 = .ok (.iload_n 3, 1) := by decide +kernel
theorem dL_law_354 : decode cL_law 354 = .ok (.iconst 1, 1) := by decide +kernel
theorem dL_law_355 : decode cL_law 355 = .ok (.iadd, 1) := by decide +kernel
theorem dL_law_356 : decode cL_law 356 = .ok (.iaload, 1) := by decide +kernel
theorem dL_law_357 : decode cL_law 357 = .ok (.invokevirtual 37, 3) := by decide +kernel
theorem dL_law_360 : decode cL_law 360 = .ok (.aload_n 2, 1) := by decide +kernel
theorem dL_law_361 : decode cL_law 361 = .ok (.aload_n 0, 1) := by decide +kernel
theorem dL_law_362 : decode cL_law 362 = .ok (.iload_n 3, 1) := by decide +kernel
theorem dL_law_363 : decode cL_law 363 = .ok (.iconst 1, 1) := by decide +kernel
theorem dL_law_364 : decode cL_law 364 = .ok (.iadd, 1) := by decide +kernel
theorem dL_law_365 : decode cL_law 365 = .ok (.iaload, 1) := by decide +kernel
theorem dL_law_366 : decode cL_law 366 = .ok (.invokevirtual 41, 3) := by decide +kernel
theorem dL_law_369 : decode cL_law 369 = .ok (.if_icmp .eq 393, 3) := by decide +kernel
theorem dL_law_372 : decode cL_law 372 = .ok (.iconst 0, 1) := by decide +kernel
theorem dL_law_373 : decode cL_law 373 = .ok (.ireturn, 1) := by decide +kernel
theorem dL_law_374 : decode cL_law 374 = .ok (.aload_n 1, 1) := by decide +kernel
theorem dL_law_375 : decode cL_law 375 = .ok (.aload_n 0, 1) := by decide +kernel
theorem dL_law_376 : decode cL_law 376 = .ok (.iload_n 3, 1) := by decide +kernel
theorem dL_law_377 : decode cL_law 377 = .ok (.iconst 1, 1) := by decide +kernel
theorem dL_law_378 : decode cL_law 378 = .ok (.iadd, 1) := by decide +kernel
theorem dL_law_379 : decode cL_law 379 = .ok (.iaload, 1) := by decide +kernel
theorem dL_law_380 : decode cL_law 380 = .ok (.aload_n 0, 1) := by decide +kernel
theorem dL_law_381 : decode cL_law 381 = .ok (.iload_n 3, 1) := by decide +kernel
theorem dL_law_382 : decode cL_law 382 = .ok (.iconst 2, 1) := by decide +kernel
theorem dL_law_383 : decode cL_law 383 = .ok (.iadd, 1) := by decide +kernel
theorem dL_law_384 : decode cL_law 384 = .ok (.iaload, 1) := by decide +kernel
theorem dL_law_385 : decode cL_law 385 = .ok (.ifCond .eq 7, 3) := by decide +kernel
theorem dL_law_388 : decode cL_law 388 = .ok (.iconst 1, 1) := by decide +kernel
theorem dL_law_389 : decode cL_law 389 = .ok (.goto 4, 3) := by decide +kernel
theorem dL_law_392 : decode cL_law 392 = .ok (.iconst 0, 1) := by decide +kernel
theorem dL_law_393 : decode cL_law 393 = .ok (.invokevirtual 42, 3) := by decide +kernel
theorem dL_law_396 : decode cL_law 396 = .ok (.aload_n 2, 1) := by decide +kernel
theorem dL_law_397 : decode cL_law 397 = .ok (.aload_n 0, 1) := by decide +kernel
theorem dL_law_398 : decode cL_law 398 = .ok (.iload_n 3, 1) := by decide +kernel
theorem dL_law_399 : decode cL_law 399 = .ok (.iconst 1, 1) := by decide +kernel
theorem dL_law_400 : decode cL_law 400 = .ok (.iadd, 1) := by decide +kernel
theorem dL_law_401 : decode cL_law 401 = .ok (.iaload, 1) := by decide +kernel
theorem dL_law_402 : decode cL_law 402 = .ok (.aload_n 0, 1) := by decide +kernel
theorem dL_law_403 : decode cL_law 403 = .ok (.iload_n 3, 1) := by decide +kernel
theorem dL_law_404 : decode cL_law 404 = .ok (.iconst 2, 1) := by decide +kernel
theorem dL_law_405 : decode cL_law 405 = .ok (.iadd, 1) := by decide +kernel
theorem dL_law_406 : decode cL_law 406 = .ok (.iaload, 1) := by decide +kernel
theorem dL_law_407 : decode cL_law 407 = .ok (.ifCond .eq 7, 3) := by decide +kernel
theorem dL_law_410 : decode cL_law 410 = .ok (.iconst 1, 1) := by decide +kernel
theorem dL_law_411 : decode cL_law 411 = .ok (.goto 4, 3) := by decide +kernel
theorem dL_law_414 : decode cL_law 414 = .ok (.iconst 0, 1) := by decide +kernel
theorem dL_law_415 : decode cL_law 415 = .ok (.invokevirtual 46, 3) := by decide +kernel
theorem dL_law_418 : decode cL_law 418 = .ok (.if_icmp .eq 344, 3) := by decide +kernel
theorem dL_law_421 : decode cL_law 421 = .ok (.iconst 0, 1) := by decide +kernel
theorem dL_law_422 : decode cL_law 422 = .ok (.ireturn, 1) := by decide +kernel
theorem dL_law_423 : decode cL_law 423 = .ok (.aload_n 1, 1) := by decide +kernel
theorem dL_law_424 : decode cL_law 424 = .ok (.invokevirtual 47, 3) := by decide +kernel
theorem dL_law_427 : decode cL_law 427 = .ok (.aload_n 2, 1) := by decide +kernel
theorem dL_law_428 : decode cL_law 428 = .ok (.invokevirtual 51, 3) := by decide +kernel
theorem dL_law_431 : decode cL_law 431 = .ok (.if_icmp .eq 331, 3) := by decide +kernel
theorem dL_law_434 : decode cL_law 434 = .ok (.iconst 0, 1) := by decide +kernel
theorem dL_law_435 : decode cL_law 435 = .ok (.ireturn, 1) := by decide +kernel
theorem dL_law_436 : decode cL_law 436 = .ok (.aload_n 1, 1) := by decide +kernel
theorem dL_law_437 : decode cL_law 437 = .ok (.aload_n 0, 1) := by decide +kernel
theorem dL_law_438 : decode cL_law 438 = .ok (.iload_n 3, 1) := by decide +kernel
theorem dL_law_439 : decode cL_law 439 = .ok (.iconst 1, 1) := by decide +kernel
theorem dL_law_440 : decode cL_law 440 = .ok (.iadd, 1) := by decide +kernel
theorem dL_law_441 : decode cL_law 441 = .ok (.iaload, 1) := by decide +kernel
theorem dL_law_442 : decode cL_law 442 = .ok (.aload_n 0, 1) := by decide +kernel
theorem dL_law_443 : decode cL_law 443 = .ok (.iload_n 3, 1) := by decide +kernel
theorem dL_law_444 : decode cL_law 444 = .ok (.iconst 2, 1) := by decide +kernel
theorem dL_law_445 : decode cL_law 445 = .ok (.iadd, 1) := by decide +kernel
theorem dL_law_446 : decode cL_law 446 = .ok (.iaload, 1) := by decide +kernel
theorem dL_law_447 : decode cL_law 447 = .ok (.aload_n 0, 1) := by decide +kernel
theorem dL_law_448 : decode cL_law 448 = .ok (.iload_n 3, 1) := by decide +kernel
theorem dL_law_449 : decode cL_law 449 = .ok (.iconst 3, 1) := by decide +kernel
theorem dL_law_450 : decode cL_law 450 = .ok (.iadd, 1) := by decide +kernel
theorem dL_law_451 : decode cL_law 451 = .ok (.iaload, 1) := by decide +kernel
theorem dL_law_452 : decode cL_law 452 = .ok (.invokevirtual 52, 3) := by decide +kernel
theorem dL_law_455 : decode cL_law 455 = .ok (.aload_n 2, 1) := by decide +kernel
theorem dL_law_456 : decode cL_law 456 = .ok (.aload_n 0, 1) := by decide +kernel
theorem dL_law_457 : decode cL_law 457 = .ok (.iload_n 3, 1) := by decide +kernel
theorem dL_law_458 : decode cL_law 458 = .ok (.iconst 1, 1) := by decide +kernel
theorem dL_law_459 : decode cL_law 459 = .ok (.iadd, 1) := by decide +kernel
theorem dL_law_460 : decode cL_law 460 = .ok (.iaload, 1) := by decide +kernel
theorem dL_law_461 : decode cL_law 461 = .ok (.aload_n 0, 1) := by decide +kernel
theorem dL_law_462 : decode cL_law 462 = .ok (.iload_n 3, 1) := by decide +kernel
theorem dL_law_463 : decode cL_law 463 = .ok (.iconst 2, 1) := by decide +kernel
theorem dL_law_464 : decode cL_law 464 = .ok (.iadd, 1) := by decide +kernel
theorem dL_law_465 : decode cL_law 465 = .ok (.iaload, 1) := by decide +kernel
theorem dL_law_466 : decode cL_law 466 = .ok (.aload_n 0, 1) := by decide +kernel
theorem dL_law_467 : decode cL_law 467 = .ok (.iload_n 3, 1) := by decide +kernel
theorem dL_law_468 : decode cL_law 468 = .ok (.iconst 3, 1) := by decide +kernel
theorem dL_law_469 : decode cL_law 469 = .ok (.iadd, 1) := by decide +kernel
theorem dL_law_470 : decode cL_law 470 = .ok (.iaload, 1) := by decide +kernel
theorem dL_law_471 : decode cL_law 471 = .ok (.invokevirtual 55, 3) := by decide +kernel
theorem dL_law_474 : decode cL_law 474 = .ok (.if_icmp .eq 288, 3) := by decide +kernel
theorem dL_law_477 : decode cL_law 477 = .ok (.iconst 0, 1) := by decide +kernel
theorem dL_law_478 : decode cL_law 478 = .ok (.ireturn, 1) := by decide +kernel
theorem dL_law_479 : decode cL_law 479 = .ok (.aload_n 1, 1) := by decide +kernel
theorem dL_law_480 : decode cL_law 480 = .ok (.invokevirtual 56, 3) := by decide +kernel
theorem dL_law_483 : decode cL_law 483 = .ok (.aload_n 2, 1) := by decide +kernel
theorem dL_law_484 : decode cL_law 484 = .ok (.invokevirtual 59, 3) := by decide +kernel
theorem dL_law_487 : decode cL_law 487 = .ok (.if_icmp .eq 275, 3) := by decide +kernel
theorem dL_law_490 : decode cL_law 490 = .ok (.iconst 0, 1) := by decide +kernel
theorem dL_law_491 : decode cL_law 491 = .ok (.ireturn, 1) := by decide +kernel
theorem dL_law_492 : decode cL_law 492 = .ok (.aload_n 1, 1) := by decide +kernel
theorem dL_law_493 : decode cL_law 493 = .ok (.aload_n 0, 1) := by decide +kernel
theorem dL_law_494 : decode cL_law 494 = .ok (.iload_n 3, 1) := by decide +kernel
theorem dL_law_495 : decode cL_law 495 = .ok (.iconst 1, 1) := by decide +kernel
theorem dL_law_496 : decode cL_law 496 = .ok (.iadd, 1) := by decide +kernel
theorem dL_law_497 : decode cL_law 497 = .ok (.iaload, 1) := by decide +kernel
theorem dL_law_498 : decode cL_law 498 = .ok (.aload_n 0, 1) := by decide +kernel
theorem dL_law_499 : decode cL_law 499 = .ok (.iload_n 3, 1) := by decide +kernel
theorem dL_law_500 : decode cL_law 500 = .ok (.iconst 2, 1) := by decide +kernel
theorem dL_law_501 : decode cL_law 501 = .ok (.iadd, 1) := by decide +kernel
theorem dL_law_502 : decode cL_law 502 = .ok (.iaload, 1) := by decide +kernel
theorem dL_law_503 : decode cL_law 503 = .ok (.invokevirtual 60, 3) := by decide +kernel
theorem dL_law_506 : decode cL_law 506 = .ok (.dstore 4, 2) := by decide +kernel
theorem dL_law_508 : decode cL_law 508 = .ok (.aload_n 2, 1) := by decide +kernel
theorem dL_law_509 : decode cL_law 509 = .ok (.aload_n 0, 1) := by decide +kernel
theorem dL_law_510 : decode cL_law 510 = .ok (.iload_n 3, 1) := by decide +kernel
theorem dL_law_511 : decode cL_law 511 = .ok (.iconst 1, 1) := by decide +kernel
theorem dL_law_512 : decode cL_law 512 = .ok (.iadd, 1) := by decide +kernel
theorem dL_law_513 : decode cL_law 513 = .ok (.iaload, 1) := by decide +kernel
theorem dL_law_514 : decode cL_law 514 = .ok (.aload_n 0, 1) := by decide +kernel
theorem dL_law_515 : decode cL_law 515 = .ok (.iload_n 3, 1) := by decide +kernel
theorem dL_law_516 : decode cL_law 516 = .ok (.iconst 2, 1) := by decide +kernel
theorem dL_law_517 : decode cL_law 517 = .ok (.iadd, 1) := by decide +kernel
theorem dL_law_518 : decode cL_law 518 = .ok (.iaload, 1) := by decide +kernel
theorem dL_law_519 : decode cL_law 519 = .ok (.invokevirtual 64, 3) := by decide +kernel
theorem dL_law_522 : decode cL_law 522 = .ok (.dstore 6, 2) := by decide +kernel
theorem dL_law_524 : decode cL_law 524 = .ok (.dload 4, 2) := by decide +kernel
theorem dL_law_526 : decode cL_law 526 = .ok (.dload 6, 2) := by decide +kernel
theorem dL_law_528 : decode cL_law 528 = .ok (.dcmp .l, 1) := by decide +kernel
theorem dL_law_529 : decode cL_law 529 = .ok (.ifCond .eq 21, 3) := by decide +kernel
theorem dL_law_532 : decode cL_law 532 = .ok (.dload 4, 2) := by decide +kernel
theorem dL_law_534 : decode cL_law 534 = .ok (.dload 4, 2) := by decide +kernel
theorem dL_law_536 : decode cL_law 536 = .ok (.dcmp .l, 1) := by decide +kernel
theorem dL_law_537 : decode cL_law 537 = .ok (.ifCond .eq 11, 3) := by decide +kernel
theorem dL_law_540 : decode cL_law 540 = .ok (.dload 6, 2) := by decide +kernel
theorem dL_law_542 : decode cL_law 542 = .ok (.dload 6, 2) := by decide +kernel
theorem dL_law_544 : decode cL_law 544 = .ok (.dcmp .l, 1) := by decide +kernel
theorem dL_law_545 : decode cL_law 545 = .ok (.ifCond .ne 5, 3) := by decide +kernel
theorem dL_law_548 : decode cL_law 548 = .ok (.iconst 0, 1) := by decide +kernel
theorem dL_law_549 : decode cL_law 549 = .ok (.ireturn, 1) := by decide +kernel
theorem dL_law_550 : decode cL_law 550 = .ok (.goto 212, 3) := by decide +kernel
theorem dL_law_553 : decode cL_law 553 = .ok (.aload_n 1, 1) := by decide +kernel
theorem dL_law_554 : decode cL_law 554 = .ok (.aload_n 0, 1) := by decide +kernel
theorem dL_law_555 : decode cL_law 555 = .ok (.iload_n 3, 1) := by decide +kernel
theorem dL_law_556 : decode cL_law 556 = .ok (.iconst 1, 1) := by decide +kernel
theorem dL_law_557 : decode cL_law 557 = .ok (.iadd, 1) := by decide +kernel
theorem dL_law_558 : decode cL_law 558 = .ok (.iaload, 1) := by decide +kernel
theorem dL_law_559 : decode cL_law 559 = .ok (.aload_n 0, 1) := by decide +kernel
theorem dL_law_560 : decode cL_law 560 = .ok (.iload_n 3, 1) := by decide +kernel
theorem dL_law_561 : decode cL_law 561 = .ok (.iconst 2, 1) := by decide +kernel
theorem dL_law_562 : decode cL_law 562 = .ok (.iadd, 1) := by decide +kernel
theorem dL_law_563 : decode cL_law 563 = .ok (.iaload, 1) := by decide +kernel
theorem dL_law_564 : decode cL_law 564 = .ok (.invokevirtual 65, 3) := by decide +kernel
theorem dL_law_567 : decode cL_law 567 = .ok (.aload_n 2, 1) := by decide +kernel
theorem dL_law_568 : decode cL_law 568 = .ok (.aload_n 0, 1) := by decide +kernel
theorem dL_law_569 : decode cL_law 569 = .ok (.iload_n 3, 1) := by decide +kernel
theorem dL_law_570 : decode cL_law 570 = .ok (.iconst 1, 1) := by decide +kernel
theorem dL_law_571 : decode cL_law 571 = .ok (.iadd, 1) := by decide +kernel
theorem dL_law_572 : decode cL_law 572 = .ok (.iaload, 1) := by decide +kernel
theorem dL_law_573 : decode cL_law 573 = .ok (.aload_n 0, 1) := by decide +kernel
theorem dL_law_574 : decode cL_law 574 = .ok (.iload_n 3, 1) := by decide +kernel
theorem dL_law_575 : decode cL_law 575 = .ok (.iconst 2, 1) := by decide +kernel
theorem dL_law_576 : decode cL_law 576 = .ok (.iadd, 1) := by decide +kernel
theorem dL_law_577 : decode cL_law 577 = .ok (.iaload, 1) := by decide +kernel
theorem dL_law_578 : decode cL_law 578 = .ok (.invokevirtual 69, 3) := by decide +kernel
theorem dL_law_581 : decode cL_law 581 = .ok (.if_icmp .eq 181, 3) := by decide +kernel
theorem dL_law_584 : decode cL_law 584 = .ok (.iconst 0, 1) := by decide +kernel
theorem dL_law_585 : decode cL_law 585 = .ok (.ireturn, 1) := by decide +kernel
theorem dL_law_586 : decode cL_law 586 = .ok (.aload_n 1, 1) := by decide +kernel
theorem dL_law_587 : decode cL_law 587 = .ok (.aload_n 0, 1) := by decide +kernel
theorem dL_law_588 : decode cL_law 588 = .ok (.iload_n 3, 1) := by decide +kernel
theorem dL_law_589 : decode cL_law 589 = .ok (.iconst 1, 1) := by decide +kernel
theorem dL_law_590 : decode cL_law 590 = .ok (.iadd, 1) := by decide +kernel
theorem dL_law_591 : decode cL_law 591 = .ok (.iaload, 1) := by decide +kernel
theorem dL_law_592 : decode cL_law 592 = .ok (.aload_n 0, 1) := by decide +kernel
theorem dL_law_593 : decode cL_law 593 = .ok (.iload_n 3, 1) := by decide +kernel
theorem dL_law_594 : decode cL_law 594 = .ok (.iconst 2, 1) := by decide +kernel
theorem dL_law_595 : decode cL_law 595 = .ok (.iadd, 1) := by decide +kernel
theorem dL_law_596 : decode cL_law 596 = .ok (.iaload, 1) := by decide +kernel
theorem dL_law_597 : decode cL_law 597 = .ok (.invokevirtual 70, 3) := by decide +kernel
theorem dL_law_600 : decode cL_law 600 = .ok (.aload_n 2, 1) := by decide +kernel
theorem dL_law_601 : decode cL_law 601 = .ok (.aload_n 0, 1) := by decide +kernel
theorem dL_law_602 : decode cL_law 602 = .ok (.iload_n 3, 1) := by decide +kernel
theorem dL_law_603 : decode cL_law 603 = .ok (.iconst 1, 1) := by decide +kernel
theorem dL_law_604 : decode cL_law 604 = .ok (.iadd, 1) := by decide +kernel
theorem dL_law_605 : decode cL_law 605 = .ok (.iaload, 1) := by decide +kernel
theorem dL_law_606 : decode cL_law 606 = .ok (.aload_n 0, 1) := by decide +kernel
theorem dL_law_607 : decode cL_law 607 = .ok (.iload_n 3, 1) := by decide +kernel
theorem dL_law_608 : decode cL_law 608 = .ok (.iconst 2, 1) := by decide +kernel
theorem dL_law_609 : decode cL_law 609 = .ok (.iadd, 1) := by decide +kernel
theorem dL_law_610 : decode cL_law 610 = .ok (.iaload, 1) := by decide +kernel
theorem dL_law_611 : decode cL_law 611 = .ok (.invokevirtual 73, 3) := by decide +kernel
theorem dL_law_614 : decode cL_law 614 = .ok (.if_icmp .eq 148, 3) := by decide +kernel
theorem dL_law_617 : decode cL_law 617 = .ok (.iconst 0, 1) := by decide +kernel
theorem dL_law_618 : decode cL_law 618 = .ok (.ireturn, 1) := by decide +kernel
theorem dL_law_619 : decode cL_law 619 = .ok (.aload_n 1, 1) := by decide +kernel
theorem dL_law_620 : decode cL_law 620 = .ok (.aload_n 0, 1) := by decide +kernel
theorem dL_law_621 : decode cL_law 621 = .ok (.iload_n 3, 1) := by decide +kernel
theorem dL_law_622 : decode cL_law 622 = .ok (.iconst 1, 1) := by decide +kernel
theorem dL_law_623 : decode cL_law 623 = .ok (.iadd, 1) := by decide +kernel
theorem dL_law_624 : decode cL_law 624 = .ok (.iaload, 1) := by decide +kernel
theorem dL_law_625 : decode cL_law 625 = .ok (.aload_n 0, 1) := by decide +kernel
theorem dL_law_626 : decode cL_law 626 = .ok (.iload_n 3, 1) := by decide +kernel
theorem dL_law_627 : decode cL_law 627 = .ok (.iconst 2, 1) := by decide +kernel
theorem dL_law_628 : decode cL_law 628 = .ok (.iadd, 1) := by decide +kernel
theorem dL_law_629 : decode cL_law 629 = .ok (.iaload, 1) := by decide +kernel
theorem dL_law_630 : decode cL_law 630 = .ok (.invokevirtual 74, 3) := by decide +kernel
theorem dL_law_633 : decode cL_law 633 = .ok (.aload_n 2, 1) := by decide +kernel
theorem dL_law_634 : decode cL_law 634 = .ok (.aload_n 0, 1) := by decide +kernel
theorem dL_law_635 : decode cL_law 635 = .ok (.iload_n 3, 1) := by decide +kernel
theorem dL_law_636 : decode cL_law 636 = .ok (.iconst 1, 1) := by decide +kernel
theorem dL_law_637 : decode cL_law 637 = .ok (.iadd, 1) := by decide +kernel
theorem dL_law_638 : decode cL_law 638 = .ok (.iaload, 1) := by decide +kernel
theorem dL_law_639 : decode cL_law 639 = .ok (.aload_n 0, 1) := by decide +kernel
theorem dL_law_640 : decode cL_law 640 = .ok (.iload_n 3, 1) := by decide +kernel
theorem dL_law_641 : decode cL_law 641 = .ok (.iconst 2, 1) := by decide +kernel
theorem dL_law_642 : decode cL_law 642 = .ok (.iadd, 1) := by decide +kernel
theorem dL_law_643 : decode cL_law 643 = .ok (.iaload, 1) := by decide +kernel
theorem dL_law_644 : decode cL_law 644 = .ok (.invokevirtual 78, 3) := by decide +kernel
theorem dL_law_647 : decode cL_law 647 = .ok (.lcmp, 1) := by decide +kernel
theorem dL_law_648 : decode cL_law 648 = .ok (.ifCond .eq 114, 3) := by decide +kernel
theorem dL_law_651 : decode cL_law 651 = .ok (.iconst 0, 1) := by decide +kernel
theorem dL_law_652 : decode cL_law 652 = .ok (.ireturn, 1) := by decide +kernel
theorem dL_law_653 : decode cL_law 653 = .ok (.aload_n 1, 1) := by decide +kernel
theorem dL_law_654 : decode cL_law 654 = .ok (.aload_n 0, 1) := by decide +kernel
theorem dL_law_655 : decode cL_law 655 = .ok (.iload_n 3, 1) := by decide +kernel
theorem dL_law_656 : decode cL_law 656 = .ok (.iconst 1, 1) := by decide +kernel
theorem dL_law_657 : decode cL_law 657 = .ok (.iadd, 1) := by decide +kernel
theorem dL_law_658 : decode cL_law 658 = .ok (.iaload, 1) := by decide +kernel
theorem dL_law_659 : decode cL_law 659 = .ok (.aload_n 0, 1) := by decide +kernel
theorem dL_law_660 : decode cL_law 660 = .ok (.iload_n 3, 1) := by decide +kernel
theorem dL_law_661 : decode cL_law 661 = .ok (.iconst 2, 1) := by decide +kernel
theorem dL_law_662 : decode cL_law 662 = .ok (.iadd, 1) := by decide +kernel
theorem dL_law_663 : decode cL_law 663 = .ok (.iaload, 1) := by decide +kernel
theorem dL_law_664 : decode cL_law 664 = .ok (.aload_n 0, 1) := by decide +kernel
theorem dL_law_665 : decode cL_law 665 = .ok (.iload_n 3, 1) := by decide +kernel
theorem dL_law_666 : decode cL_law 666 = .ok (.iconst 3, 1) := by decide +kernel
theorem dL_law_667 : decode cL_law 667 = .ok (.iadd, 1) := by decide +kernel
theorem dL_law_668 : decode cL_law 668 = .ok (.iaload, 1) := by decide +kernel
theorem dL_law_669 : decode cL_law 669 = .ok (.invokevirtual 79, 3) := by decide +kernel
theorem dL_law_672 : decode cL_law 672 = .ok (.aload_n 2, 1) := by decide +kernel
theorem dL_law_673 : decode cL_law 673 = .ok (.aload_n 0, 1) := by decide +kernel
theorem dL_law_674 : decode cL_law 674 = .ok (.iload_n 3, 1) := by decide +kernel
theorem dL_law_675 : decode cL_law 675 = .ok (.iconst 1, 1) := by decide +kernel
theorem dL_law_676 : decode cL_law 676 = .ok (.iadd, 1) := by decide +kernel
theorem dL_law_677 : decode cL_law 677 = .ok (.iaload, 1) := by decide +kernel
theorem dL_law_678 : decode cL_law 678 = .ok (.aload_n 0, 1) := by decide +kernel
theorem dL_law_679 : decode cL_law 679 = .ok (.iload_n 3, 1) := by decide +kernel
theorem dL_law_680 : decode cL_law 680 = .ok (.iconst 2, 1) := by decide +kernel
theorem dL_law_681 : decode cL_law 681 = .ok (.iadd, 1) := by decide +kernel
theorem dL_law_682 : decode cL_law 682 = .ok (.iaload, 1) := by decide +kernel
theorem dL_law_683 : decode cL_law 683 = .ok (.aload_n 0, 1) := by decide +kernel
theorem dL_law_684 : decode cL_law 684 = .ok (.iload_n 3, 1) := by decide +kernel
theorem dL_law_685 : decode cL_law 685 = .ok (.iconst 3, 1) := by decide +kernel
theorem dL_law_686 : decode cL_law 686 = .ok (.iadd, 1) := by decide +kernel
theorem dL_law_687 : decode cL_law 687 = .ok (.iaload, 1) := by decide +kernel
theorem dL_law_688 : decode cL_law 688 = .ok (.invokevirtual 82, 3) := by decide +kernel
theorem dL_law_691 : decode cL_law 691 = .ok (.if_icmp .eq 71, 3) := by decide +kernel
theorem dL_law_694 : decode cL_law 694 = .ok (.iconst 0, 1) := by decide +kernel
theorem dL_law_695 : decode cL_law 695 = .ok (.ireturn, 1) := by decide +kernel
theorem dL_law_696 : decode cL_law 696 = .ok (.aload_n 1, 1) := by decide +kernel
theorem dL_law_697 : decode cL_law 697 = .ok (.aload_n 0, 1) := by decide +kernel
theorem dL_law_698 : decode cL_law 698 = .ok (.iload_n 3, 1) := by decide +kernel
theorem dL_law_699 : decode cL_law 699 = .ok (.iconst 1, 1) := by decide +kernel
theorem dL_law_700 : decode cL_law 700 = .ok (.iadd, 1) := by decide +kernel
theorem dL_law_701 : decode cL_law 701 = .ok (.iaload, 1) := by decide +kernel
theorem dL_law_702 : decode cL_law 702 = .ok (.aload_n 0, 1) := by decide +kernel
theorem dL_law_703 : decode cL_law 703 = .ok (.iload_n 3, 1) := by decide +kernel
theorem dL_law_704 : decode cL_law 704 = .ok (.iconst 2, 1) := by decide +kernel
theorem dL_law_705 : decode cL_law 705 = .ok (.iadd, 1) := by decide +kernel
theorem dL_law_706 : decode cL_law 706 = .ok (.iaload, 1) := by decide +kernel
theorem dL_law_707 : decode cL_law 707 = .ok (.invokevirtual 83, 3) := by decide +kernel
theorem dL_law_710 : decode cL_law 710 = .ok (.aload_n 2, 1) := by decide +kernel
theorem dL_law_711 : decode cL_law 711 = .ok (.aload_n 0, 1) := by decide +kernel
theorem dL_law_712 : decode cL_law 712 = .ok (.iload_n 3, 1) := by decide +kernel
theorem dL_law_713 : decode cL_law 713 = .ok (.iconst 1, 1) := by decide +kernel
theorem dL_law_714 : decode cL_law 714 = .ok (.iadd, 1) := by decide +kernel
theorem dL_law_715 : decode cL_law 715 = .ok (.iaload, 1) := by decide +kernel
theorem dL_law_716 : decode cL_law 716 = .ok (.aload_n 0, 1) := by decide +kernel
theorem dL_law_717 : decode cL_law 717 = .ok (.iload_n 3, 1) := by decide +kernel
theorem dL_law_718 : decode cL_law 718 = .ok (.iconst 2, 1) := by decide +kernel
theorem dL_law_719 : decode cL_law 719 = .ok (.iadd, 1) := by decide +kernel
theorem dL_law_720 : decode cL_law 720 = .ok (.iaload, 1) := by decide +kernel
theorem dL_law_721 : decode cL_law 721 = .ok (.invokevirtual 86, 3) := by decide +kernel
theorem dL_law_724 : decode cL_law 724 = .ok (.if_icmp .eq 38, 3) := by decide +kernel
theorem dL_law_727 : decode cL_law 727 = .ok (.iconst 0, 1) := by decide +kernel
theorem dL_law_728 : decode cL_law 728 = .ok (.ireturn, 1) := by decide +kernel
theorem dL_law_729 : decode cL_law 729 = .ok (.aload_n 1, 1) := by decide +kernel
theorem dL_law_730 : decode cL_law 730 = .ok (.aload_n 0, 1) := by decide +kernel
theorem dL_law_731 : decode cL_law 731 = .ok (.iload_n 3, 1) := by decide +kernel
theorem dL_law_732 : decode cL_law 732 = .ok (.iconst 1, 1) := by decide +kernel
theorem dL_law_733 : decode cL_law 733 = .ok (.iadd, 1) := by decide +kernel
theorem dL_law_734 : decode cL_law 734 = .ok (.iaload, 1) := by decide +kernel
theorem dL_law_735 : decode cL_law 735 = .ok (.aload_n 0, 1) := by decide +kernel
theorem dL_law_736 : decode cL_law 736 = .ok (.iload_n 3, 1) := by decide +kernel
theorem dL_law_737 : decode cL_law 737 = .ok (.iconst 2, 1) := by decide +kernel
theorem dL_law_738 : decode cL_law 738 = .ok (.iadd, 1) := by decide +kernel
theorem dL_law_739 : decode cL_law 739 = .ok (.iaload, 1) := by decide +kernel
theorem dL_law_740 : decode cL_law 740 = .ok (.invokevirtual 87, 3) := by decide +kernel
theorem dL_law_743 : decode cL_law 743 = .ok (.aload_n 2, 1) := by decide +kernel
theorem dL_law_744 : decode cL_law 744 = .ok (.aload_n 0, 1) := by decide +kernel
theorem dL_law_745 : decode cL_law 745 = .ok (.iload_n 3, 1) := by decide +kernel
theorem dL_law_746 : decode cL_law 746 = .ok (.iconst 1, 1) := by decide +kernel
theorem dL_law_747 : decode cL_law 747 = .ok (.iadd, 1) := by decide +kernel
theorem dL_law_748 : decode cL_law 748 = .ok (.iaload, 1) := by decide +kernel
theorem dL_law_749 : decode cL_law 749 = .ok (.aload_n 0, 1) := by decide +kernel
theorem dL_law_750 : decode cL_law 750 = .ok (.iload_n 3, 1) := by decide +kernel
theorem dL_law_751 : decode cL_law 751 = .ok (.iconst 2, 1) := by decide +kernel
theorem dL_law_752 : decode cL_law 752 = .ok (.iadd, 1) := by decide +kernel
theorem dL_law_753 : decode cL_law 753 = .ok (.iaload, 1) := by decide +kernel
theorem dL_law_754 : decode cL_law 754 = .ok (.invokevirtual 90, 3) := by decide +kernel
theorem dL_law_757 : decode cL_law 757 = .ok (.if_icmp .eq 5, 3) := by decide +kernel
theorem dL_law_760 : decode cL_law 760 = .ok (.iconst 0, 1) := by decide +kernel
theorem dL_law_761 : decode cL_law 761 = .ok (.ireturn, 1) := by decide +kernel
theorem dL_law_762 : decode cL_law 762 = .ok (.iinc 3 6, 3) := by decide +kernel
theorem dL_law_765 : decode cL_law 765 = .ok (.goto (-747), 3) := by decide +kernel
theorem dL_law_768 : decode cL_law 768 = .ok (.iconst 1, 1) := by decide +kernel
theorem dL_law_769 : decode cL_law 769 = .ok (.ireturn, 1) := by decide +kernel
