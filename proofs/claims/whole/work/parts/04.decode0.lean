theorem dX0_init_0 : decode cX0_init 0 = .ok (.aload_n 0, 1) := by decide +kernel
theorem dX0_init_1 : decode cX0_init 1 = .ok (.invokespecial 3, 3) := by decide +kernel
theorem dX0_init_4 : decode cX0_init 4 = .ok (.aload_n 0, 1) := by decide +kernel
theorem dX0_init_5 : decode cX0_init 5 = .ok (.iconst 0, 1) := by decide +kernel
theorem dX0_init_6 : decode cX0_init 6 = .ok (.putfield 9, 3) := by decide +kernel
theorem dX0_init_9 : decode cX0_init 9 = .ok (.aload_n 0, 1) := by decide +kernel
theorem dX0_init_10 : decode cX0_init 10 = .ok (.iconst 0, 1) := by decide +kernel
theorem dX0_init_11 : decode cX0_init 11 = .ok (.putfield 15, 3) := by decide +kernel
theorem dX0_init_14 : decode cX0_init 14 = .ok (.aload_n 0, 1) := by decide +kernel
theorem dX0_init_15 : decode cX0_init 15 = .ok (.iconst 0, 1) := by decide +kernel
theorem dX0_init_16 : decode cX0_init 16 = .ok (.putfield 18, 3) := by decide +kernel
theorem dX0_init_19 : decode cX0_init 19 = .ok (.aload_n 0, 1) := by decide +kernel
theorem dX0_init_20 : decode cX0_init 20 = .ok (.iconst 0, 1) := by decide +kernel
theorem dX0_init_21 : decode cX0_init 21 = .ok (.putfield 21, 3) := by decide +kernel
theorem dX0_init_24 : decode cX0_init 24 = .ok (.aload_n 0, 1) := by decide +kernel
theorem dX0_init_25 : decode cX0_init 25 = .ok (.iconst 0, 1) := by decide +kernel
theorem dX0_init_26 : decode cX0_init 26 = .ok (.putfield 25, 3) := by decide +kernel
theorem dX0_init_29 : decode cX0_init 29 = .ok (.aload_n 0, 1) := by decide +kernel
theorem dX0_init_30 : decode cX0_init 30 = .ok (.iconst 0, 1) := by decide +kernel
theorem dX0_init_31 : decode cX0_init 31 = .ok (.putfield 28, 3) := by decide +kernel
theorem dX0_init_34 : decode cX0_init 34 = .ok (.return_, 1) := by decide +kernel
theorem dX0_look_0 : decode cX0_look 0 = .ok (.aload_n 0, 1) := by decide +kernel
theorem dX0_look_1 : decode cX0_look 1 = .ok (.iload_n 1, 1) := by decide +kernel
theorem dX0_look_2 : decode cX0_look 2 = .ok (.aload_n 0, 1) := by decide +kernel
theorem dX0_look_3 : decode cX0_look 3 = .ok (.getfield 25, 3) := by decide +kernel
theorem dX0_look_6 : decode cX0_look 6 = .ok (.iconst (-1), 1) := by decide +kernel
theorem dX0_look_7 : decode cX0_look 7 = .ok (.ixor, 1) := by decide +kernel
theorem dX0_look_8 : decode cX0_look 8 = .ok (.iand, 1) := by decide +kernel
theorem dX0_look_9 : decode cX0_look 9 = .ok (.putfield 28, 3) := by decide +kernel
theorem dX0_look_12 : decode cX0_look 12 = .ok (.aload_n 0, 1) := by decide +kernel
theorem dX0_look_13 : decode cX0_look 13 = .ok (.iload_n 1, 1) := by decide +kernel
theorem dX0_look_14 : decode cX0_look 14 = .ok (.putfield 25, 3) := by decide +kernel
theorem dX0_look_17 : decode cX0_look 17 = .ok (.aload_n 0, 1) := by decide +kernel
theorem dX0_look_18 : decode cX0_look 18 = .ok (.iconst 1, 1) := by decide +kernel
theorem dX0_look_19 : decode cX0_look 19 = .ok (.putfield 21, 3) := by decide +kernel
theorem dX0_look_22 : decode cX0_look 22 = .ok (.return_, 1) := by decide +kernel
theorem dX0_answer_0 : decode cX0_answer 0 = .ok (.iload_n 1, 1) := by decide +kernel
theorem dX0_answer_1 : decode cX0_answer 1 = .ok (.tableswitch 48 0 2 #[27, 35, 43], 27) := by decide +kernel
theorem dX0_answer_28 : decode cX0_answer 28 = .ok (.aload_n 0, 1) := by decide +kernel
theorem dX0_answer_29 : decode cX0_answer 29 = .ok (.getfield 25, 3) := by decide +kernel
theorem dX0_answer_32 : decode cX0_answer 32 = .ok (.invokestatic 31, 3) := by decide +kernel
theorem dX0_answer_35 : decode cX0_answer 35 = .ok (.ireturn, 1) := by decide +kernel
theorem dX0_answer_36 : decode cX0_answer 36 = .ok (.aload_n 0, 1) := by decide +kernel
theorem dX0_answer_37 : decode cX0_answer 37 = .ok (.getfield 28, 3) := by decide +kernel
theorem dX0_answer_40 : decode cX0_answer 40 = .ok (.invokestatic 31, 3) := by decide +kernel
theorem dX0_answer_43 : decode cX0_answer 43 = .ok (.ireturn, 1) := by decide +kernel
theorem dX0_answer_44 : decode cX0_answer 44 = .ok (.aload_n 0, 1) := by decide +kernel
theorem dX0_answer_45 : decode cX0_answer 45 = .ok (.invokevirtual 37, 3) := by decide +kernel
theorem dX0_answer_48 : decode cX0_answer 48 = .ok (.ireturn, 1) := by decide +kernel
theorem dX0_answer_49 : decode cX0_answer 49 = .ok (.iconst (-1), 1) := by decide +kernel
theorem dX0_answer_50 : decode cX0_answer 50 = .ok (.ireturn, 1) := by decide +kernel
theorem dX0_firstRang_0 : decode cX0_firstRang 0 = .ok (.iconst 0, 1) := by decide +kernel
theorem dX0_firstRang_1 : decode cX0_firstRang 1 = .ok (.istore_n 1, 1) := by decide +kernel
theorem dX0_firstRang_2 : decode cX0_firstRang 2 = .ok (.iload_n 1, 1) := by decide +kernel
theorem dX0_firstRang_3 : decode cX0_firstRang 3 = .ok (.bipush 16, 2) := by decide +kernel
theorem dX0_firstRang_5 : decode cX0_firstRang 5 = .ok (.if_icmp .ge 22, 3) := by decide +kernel
theorem dX0_firstRang_8 : decode cX0_firstRang 8 = .ok (.aload_n 0, 1) := by decide +kernel
theorem dX0_firstRang_9 : decode cX0_firstRang 9 = .ok (.getfield 28, 3) := by decide +kernel
theorem dX0_firstRang_12 : decode cX0_firstRang 12 = .ok (.iload_n 1, 1) := by decide +kernel
theorem dX0_firstRang_13 : decode cX0_firstRang 13 = .ok (.ishr, 1) := by decide +kernel
theorem dX0_firstRang_14 : decode cX0_firstRang 14 = .ok (.iconst 1, 1) := by decide +kernel
theorem dX0_firstRang_15 : decode cX0_firstRang 15 = .ok (.iand, 1) := by decide +kernel
theorem dX0_firstRang_16 : decode cX0_firstRang 16 = .ok (.ifCond .eq 5, 3) := by decide +kernel
theorem dX0_firstRang_19 : decode cX0_firstRang 19 = .ok (.iload_n 1, 1) := by decide +kernel
theorem dX0_firstRang_20 : decode cX0_firstRang 20 = .ok (.ireturn, 1) := by decide +kernel
theorem dX0_firstRang_21 : decode cX0_firstRang 21 = .ok (.iinc 1 1, 3) := by decide +kernel
theorem dX0_firstRang_24 : decode cX0_firstRang 24 = .ok (.goto (-22), 3) := by decide +kernel
theorem dX0_firstRang_27 : decode cX0_firstRang 27 = .ok (.iconst (-1), 1) := by decide +kernel
theorem dX0_firstRang_28 : decode cX0_firstRang 28 = .ok (.ireturn, 1) := by decide +kernel
theorem dX1_of_0 : decode cX1_of 0 = .ok (.iload_n 2, 1) := by decide +kernel
theorem dX1_of_1 : decode cX1_of 1 = .ok (.ifCond .eq 9, 3) := by decide +kernel
theorem dX1_of_4 : decode cX1_of 4 = .ok (.ldc2_w 7, 3) := by decide +kernel
theorem dX1_of_7 : decode cX1_of 7 = .ok (.goto 6, 3) := by decide +kernel
theorem dX1_of_10 : decode cX1_of 10 = .ok (.ldc2_w 9, 3) := by decide +kernel
theorem dX1_of_13 : decode cX1_of 13 = .ok (.lstore_n 3, 1) := by decide +kernel
theorem dX1_of_14 : decode cX1_of 14 = .ok (.dload_n 0, 1) := by decide +kernel
theorem dX1_of_15 : decode cX1_of 15 = .ok (.invokestatic 11, 3) := by decide +kernel
theorem dX1_of_18 : decode cX1_of 18 = .ok (.ifCond .eq 10, 3) := by decide +kernel
theorem dX1_of_21 : decode cX1_of 21 = .ok (.iload_n 2, 1) := by decide +kernel
theorem dX1_of_22 : decode cX1_of 22 = .ok (.invokestatic 17, 3) := by decide +kernel
theorem dX1_of_25 : decode cX1_of 25 = .ok (.goto 12, 3) := by decide +kernel
theorem dX1_of_28 : decode cX1_of 28 = .ok (.dload_n 0, 1) := by decide +kernel
theorem dX1_of_29 : decode cX1_of 29 = .ok (.iconst 0, 1) := by decide +kernel
theorem dX1_of_30 : decode cX1_of 30 = .ok (.invokestatic 23, 3) := by decide +kernel
theorem dX1_of_33 : decode cX1_of 33 = .ok (.iload_n 2, 1) := by decide +kernel
theorem dX1_of_34 : decode cX1_of 34 = .ok (.invokestatic 27, 3) := by decide +kernel
theorem dX1_of_37 : decode cX1_of 37 = .ok (.lstore 5, 2) := by decide +kernel
theorem dX1_of_39 : decode cX1_of 39 = .ok (.dload_n 0, 1) := by decide +kernel
theorem dX1_of_40 : decode cX1_of 40 = .ok (.invokestatic 31, 3) := by decide +kernel
theorem dX1_of_43 : decode cX1_of 43 = .ok (.ifCond .eq 10, 3) := by decide +kernel
theorem dX1_of_46 : decode cX1_of 46 = .ok (.lload 5, 2) := by decide +kernel
theorem dX1_of_48 : decode cX1_of 48 = .ok (.lload_n 3, 1) := by decide +kernel
theorem dX1_of_49 : decode cX1_of 49 = .ok (.lor, 1) := by decide +kernel
theorem dX1_of_50 : decode cX1_of 50 = .ok (.goto 5, 3) := by decide +kernel
theorem dX1_of_53 : decode cX1_of 53 = .ok (.lload 5, 2) := by decide +kernel
theorem dX1_of_55 : decode cX1_of 55 = .ok (.lreturn, 1) := by decide +kernel
theorem dX1_ofInfinite_0 : decode cX1_ofInfinite 0 = .ok (.iload_n 0, 1) := by decide +kernel
theorem dX1_ofInfinite_1 : decode cX1_ofInfinite 1 = .ok (.ifCond .eq 9, 3) := by decide +kernel
theorem dX1_ofInfinite_4 : decode cX1_ofInfinite 4 = .ok (.ldc2_w 34, 3) := by decide +kernel
theorem dX1_ofInfinite_7 : decode cX1_ofInfinite 7 = .ok (.goto 6, 3) := by decide +kernel
theorem dX1_ofInfinite_10 : decode cX1_ofInfinite 10 = .ok (.ldc2_w 36, 3) := by decide +kernel
theorem dX1_ofInfinite_13 : decode cX1_ofInfinite 13 = .ok (.lreturn, 1) := by decide +kernel
theorem dX1_behindSign_0 : decode cX1_behindSign 0 = .ok (.iload_n 2, 1) := by decide +kernel
theorem dX1_behindSign_1 : decode cX1_behindSign 1 = .ok (.ifCond .eq 9, 3) := by decide +kernel
theorem dX1_behindSign_4 : decode cX1_behindSign 4 = .ok (.ldc2_w 38, 3) := by decide +kernel
theorem dX1_behindSign_7 : decode cX1_behindSign 7 = .ok (.goto 6, 3) := by decide +kernel
theorem dX1_behindSign_10 : decode cX1_behindSign 10 = .ok (.ldc2_w 40, 3) := by decide +kernel
theorem dX1_behindSign_13 : decode cX1_behindSign 13 = .ok (.dstore_n 3, 1) := by decide +kernel
theorem dX1_behindSign_14 : decode cX1_behindSign 14 = .ok (.iload_n 2, 1) := by decide +kernel
theorem dX1_behindSign_15 : decode cX1_behindSign 15 = .ok (.ifCond .eq 9, 3) := by decide +kernel
theorem dX1_behindSign_18 : decode cX1_behindSign 18 = .ok (.ldc2_w 42, 3) := by decide +kernel
theorem dX1_behindSign_21 : decode cX1_behindSign 21 = .ok (.goto 6, 3) := by decide +kernel
theorem dX1_behindSign_24 : decode cX1_behindSign 24 = .ok (.ldc2_w 44, 3) := by decide +kernel
theorem dX1_behindSign_27 : decode cX1_behindSign 27 = .ok (.dstore 5, 2) := by decide +kernel
theorem dX1_behindSign_29 : decode cX1_behindSign 29 = .ok (.dload_n 0, 1) := by decide +kernel
theorem dX1_behindSign_30 : decode cX1_behindSign 30 = .ok (.dload_n 3, 1) := by decide +kernel
theorem dX1_behindSign_31 : decode cX1_behindSign 31 = .ok (.dcmp .g, 1) := by decide +kernel
theorem dX1_behindSign_32 : decode cX1_behindSign 32 = .ok (.ifCond .ge 11, 3) := by decide +kernel
theorem dX1_behindSign_35 : decode cX1_behindSign 35 = .ok (.dload_n 0, 1) := by decide +kernel
theorem dX1_behindSign_36 : decode cX1_behindSign 36 = .ok (.dload_n 3, 1) := by decide +kernel
theorem dX1_behindSign_37 : decode cX1_behindSign 37 = .ok (.ddiv, 1) := by decide +kernel
theorem dX1_behindSign_38 : decode cX1_behindSign 38 = .ok (.dload 5, 2) := by decide +kernel
theorem dX1_behindSign_40 : decode cX1_behindSign 40 = .ok (.dmul, 1) := by decide +kernel
theorem dX1_behindSign_41 : decode cX1_behindSign 41 = .ok (.d2l, 1) := by decide +kernel
theorem dX1_behindSign_42 : decode cX1_behindSign 42 = .ok (.lreturn, 1) := by decide +kernel
theorem dX1_behindSign_43 : decode cX1_behindSign 43 = .ok (.dload_n 0, 1) := by decide +kernel
theorem dX1_behindSign_44 : decode cX1_behindSign 44 = .ok (.dstore 7, 2) := by decide +kernel
theorem dX1_behindSign_46 : decode cX1_behindSign 46 = .ok (.iconst 0, 1) := by decide +kernel
theorem dX1_behindSign_47 : decode cX1_behindSign 47 = .ok (.istore 9, 2) := by decide +kernel
theorem dX1_behindSign_49 : decode cX1_behindSign 49 = .ok (.iconst 0, 1) := by decide +kernel
theorem dX1_behindSign_50 : decode cX1_behindSign 50 = .ok (.istore 10, 2) := by decide +kernel
theorem dX1_behindSign_52 : decode cX1_behindSign 52 = .ok (.iload 10, 2) := by decide +kernel
theorem dX1_behindSign_54 : decode cX1_behindSign 54 = .ok (.bipush 32, 2) := by decide +kernel
theorem dX1_behindSign_56 : decode cX1_behindSign 56 = .ok (.if_icmp .ge 29, 3) := by decide +kernel
theorem dX1_behindSign_59 : decode cX1_behindSign 59 = .ok (.dload 7, 2) := by decide +kernel
theorem dX1_behindSign_61 : decode cX1_behindSign 61 = .ok (.ldc2_w 46, 3) := by decide +kernel
theorem dX1_behindSign_64 : decode cX1_behindSign 64 = .ok (.dcmp .l, 1) := by decide +kernel
theorem dX1_behindSign_65 : decode cX1_behindSign 65 = .ok (.ifCond .lt 20, 3) := by decide +kernel
theorem dX1_behindSign_68 : decode cX1_behindSign 68 = .ok (.dload 7, 2) := by decide +kernel
theorem dX1_behindSign_70 : decode cX1_behindSign 70 = .ok (.ldc2_w 48, 3) := by decide +kernel
theorem dX1_behindSign_73 : decode cX1_behindSign 73 = .ok (.dmul, 1) := by decide +kernel
theorem dX1_behindSign_74 : decode cX1_behindSign 74 = .ok (.dstore 7, 2) := by decide +kernel
theorem dX1_behindSign_76 : decode cX1_behindSign 76 = .ok (.iinc 9 32, 3) := by decide +kernel
theorem dX1_behindSign_79 : decode cX1_behindSign 79 = .ok (.iinc 10 1, 3) := by decide +kernel
theorem dX1_behindSign_82 : decode cX1_behindSign 82 = .ok (.goto (-30), 3) := by decide +kernel
theorem dX1_behindSign_85 : decode cX1_behindSign 85 = .ok (.iconst 0, 1) := by decide +kernel
theorem dX1_behindSign_86 : decode cX1_behindSign 86 = .ok (.istore 10, 2) := by decide +kernel
theorem dX1_behindSign_88 : decode cX1_behindSign 88 = .ok (.iload 10, 2) := by decide +kernel
theorem dX1_behindSign_90 : decode cX1_behindSign 90 = .ok (.bipush 32, 2) := by decide +kernel
theorem dX1_behindSign_92 : decode cX1_behindSign 92 = .ok (.if_icmp .ge 27, 3) := by decide +kernel
theorem dX1_behindSign_95 : decode cX1_behindSign 95 = .ok (.dload 7, 2) := by decide +kernel
theorem dX1_behindSign_97 : decode cX1_behindSign 97 = .ok (.dconst 1, 1) := by decide +kernel
theorem dX1_behindSign_98 : decode cX1_behindSign 98 = .ok (.dcmp .g, 1) := by decide +kernel
theorem dX1_behindSign_99 : decode cX1_behindSign 99 = .ok (.ifCond .ge 20, 3) := by decide +kernel
theorem dX1_behindSign_102 : decode cX1_behindSign 102 = .ok (.dload 7, 2) := by decide +kernel
theorem dX1_behindSign_104 : decode cX1_behindSign 104 = .ok (.ldc2_w 46, 3) := by decide +kernel
theorem dX1_behindSign_107 : decode cX1_behindSign 107 = .ok (.dmul, 1) := by decide +kernel
theorem dX1_behindSign_108 : decode cX1_behindSign 108 = .ok (.dstore 7, 2) := by decide +kernel
theorem dX1_behindSign_110 : decode cX1_behindSign 110 = .ok (.iinc 9 (-32), 3) := by decide +kernel
theorem dX1_behindSign_113 : decode cX1_behindSign 113 = .ok (.iinc 10 1, 3) := by decide +kernel
theorem dX1_behindSign_116 : decode cX1_behindSign 116 = .ok (.goto (-28), 3) := by decide +kernel
theorem dX1_behindSign_119 : decode cX1_behindSign 119 = .ok (.iconst 0, 1) := by decide +kernel
theorem dX1_behindSign_120 : decode cX1_behindSign 120 = .ok (.istore 10, 2) := by decide +kernel
theorem dX1_behindSign_122 : decode cX1_behindSign 122 = .ok (.iload 10, 2) := by decide +kernel
theorem dX1_behindSign_124 : decode cX1_behindSign 124 = .ok (.bipush 32, 2) := by decide +kernel
theorem dX1_behindSign_126 : decode cX1_behindSign 126 = .ok (.if_icmp .ge 29, 3) := by decide +kernel
theorem dX1_behindSign_129 : decode cX1_behindSign 129 = .ok (.dload 7, 2) := by decide +kernel
theorem dX1_behindSign_131 : decode cX1_behindSign 131 = .ok (.ldc2_w 50, 3) := by decide +kernel
theorem dX1_behindSign_134 : decode cX1_behindSign 134 = .ok (.dcmp .l, 1) := by decide +kernel
theorem dX1_behindSign_135 : decode cX1_behindSign 135 = .ok (.ifCond .lt 20, 3) := by decide +kernel
theorem dX1_behindSign_138 : decode cX1_behindSign 138 = .ok (.dload 7, 2) := by decide +kernel
theorem dX1_behindSign_140 : decode cX1_behindSign 140 = .ok (.ldc2_w 52, 3) := by decide +kernel
theorem dX1_behindSign_143 : decode cX1_behindSign 143 = .ok (.dmul, 1) := by decide +kernel
theorem dX1_behindSign_144 : decode cX1_behindSign 144 = .ok (.dstore 7, 2) := by decide +kernel
theorem dX1_behindSign_146 : decode cX1_behindSign 146 = .ok (.iinc 9 1, 3) := by decide +kernel
theorem dX1_behindSign_149 : decode cX1_behindSign 149 = .ok (.iinc 10 1, 3) := by decide +kernel
theorem dX1_behindSign_152 : decode cX1_behindSign 152 = .ok (.goto (-30), 3) := by decide +kernel
theorem dX1_behindSign_155 : decode cX1_behindSign 155 = .ok (.iload 9, 2) := by decide +kernel
theorem dX1_behindSign_157 : decode cX1_behindSign 157 = .ok (.iload_n 2, 1) := by decide +kernel
theorem dX1_behindSign_158 : decode cX1_behindSign 158 = .ok (.ifCond .eq 8, 3) := by decide +kernel
theorem dX1_behindSign_161 : decode cX1_behindSign 161 = .ok (.bipush 127, 2) := by decide +kernel
theorem dX1_behindSign_163 : decode cX1_behindSign 163 = .ok (.goto 6, 3) := by decide +kernel
theorem dX1_behindSign_166 : decode cX1_behindSign 166 = .ok (.sipush 1023, 3) := by decide +kernel
theorem dX1_behindSign_169 : decode cX1_behindSign 169 = .ok (.iadd, 1) := by decide +kernel
theorem dX1_behindSign_170 : decode cX1_behindSign 170 = .ok (.i2l, 1) := by decide +kernel
theorem dX1_behindSign_171 : decode cX1_behindSign 171 = .ok (.lstore 10, 2) := by decide +kernel
theorem dX1_behindSign_173 : decode cX1_behindSign 173 = .ok (.dload 7, 2) := by decide +kernel
theorem dX1_behindSign_175 : decode cX1_behindSign 175 = .ok (.dconst 1, 1) := by decide +kernel
theorem dX1_behindSign_176 : decode cX1_behindSign 176 = .ok (.dsub, 1) := by decide +kernel
theorem dX1_behindSign_177 : decode cX1_behindSign 177 = .ok (.dload 5, 2) := by decide +kernel
theorem dX1_behindSign_179 : decode cX1_behindSign 179 = .ok (.dmul, 1) := by decide +kernel
theorem dX1_behindSign_180 : decode cX1_behindSign 180 = .ok (.d2l, 1) := by decide +kernel
theorem dX1_behindSign_181 : decode cX1_behindSign 181 = .ok (.lstore 12, 2) := by decide +kernel
theorem dX1_behindSign_183 : decode cX1_behindSign 183 = .ok (.lload 10, 2) := by decide +kernel
theorem dX1_behindSign_185 : decode cX1_behindSign 185 = .ok (.iload_n 2, 1) := by decide +kernel
theorem dX1_behindSign_186 : decode cX1_behindSign 186 = .ok (.ifCond .eq 8, 3) := by decide +kernel
theorem dX1_behindSign_189 : decode cX1_behindSign 189 = .ok (.bipush 23, 2) := by decide +kernel
theorem dX1_behindSign_191 : decode cX1_behindSign 191 = .ok (.goto 5, 3) := by decide +kernel
theorem dX1_behindSign_194 : decode cX1_behindSign 194 = .ok (.bipush 52, 2) := by decide +kernel
theorem dX1_behindSign_196 : decode cX1_behindSign 196 = .ok (.lshl, 1) := by decide +kernel
theorem dX1_behindSign_197 : decode cX1_behindSign 197 = .ok (.lload 12, 2) := by decide +kernel
theorem dX1_behindSign_199 : decode cX1_behindSign 199 = .ok (.ladd, 1) := by decide +kernel
theorem dX1_behindSign_200 : decode cX1_behindSign 200 = .ok (.lreturn, 1) := by decide +kernel
theorem dX1_wideDigits_0 : decode cX1_wideDigits 0 = .ok (.lload_n 0, 1) := by decide +kernel
theorem dX1_wideDigits_1 : decode cX1_wideDigits 1 = .ok (.ldc2_w 54, 3) := by decide +kernel
theorem dX1_wideDigits_4 : decode cX1_wideDigits 4 = .ok (.land, 1) := by decide +kernel
theorem dX1_wideDigits_5 : decode cX1_wideDigits 5 = .ok (.lstore_n 2, 1) := by decide +kernel
theorem dX1_wideDigits_6 : decode cX1_wideDigits 6 = .ok (.lload_n 0, 1) := by decide +kernel
theorem dX1_wideDigits_7 : decode cX1_wideDigits 7 = .ok (.lload_n 2, 1) := by decide +kernel
theorem dX1_wideDigits_8 : decode cX1_wideDigits 8 = .ok (.lcmp, 1) := by decide +kernel
theorem dX1_wideDigits_9 : decode cX1_wideDigits 9 = .ok (.ifCond .ne 7, 3) := by decide +kernel
theorem dX1_wideDigits_12 : decode cX1_wideDigits 12 = .ok (.lload_n 2, 1) := by decide +kernel
theorem dX1_wideDigits_13 : decode cX1_wideDigits 13 = .ok (.goto 8, 3) := by decide +kernel
theorem dX1_wideDigits_16 : decode cX1_wideDigits 16 = .ok (.lload_n 2, 1) := by decide +kernel
theorem dX1_wideDigits_17 : decode cX1_wideDigits 17 = .ok (.ldc2_w 56, 3) := by decide +kernel
theorem dX1_wideDigits_20 : decode cX1_wideDigits 20 = .ok (.ladd, 1) := by decide +kernel
theorem dX1_wideDigits_21 : decode cX1_wideDigits 21 = .ok (.lreturn, 1) := by decide +kernel
theorem dX1_widePower_0 : decode cX1_widePower 0 = .ok (.lload_n 0, 1) := by decide +kernel
theorem dX1_widePower_1 : decode cX1_widePower 1 = .ok (.bipush 52, 2) := by decide +kernel
theorem dX1_widePower_3 : decode cX1_widePower 3 = .ok (.lshr, 1) := by decide +kernel
theorem dX1_widePower_4 : decode cX1_widePower 4 = .ok (.l2i, 1) := by decide +kernel
theorem dX1_widePower_5 : decode cX1_widePower 5 = .ok (.istore_n 2, 1) := by decide +kernel
theorem dX1_widePower_6 : decode cX1_widePower 6 = .ok (.iload_n 2, 1) := by decide +kernel
theorem dX1_widePower_7 : decode cX1_widePower 7 = .ok (.ifCond .ne 7, 3) := by decide +kernel
theorem dX1_widePower_10 : decode cX1_widePower 10 = .ok (.iconst 1, 1) := by decide +kernel
theorem dX1_widePower_11 : decode cX1_widePower 11 = .ok (.goto 4, 3) := by decide +kernel
theorem dX1_widePower_14 : decode cX1_widePower 14 = .ok (.iload_n 2, 1) := by decide +kernel
theorem dX1_widePower_15 : decode cX1_widePower 15 = .ok (.sipush 1023, 3) := by decide +kernel
theorem dX1_widePower_18 : decode cX1_widePower 18 = .ok (.isub, 1) := by decide +kernel
theorem dX1_widePower_19 : decode cX1_widePower 19 = .ok (.bipush 52, 2) := by decide +kernel
theorem dX1_widePower_21 : decode cX1_widePower 21 = .ok (.isub, 1) := by decide +kernel
theorem dX1_widePower_22 : decode cX1_widePower 22 = .ok (.ireturn, 1) := by decide +kernel
theorem dX2_init_0 : decode cX2_init 0 = .ok (.aload_n 0, 1) := by decide +kernel
theorem dX2_init_1 : decode cX2_init 1 = .ok (.invokespecial 1, 3) := by decide +kernel
theorem dX2_init_4 : decode cX2_init 4 = .ok (.aload_n 0, 1) := by decide +kernel
theorem dX2_init_5 : decode cX2_init 5 = .ok (.aload_n 1, 1) := by decide +kernel
theorem dX2_init_6 : decode cX2_init 6 = .ok (.putfield 7, 3) := by decide +kernel
theorem dX2_init_9 : decode cX2_init 9 = .ok (.aload_n 0, 1) := by decide +kernel
theorem dX2_init_10 : decode cX2_init 10 = .ok (.iload_n 2, 1) := by decide +kernel
theorem dX2_init_11 : decode cX2_init 11 = .ok (.putfield 13, 3) := by decide +kernel
theorem dX2_init_14 : decode cX2_init 14 = .ok (.return_, 1) := by decide +kernel
theorem dX3_init_0 : decode cX3_init 0 = .ok (.aload_n 0, 1) := by decide +kernel
theorem dX3_init_1 : decode cX3_init 1 = .ok (.invokespecial 3, 3) := by decide +kernel
theorem dX3_init_4 : decode cX3_init 4 = .ok (.aload_n 0, 1) := by decide +kernel
theorem dX3_init_5 : decode cX3_init 5 = .ok (.new 9, 3) := by decide +kernel
theorem dX3_init_8 : decode cX3_init 8 = .ok (.dup, 1) := by decide +kernel
theorem dX3_init_9 : decode cX3_init 9 = .ok (.bipush 16, 2) := by decide +kernel
theorem dX3_init_11 : decode cX3_init 11 = .ok (.invokespecial 11, 3) := by decide +kernel
theorem dX3_init_14 : decode cX3_init 14 = .ok (.putfield 14, 3) := by decide +kernel
theorem dX3_init_17 : decode cX3_init 17 = .ok (.aload_n 0, 1) := by decide +kernel
theorem dX3_init_18 : decode cX3_init 18 = .ok (.iconst 0, 1) := by decide +kernel
theorem dX3_init_19 : decode cX3_init 19 = .ok (.putfield 20, 3) := by decide +kernel
theorem dX3_init_22 : decode cX3_init 22 = .ok (.aload_n 0, 1) := by decide +kernel
theorem dX3_init_23 : decode cX3_init 23 = .ok (.iconst (-1), 1) := by decide +kernel
theorem dX3_init_24 : decode cX3_init 24 = .ok (.putfield 24, 3) := by decide +kernel
theorem dX3_init_27 : decode cX3_init 27 = .ok (.aload_n 0, 1) := by decide +kernel
theorem dX3_init_28 : decode cX3_init 28 = .ok (.iconst 0, 1) := by decide +kernel
theorem dX3_init_29 : decode cX3_init 29 = .ok (.putfield 28, 3) := by decide +kernel
theorem dX3_init_32 : decode cX3_init 32 = .ok (.aload_n 0, 1) := by decide +kernel
theorem dX3_init_33 : decode cX3_init 33 = .ok (.iconst 0, 1) := by decide +kernel
theorem dX3_init_34 : decode cX3_init 34 = .ok (.putfield 31, 3) := by decide +kernel
theorem dX3_init_37 : decode cX3_init 37 = .ok (.aload_n 0, 1) := by decide +kernel
theorem dX3_init_38 : decode cX3_init 38 = .ok (.iconst 0, 1) := by decide +kernel
theorem dX3_init_39 : decode cX3_init 39 = .ok (.putfield 34, 3) := by decide +kernel
theorem dX3_init_42 : decode cX3_init 42 = .ok (.return_, 1) := by decide +kernel
theorem dX3_hasFormula_0 : decode cX3_hasFormula 0 = .ok (.aload_n 0, 1) := by decide +kernel
theorem dX3_hasFormula_1 : decode cX3_hasFormula 1 = .ok (.getfield 24, 3) := by decide +kernel
theorem dX3_hasFormula_4 : decode cX3_hasFormula 4 = .ok (.iconst (-1), 1) := by decide +kernel
theorem dX3_hasFormula_5 : decode cX3_hasFormula 5 = .ok (.if_icmp .eq 7, 3) := by decide +kernel
theorem dX3_hasFormula_8 : decode cX3_hasFormula 8 = .ok (.iconst 1, 1) := by decide +kernel
theorem dX3_hasFormula_9 : decode cX3_hasFormula 9 = .ok (.goto 4, 3) := by decide +kernel
theorem dX3_hasFormula_12 : decode cX3_hasFormula 12 = .ok (.iconst 0, 1) := by decide +kernel
theorem dX3_hasFormula_13 : decode cX3_hasFormula 13 = .ok (.ireturn, 1) := by decide +kernel
theorem dX3_become_0 : decode cX3_become 0 = .ok (.aload_n 0, 1) := by decide +kernel
theorem dX3_become_1 : decode cX3_become 1 = .ok (.aload_n 1, 1) := by decide +kernel
theorem dX3_become_2 : decode cX3_become 2 = .ok (.getfield 20, 3) := by decide +kernel
theorem dX3_become_5 : decode cX3_become 5 = .ok (.putfield 20, 3) := by decide +kernel
theorem dX3_become_8 : decode cX3_become 8 = .ok (.aload_n 0, 1) := by decide +kernel
theorem dX3_become_9 : decode cX3_become 9 = .ok (.aload_n 1, 1) := by decide +kernel
theorem dX3_become_10 : decode cX3_become 10 = .ok (.getfield 24, 3) := by decide +kernel
theorem dX3_become_13 : decode cX3_become 13 = .ok (.putfield 24, 3) := by decide +kernel
theorem dX3_become_16 : decode cX3_become 16 = .ok (.aload_n 0, 1) := by decide +kernel
theorem dX3_become_17 : decode cX3_become 17 = .ok (.aload_n 1, 1) := by decide +kernel
theorem dX3_become_18 : decode cX3_become 18 = .ok (.getfield 28, 3) := by decide +kernel
theorem dX3_become_21 : decode cX3_become 21 = .ok (.putfield 28, 3) := by decide +kernel
theorem dX3_become_24 : decode cX3_become 24 = .ok (.aload_n 0, 1) := by decide +kernel
theorem dX3_become_25 : decode cX3_become 25 = .ok (.aload_n 1, 1) := by decide +kernel
theorem dX3_become_26 : decode cX3_become 26 = .ok (.getfield 31, 3) := by decide +kernel
theorem dX3_become_29 : decode cX3_become 29 = .ok (.putfield 31, 3) := by decide +kernel
theorem dX3_become_32 : decode cX3_become 32 = .ok (.aload_n 0, 1) := by decide +kernel
theorem dX3_become_33 : decode cX3_become 33 = .ok (.aload_n 1, 1) := by decide +kernel
theorem dX3_become_34 : decode cX3_become 34 = .ok (.getfield 34, 3) := by decide +kernel
theorem dX3_become_37 : decode cX3_become 37 = .ok (.putfield 34, 3) := by decide +kernel
theorem dX3_become_40 : decode cX3_become 40 = .ok (.iconst 0, 1) := by decide +kernel
theorem dX3_become_41 : decode cX3_become 41 = .ok (.istore_n 2, 1) := by decide +kernel
theorem dX3_become_42 : decode cX3_become 42 = .ok (.iload_n 2, 1) := by decide +kernel
theorem dX3_become_43 : decode cX3_become 43 = .ok (.bipush 16, 2) := by decide +kernel
theorem dX3_become_45 : decode cX3_become 45 = .ok (.if_icmp .ge 23, 3) := by decide +kernel
theorem dX3_become_48 : decode cX3_become 48 = .ok (.aload_n 0, 1) := by decide +kernel
theorem dX3_become_49 : decode cX3_become 49 = .ok (.getfield 14, 3) := by decide +kernel
theorem dX3_become_52 : decode cX3_become 52 = .ok (.iload_n 2, 1) := by decide +kernel
theorem dX3_become_53 : decode cX3_become 53 = .ok (.aload_n 1, 1) := by decide +kernel
theorem dX3_become_54 : decode cX3_become 54 = .ok (.getfield 14, 3) := by decide +kernel
theorem dX3_become_57 : decode cX3_become 57 = .ok (.iload_n 2, 1) := by decide +kernel
theorem dX3_become_58 : decode cX3_become 58 = .ok (.iconst 0, 1) := by decide +kernel
theorem dX3_become_59 : decode cX3_become 59 = .ok (.invokevirtual 37, 3) := by decide +kernel
theorem dX3_become_62 : decode cX3_become 62 = .ok (.iinc 2 1, 3) := by decide +kernel
theorem dX3_become_65 : decode cX3_become 65 = .ok (.goto (-23), 3) := by decide +kernel
theorem dX3_become_68 : decode cX3_become 68 = .ok (.return_, 1) := by decide +kernel
theorem dX3_answer_0 : decode cX3_answer 0 = .ok (.iload_n 1, 1) := by decide +kernel
theorem dX3_answer_1 : decode cX3_answer 1 = .ok (.tableswitch 70 0 3 #[31, 44, 57, 65], 31) := by decide +kernel
theorem dX3_answer_32 : decode cX3_answer 32 = .ok (.aload_n 0, 1) := by decide +kernel
theorem dX3_answer_33 : decode cX3_answer 33 = .ok (.invokevirtual 41, 3) := by decide +kernel
theorem dX3_answer_36 : decode cX3_answer 36 = .ok (.ifCond .eq 7, 3) := by decide +kernel
theorem dX3_answer_39 : decode cX3_answer 39 = .ok (.iconst 1, 1) := by decide +kernel
theorem dX3_answer_40 : decode cX3_answer 40 = .ok (.goto 4, 3) := by decide +kernel
theorem dX3_answer_43 : decode cX3_answer 43 = .ok (.iconst 0, 1) := by decide +kernel
theorem dX3_answer_44 : decode cX3_answer 44 = .ok (.ireturn, 1) := by decide +kernel
theorem dX3_answer_45 : decode cX3_answer 45 = .ok (.aload_n 0, 1) := by decide +kernel
theorem dX3_answer_46 : decode cX3_answer 46 = .ok (.getfield 20, 3) := by decide +kernel
theorem dX3_answer_49 : decode cX3_answer 49 = .ok (.ifCond .eq 7, 3) := by decide +kernel
theorem dX3_answer_52 : decode cX3_answer 52 = .ok (.iconst 1, 1) := by decide +kernel
theorem dX3_answer_53 : decode cX3_answer 53 = .ok (.goto 4, 3) := by decide +kernel
theorem dX3_answer_56 : decode cX3_answer 56 = .ok (.iconst 0, 1) := by decide +kernel
theorem dX3_answer_57 : decode cX3_answer 57 = .ok (.ireturn, 1) := by decide +kernel
theorem dX3_answer_58 : decode cX3_answer 58 = .ok (.aload_n 0, 1) := by decide +kernel
theorem dX3_answer_59 : decode cX3_answer 59 = .ok (.getfield 14, 3) := by decide +kernel
theorem dX3_answer_62 : decode cX3_answer 62 = .ok (.invokevirtual 45, 3) := by decide +kernel
theorem dX3_answer_65 : decode cX3_answer 65 = .ok (.ireturn, 1) := by decide +kernel
theorem dX3_answer_66 : decode cX3_answer 66 = .ok (.aload_n 0, 1) := by decide +kernel
theorem dX3_answer_67 : decode cX3_answer 67 = .ok (.getfield 24, 3) := by decide +kernel
theorem dX3_answer_70 : decode cX3_answer 70 = .ok (.ireturn, 1) := by decide +kernel
theorem dX3_answer_71 : decode cX3_answer 71 = .ok (.iconst (-1), 1) := by decide +kernel
theorem dX3_answer_72 : decode cX3_answer 72 = .ok (.ireturn, 1) := by decide +kernel
theorem dX4_init_0 : decode cX4_init 0 = .ok (.aload_n 0, 1) := by decide +kernel
theorem dX4_init_1 : decode cX4_init 1 = .ok (.aload_n 1, 1) := by decide +kernel
theorem dX4_init_2 : decode cX4_init 2 = .ok (.iload_n 2, 1) := by decide +kernel
theorem dX4_init_3 : decode cX4_init 3 = .ok (.invokespecial 1, 3) := by decide +kernel
theorem dX4_init_6 : decode cX4_init 6 = .ok (.aload_n 0, 1) := by decide +kernel
theorem dX4_init_7 : decode cX4_init 7 = .ok (.new 7, 3) := by decide +kernel
theorem dX4_init_10 : decode cX4_init 10 = .ok (.dup, 1) := by decide +kernel
theorem dX4_init_11 : decode cX4_init 11 = .ok (.invokespecial 9, 3) := by decide +kernel
theorem dX4_init_14 : decode cX4_init 14 = .ok (.putfield 12, 3) := by decide +kernel
theorem dX4_init_17 : decode cX4_init 17 = .ok (.aload_n 0, 1) := by decide +kernel
theorem dX4_init_18 : decode cX4_init 18 = .ok (.aload_n 3, 1) := by decide +kernel
theorem dX4_init_19 : decode cX4_init 19 = .ok (.putfield 18, 3) := by decide +kernel
theorem dX4_init_22 : decode cX4_init 22 = .ok (.aload_n 0, 1) := by decide +kernel
theorem dX4_init_23 : decode cX4_init 23 = .ok (.getfield 12, 3) := by decide +kernel
theorem dX4_init_26 : decode cX4_init 26 = .ok (.aload_n 3, 1) := by decide +kernel
theorem dX4_init_27 : decode cX4_init 27 = .ok (.invokevirtual 21, 3) := by decide +kernel
theorem dX4_init_30 : decode cX4_init 30 = .ok (.return_, 1) := by decide +kernel
theorem dX4_takeBack_0 : decode cX4_takeBack 0 = .ok (.aload_n 0, 1) := by decide +kernel
theorem dX4_takeBack_1 : decode cX4_takeBack 1 = .ok (.getfield 18, 3) := by decide +kernel
theorem dX4_takeBack_4 : decode cX4_takeBack 4 = .ok (.aload_n 0, 1) := by decide +kernel
theorem dX4_takeBack_5 : decode cX4_takeBack 5 = .ok (.getfield 12, 3) := by decide +kernel
theorem dX4_takeBack_8 : decode cX4_takeBack 8 = .ok (.invokevirtual 21, 3) := by decide +kernel
theorem dX4_takeBack_11 : decode cX4_takeBack 11 = .ok (.return_, 1) := by decide +kernel
theorem dX5_isSo_0 : decode cX5_isSo 0 = .ok (.iload_n 0, 1) := by decide +kernel
theorem dX5_isSo_1 : decode cX5_isSo 1 = .ok (.bipush 6, 2) := by decide +kernel
theorem dX5_isSo_3 : decode cX5_isSo 3 = .ok (.if_icmp .lt 7, 3) := by decide +kernel
theorem dX5_isSo_6 : decode cX5_isSo 6 = .ok (.iconst 1, 1) := by decide +kernel
theorem dX5_isSo_7 : decode cX5_isSo 7 = .ok (.goto 4, 3) := by decide +kernel
theorem dX5_isSo_10 : decode cX5_isSo 10 = .ok (.iconst 0, 1) := by decide +kernel
theorem dX5_isSo_11 : decode cX5_isSo 11 = .ok (.istore 5, 2) := by decide +kernel
theorem dX5_isSo_13 : decode cX5_isSo 13 = .ok (.iload 5, 2) := by decide +kernel
theorem dX5_isSo_15 : decode cX5_isSo 15 = .ok (.ifCond .eq 10, 3) := by decide +kernel
theorem dX5_isSo_18 : decode cX5_isSo 18 = .ok (.iload_n 0, 1) := by decide +kernel
theorem dX5_isSo_19 : decode cX5_isSo 19 = .ok (.bipush 6, 2) := by decide +kernel
theorem dX5_isSo_21 : decode cX5_isSo 21 = .ok (.isub, 1) := by decide +kernel
theorem dX5_isSo_22 : decode cX5_isSo 22 = .ok (.goto 4, 3) := by decide +kernel
theorem dX5_isSo_25 : decode cX5_isSo 25 = .ok (.iload_n 0, 1) := by decide +kernel
theorem dX5_isSo_26 : decode cX5_isSo 26 = .ok (.istore 6, 2) := by decide +kernel
theorem dX5_isSo_28 : decode cX5_isSo 28 = .ok (.aload_n 1, 1) := by decide +kernel
theorem dX5_isSo_29 : decode cX5_isSo 29 = .ok (.iload_n 2, 1) := by decide +kernel
theorem dX5_isSo_30 : decode cX5_isSo 30 = .ok (.invokevirtual 9, 3) := by decide +kernel
theorem dX5_isSo_33 : decode cX5_isSo 33 = .ok (.ifCond .ne 12, 3) := by decide +kernel
theorem dX5_isSo_36 : decode cX5_isSo 36 = .ok (.aload_n 3, 1) := by decide +kernel
theorem dX5_isSo_37 : decode cX5_isSo 37 = .ok (.iload 4, 2) := by decide +kernel
theorem dX5_isSo_39 : decode cX5_isSo 39 = .ok (.invokevirtual 9, 3) := by decide +kernel
theorem dX5_isSo_42 : decode cX5_isSo 42 = .ok (.ifCond .eq 7, 3) := by decide +kernel
theorem dX5_isSo_45 : decode cX5_isSo 45 = .ok (.iconst 1, 1) := by decide +kernel
theorem dX5_isSo_46 : decode cX5_isSo 46 = .ok (.goto 4, 3) := by decide +kernel
theorem dX5_isSo_49 : decode cX5_isSo 49 = .ok (.iconst 0, 1) := by decide +kernel
theorem dX5_isSo_50 : decode cX5_isSo 50 = .ok (.istore 7, 2) := by decide +kernel
theorem dX5_isSo_52 : decode cX5_isSo 52 = .ok (.iload 7, 2) := by decide +kernel
theorem dX5_isSo_54 : decode cX5_isSo 54 = .ok (.ifCond .eq 17, 3) := by decide +kernel
theorem dX5_isSo_57 : decode cX5_isSo 57 = .ok (.iload 6, 2) := by decide +kernel
theorem dX5_isSo_59 : decode cX5_isSo 59 = .ok (.iconst 5, 1) := by decide +kernel
theorem dX5_isSo_60 : decode cX5_isSo 60 = .ok (.if_icmp .ne 7, 3) := by decide +kernel
theorem dX5_isSo_63 : decode cX5_isSo 63 = .ok (.iconst 1, 1) := by decide +kernel
theorem dX5_isSo_64 : decode cX5_isSo 64 = .ok (.goto 23, 3) := by decide +kernel
theorem dX5_isSo_67 : decode cX5_isSo 67 = .ok (.iconst 0, 1) := by decide +kernel
theorem dX5_isSo_68 : decode cX5_isSo 68 = .ok (.goto 19, 3) := by decide +kernel
theorem dX5_isSo_71 : decode cX5_isSo 71 = .ok (.iload 6, 2) := by decide +kernel
theorem dX5_isSo_73 : decode cX5_isSo 73 = .ok (.aload_n 1, 1) := by decide +kernel
theorem dX5_isSo_74 : decode cX5_isSo 74 = .ok (.iload_n 2, 1) := by decide +kernel
theorem dX5_isSo_75 : decode cX5_isSo 75 = .ok (.invokevirtual 15, 3) := by decide +kernel
theorem dX5_isSo_78 : decode cX5_isSo 78 = .ok (.aload_n 3, 1) := by decide +kernel
theorem dX5_isSo_79 : decode cX5_isSo 79 = .ok (.iload 4, 2) := by decide +kernel
theorem dX5_isSo_81 : decode cX5_isSo 81 = .ok (.invokevirtual 15, 3) := by decide +kernel
theorem dX5_isSo_84 : decode cX5_isSo 84 = .ok (.invokestatic 19, 3) := by decide +kernel
theorem dX5_isSo_87 : decode cX5_isSo 87 = .ok (.istore 8, 2) := by decide +kernel
theorem dX5_isSo_89 : decode cX5_isSo 89 = .ok (.iload 8, 2) := by decide +kernel
theorem dX5_isSo_91 : decode cX5_isSo 91 = .ok (.iload 5, 2) := by decide +kernel
theorem dX5_isSo_93 : decode cX5_isSo 93 = .ok (.if_icmp .eq 7, 3) := by decide +kernel
theorem dX5_isSo_96 : decode cX5_isSo 96 = .ok (.iconst 1, 1) := by decide +kernel
theorem dX5_isSo_97 : decode cX5_isSo 97 = .ok (.goto 4, 3) := by decide +kernel
theorem dX5_isSo_100 : decode cX5_isSo 100 = .ok (.iconst 0, 1) := by decide +kernel
theorem dX5_isSo_101 : decode cX5_isSo 101 = .ok (.ireturn, 1) := by decide +kernel
theorem dX5_isSoOf_0 : decode cX5_isSoOf 0 = .ok (.iload_n 0, 1) := by decide +kernel
theorem dX5_isSoOf_1 : decode cX5_isSoOf 1 = .ok (.tableswitch 95 0 4 #[35, 47, 59, 71, 83], 35) := by decide +kernel
theorem dX5_isSoOf_36 : decode cX5_isSoOf 36 = .ok (.dload_n 1, 1) := by decide +kernel
theorem dX5_isSoOf_37 : decode cX5_isSoOf 37 = .ok (.dload_n 3, 1) := by decide +kernel
theorem dX5_isSoOf_38 : decode cX5_isSoOf 38 = .ok (.dcmp .g, 1) := by decide +kernel
theorem dX5_isSoOf_39 : decode cX5_isSoOf 39 = .ok (.ifCond .ge 7, 3) := by decide +kernel
theorem dX5_isSoOf_42 : decode cX5_isSoOf 42 = .ok (.iconst 1, 1) := by decide +kernel
theorem dX5_isSoOf_43 : decode cX5_isSoOf 43 = .ok (.goto 4, 3) := by decide +kernel
theorem dX5_isSoOf_46 : decode cX5_isSoOf 46 = .ok (.iconst 0, 1) := by decide +kernel
theorem dX5_isSoOf_47 : decode cX5_isSoOf 47 = .ok (.ireturn, 1) := by decide +kernel
theorem dX5_isSoOf_48 : decode cX5_isSoOf 48 = .ok (.dload_n 1, 1) := by decide +kernel
theorem dX5_isSoOf_49 : decode cX5_isSoOf 49 = .ok (.dload_n 3, 1) := by decide +kernel
theorem dX5_isSoOf_50 : decode cX5_isSoOf 50 = .ok (.dcmp .g, 1) := by decide +kernel
theorem dX5_isSoOf_51 : decode cX5_isSoOf 51 = .ok (.ifCond .gt 7, 3) := by decide +kernel
theorem dX5_isSoOf_54 : decode cX5_isSoOf 54 = .ok (.iconst 1, 1) := by decide +kernel
theorem dX5_isSoOf_55 : decode cX5_isSoOf 55 = .ok (.goto 4, 3) := by decide +kernel
theorem dX5_isSoOf_58 : decode cX5_isSoOf 58 = .ok (.iconst 0, 1) := by decide +kernel
theorem dX5_isSoOf_59 : decode cX5_isSoOf 59 = .ok (.ireturn, 1) := by decide +kernel
theorem dX5_isSoOf_60 : decode cX5_isSoOf 60 = .ok (.dload_n 1, 1) := by decide +kernel
theorem dX5_isSoOf_61 : decode cX5_isSoOf 61 = .ok (.dload_n 3, 1) := by decide +kernel
theorem dX5_isSoOf_62 : decode cX5_isSoOf 62 = .ok (.dcmp .l, 1) := by decide +kernel
theorem dX5_isSoOf_63 : decode cX5_isSoOf 63 = .ok (.ifCond .le 7, 3) := by decide +kernel
theorem dX5_isSoOf_66 : decode cX5_isSoOf 66 = .ok (.iconst 1, 1) := by decide +kernel
theorem dX5_isSoOf_67 : decode cX5_isSoOf 67 = .ok (.goto 4, 3) := by decide +kernel
theorem dX5_isSoOf_70 : decode cX5_isSoOf 70 = .ok (.iconst 0, 1) := by decide +kernel
theorem dX5_isSoOf_71 : decode cX5_isSoOf 71 = .ok (.ireturn, 1) := by decide +kernel
theorem dX5_isSoOf_72 : decode cX5_isSoOf 72 = .ok (.dload_n 1, 1) := by decide +kernel
theorem dX5_isSoOf_73 : decode cX5_isSoOf 73 = .ok (.dload_n 3, 1) := by decide +kernel
theorem dX5_isSoOf_74 : decode cX5_isSoOf 74 = .ok (.dcmp .l, 1) := by decide +kernel
theorem dX5_isSoOf_75 : decode cX5_isSoOf 75 = .ok (.ifCond .lt 7, 3) := by decide +kernel
theorem dX5_isSoOf_78 : decode cX5_isSoOf 78 = .ok (.iconst 1, 1) := by decide +kernel
theorem dX5_isSoOf_79 : decode cX5_isSoOf 79 = .ok (.goto 4, 3) := by decide +kernel
theorem dX5_isSoOf_82 : decode cX5_isSoOf 82 = .ok (.iconst 0, 1) := by decide +kernel
theorem dX5_isSoOf_83 : decode cX5_isSoOf 83 = .ok (.ireturn, 1) := by decide +kernel
theorem dX5_isSoOf_84 : decode cX5_isSoOf 84 = .ok (.dload_n 1, 1) := by decide +kernel
theorem dX5_isSoOf_85 : decode cX5_isSoOf 85 = .ok (.dload_n 3, 1) := by decide +kernel
theorem dX5_isSoOf_86 : decode cX5_isSoOf 86 = .ok (.dcmp .l, 1) := by decide +kernel
theorem dX5_isSoOf_87 : decode cX5_isSoOf 87 = .ok (.ifCond .ne 7, 3) := by decide +kernel
theorem dX5_isSoOf_90 : decode cX5_isSoOf 90 = .ok (.iconst 1, 1) := by decide +kernel
theorem dX5_isSoOf_91 : decode cX5_isSoOf 91 = .ok (.goto 4, 3) := by decide +kernel
theorem dX5_isSoOf_94 : decode cX5_isSoOf 94 = .ok (.iconst 0, 1) := by decide +kernel
theorem dX5_isSoOf_95 : decode cX5_isSoOf 95 = .ok (.ireturn, 1) := by decide +kernel
theorem dX5_isSoOf_96 : decode cX5_isSoOf 96 = .ok (.dload_n 1, 1) := by decide +kernel
theorem dX5_isSoOf_97 : decode cX5_isSoOf 97 = .ok (.dload_n 3, 1) := by decide +kernel
theorem dX5_isSoOf_98 : decode cX5_isSoOf 98 = .ok (.dcmp .l, 1) := by decide +kernel
theorem dX5_isSoOf_99 : decode cX5_isSoOf 99 = .ok (.ifCond .eq 7, 3) := by decide +kernel
theorem dX5_isSoOf_102 : decode cX5_isSoOf 102 = .ok (.iconst 1, 1) := by decide +kernel
theorem dX5_isSoOf_103 : decode cX5_isSoOf 103 = .ok (.goto 4, 3) := by decide +kernel
theorem dX5_isSoOf_106 : decode cX5_isSoOf 106 = .ok (.iconst 0, 1) := by decide +kernel
theorem dX5_isSoOf_107 : decode cX5_isSoOf 107 = .ok (.ireturn, 1) := by decide +kernel
theorem dX6_brought_0 : decode cX6_brought 0 = .ok (.iload_n 2, 1) := by decide +kernel
theorem dX6_brought_1 : decode cX6_brought 1 = .ok (.ifCond .eq 9, 3) := by decide +kernel
theorem dX6_brought_4 : decode cX6_brought 4 = .ok (.dload_n 0, 1) := by decide +kernel
theorem dX6_brought_5 : decode cX6_brought 5 = .ok (.d2f, 1) := by decide +kernel
theorem dX6_brought_6 : decode cX6_brought 6 = .ok (.f2d, 1) := by decide +kernel
theorem dX6_brought_7 : decode cX6_brought 7 = .ok (.goto 4, 3) := by decide +kernel
theorem dX6_brought_10 : decode cX6_brought 10 = .ok (.dload_n 0, 1) := by decide +kernel
theorem dX6_brought_11 : decode cX6_brought 11 = .ok (.dreturn, 1) := by decide +kernel
theorem dX6_twoTo_0 : decode cX6_twoTo 0 = .ok (.dconst 1, 1) := by decide +kernel
theorem dX6_twoTo_1 : decode cX6_twoTo 1 = .ok (.dstore_n 1, 1) := by decide +kernel
theorem dX6_twoTo_2 : decode cX6_twoTo 2 = .ok (.iload_n 0, 1) := by decide +kernel
theorem dX6_twoTo_3 : decode cX6_twoTo 3 = .ok (.ifCond .ge 9, 3) := by decide +kernel
theorem dX6_twoTo_6 : decode cX6_twoTo 6 = .ok (.ldc2_w 7, 3) := by decide +kernel
theorem dX6_twoTo_9 : decode cX6_twoTo 9 = .ok (.goto 6, 3) := by decide +kernel
theorem dX6_twoTo_12 : decode cX6_twoTo 12 = .ok (.ldc2_w 9, 3) := by decide +kernel
theorem dX6_twoTo_15 : decode cX6_twoTo 15 = .ok (.dstore_n 3, 1) := by decide +kernel
theorem dX6_twoTo_16 : decode cX6_twoTo 16 = .ok (.iload_n 0, 1) := by decide +kernel
theorem dX6_twoTo_17 : decode cX6_twoTo 17 = .ok (.ifCond .ge 8, 3) := by decide +kernel
theorem dX6_twoTo_20 : decode cX6_twoTo 20 = .ok (.iload_n 0, 1) := by decide +kernel
theorem dX6_twoTo_21 : decode cX6_twoTo 21 = .ok (.ineg, 1) := by decide +kernel
theorem dX6_twoTo_22 : decode cX6_twoTo 22 = .ok (.goto 4, 3) := by decide +kernel
theorem dX6_twoTo_25 : decode cX6_twoTo 25 = .ok (.iload_n 0, 1) := by decide +kernel
theorem dX6_twoTo_26 : decode cX6_twoTo 26 = .ok (.istore 5, 2) := by decide +kernel
theorem dX6_twoTo_28 : decode cX6_twoTo 28 = .ok (.iconst 0, 1) := by decide +kernel
theorem dX6_twoTo_29 : decode cX6_twoTo 29 = .ok (.istore 6, 2) := by decide +kernel
theorem dX6_twoTo_31 : decode cX6_twoTo 31 = .ok (.iload 6, 2) := by decide +kernel
theorem dX6_twoTo_33 : decode cX6_twoTo 33 = .ok (.bipush 11, 2) := by decide +kernel
theorem dX6_twoTo_35 : decode cX6_twoTo 35 = .ok (.if_icmp .ge 27, 3) := by decide +kernel
theorem dX6_twoTo_38 : decode cX6_twoTo 38 = .ok (.iload 5, 2) := by decide +kernel
theorem dX6_twoTo_40 : decode cX6_twoTo 40 = .ok (.iload 6, 2) := by decide +kernel
theorem dX6_twoTo_42 : decode cX6_twoTo 42 = .ok (.ishr, 1) := by decide +kernel
theorem dX6_twoTo_43 : decode cX6_twoTo 43 = .ok (.iconst 1, 1) := by decide +kernel
theorem dX6_twoTo_44 : decode cX6_twoTo 44 = .ok (.iand, 1) := by decide +kernel
theorem dX6_twoTo_45 : decode cX6_twoTo 45 = .ok (.ifCond .eq 7, 3) := by decide +kernel
theorem dX6_twoTo_48 : decode cX6_twoTo 48 = .ok (.dload_n 1, 1) := by decide +kernel
theorem dX6_twoTo_49 : decode cX6_twoTo 49 = .ok (.dload_n 3, 1) := by decide +kernel
theorem dX6_twoTo_50 : decode cX6_twoTo 50 = .ok (.dmul, 1) := by decide +kernel
theorem dX6_twoTo_51 : decode cX6_twoTo 51 = .ok (.dstore_n 1, 1) := by decide +kernel
theorem dX6_twoTo_52 : decode cX6_twoTo 52 = .ok (.dload_n 3, 1) := by decide +kernel
theorem dX6_twoTo_53 : decode cX6_twoTo 53 = .ok (.dload_n 3, 1) := by decide +kernel
theorem dX6_twoTo_54 : decode cX6_twoTo 54 = .ok (.dmul, 1) := by decide +kernel
theorem dX6_twoTo_55 : decode cX6_twoTo 55 = .ok (.dstore_n 3, 1) := by decide +kernel
theorem dX6_twoTo_56 : decode cX6_twoTo 56 = .ok (.iinc 6 1, 3) := by decide +kernel
theorem dX6_twoTo_59 : decode cX6_twoTo 59 = .ok (.goto (-28), 3) := by decide +kernel
theorem dX6_twoTo_62 : decode cX6_twoTo 62 = .ok (.dload_n 1, 1) := by decide +kernel
theorem dX6_twoTo_63 : decode cX6_twoTo 63 = .ok (.dreturn, 1) := by decide +kernel
theorem dX6_named_0 : decode cX6_named 0 = .ok (.iload_n 0, 1) := by decide +kernel
theorem dX6_named_1 : decode cX6_named 1 = .ok (.tableswitch 57 1 4 #[31, 35, 39, 43], 31) := by decide +kernel
theorem dX6_named_32 : decode cX6_named 32 = .ok (.ldc2_w 11, 3) := by decide +kernel
theorem dX6_named_35 : decode cX6_named 35 = .ok (.dreturn, 1) := by decide +kernel
theorem dX6_named_36 : decode cX6_named 36 = .ok (.ldc2_w 13, 3) := by decide +kernel
theorem dX6_named_39 : decode cX6_named 39 = .ok (.dreturn, 1) := by decide +kernel
theorem dX6_named_40 : decode cX6_named 40 = .ok (.ldc2_w 15, 3) := by decide +kernel
theorem dX6_named_43 : decode cX6_named 43 = .ok (.dreturn, 1) := by decide +kernel
theorem dX6_named_44 : decode cX6_named 44 = .ok (.iload_n 1, 1) := by decide +kernel
theorem dX6_named_45 : decode cX6_named 45 = .ok (.ifCond .eq 9, 3) := by decide +kernel
theorem dX6_named_48 : decode cX6_named 48 = .ok (.ldc2_w 17, 3) := by decide +kernel
theorem dX6_named_51 : decode cX6_named 51 = .ok (.goto 6, 3) := by decide +kernel
theorem dX6_named_54 : decode cX6_named 54 = .ok (.ldc2_w 19, 3) := by decide +kernel
theorem dX6_named_57 : decode cX6_named 57 = .ok (.dreturn, 1) := by decide +kernel
theorem dX6_named_58 : decode cX6_named 58 = .ok (.iload_n 1, 1) := by decide +kernel
theorem dX6_named_59 : decode cX6_named 59 = .ok (.ifCond .eq 9, 3) := by decide +kernel
theorem dX6_named_62 : decode cX6_named 62 = .ok (.ldc2_w 21, 3) := by decide +kernel
theorem dX6_named_65 : decode cX6_named 65 = .ok (.goto 6, 3) := by decide +kernel
theorem dX6_named_68 : decode cX6_named 68 = .ok (.ldc2_w 23, 3) := by decide +kernel
theorem dX6_named_71 : decode cX6_named 71 = .ok (.dreturn, 1) := by decide +kernel
theorem dX6_isInfinite_0 : decode cX6_isInfinite 0 = .ok (.dload_n 0, 1) := by decide +kernel
theorem dX6_isInfinite_1 : decode cX6_isInfinite 1 = .ok (.ldc2_w 19, 3) := by decide +kernel
theorem dX6_isInfinite_4 : decode cX6_isInfinite 4 = .ok (.dcmp .l, 1) := by decide +kernel
theorem dX6_isInfinite_5 : decode cX6_isInfinite 5 = .ok (.ifCond .gt 11, 3) := by decide +kernel
theorem dX6_isInfinite_8 : decode cX6_isInfinite 8 = .ok (.dload_n 0, 1) := by decide +kernel
theorem dX6_isInfinite_9 : decode cX6_isInfinite 9 = .ok (.ldc2_w 25, 3) := by decide +kernel
theorem dX6_isInfinite_12 : decode cX6_isInfinite 12 = .ok (.dcmp .g, 1) := by decide +kernel
theorem dX6_isInfinite_13 : decode cX6_isInfinite 13 = .ok (.ifCond .ge 7, 3) := by decide +kernel
theorem dX6_isInfinite_16 : decode cX6_isInfinite 16 = .ok (.iconst 1, 1) := by decide +kernel
theorem dX6_isInfinite_17 : decode cX6_isInfinite 17 = .ok (.goto 4, 3) := by decide +kernel
theorem dX6_isInfinite_20 : decode cX6_isInfinite 20 = .ok (.iconst 0, 1) := by decide +kernel
theorem dX6_isInfinite_21 : decode cX6_isInfinite 21 = .ok (.ireturn, 1) := by decide +kernel
theorem dX6_hasMinus_0 : decode cX6_hasMinus 0 = .ok (.dload_n 0, 1) := by decide +kernel
theorem dX6_hasMinus_1 : decode cX6_hasMinus 1 = .ok (.dconst 0, 1) := by decide +kernel
theorem dX6_hasMinus_2 : decode cX6_hasMinus 2 = .ok (.dcmp .g, 1) := by decide +kernel
theorem dX6_hasMinus_3 : decode cX6_hasMinus 3 = .ok (.ifCond .lt 17, 3) := by decide +kernel
theorem dX6_hasMinus_6 : decode cX6_hasMinus 6 = .ok (.dload_n 0, 1) := by decide +kernel
theorem dX6_hasMinus_7 : decode cX6_hasMinus 7 = .ok (.dconst 0, 1) := by decide +kernel
theorem dX6_hasMinus_8 : decode cX6_hasMinus 8 = .ok (.dcmp .l, 1) := by decide +kernel
theorem dX6_hasMinus_9 : decode cX6_hasMinus 9 = .ok (.ifCond .ne 15, 3) := by decide +kernel
theorem dX6_hasMinus_12 : decode cX6_hasMinus 12 = .ok (.dconst 1, 1) := by decide +kernel
theorem dX6_hasMinus_13 : decode cX6_hasMinus 13 = .ok (.dload_n 0, 1) := by decide +kernel
theorem dX6_hasMinus_14 : decode cX6_hasMinus 14 = .ok (.ddiv, 1) := by decide +kernel
theorem dX6_hasMinus_15 : decode cX6_hasMinus 15 = .ok (.dconst 0, 1) := by decide +kernel
theorem dX6_hasMinus_16 : decode cX6_hasMinus 16 = .ok (.dcmp .g, 1) := by decide +kernel
theorem dX6_hasMinus_17 : decode cX6_hasMinus 17 = .ok (.ifCond .ge 7, 3) := by decide +kernel
theorem dX6_hasMinus_20 : decode cX6_hasMinus 20 = .ok (.iconst 1, 1) := by decide +kernel
theorem dX6_hasMinus_21 : decode cX6_hasMinus 21 = .ok (.goto 4, 3) := by decide +kernel
theorem dX6_hasMinus_24 : decode cX6_hasMinus 24 = .ok (.iconst 0, 1) := by decide +kernel
theorem dX6_hasMinus_25 : decode cX6_hasMinus 25 = .ok (.ireturn, 1) := by decide +kernel
theorem dX6_withSign_0 : decode cX6_withSign 0 = .ok (.dload_n 0, 1) := by decide +kernel
theorem dX6_withSign_1 : decode cX6_withSign 1 = .ok (.invokestatic 27, 3) := by decide +kernel
theorem dX6_withSign_4 : decode cX6_withSign 4 = .ok (.iload_n 2, 1) := by decide +kernel
theorem dX6_withSign_5 : decode cX6_withSign 5 = .ok (.if_icmp .ne 7, 3) := by decide +kernel
theorem dX6_withSign_8 : decode cX6_withSign 8 = .ok (.dload_n 0, 1) := by decide +kernel
theorem dX6_withSign_9 : decode cX6_withSign 9 = .ok (.goto 5, 3) := by decide +kernel
theorem dX6_withSign_12 : decode cX6_withSign 12 = .ok (.dload_n 0, 1) := by decide +kernel
theorem dX6_withSign_13 : decode cX6_withSign 13 = .ok (.dneg, 1) := by decide +kernel
theorem dX6_withSign_14 : decode cX6_withSign 14 = .ok (.dreturn, 1) := by decide +kernel
theorem dX6_isBelow_0 : decode cX6_isBelow 0 = .ok (.dload_n 0, 1) := by decide +kernel
theorem dX6_isBelow_1 : decode cX6_isBelow 1 = .ok (.dload_n 2, 1) := by decide +kernel
theorem dX6_isBelow_2 : decode cX6_isBelow 2 = .ok (.dcmp .g, 1) := by decide +kernel
theorem dX6_isBelow_3 : decode cX6_isBelow 3 = .ok (.ifCond .lt 25, 3) := by decide +kernel
theorem dX6_isBelow_6 : decode cX6_isBelow 6 = .ok (.dload_n 0, 1) := by decide +kernel
theorem dX6_isBelow_7 : decode cX6_isBelow 7 = .ok (.dconst 0, 1) := by decide +kernel
theorem dX6_isBelow_8 : decode cX6_isBelow 8 = .ok (.dcmp .l, 1) := by decide +kernel
theorem dX6_isBelow_9 : decode cX6_isBelow 9 = .ok (.ifCond .ne 23, 3) := by decide +kernel
theorem dX6_isBelow_12 : decode cX6_isBelow 12 = .ok (.dload_n 2, 1) := by decide +kernel
theorem dX6_isBelow_13 : decode cX6_isBelow 13 = .ok (.dconst 0, 1) := by decide +kernel
theorem dX6_isBelow_14 : decode cX6_isBelow 14 = .ok (.dcmp .l, 1) := by decide +kernel
theorem dX6_isBelow_15 : decode cX6_isBelow 15 = .ok (.ifCond .ne 17, 3) := by decide +kernel
theorem dX6_isBelow_18 : decode cX6_isBelow 18 = .ok (.dconst 1, 1) := by decide +kernel
theorem dX6_isBelow_19 : decode cX6_isBelow 19 = .ok (.dload_n 0, 1) := by decide +kernel
theorem dX6_isBelow_20 : decode cX6_isBelow 20 = .ok (.ddiv, 1) := by decide +kernel
theorem dX6_isBelow_21 : decode cX6_isBelow 21 = .ok (.dconst 1, 1) := by decide +kernel
theorem dX6_isBelow_22 : decode cX6_isBelow 22 = .ok (.dload_n 2, 1) := by decide +kernel
theorem dX6_isBelow_23 : decode cX6_isBelow 23 = .ok (.ddiv, 1) := by decide +kernel
theorem dX6_isBelow_24 : decode cX6_isBelow 24 = .ok (.dcmp .g, 1) := by decide +kernel
theorem dX6_isBelow_25 : decode cX6_isBelow 25 = .ok (.ifCond .ge 7, 3) := by decide +kernel
theorem dX6_isBelow_28 : decode cX6_isBelow 28 = .ok (.iconst 1, 1) := by decide +kernel
theorem dX6_isBelow_29 : decode cX6_isBelow 29 = .ok (.goto 4, 3) := by decide +kernel
theorem dX6_isBelow_32 : decode cX6_isBelow 32 = .ok (.iconst 0, 1) := by decide +kernel
theorem dX6_isBelow_33 : decode cX6_isBelow 33 = .ok (.ireturn, 1) := by decide +kernel
theorem dX6_lesser_0 : decode cX6_lesser 0 = .ok (.dload_n 2, 1) := by decide +kernel
theorem dX6_lesser_1 : decode cX6_lesser 1 = .ok (.dload_n 0, 1) := by decide +kernel
theorem dX6_lesser_2 : decode cX6_lesser 2 = .ok (.invokestatic 33, 3) := by decide +kernel
theorem dX6_lesser_5 : decode cX6_lesser 5 = .ok (.ifCond .eq 7, 3) := by decide +kernel
theorem dX6_lesser_8 : decode cX6_lesser 8 = .ok (.dload_n 2, 1) := by decide +kernel
theorem dX6_lesser_9 : decode cX6_lesser 9 = .ok (.goto 4, 3) := by decide +kernel
theorem dX6_lesser_12 : decode cX6_lesser 12 = .ok (.dload_n 0, 1) := by decide +kernel
theorem dX6_lesser_13 : decode cX6_lesser 13 = .ok (.dreturn, 1) := by decide +kernel
theorem dX6_greater_0 : decode cX6_greater 0 = .ok (.dload_n 0, 1) := by decide +kernel
theorem dX6_greater_1 : decode cX6_greater 1 = .ok (.dload_n 2, 1) := by decide +kernel
theorem dX6_greater_2 : decode cX6_greater 2 = .ok (.invokestatic 33, 3) := by decide +kernel
theorem dX6_greater_5 : decode cX6_greater 5 = .ok (.ifCond .eq 7, 3) := by decide +kernel
theorem dX6_greater_8 : decode cX6_greater 8 = .ok (.dload_n 2, 1) := by decide +kernel
theorem dX6_greater_9 : decode cX6_greater 9 = .ok (.goto 4, 3) := by decide +kernel
theorem dX6_greater_12 : decode cX6_greater 12 = .ok (.dload_n 0, 1) := by decide +kernel
theorem dX6_greater_13 : decode cX6_greater 13 = .ok (.dreturn, 1) := by decide +kernel
theorem dX6_ofOne_0 : decode cX6_ofOne 0 = .ok (.iload_n 0, 1) := by decide +kernel
theorem dX6_ofOne_1 : decode cX6_ofOne 1 = .ok (.tableswitch 115 1 8 #[47, 53, 58, 65, 70, 94, 103, 112], 47) := by decide +kernel
theorem dX6_ofOne_48 : decode cX6_ofOne 48 = .ok (.dload_n 1, 1) := by decide +kernel
theorem dX6_ofOne_49 : decode cX6_ofOne 49 = .ok (.iconst 0, 1) := by decide +kernel
theorem dX6_ofOne_50 : decode cX6_ofOne 50 = .ok (.invokestatic 37, 3) := by decide +kernel
theorem dX6_ofOne_53 : decode cX6_ofOne 53 = .ok (.dreturn, 1) := by decide +kernel
theorem dX6_ofOne_54 : decode cX6_ofOne 54 = .ok (.dload_n 1, 1) := by decide +kernel
theorem dX6_ofOne_55 : decode cX6_ofOne 55 = .ok (.invokestatic 41, 3) := by decide +kernel
theorem dX6_ofOne_58 : decode cX6_ofOne 58 = .ok (.dreturn, 1) := by decide +kernel
theorem dX6_ofOne_59 : decode cX6_ofOne 59 = .ok (.dload_n 1, 1) := by decide +kernel
theorem dX6_ofOne_60 : decode cX6_ofOne 60 = .ok (.dneg, 1) := by decide +kernel
theorem dX6_ofOne_61 : decode cX6_ofOne 61 = .ok (.invokestatic 41, 3) := by decide +kernel
theorem dX6_ofOne_64 : decode cX6_ofOne 64 = .ok (.dneg, 1) := by decide +kernel
theorem dX6_ofOne_65 : decode cX6_ofOne 65 = .ok (.dreturn, 1) := by decide +kernel
theorem dX6_ofOne_66 : decode cX6_ofOne 66 = .ok (.dload_n 1, 1) := by decide +kernel
theorem dX6_ofOne_67 : decode cX6_ofOne 67 = .ok (.invokestatic 45, 3) := by decide +kernel
theorem dX6_ofOne_70 : decode cX6_ofOne 70 = .ok (.dreturn, 1) := by decide +kernel
theorem dX6_ofOne_71 : decode cX6_ofOne 71 = .ok (.dload_n 1, 1) := by decide +kernel
theorem dX6_ofOne_72 : decode cX6_ofOne 72 = .ok (.dconst 0, 1) := by decide +kernel
theorem dX6_ofOne_73 : decode cX6_ofOne 73 = .ok (.dcmp .l, 1) := by decide +kernel
theorem dX6_ofOne_74 : decode cX6_ofOne 74 = .ok (.ifCond .le 7, 3) := by decide +kernel
theorem dX6_ofOne_77 : decode cX6_ofOne 77 = .ok (.dconst 1, 1) := by decide +kernel
theorem dX6_ofOne_78 : decode cX6_ofOne 78 = .ok (.goto 16, 3) := by decide +kernel
theorem dX6_ofOne_81 : decode cX6_ofOne 81 = .ok (.dload_n 1, 1) := by decide +kernel
theorem dX6_ofOne_82 : decode cX6_ofOne 82 = .ok (.dconst 0, 1) := by decide +kernel
theorem dX6_ofOne_83 : decode cX6_ofOne 83 = .ok (.dcmp .g, 1) := by decide +kernel
theorem dX6_ofOne_84 : decode cX6_ofOne 84 = .ok (.ifCond .ge 9, 3) := by decide +kernel
theorem dX6_ofOne_87 : decode cX6_ofOne 87 = .ok (.ldc2_w 48, 3) := by decide +kernel
theorem dX6_ofOne_90 : decode cX6_ofOne 90 = .ok (.goto 4, 3) := by decide +kernel
theorem dX6_ofOne_93 : decode cX6_ofOne 93 = .ok (.dload_n 1, 1) := by decide +kernel
theorem dX6_ofOne_94 : decode cX6_ofOne 94 = .ok (.dreturn, 1) := by decide +kernel
theorem dX6_ofOne_95 : decode cX6_ofOne 95 = .ok (.dload_n 1, 1) := by decide +kernel
theorem dX6_ofOne_96 : decode cX6_ofOne 96 = .ok (.ldc2_w 9, 3) := by decide +kernel
theorem dX6_ofOne_99 : decode cX6_ofOne 99 = .ok (.iload_n 3, 1) := by decide +kernel
theorem dX6_ofOne_100 : decode cX6_ofOne 100 = .ok (.invokestatic 50, 3) := by decide +kernel
theorem dX6_ofOne_103 : decode cX6_ofOne 103 = .ok (.dreturn, 1) := by decide +kernel
theorem dX6_ofOne_104 : decode cX6_ofOne 104 = .ok (.dload_n 1, 1) := by decide +kernel
theorem dX6_ofOne_105 : decode cX6_ofOne 105 = .ok (.ldc2_w 9, 3) := by decide +kernel
theorem dX6_ofOne_108 : decode cX6_ofOne 108 = .ok (.iload_n 3, 1) := by decide +kernel
theorem dX6_ofOne_109 : decode cX6_ofOne 109 = .ok (.invokestatic 54, 3) := by decide +kernel
theorem dX6_ofOne_112 : decode cX6_ofOne 112 = .ok (.dreturn, 1) := by decide +kernel
theorem dX6_ofOne_113 : decode cX6_ofOne 113 = .ok (.dload_n 1, 1) := by decide +kernel
theorem dX6_ofOne_114 : decode cX6_ofOne 114 = .ok (.dneg, 1) := by decide +kernel
theorem dX6_ofOne_115 : decode cX6_ofOne 115 = .ok (.dreturn, 1) := by decide +kernel
theorem dX6_ofOne_116 : decode cX6_ofOne 116 = .ok (.dload_n 1, 1) := by decide +kernel
theorem dX6_ofOne_117 : decode cX6_ofOne 117 = .ok (.dreturn, 1) := by decide +kernel
theorem dX6_isVoid_0 : decode cX6_isVoid 0 = .ok (.iload_n 0, 1) := by decide +kernel
theorem dX6_isVoid_1 : decode cX6_isVoid 1 = .ok (.tableswitch 241 9 26 #[87, 113, 139, 171, 203, 241, 241, 241, 241, 241, 241, 241, 241, 241, 241, 241, 241, 222], 87) := by decide +kernel
theorem dX6_isVoid_88 : decode cX6_isVoid 88 = .ok (.dload_n 1, 1) := by decide +kernel
theorem dX6_isVoid_89 : decode cX6_isVoid 89 = .ok (.invokestatic 57, 3) := by decide +kernel
theorem dX6_isVoid_92 : decode cX6_isVoid 92 = .ok (.ifCond .eq 20, 3) := by decide +kernel
theorem dX6_isVoid_95 : decode cX6_isVoid 95 = .ok (.dload_n 3, 1) := by decide +kernel
theorem dX6_isVoid_96 : decode cX6_isVoid 96 = .ok (.invokestatic 57, 3) := by decide +kernel
theorem dX6_isVoid_99 : decode cX6_isVoid 99 = .ok (.ifCond .eq 13, 3) := by decide +kernel
theorem dX6_isVoid_102 : decode cX6_isVoid 102 = .ok (.dload_n 1, 1) := by decide +kernel
theorem dX6_isVoid_103 : decode cX6_isVoid 103 = .ok (.dload_n 3, 1) := by decide +kernel
theorem dX6_isVoid_104 : decode cX6_isVoid 104 = .ok (.dcmp .l, 1) := by decide +kernel
theorem dX6_isVoid_105 : decode cX6_isVoid 105 = .ok (.ifCond .eq 7, 3) := by decide +kernel
theorem dX6_isVoid_108 : decode cX6_isVoid 108 = .ok (.iconst 1, 1) := by decide +kernel
theorem dX6_isVoid_109 : decode cX6_isVoid 109 = .ok (.goto 4, 3) := by decide +kernel
theorem dX6_isVoid_112 : decode cX6_isVoid 112 = .ok (.iconst 0, 1) := by decide +kernel
theorem dX6_isVoid_113 : decode cX6_isVoid 113 = .ok (.ireturn, 1) := by decide +kernel
theorem dX6_isVoid_114 : decode cX6_isVoid 114 = .ok (.dload_n 1, 1) := by decide +kernel
theorem dX6_isVoid_115 : decode cX6_isVoid 115 = .ok (.invokestatic 57, 3) := by decide +kernel
theorem dX6_isVoid_118 : decode cX6_isVoid 118 = .ok (.ifCond .eq 20, 3) := by decide +kernel
theorem dX6_isVoid_121 : decode cX6_isVoid 121 = .ok (.dload_n 3, 1) := by decide +kernel
theorem dX6_isVoid_122 : decode cX6_isVoid 122 = .ok (.invokestatic 57, 3) := by decide +kernel
theorem dX6_isVoid_125 : decode cX6_isVoid 125 = .ok (.ifCond .eq 13, 3) := by decide +kernel
theorem dX6_isVoid_128 : decode cX6_isVoid 128 = .ok (.dload_n 1, 1) := by decide +kernel
theorem dX6_isVoid_129 : decode cX6_isVoid 129 = .ok (.dload_n 3, 1) := by decide +kernel
theorem dX6_isVoid_130 : decode cX6_isVoid 130 = .ok (.dcmp .l, 1) := by decide +kernel
theorem dX6_isVoid_131 : decode cX6_isVoid 131 = .ok (.ifCond .ne 7, 3) := by decide +kernel
theorem dX6_isVoid_134 : decode cX6_isVoid 134 = .ok (.iconst 1, 1) := by decide +kernel
theorem dX6_isVoid_135 : decode cX6_isVoid 135 = .ok (.goto 4, 3) := by decide +kernel
theorem dX6_isVoid_138 : decode cX6_isVoid 138 = .ok (.iconst 0, 1) := by decide +kernel
theorem dX6_isVoid_139 : decode cX6_isVoid 139 = .ok (.ireturn, 1) := by decide +kernel
theorem dX6_isVoid_140 : decode cX6_isVoid 140 = .ok (.dload_n 1, 1) := by decide +kernel
theorem dX6_isVoid_141 : decode cX6_isVoid 141 = .ok (.dconst 0, 1) := by decide +kernel
theorem dX6_isVoid_142 : decode cX6_isVoid 142 = .ok (.dcmp .l, 1) := by decide +kernel
theorem dX6_isVoid_143 : decode cX6_isVoid 143 = .ok (.ifCond .ne 10, 3) := by decide +kernel
theorem dX6_isVoid_146 : decode cX6_isVoid 146 = .ok (.dload_n 3, 1) := by decide +kernel
theorem dX6_isVoid_147 : decode cX6_isVoid 147 = .ok (.invokestatic 57, 3) := by decide +kernel
theorem dX6_isVoid_150 : decode cX6_isVoid 150 = .ok (.ifCond .ne 16, 3) := by decide +kernel
theorem dX6_isVoid_153 : decode cX6_isVoid 153 = .ok (.dload_n 1, 1) := by decide +kernel
theorem dX6_isVoid_154 : decode cX6_isVoid 154 = .ok (.invokestatic 57, 3) := by decide +kernel
theorem dX6_isVoid_157 : decode cX6_isVoid 157 = .ok (.ifCond .eq 13, 3) := by decide +kernel
theorem dX6_isVoid_160 : decode cX6_isVoid 160 = .ok (.dload_n 3, 1) := by decide +kernel
theorem dX6_isVoid_161 : decode cX6_isVoid 161 = .ok (.dconst 0, 1) := by decide +kernel
theorem dX6_isVoid_162 : decode cX6_isVoid 162 = .ok (.dcmp .l, 1) := by decide +kernel
theorem dX6_isVoid_163 : decode cX6_isVoid 163 = .ok (.ifCond .ne 7, 3) := by decide +kernel
theorem dX6_isVoid_166 : decode cX6_isVoid 166 = .ok (.iconst 1, 1) := by decide +kernel
theorem dX6_isVoid_167 : decode cX6_isVoid 167 = .ok (.goto 4, 3) := by decide +kernel
theorem dX6_isVoid_170 : decode cX6_isVoid 170 = .ok (.iconst 0, 1) := by decide +kernel
theorem dX6_isVoid_171 : decode cX6_isVoid 171 = .ok (.ireturn, 1) := by decide +kernel
theorem dX6_isVoid_172 : decode cX6_isVoid 172 = .ok (.dload_n 1, 1) := by decide +kernel
theorem dX6_isVoid_173 : decode cX6_isVoid 173 = .ok (.dconst 0, 1) := by decide +kernel
theorem dX6_isVoid_174 : decode cX6_isVoid 174 = .ok (.dcmp .l, 1) := by decide +kernel
theorem dX6_isVoid_175 : decode cX6_isVoid 175 = .ok (.ifCond .ne 9, 3) := by decide +kernel
theorem dX6_isVoid_178 : decode cX6_isVoid 178 = .ok (.dload_n 3, 1) := by decide +kernel
theorem dX6_isVoid_179 : decode cX6_isVoid 179 = .ok (.dconst 0, 1) := by decide +kernel
theorem dX6_isVoid_180 : decode cX6_isVoid 180 = .ok (.dcmp .l, 1) := by decide +kernel
theorem dX6_isVoid_181 : decode cX6_isVoid 181 = .ok (.ifCond .eq 17, 3) := by decide +kernel
theorem dX6_isVoid_184 : decode cX6_isVoid 184 = .ok (.dload_n 1, 1) := by decide +kernel
theorem dX6_isVoid_185 : decode cX6_isVoid 185 = .ok (.invokestatic 57, 3) := by decide +kernel
theorem dX6_isVoid_188 : decode cX6_isVoid 188 = .ok (.ifCond .eq 14, 3) := by decide +kernel
theorem dX6_isVoid_191 : decode cX6_isVoid 191 = .ok (.dload_n 3, 1) := by decide +kernel
theorem dX6_isVoid_192 : decode cX6_isVoid 192 = .ok (.invokestatic 57, 3) := by decide +kernel
theorem dX6_isVoid_195 : decode cX6_isVoid 195 = .ok (.ifCond .eq 7, 3) := by decide +kernel
theorem dX6_isVoid_198 : decode cX6_isVoid 198 = .ok (.iconst 1, 1) := by decide +kernel
theorem dX6_isVoid_199 : decode cX6_isVoid 199 = .ok (.goto 4, 3) := by decide +kernel
theorem dX6_isVoid_202 : decode cX6_isVoid 202 = .ok (.iconst 0, 1) := by decide +kernel
theorem dX6_isVoid_203 : decode cX6_isVoid 203 = .ok (.ireturn, 1) := by decide +kernel
theorem dX6_isVoid_204 : decode cX6_isVoid 204 = .ok (.dload_n 3, 1) := by decide +kernel
theorem dX6_isVoid_205 : decode cX6_isVoid 205 = .ok (.dconst 0, 1) := by decide +kernel
theorem dX6_isVoid_206 : decode cX6_isVoid 206 = .ok (.dcmp .l, 1) := by decide +kernel
theorem dX6_isVoid_207 : decode cX6_isVoid 207 = .ok (.ifCond .eq 10, 3) := by decide +kernel
theorem dX6_isVoid_210 : decode cX6_isVoid 210 = .ok (.dload_n 1, 1) := by decide +kernel
theorem dX6_isVoid_211 : decode cX6_isVoid 211 = .ok (.invokestatic 57, 3) := by decide +kernel
theorem dX6_isVoid_214 : decode cX6_isVoid 214 = .ok (.ifCond .eq 7, 3) := by decide +kernel
theorem dX6_isVoid_217 : decode cX6_isVoid 217 = .ok (.iconst 1, 1) := by decide +kernel
theorem dX6_isVoid_218 : decode cX6_isVoid 218 = .ok (.goto 4, 3) := by decide +kernel
theorem dX6_isVoid_221 : decode cX6_isVoid 221 = .ok (.iconst 0, 1) := by decide +kernel
theorem dX6_isVoid_222 : decode cX6_isVoid 222 = .ok (.ireturn, 1) := by decide +kernel
theorem dX6_isVoid_223 : decode cX6_isVoid 223 = .ok (.dload_n 3, 1) := by decide +kernel
theorem dX6_isVoid_224 : decode cX6_isVoid 224 = .ok (.dconst 0, 1) := by decide +kernel
theorem dX6_isVoid_225 : decode cX6_isVoid 225 = .ok (.dcmp .l, 1) := by decide +kernel
theorem dX6_isVoid_226 : decode cX6_isVoid 226 = .ok (.ifCond .eq 10, 3) := by decide +kernel
theorem dX6_isVoid_229 : decode cX6_isVoid 229 = .ok (.dload_n 3, 1) := by decide +kernel
theorem dX6_isVoid_230 : decode cX6_isVoid 230 = .ok (.invokestatic 57, 3) := by decide +kernel
theorem dX6_isVoid_233 : decode cX6_isVoid 233 = .ok (.ifCond .eq 7, 3) := by decide +kernel
theorem dX6_isVoid_236 : decode cX6_isVoid 236 = .ok (.iconst 1, 1) := by decide +kernel
theorem dX6_isVoid_237 : decode cX6_isVoid 237 = .ok (.goto 4, 3) := by decide +kernel
theorem dX6_isVoid_240 : decode cX6_isVoid 240 = .ok (.iconst 0, 1) := by decide +kernel
theorem dX6_isVoid_241 : decode cX6_isVoid 241 = .ok (.ireturn, 1) := by decide +kernel
theorem dX6_isVoid_242 : decode cX6_isVoid 242 = .ok (.iconst 0, 1) := by decide +kernel
theorem dX6_isVoid_243 : decode cX6_isVoid 243 = .ok (.ireturn, 1) := by decide +kernel
theorem dX6_ofTwo_0 : decode cX6_ofTwo 0 = .ok (.iload_n 0, 1) := by decide +kernel
theorem dX6_ofTwo_1 : decode cX6_ofTwo 1 = .ok (.tableswitch 107 9 16 #[47, 55, 64, 72, 80, 86, 92, 98], 47) := by decide +kernel
theorem dX6_ofTwo_48 : decode cX6_ofTwo 48 = .ok (.dload_n 1, 1) := by decide +kernel
theorem dX6_ofTwo_49 : decode cX6_ofTwo 49 = .ok (.dload_n 3, 1) := by decide +kernel
theorem dX6_ofTwo_50 : decode cX6_ofTwo 50 = .ok (.iload 5, 2) := by decide +kernel
theorem dX6_ofTwo_52 : decode cX6_ofTwo 52 = .ok (.invokestatic 60, 3) := by decide +kernel
theorem dX6_ofTwo_55 : decode cX6_ofTwo 55 = .ok (.dreturn, 1) := by decide +kernel
theorem dX6_ofTwo_56 : decode cX6_ofTwo 56 = .ok (.dload_n 1, 1) := by decide +kernel
theorem dX6_ofTwo_57 : decode cX6_ofTwo 57 = .ok (.dload_n 3, 1) := by decide +kernel
theorem dX6_ofTwo_58 : decode cX6_ofTwo 58 = .ok (.dneg, 1) := by decide +kernel
theorem dX6_ofTwo_59 : decode cX6_ofTwo 59 = .ok (.iload 5, 2) := by decide +kernel
theorem dX6_ofTwo_61 : decode cX6_ofTwo 61 = .ok (.invokestatic 60, 3) := by decide +kernel
theorem dX6_ofTwo_64 : decode cX6_ofTwo 64 = .ok (.dreturn, 1) := by decide +kernel
theorem dX6_ofTwo_65 : decode cX6_ofTwo 65 = .ok (.dload_n 1, 1) := by decide +kernel
theorem dX6_ofTwo_66 : decode cX6_ofTwo 66 = .ok (.dload_n 3, 1) := by decide +kernel
theorem dX6_ofTwo_67 : decode cX6_ofTwo 67 = .ok (.iload 5, 2) := by decide +kernel
theorem dX6_ofTwo_69 : decode cX6_ofTwo 69 = .ok (.invokestatic 54, 3) := by decide +kernel
theorem dX6_ofTwo_72 : decode cX6_ofTwo 72 = .ok (.dreturn, 1) := by decide +kernel
theorem dX6_ofTwo_73 : decode cX6_ofTwo 73 = .ok (.dload_n 1, 1) := by decide +kernel
theorem dX6_ofTwo_74 : decode cX6_ofTwo 74 = .ok (.dload_n 3, 1) := by decide +kernel
theorem dX6_ofTwo_75 : decode cX6_ofTwo 75 = .ok (.iload 5, 2) := by decide +kernel
theorem dX6_ofTwo_77 : decode cX6_ofTwo 77 = .ok (.invokestatic 50, 3) := by decide +kernel
theorem dX6_ofTwo_80 : decode cX6_ofTwo 80 = .ok (.dreturn, 1) := by decide +kernel
theorem dX6_ofTwo_81 : decode cX6_ofTwo 81 = .ok (.dload_n 1, 1) := by decide +kernel
theorem dX6_ofTwo_82 : decode cX6_ofTwo 82 = .ok (.dload_n 3, 1) := by decide +kernel
theorem dX6_ofTwo_83 : decode cX6_ofTwo 83 = .ok (.invokestatic 63, 3) := by decide +kernel
theorem dX6_ofTwo_86 : decode cX6_ofTwo 86 = .ok (.dreturn, 1) := by decide +kernel
theorem dX6_ofTwo_87 : decode cX6_ofTwo 87 = .ok (.dload_n 1, 1) := by decide +kernel
theorem dX6_ofTwo_88 : decode cX6_ofTwo 88 = .ok (.dload_n 3, 1) := by decide +kernel
theorem dX6_ofTwo_89 : decode cX6_ofTwo 89 = .ok (.invokestatic 67, 3) := by decide +kernel
theorem dX6_ofTwo_92 : decode cX6_ofTwo 92 = .ok (.dreturn, 1) := by decide +kernel
theorem dX6_ofTwo_93 : decode cX6_ofTwo 93 = .ok (.dload_n 1, 1) := by decide +kernel
theorem dX6_ofTwo_94 : decode cX6_ofTwo 94 = .ok (.dload_n 3, 1) := by decide +kernel
theorem dX6_ofTwo_95 : decode cX6_ofTwo 95 = .ok (.invokestatic 70, 3) := by decide +kernel
theorem dX6_ofTwo_98 : decode cX6_ofTwo 98 = .ok (.dreturn, 1) := by decide +kernel
theorem dX6_ofTwo_99 : decode cX6_ofTwo 99 = .ok (.dload_n 1, 1) := by decide +kernel
theorem dX6_ofTwo_100 : decode cX6_ofTwo 100 = .ok (.dload_n 3, 1) := by decide +kernel
theorem dX6_ofTwo_101 : decode cX6_ofTwo 101 = .ok (.invokestatic 27, 3) := by decide +kernel
theorem dX6_ofTwo_104 : decode cX6_ofTwo 104 = .ok (.invokestatic 37, 3) := by decide +kernel
theorem dX6_ofTwo_107 : decode cX6_ofTwo 107 = .ok (.dreturn, 1) := by decide +kernel
theorem dX6_ofTwo_108 : decode cX6_ofTwo 108 = .ok (.dload_n 1, 1) := by decide +kernel
theorem dX6_ofTwo_109 : decode cX6_ofTwo 109 = .ok (.dload_n 3, 1) := by decide +kernel
theorem dX6_ofTwo_110 : decode cX6_ofTwo 110 = .ok (.iload 5, 2) := by decide +kernel
theorem dX6_ofTwo_112 : decode cX6_ofTwo 112 = .ok (.invokestatic 50, 3) := by decide +kernel
theorem dX6_ofTwo_115 : decode cX6_ofTwo 115 = .ok (.invokestatic 45, 3) := by decide +kernel
theorem dX6_ofTwo_118 : decode cX6_ofTwo 118 = .ok (.dload_n 3, 1) := by decide +kernel
theorem dX6_ofTwo_119 : decode cX6_ofTwo 119 = .ok (.iload 5, 2) := by decide +kernel
theorem dX6_ofTwo_121 : decode cX6_ofTwo 121 = .ok (.invokestatic 54, 3) := by decide +kernel
theorem dX6_ofTwo_124 : decode cX6_ofTwo 124 = .ok (.dreturn, 1) := by decide +kernel
theorem dX6_sum_0 : decode cX6_sum 0 = .ok (.iload 4, 2) := by decide +kernel
theorem dX6_sum_2 : decode cX6_sum 2 = .ok (.ifCond .eq 12, 3) := by decide +kernel
theorem dX6_sum_5 : decode cX6_sum 5 = .ok (.dload_n 0, 1) := by decide +kernel
theorem dX6_sum_6 : decode cX6_sum 6 = .ok (.d2f, 1) := by decide +kernel
theorem dX6_sum_7 : decode cX6_sum 7 = .ok (.dload_n 2, 1) := by decide +kernel
theorem dX6_sum_8 : decode cX6_sum 8 = .ok (.d2f, 1) := by decide +kernel
theorem dX6_sum_9 : decode cX6_sum 9 = .ok (.fadd, 1) := by decide +kernel
theorem dX6_sum_10 : decode cX6_sum 10 = .ok (.f2d, 1) := by decide +kernel
theorem dX6_sum_11 : decode cX6_sum 11 = .ok (.goto 6, 3) := by decide +kernel
theorem dX6_sum_14 : decode cX6_sum 14 = .ok (.dload_n 0, 1) := by decide +kernel
theorem dX6_sum_15 : decode cX6_sum 15 = .ok (.dload_n 2, 1) := by decide +kernel
theorem dX6_sum_16 : decode cX6_sum 16 = .ok (.dadd, 1) := by decide +kernel
theorem dX6_sum_17 : decode cX6_sum 17 = .ok (.dreturn, 1) := by decide +kernel
theorem dX6_product_0 : decode cX6_product 0 = .ok (.iload 4, 2) := by decide +kernel
theorem dX6_product_2 : decode cX6_product 2 = .ok (.ifCond .eq 12, 3) := by decide +kernel
theorem dX6_product_5 : decode cX6_product 5 = .ok (.dload_n 0, 1) := by decide +kernel
theorem dX6_product_6 : decode cX6_product 6 = .ok (.d2f, 1) := by decide +kernel
theorem dX6_product_7 : decode cX6_product 7 = .ok (.dload_n 2, 1) := by decide +kernel
theorem dX6_product_8 : decode cX6_product 8 = .ok (.d2f, 1) := by decide +kernel
theorem dX6_product_9 : decode cX6_product 9 = .ok (.fmul, 1) := by decide +kernel
theorem dX6_product_10 : decode cX6_product 10 = .ok (.f2d, 1) := by decide +kernel
theorem dX6_product_11 : decode cX6_product 11 = .ok (.goto 6, 3) := by decide +kernel
theorem dX6_product_14 : decode cX6_product 14 = .ok (.dload_n 0, 1) := by decide +kernel
theorem dX6_product_15 : decode cX6_product 15 = .ok (.dload_n 2, 1) := by decide +kernel
theorem dX6_product_16 : decode cX6_product 16 = .ok (.dmul, 1) := by decide +kernel
theorem dX6_product_17 : decode cX6_product 17 = .ok (.dreturn, 1) := by decide +kernel
theorem dX6_quotient_0 : decode cX6_quotient 0 = .ok (.iload 4, 2) := by decide +kernel
theorem dX6_quotient_2 : decode cX6_quotient 2 = .ok (.ifCond .eq 12, 3) := by decide +kernel
theorem dX6_quotient_5 : decode cX6_quotient 5 = .ok (.dload_n 0, 1) := by decide +kernel
theorem dX6_quotient_6 : decode cX6_quotient 6 = .ok (.d2f, 1) := by decide +kernel
theorem dX6_quotient_7 : decode cX6_quotient 7 = .ok (.dload_n 2, 1) := by decide +kernel
theorem dX6_quotient_8 : decode cX6_quotient 8 = .ok (.d2f, 1) := by decide +kernel
theorem dX6_quotient_9 : decode cX6_quotient 9 = .ok (.fdiv, 1) := by decide +kernel
theorem dX6_quotient_10 : decode cX6_quotient 10 = .ok (.f2d, 1) := by decide +kernel
theorem dX6_quotient_11 : decode cX6_quotient 11 = .ok (.goto 6, 3) := by decide +kernel
theorem dX6_quotient_14 : decode cX6_quotient 14 = .ok (.dload_n 0, 1) := by decide +kernel
theorem dX6_quotient_15 : decode cX6_quotient 15 = .ok (.dload_n 2, 1) := by decide +kernel
theorem dX6_quotient_16 : decode cX6_quotient 16 = .ok (.ddiv, 1) := by decide +kernel
theorem dX6_quotient_17 : decode cX6_quotient 17 = .ok (.dreturn, 1) := by decide +kernel
theorem dX6_isSurelyWhole_0 : decode cX6_isSurelyWhole 0 = .ok (.dload_n 0, 1) := by decide +kernel
theorem dX6_isSurelyWhole_1 : decode cX6_isSurelyWhole 1 = .ok (.ldc2_w 73, 3) := by decide +kernel
theorem dX6_isSurelyWhole_4 : decode cX6_isSurelyWhole 4 = .ok (.dcmp .l, 1) := by decide +kernel
theorem dX6_isSurelyWhole_5 : decode cX6_isSurelyWhole 5 = .ok (.ifCond .ge 11, 3) := by decide +kernel
theorem dX6_isSurelyWhole_8 : decode cX6_isSurelyWhole 8 = .ok (.dload_n 0, 1) := by decide +kernel
theorem dX6_isSurelyWhole_9 : decode cX6_isSurelyWhole 9 = .ok (.ldc2_w 75, 3) := by decide +kernel
theorem dX6_isSurelyWhole_12 : decode cX6_isSurelyWhole 12 = .ok (.dcmp .g, 1) := by decide +kernel
theorem dX6_isSurelyWhole_13 : decode cX6_isSurelyWhole 13 = .ok (.ifCond .gt 7, 3) := by decide +kernel
theorem dX6_isSurelyWhole_16 : decode cX6_isSurelyWhole 16 = .ok (.iconst 1, 1) := by decide +kernel
theorem dX6_isSurelyWhole_17 : decode cX6_isSurelyWhole 17 = .ok (.goto 4, 3) := by decide +kernel
theorem dX6_isSurelyWhole_20 : decode cX6_isSurelyWhole 20 = .ok (.iconst 0, 1) := by decide +kernel
theorem dX6_isSurelyWhole_21 : decode cX6_isSurelyWhole 21 = .ok (.ireturn, 1) := by decide +kernel
theorem dX6_floor_0 : decode cX6_floor 0 = .ok (.dload_n 0, 1) := by decide +kernel
theorem dX6_floor_1 : decode cX6_floor 1 = .ok (.invokestatic 77, 3) := by decide +kernel
theorem dX6_floor_4 : decode cX6_floor 4 = .ok (.ifCond .eq 5, 3) := by decide +kernel
theorem dX6_floor_7 : decode cX6_floor 7 = .ok (.dload_n 0, 1) := by decide +kernel
theorem dX6_floor_8 : decode cX6_floor 8 = .ok (.dreturn, 1) := by decide +kernel
theorem dX6_floor_9 : decode cX6_floor 9 = .ok (.dload_n 0, 1) := by decide +kernel
theorem dX6_floor_10 : decode cX6_floor 10 = .ok (.d2l, 1) := by decide +kernel
theorem dX6_floor_11 : decode cX6_floor 11 = .ok (.l2d, 1) := by decide +kernel
theorem dX6_floor_12 : decode cX6_floor 12 = .ok (.dstore_n 2, 1) := by decide +kernel
theorem dX6_floor_13 : decode cX6_floor 13 = .ok (.dload_n 2, 1) := by decide +kernel
theorem dX6_floor_14 : decode cX6_floor 14 = .ok (.dload_n 0, 1) := by decide +kernel
theorem dX6_floor_15 : decode cX6_floor 15 = .ok (.dcmp .l, 1) := by decide +kernel
theorem dX6_floor_16 : decode cX6_floor 16 = .ok (.ifCond .le 7, 3) := by decide +kernel
theorem dX6_floor_19 : decode cX6_floor 19 = .ok (.dload_n 2, 1) := by decide +kernel
theorem dX6_floor_20 : decode cX6_floor 20 = .ok (.dconst 1, 1) := by decide +kernel
theorem dX6_floor_21 : decode cX6_floor 21 = .ok (.dsub, 1) := by decide +kernel
theorem dX6_floor_22 : decode cX6_floor 22 = .ok (.dstore_n 2, 1) := by decide +kernel
theorem dX6_floor_23 : decode cX6_floor 23 = .ok (.dload_n 2, 1) := by decide +kernel
theorem dX6_floor_24 : decode cX6_floor 24 = .ok (.dconst 0, 1) := by decide +kernel
theorem dX6_floor_25 : decode cX6_floor 25 = .ok (.dcmp .l, 1) := by decide +kernel
theorem dX6_floor_26 : decode cX6_floor 26 = .ok (.ifCond .ne 10, 3) := by decide +kernel
theorem dX6_floor_29 : decode cX6_floor 29 = .ok (.dload_n 0, 1) := by decide +kernel
theorem dX6_floor_30 : decode cX6_floor 30 = .ok (.invokestatic 80, 3) := by decide +kernel
theorem dX6_floor_33 : decode cX6_floor 33 = .ok (.goto 4, 3) := by decide +kernel
theorem dX6_floor_36 : decode cX6_floor 36 = .ok (.dload_n 2, 1) := by decide +kernel
theorem dX6_floor_37 : decode cX6_floor 37 = .ok (.dreturn, 1) := by decide +kernel
theorem dX6_nearest_0 : decode cX6_nearest 0 = .ok (.dload_n 0, 1) := by decide +kernel
theorem dX6_nearest_1 : decode cX6_nearest 1 = .ok (.invokestatic 77, 3) := by decide +kernel
theorem dX6_nearest_4 : decode cX6_nearest 4 = .ok (.ifCond .eq 5, 3) := by decide +kernel
theorem dX6_nearest_7 : decode cX6_nearest 7 = .ok (.dload_n 0, 1) := by decide +kernel
theorem dX6_nearest_8 : decode cX6_nearest 8 = .ok (.dreturn, 1) := by decide +kernel
theorem dX6_nearest_9 : decode cX6_nearest 9 = .ok (.dload_n 0, 1) := by decide +kernel
theorem dX6_nearest_10 : decode cX6_nearest 10 = .ok (.dconst 0, 1) := by decide +kernel
theorem dX6_nearest_11 : decode cX6_nearest 11 = .ok (.dcmp .g, 1) := by decide +kernel
theorem dX6_nearest_12 : decode cX6_nearest 12 = .ok (.ifCond .ge 8, 3) := by decide +kernel
theorem dX6_nearest_15 : decode cX6_nearest 15 = .ok (.dload_n 0, 1) := by decide +kernel
theorem dX6_nearest_16 : decode cX6_nearest 16 = .ok (.dneg, 1) := by decide +kernel
theorem dX6_nearest_17 : decode cX6_nearest 17 = .ok (.goto 4, 3) := by decide +kernel
theorem dX6_nearest_20 : decode cX6_nearest 20 = .ok (.dload_n 0, 1) := by decide +kernel
theorem dX6_nearest_21 : decode cX6_nearest 21 = .ok (.dstore_n 2, 1) := by decide +kernel
theorem dX6_nearest_22 : decode cX6_nearest 22 = .ok (.dload_n 2, 1) := by decide +kernel
theorem dX6_nearest_23 : decode cX6_nearest 23 = .ok (.d2l, 1) := by decide +kernel
theorem dX6_nearest_24 : decode cX6_nearest 24 = .ok (.lstore 4, 2) := by decide +kernel
theorem dX6_nearest_26 : decode cX6_nearest 26 = .ok (.dload_n 2, 1) := by decide +kernel
theorem dX6_nearest_27 : decode cX6_nearest 27 = .ok (.lload 4, 2) := by decide +kernel
theorem dX6_nearest_29 : decode cX6_nearest 29 = .ok (.l2d, 1) := by decide +kernel
theorem dX6_nearest_30 : decode cX6_nearest 30 = .ok (.dsub, 1) := by decide +kernel
theorem dX6_nearest_31 : decode cX6_nearest 31 = .ok (.dstore 6, 2) := by decide +kernel
theorem dX6_nearest_33 : decode cX6_nearest 33 = .ok (.dload 6, 2) := by decide +kernel
theorem dX6_nearest_35 : decode cX6_nearest 35 = .ok (.ldc2_w 7, 3) := by decide +kernel
theorem dX6_nearest_38 : decode cX6_nearest 38 = .ok (.dcmp .l, 1) := by decide +kernel
theorem dX6_nearest_39 : decode cX6_nearest 39 = .ok (.ifCond .gt 21, 3) := by decide +kernel
theorem dX6_nearest_42 : decode cX6_nearest 42 = .ok (.dload 6, 2) := by decide +kernel
theorem dX6_nearest_44 : decode cX6_nearest 44 = .ok (.ldc2_w 7, 3) := by decide +kernel
theorem dX6_nearest_47 : decode cX6_nearest 47 = .ok (.dcmp .l, 1) := by decide +kernel
theorem dX6_nearest_48 : decode cX6_nearest 48 = .ok (.ifCond .ne 18, 3) := by decide +kernel
theorem dX6_nearest_51 : decode cX6_nearest 51 = .ok (.lload 4, 2) := by decide +kernel
theorem dX6_nearest_53 : decode cX6_nearest 53 = .ok (.lconst 1, 1) := by decide +kernel
theorem dX6_nearest_54 : decode cX6_nearest 54 = .ok (.land, 1) := by decide +kernel
theorem dX6_nearest_55 : decode cX6_nearest 55 = .ok (.lconst 0, 1) := by decide +kernel
theorem dX6_nearest_56 : decode cX6_nearest 56 = .ok (.lcmp, 1) := by decide +kernel
theorem dX6_nearest_57 : decode cX6_nearest 57 = .ok (.ifCond .eq 9, 3) := by decide +kernel
theorem dX6_nearest_60 : decode cX6_nearest 60 = .ok (.lload 4, 2) := by decide +kernel
theorem dX6_nearest_62 : decode cX6_nearest 62 = .ok (.lconst 1, 1) := by decide +kernel
theorem dX6_nearest_63 : decode cX6_nearest 63 = .ok (.ladd, 1) := by decide +kernel
theorem dX6_nearest_64 : decode cX6_nearest 64 = .ok (.lstore 4, 2) := by decide +kernel
theorem dX6_nearest_66 : decode cX6_nearest 66 = .ok (.lload 4, 2) := by decide +kernel
theorem dX6_nearest_68 : decode cX6_nearest 68 = .ok (.lconst 0, 1) := by decide +kernel
theorem dX6_nearest_69 : decode cX6_nearest 69 = .ok (.lcmp, 1) := by decide +kernel
theorem dX6_nearest_70 : decode cX6_nearest 70 = .ok (.ifCond .ne 8, 3) := by decide +kernel
theorem dX6_nearest_73 : decode cX6_nearest 73 = .ok (.dload_n 0, 1) := by decide +kernel
theorem dX6_nearest_74 : decode cX6_nearest 74 = .ok (.invokestatic 80, 3) := by decide +kernel
theorem dX6_nearest_77 : decode cX6_nearest 77 = .ok (.dreturn, 1) := by decide +kernel
theorem dX6_nearest_78 : decode cX6_nearest 78 = .ok (.dload_n 0, 1) := by decide +kernel
theorem dX6_nearest_79 : decode cX6_nearest 79 = .ok (.dconst 0, 1) := by decide +kernel
theorem dX6_nearest_80 : decode cX6_nearest 80 = .ok (.dcmp .g, 1) := by decide +kernel
theorem dX6_nearest_81 : decode cX6_nearest 81 = .ok (.ifCond .ge 10, 3) := by decide +kernel
theorem dX6_nearest_84 : decode cX6_nearest 84 = .ok (.lload 4, 2) := by decide +kernel
theorem dX6_nearest_86 : decode cX6_nearest 86 = .ok (.lneg, 1) := by decide +kernel
theorem dX6_nearest_87 : decode cX6_nearest 87 = .ok (.l2d, 1) := by decide +kernel
theorem dX6_nearest_88 : decode cX6_nearest 88 = .ok (.goto 6, 3) := by decide +kernel
theorem dX6_nearest_91 : decode cX6_nearest 91 = .ok (.lload 4, 2) := by decide +kernel
theorem dX6_nearest_93 : decode cX6_nearest 93 = .ok (.l2d, 1) := by decide +kernel
theorem dX6_nearest_94 : decode cX6_nearest 94 = .ok (.dreturn, 1) := by decide +kernel
theorem dX6_zeroLike_0 : decode cX6_zeroLike 0 = .ok (.dload_n 0, 1) := by decide +kernel
theorem dX6_zeroLike_1 : decode cX6_zeroLike 1 = .ok (.dconst 0, 1) := by decide +kernel
theorem dX6_zeroLike_2 : decode cX6_zeroLike 2 = .ok (.dmul, 1) := by decide +kernel
theorem dX6_zeroLike_3 : decode cX6_zeroLike 3 = .ok (.dreturn, 1) := by decide +kernel
theorem dX6_remainder_0 : decode cX6_remainder 0 = .ok (.dload_n 0, 1) := by decide +kernel
theorem dX6_remainder_1 : decode cX6_remainder 1 = .ok (.dconst 0, 1) := by decide +kernel
theorem dX6_remainder_2 : decode cX6_remainder 2 = .ok (.dcmp .g, 1) := by decide +kernel
theorem dX6_remainder_3 : decode cX6_remainder 3 = .ok (.ifCond .ge 8, 3) := by decide +kernel
theorem dX6_remainder_6 : decode cX6_remainder 6 = .ok (.dload_n 0, 1) := by decide +kernel
theorem dX6_remainder_7 : decode cX6_remainder 7 = .ok (.dneg, 1) := by decide +kernel
theorem dX6_remainder_8 : decode cX6_remainder 8 = .ok (.goto 4, 3) := by decide +kernel
theorem dX6_remainder_11 : decode cX6_remainder 11 = .ok (.dload_n 0, 1) := by decide +kernel
theorem dX6_remainder_12 : decode cX6_remainder 12 = .ok (.dstore 4, 2) := by decide +kernel
theorem dX6_remainder_14 : decode cX6_remainder 14 = .ok (.dload_n 2, 1) := by decide +kernel
theorem dX6_remainder_15 : decode cX6_remainder 15 = .ok (.dconst 0, 1) := by decide +kernel
theorem dX6_remainder_16 : decode cX6_remainder 16 = .ok (.dcmp .g, 1) := by decide +kernel
theorem dX6_remainder_17 : decode cX6_remainder 17 = .ok (.ifCond .ge 8, 3) := by decide +kernel
theorem dX6_remainder_20 : decode cX6_remainder 20 = .ok (.dload_n 2, 1) := by decide +kernel
theorem dX6_remainder_21 : decode cX6_remainder 21 = .ok (.dneg, 1) := by decide +kernel
theorem dX6_remainder_22 : decode cX6_remainder 22 = .ok (.goto 4, 3) := by decide +kernel
theorem dX6_remainder_25 : decode cX6_remainder 25 = .ok (.dload_n 2, 1) := by decide +kernel
theorem dX6_remainder_26 : decode cX6_remainder 26 = .ok (.dstore 6, 2) := by decide +kernel
theorem dX6_remainder_28 : decode cX6_remainder 28 = .ok (.dload 4, 2) := by decide +kernel
theorem dX6_remainder_30 : decode cX6_remainder 30 = .ok (.dload 6, 2) := by decide +kernel
theorem dX6_remainder_32 : decode cX6_remainder 32 = .ok (.dcmp .g, 1) := by decide +kernel
theorem dX6_remainder_33 : decode cX6_remainder 33 = .ok (.ifCond .ge 5, 3) := by decide +kernel
theorem dX6_remainder_36 : decode cX6_remainder 36 = .ok (.dload_n 0, 1) := by decide +kernel
theorem dX6_remainder_37 : decode cX6_remainder 37 = .ok (.dreturn, 1) := by decide +kernel
theorem dX6_remainder_38 : decode cX6_remainder 38 = .ok (.dload 4, 2) := by decide +kernel
theorem dX6_remainder_40 : decode cX6_remainder 40 = .ok (.iconst 0, 1) := by decide +kernel
theorem dX6_remainder_41 : decode cX6_remainder 41 = .ok (.invokestatic 83, 3) := by decide +kernel
theorem dX6_remainder_44 : decode cX6_remainder 44 = .ok (.lstore 8, 2) := by decide +kernel
theorem dX6_remainder_46 : decode cX6_remainder 46 = .ok (.dload 6, 2) := by decide +kernel
theorem dX6_remainder_48 : decode cX6_remainder 48 = .ok (.iconst 0, 1) := by decide +kernel
theorem dX6_remainder_49 : decode cX6_remainder 49 = .ok (.invokestatic 83, 3) := by decide +kernel
theorem dX6_remainder_52 : decode cX6_remainder 52 = .ok (.lstore 10, 2) := by decide +kernel
theorem dX6_remainder_54 : decode cX6_remainder 54 = .ok (.lload 10, 2) := by decide +kernel
theorem dX6_remainder_56 : decode cX6_remainder 56 = .ok (.invokestatic 89, 3) := by decide +kernel
theorem dX6_remainder_59 : decode cX6_remainder 59 = .ok (.lstore 12, 2) := by decide +kernel
theorem dX6_remainder_61 : decode cX6_remainder 61 = .ok (.lload 12, 2) := by decide +kernel
theorem dX6_remainder_63 : decode cX6_remainder 63 = .ok (.lconst 0, 1) := by decide +kernel
theorem dX6_remainder_64 : decode cX6_remainder 64 = .ok (.lcmp, 1) := by decide +kernel
theorem dX6_remainder_65 : decode cX6_remainder 65 = .ok (.ifCond .gt 5, 3) := by decide +kernel
theorem dX6_remainder_68 : decode cX6_remainder 68 = .ok (.dload_n 0, 1) := by decide +kernel
theorem dX6_remainder_69 : decode cX6_remainder 69 = .ok (.dreturn, 1) := by decide +kernel
theorem dX6_remainder_70 : decode cX6_remainder 70 = .ok (.lload 10, 2) := by decide +kernel
theorem dX6_remainder_72 : decode cX6_remainder 72 = .ok (.invokestatic 93, 3) := by decide +kernel
theorem dX6_remainder_75 : decode cX6_remainder 75 = .ok (.istore 14, 2) := by decide +kernel
theorem dX6_remainder_77 : decode cX6_remainder 77 = .ok (.lload 8, 2) := by decide +kernel
theorem dX6_remainder_79 : decode cX6_remainder 79 = .ok (.invokestatic 89, 3) := by decide +kernel
theorem dX6_remainder_82 : decode cX6_remainder 82 = .ok (.lload 12, 2) := by decide +kernel
theorem dX6_remainder_84 : decode cX6_remainder 84 = .ok (.lrem, 1) := by decide +kernel
theorem dX6_remainder_85 : decode cX6_remainder 85 = .ok (.lstore 15, 2) := by decide +kernel
theorem dX6_remainder_87 : decode cX6_remainder 87 = .ok (.lload 8, 2) := by decide +kernel
theorem dX6_remainder_89 : decode cX6_remainder 89 = .ok (.invokestatic 93, 3) := by decide +kernel
theorem dX6_remainder_92 : decode cX6_remainder 92 = .ok (.iload 14, 2) := by decide +kernel
theorem dX6_remainder_94 : decode cX6_remainder 94 = .ok (.isub, 1) := by decide +kernel
theorem dX6_remainder_95 : decode cX6_remainder 95 = .ok (.istore 17, 2) := by decide +kernel
theorem dX6_remainder_97 : decode cX6_remainder 97 = .ok (.iload 17, 2) := by decide +kernel
theorem dX6_remainder_99 : decode cX6_remainder 99 = .ok (.ifCond .le 24, 3) := by decide +kernel
theorem dX6_remainder_102 : decode cX6_remainder 102 = .ok (.lload 15, 2) := by decide +kernel
theorem dX6_remainder_104 : decode cX6_remainder 104 = .ok (.iload 17, 2) := by decide +kernel
theorem dX6_remainder_106 : decode cX6_remainder 106 = .ok (.bipush 10, 2) := by decide +kernel
theorem dX6_remainder_108 : decode cX6_remainder 108 = .ok (.invokestatic 97, 3) := by decide +kernel
theorem dX6_remainder_111 : decode cX6_remainder 111 = .ok (.lshl, 1) := by decide +kernel
theorem dX6_remainder_112 : decode cX6_remainder 112 = .ok (.lload 12, 2) := by decide +kernel
theorem dX6_remainder_114 : decode cX6_remainder 114 = .ok (.lrem, 1) := by decide +kernel
theorem dX6_remainder_115 : decode cX6_remainder 115 = .ok (.lstore 15, 2) := by decide +kernel
theorem dX6_remainder_117 : decode cX6_remainder 117 = .ok (.iinc 17 (-10), 3) := by decide +kernel
theorem dX6_remainder_120 : decode cX6_remainder 120 = .ok (.goto (-23), 3) := by decide +kernel
theorem dX6_remainder_123 : decode cX6_remainder 123 = .ok (.lload 15, 2) := by decide +kernel
theorem dX6_remainder_125 : decode cX6_remainder 125 = .ok (.l2d, 1) := by decide +kernel
theorem dX6_remainder_126 : decode cX6_remainder 126 = .ok (.iload 14, 2) := by decide +kernel
theorem dX6_remainder_128 : decode cX6_remainder 128 = .ok (.invokestatic 103, 3) := by decide +kernel
theorem dX6_remainder_131 : decode cX6_remainder 131 = .ok (.dmul, 1) := by decide +kernel
theorem dX6_remainder_132 : decode cX6_remainder 132 = .ok (.dstore 17, 2) := by decide +kernel
theorem dX6_remainder_134 : decode cX6_remainder 134 = .ok (.dload_n 0, 1) := by decide +kernel
theorem dX6_remainder_135 : decode cX6_remainder 135 = .ok (.dconst 0, 1) := by decide +kernel
theorem dX6_remainder_136 : decode cX6_remainder 136 = .ok (.dcmp .g, 1) := by decide +kernel
theorem dX6_remainder_137 : decode cX6_remainder 137 = .ok (.ifCond .ge 9, 3) := by decide +kernel
theorem dX6_remainder_140 : decode cX6_remainder 140 = .ok (.dload 17, 2) := by decide +kernel
theorem dX6_remainder_142 : decode cX6_remainder 142 = .ok (.dneg, 1) := by decide +kernel
theorem dX6_remainder_143 : decode cX6_remainder 143 = .ok (.goto 5, 3) := by decide +kernel
theorem dX6_remainder_146 : decode cX6_remainder 146 = .ok (.dload 17, 2) := by decide +kernel
theorem dX6_remainder_148 : decode cX6_remainder 148 = .ok (.dreturn, 1) := by decide +kernel
theorem dX7_init_0 : decode cX7_init 0 = .ok (.aload_n 0, 1) := by decide +kernel
theorem dX7_init_1 : decode cX7_init 1 = .ok (.aload_n 1, 1) := by decide +kernel
theorem dX7_init_2 : decode cX7_init 2 = .ok (.iload_n 2, 1) := by decide +kernel
theorem dX7_init_3 : decode cX7_init 3 = .ok (.invokespecial 1, 3) := by decide +kernel
theorem dX7_init_6 : decode cX7_init 6 = .ok (.aload_n 0, 1) := by decide +kernel
theorem dX7_init_7 : decode cX7_init 7 = .ok (.aload_n 3, 1) := by decide +kernel
theorem dX7_init_8 : decode cX7_init 8 = .ok (.putfield 7, 3) := by decide +kernel
theorem dX7_init_11 : decode cX7_init 11 = .ok (.aload_n 0, 1) := by decide +kernel
theorem dX7_init_12 : decode cX7_init 12 = .ok (.iload 4, 2) := by decide +kernel
theorem dX7_init_14 : decode cX7_init 14 = .ok (.putfield 13, 3) := by decide +kernel
theorem dX7_init_17 : decode cX7_init 17 = .ok (.aload_n 0, 1) := by decide +kernel
theorem dX7_init_18 : decode cX7_init 18 = .ok (.aload_n 3, 1) := by decide +kernel
theorem dX7_init_19 : decode cX7_init 19 = .ok (.iload 4, 2) := by decide +kernel
theorem dX7_init_21 : decode cX7_init 21 = .ok (.invokevirtual 17, 3) := by decide +kernel
theorem dX7_init_24 : decode cX7_init 24 = .ok (.putfield 23, 3) := by decide +kernel
theorem dX7_init_27 : decode cX7_init 27 = .ok (.aload_n 0, 1) := by decide +kernel
theorem dX7_init_28 : decode cX7_init 28 = .ok (.aload_n 3, 1) := by decide +kernel
theorem dX7_init_29 : decode cX7_init 29 = .ok (.iload 4, 2) := by decide +kernel
theorem dX7_init_31 : decode cX7_init 31 = .ok (.invokevirtual 27, 3) := by decide +kernel
theorem dX7_init_34 : decode cX7_init 34 = .ok (.putfield 31, 3) := by decide +kernel
theorem dX7_init_37 : decode cX7_init 37 = .ok (.return_, 1) := by decide +kernel
theorem dX7_takeBack_0 : decode cX7_takeBack 0 = .ok (.aload_n 0, 1) := by decide +kernel
theorem dX7_takeBack_1 : decode cX7_takeBack 1 = .ok (.getfield 31, 3) := by decide +kernel
theorem dX7_takeBack_4 : decode cX7_takeBack 4 = .ok (.ifCond .eq 17, 3) := by decide +kernel
theorem dX7_takeBack_7 : decode cX7_takeBack 7 = .ok (.aload_n 0, 1) := by decide +kernel
theorem dX7_takeBack_8 : decode cX7_takeBack 8 = .ok (.getfield 7, 3) := by decide +kernel
theorem dX7_takeBack_11 : decode cX7_takeBack 11 = .ok (.aload_n 0, 1) := by decide +kernel
theorem dX7_takeBack_12 : decode cX7_takeBack 12 = .ok (.getfield 13, 3) := by decide +kernel
theorem dX7_takeBack_15 : decode cX7_takeBack 15 = .ok (.invokevirtual 35, 3) := by decide +kernel
theorem dX7_takeBack_18 : decode cX7_takeBack 18 = .ok (.goto 18, 3) := by decide +kernel
theorem dX7_takeBack_21 : decode cX7_takeBack 21 = .ok (.aload_n 0, 1) := by decide +kernel
theorem dX7_takeBack_22 : decode cX7_takeBack 22 = .ok (.getfield 7, 3) := by decide +kernel
theorem dX7_takeBack_25 : decode cX7_takeBack 25 = .ok (.aload_n 0, 1) := by decide +kernel
theorem dX7_takeBack_26 : decode cX7_takeBack 26 = .ok (.getfield 13, 3) := by decide +kernel
theorem dX7_takeBack_29 : decode cX7_takeBack 29 = .ok (.aload_n 0, 1) := by decide +kernel
theorem dX7_takeBack_30 : decode cX7_takeBack 30 = .ok (.getfield 23, 3) := by decide +kernel
theorem dX7_takeBack_33 : decode cX7_takeBack 33 = .ok (.invokevirtual 39, 3) := by decide +kernel
theorem dX7_takeBack_36 : decode cX7_takeBack 36 = .ok (.return_, 1) := by decide +kernel
theorem dX8_init_0 : decode cX8_init 0 = .ok (.aload_n 0, 1) := by decide +kernel
theorem dX8_init_1 : decode cX8_init 1 = .ok (.invokespecial 1, 3) := by decide +kernel
theorem dX8_init_4 : decode cX8_init 4 = .ok (.aload_n 0, 1) := by decide +kernel
theorem dX8_init_5 : decode cX8_init 5 = .ok (.iload_n 1, 1) := by decide +kernel
theorem dX8_init_6 : decode cX8_init 6 = .ok (.newarray .double, 2) := by decide +kernel
theorem dX8_init_8 : decode cX8_init 8 = .ok (.putfield 7, 3) := by decide +kernel
theorem dX8_init_11 : decode cX8_init 11 = .ok (.aload_n 0, 1) := by decide +kernel
theorem dX8_init_12 : decode cX8_init 12 = .ok (.iload_n 1, 1) := by decide +kernel
theorem dX8_init_13 : decode cX8_init 13 = .ok (.newarray .boolean, 2) := by decide +kernel
theorem dX8_init_15 : decode cX8_init 15 = .ok (.putfield 13, 3) := by decide +kernel
theorem dX8_init_18 : decode cX8_init 18 = .ok (.iconst 0, 1) := by decide +kernel
theorem dX8_init_19 : decode cX8_init 19 = .ok (.istore_n 2, 1) := by decide +kernel
theorem dX8_init_20 : decode cX8_init 20 = .ok (.iload_n 2, 1) := by decide +kernel
theorem dX8_init_21 : decode cX8_init 21 = .ok (.iload_n 1, 1) := by decide +kernel
theorem dX8_init_22 : decode cX8_init 22 = .ok (.if_icmp .ge 16, 3) := by decide +kernel
theorem dX8_init_25 : decode cX8_init 25 = .ok (.aload_n 0, 1) := by decide +kernel
theorem dX8_init_26 : decode cX8_init 26 = .ok (.getfield 13, 3) := by decide +kernel
theorem dX8_init_29 : decode cX8_init 29 = .ok (.iload_n 2, 1) := by decide +kernel
theorem dX8_init_30 : decode cX8_init 30 = .ok (.iconst 1, 1) := by decide +kernel
theorem dX8_init_31 : decode cX8_init 31 = .ok (.bastore, 1) := by decide +kernel
theorem dX8_init_32 : decode cX8_init 32 = .ok (.iinc 2 1, 3) := by decide +kernel
theorem dX8_init_35 : decode cX8_init 35 = .ok (.goto (-15), 3) := by decide +kernel
theorem dX8_init_38 : decode cX8_init 38 = .ok (.return_, 1) := by decide +kernel
theorem dX8_blankAt_0 : decode cX8_blankAt 0 = .ok (.aload_n 0, 1) := by decide +kernel
theorem dX8_blankAt_1 : decode cX8_blankAt 1 = .ok (.getfield 13, 3) := by decide +kernel
theorem dX8_blankAt_4 : decode cX8_blankAt 4 = .ok (.iload_n 1, 1) := by decide +kernel
theorem dX8_blankAt_5 : decode cX8_blankAt 5 = .ok (.baload, 1) := by decide +kernel
theorem dX8_blankAt_6 : decode cX8_blankAt 6 = .ok (.ireturn, 1) := by decide +kernel
theorem dX8_at_0 : decode cX8_at 0 = .ok (.aload_n 0, 1) := by decide +kernel
theorem dX8_at_1 : decode cX8_at 1 = .ok (.getfield 7, 3) := by decide +kernel
theorem dX8_at_4 : decode cX8_at 4 = .ok (.iload_n 1, 1) := by decide +kernel
theorem dX8_at_5 : decode cX8_at 5 = .ok (.daload, 1) := by decide +kernel
theorem dX8_at_6 : decode cX8_at 6 = .ok (.dreturn, 1) := by decide +kernel
theorem dX8_put_0 : decode cX8_put 0 = .ok (.aload_n 0, 1) := by decide +kernel
theorem dX8_put_1 : decode cX8_put 1 = .ok (.getfield 7, 3) := by decide +kernel
theorem dX8_put_4 : decode cX8_put 4 = .ok (.iload_n 1, 1) := by decide +kernel
theorem dX8_put_5 : decode cX8_put 5 = .ok (.dload_n 2, 1) := by decide +kernel
theorem dX8_put_6 : decode cX8_put 6 = .ok (.dastore, 1) := by decide +kernel
theorem dX8_put_7 : decode cX8_put 7 = .ok (.aload_n 0, 1) := by decide +kernel
theorem dX8_put_8 : decode cX8_put 8 = .ok (.getfield 13, 3) := by decide +kernel
theorem dX8_put_11 : decode cX8_put 11 = .ok (.iload_n 1, 1) := by decide +kernel
theorem dX8_put_12 : decode cX8_put 12 = .ok (.iconst 0, 1) := by decide +kernel
theorem dX8_put_13 : decode cX8_put 13 = .ok (.bastore, 1) := by decide +kernel
theorem dX8_put_14 : decode cX8_put 14 = .ok (.return_, 1) := by decide +kernel
theorem dX8_clear_0 : decode cX8_clear 0 = .ok (.aload_n 0, 1) := by decide +kernel
theorem dX8_clear_1 : decode cX8_clear 1 = .ok (.getfield 7, 3) := by decide +kernel
theorem dX8_clear_4 : decode cX8_clear 4 = .ok (.iload_n 1, 1) := by decide +kernel
theorem dX8_clear_5 : decode cX8_clear 5 = .ok (.dconst 0, 1) := by decide +kernel
theorem dX8_clear_6 : decode cX8_clear 6 = .ok (.dastore, 1) := by decide +kernel
theorem dX8_clear_7 : decode cX8_clear 7 = .ok (.aload_n 0, 1) := by decide +kernel
theorem dX8_clear_8 : decode cX8_clear 8 = .ok (.getfield 13, 3) := by decide +kernel
theorem dX8_clear_11 : decode cX8_clear 11 = .ok (.iload_n 1, 1) := by decide +kernel
theorem dX8_clear_12 : decode cX8_clear 12 = .ok (.iconst 1, 1) := by decide +kernel
theorem dX8_clear_13 : decode cX8_clear 13 = .ok (.bastore, 1) := by decide +kernel
theorem dX8_clear_14 : decode cX8_clear 14 = .ok (.return_, 1) := by decide +kernel
theorem dX8_putSpecial_0 : decode cX8_putSpecial 0 = .ok (.iload_n 2, 1) := by decide +kernel
theorem dX8_putSpecial_1 : decode cX8_putSpecial 1 = .ok (.ifCond .ne 11, 3) := by decide +kernel
theorem dX8_putSpecial_4 : decode cX8_putSpecial 4 = .ok (.aload_n 0, 1) := by decide +kernel
theorem dX8_putSpecial_5 : decode cX8_putSpecial 5 = .ok (.iload_n 1, 1) := by decide +kernel
theorem dX8_putSpecial_6 : decode cX8_putSpecial 6 = .ok (.invokevirtual 17, 3) := by decide +kernel
theorem dX8_putSpecial_9 : decode cX8_putSpecial 9 = .ok (.goto 13, 3) := by decide +kernel
theorem dX8_putSpecial_12 : decode cX8_putSpecial 12 = .ok (.aload_n 0, 1) := by decide +kernel
theorem dX8_putSpecial_13 : decode cX8_putSpecial 13 = .ok (.iload_n 1, 1) := by decide +kernel
theorem dX8_putSpecial_14 : decode cX8_putSpecial 14 = .ok (.iload_n 2, 1) := by decide +kernel
theorem dX8_putSpecial_15 : decode cX8_putSpecial 15 = .ok (.iload_n 3, 1) := by decide +kernel
theorem dX8_putSpecial_16 : decode cX8_putSpecial 16 = .ok (.invokestatic 21, 3) := by decide +kernel
theorem dX8_putSpecial_19 : decode cX8_putSpecial 19 = .ok (.invokevirtual 27, 3) := by decide +kernel
theorem dX8_putSpecial_22 : decode cX8_putSpecial 22 = .ok (.return_, 1) := by decide +kernel
theorem dX8_putBrought_0 : decode cX8_putBrought 0 = .ok (.aload_n 0, 1) := by decide +kernel
theorem dX8_putBrought_1 : decode cX8_putBrought 1 = .ok (.getfield 7, 3) := by decide +kernel
theorem dX8_putBrought_4 : decode cX8_putBrought 4 = .ok (.iload_n 1, 1) := by decide +kernel
theorem dX8_putBrought_5 : decode cX8_putBrought 5 = .ok (.aload_n 2, 1) := by decide +kernel
theorem dX8_putBrought_6 : decode cX8_putBrought 6 = .ok (.getfield 7, 3) := by decide +kernel
theorem dX8_putBrought_9 : decode cX8_putBrought 9 = .ok (.iload_n 3, 1) := by decide +kernel
theorem dX8_putBrought_10 : decode cX8_putBrought 10 = .ok (.daload, 1) := by decide +kernel
theorem dX8_putBrought_11 : decode cX8_putBrought 11 = .ok (.iload 4, 2) := by decide +kernel
theorem dX8_putBrought_13 : decode cX8_putBrought 13 = .ok (.invokestatic 31, 3) := by decide +kernel
theorem dX8_putBrought_16 : decode cX8_putBrought 16 = .ok (.dastore, 1) := by decide +kernel
theorem dX8_putBrought_17 : decode cX8_putBrought 17 = .ok (.aload_n 0, 1) := by decide +kernel
theorem dX8_putBrought_18 : decode cX8_putBrought 18 = .ok (.getfield 13, 3) := by decide +kernel
theorem dX8_putBrought_21 : decode cX8_putBrought 21 = .ok (.iload_n 1, 1) := by decide +kernel
theorem dX8_putBrought_22 : decode cX8_putBrought 22 = .ok (.aload_n 2, 1) := by decide +kernel
theorem dX8_putBrought_23 : decode cX8_putBrought 23 = .ok (.getfield 13, 3) := by decide +kernel
theorem dX8_putBrought_26 : decode cX8_putBrought 26 = .ok (.iload_n 3, 1) := by decide +kernel
theorem dX8_putBrought_27 : decode cX8_putBrought 27 = .ok (.baload, 1) := by decide +kernel
theorem dX8_putBrought_28 : decode cX8_putBrought 28 = .ok (.bastore, 1) := by decide +kernel
theorem dX8_putBrought_29 : decode cX8_putBrought 29 = .ok (.return_, 1) := by decide +kernel
theorem dX8_countBlanks_0 : decode cX8_countBlanks 0 = .ok (.iconst 0, 1) := by decide +kernel
theorem dX8_countBlanks_1 : decode cX8_countBlanks 1 = .ok (.istore_n 1, 1) := by decide +kernel
theorem dX8_countBlanks_2 : decode cX8_countBlanks 2 = .ok (.aload_n 0, 1) := by decide +kernel
theorem dX8_countBlanks_3 : decode cX8_countBlanks 3 = .ok (.getfield 13, 3) := by decide +kernel
theorem dX8_countBlanks_6 : decode cX8_countBlanks 6 = .ok (.astore_n 2, 1) := by decide +kernel
theorem dX8_countBlanks_7 : decode cX8_countBlanks 7 = .ok (.aload_n 2, 1) := by decide +kernel
theorem dX8_countBlanks_8 : decode cX8_countBlanks 8 = .ok (.arraylength, 1) := by decide +kernel
theorem dX8_countBlanks_9 : decode cX8_countBlanks 9 = .ok (.istore_n 3, 1) := by decide +kernel
theorem dX8_countBlanks_10 : decode cX8_countBlanks 10 = .ok (.iconst 0, 1) := by decide +kernel
theorem dX8_countBlanks_11 : decode cX8_countBlanks 11 = .ok (.istore 4, 2) := by decide +kernel
theorem dX8_countBlanks_13 : decode cX8_countBlanks 13 = .ok (.iload 4, 2) := by decide +kernel
theorem dX8_countBlanks_15 : decode cX8_countBlanks 15 = .ok (.iload_n 3, 1) := by decide +kernel
theorem dX8_countBlanks_16 : decode cX8_countBlanks 16 = .ok (.if_icmp .ge 28, 3) := by decide +kernel
theorem dX8_countBlanks_19 : decode cX8_countBlanks 19 = .ok (.aload_n 2, 1) := by decide +kernel
theorem dX8_countBlanks_20 : decode cX8_countBlanks 20 = .ok (.iload 4, 2) := by decide +kernel
theorem dX8_countBlanks_22 : decode cX8_countBlanks 22 = .ok (.baload, 1) := by decide +kernel
theorem dX8_countBlanks_23 : decode cX8_countBlanks 23 = .ok (.istore 5, 2) := by decide +kernel
theorem dX8_countBlanks_25 : decode cX8_countBlanks 25 = .ok (.iload_n 1, 1) := by decide +kernel
theorem dX8_countBlanks_26 : decode cX8_countBlanks 26 = .ok (.iload 5, 2) := by decide +kernel
theorem dX8_countBlanks_28 : decode cX8_countBlanks 28 = .ok (.ifCond .eq 7, 3) := by decide +kernel
theorem dX8_countBlanks_31 : decode cX8_countBlanks 31 = .ok (.iconst 1, 1) := by decide +kernel
theorem dX8_countBlanks_32 : decode cX8_countBlanks 32 = .ok (.goto 4, 3) := by decide +kernel
theorem dX8_countBlanks_35 : decode cX8_countBlanks 35 = .ok (.iconst 0, 1) := by decide +kernel
theorem dX8_countBlanks_36 : decode cX8_countBlanks 36 = .ok (.iadd, 1) := by decide +kernel
theorem dX8_countBlanks_37 : decode cX8_countBlanks 37 = .ok (.istore_n 1, 1) := by decide +kernel
theorem dX8_countBlanks_38 : decode cX8_countBlanks 38 = .ok (.iinc 4 1, 3) := by decide +kernel
theorem dX8_countBlanks_41 : decode cX8_countBlanks 41 = .ok (.goto (-28), 3) := by decide +kernel
theorem dX8_countBlanks_44 : decode cX8_countBlanks 44 = .ok (.iload_n 1, 1) := by decide +kernel
theorem dX8_countBlanks_45 : decode cX8_countBlanks 45 = .ok (.ireturn, 1) := by decide +kernel
theorem dX9_init_0 : decode cX9_init 0 = .ok (.aload_n 0, 1) := by decide +kernel
theorem dX9_init_1 : decode cX9_init 1 = .ok (.invokespecial 3, 3) := by decide +kernel
theorem dX9_init_4 : decode cX9_init 4 = .ok (.aload_n 0, 1) := by decide +kernel
theorem dX9_init_5 : decode cX9_init 5 = .ok (.new 9, 3) := by decide +kernel
theorem dX9_init_8 : decode cX9_init 8 = .ok (.dup, 1) := by decide +kernel
theorem dX9_init_9 : decode cX9_init 9 = .ok (.bipush 16, 2) := by decide +kernel
theorem dX9_init_11 : decode cX9_init 11 = .ok (.invokespecial 11, 3) := by decide +kernel
theorem dX9_init_14 : decode cX9_init 14 = .ok (.putfield 14, 3) := by decide +kernel
theorem dX9_init_17 : decode cX9_init 17 = .ok (.aload_n 0, 1) := by decide +kernel
theorem dX9_init_18 : decode cX9_init 18 = .ok (.new 9, 3) := by decide +kernel
theorem dX9_init_21 : decode cX9_init 21 = .ok (.dup, 1) := by decide +kernel
theorem dX9_init_22 : decode cX9_init 22 = .ok (.bipush 16, 2) := by decide +kernel
theorem dX9_init_24 : decode cX9_init 24 = .ok (.invokespecial 11, 3) := by decide +kernel
theorem dX9_init_27 : decode cX9_init 27 = .ok (.putfield 20, 3) := by decide +kernel
theorem dX9_init_30 : decode cX9_init 30 = .ok (.return_, 1) := by decide +kernel
theorem dX9_reckon_0 : decode cX9_reckon 0 = .ok (.iconst 0, 1) := by decide +kernel
theorem dX9_reckon_1 : decode cX9_reckon 1 = .ok (.istore_n 2, 1) := by decide +kernel
theorem dX9_reckon_2 : decode cX9_reckon 2 = .ok (.iload_n 2, 1) := by decide +kernel
theorem dX9_reckon_3 : decode cX9_reckon 3 = .ok (.bipush 16, 2) := by decide +kernel
theorem dX9_reckon_5 : decode cX9_reckon 5 = .ok (.if_icmp .ge 68, 3) := by decide +kernel
theorem dX9_reckon_8 : decode cX9_reckon 8 = .ok (.aload_n 1, 1) := by decide +kernel
theorem dX9_reckon_9 : decode cX9_reckon 9 = .ok (.getfield 23, 3) := by decide +kernel
theorem dX9_reckon_12 : decode cX9_reckon 12 = .ok (.iload_n 2, 1) := by decide +kernel
theorem dX9_reckon_13 : decode cX9_reckon 13 = .ok (.invokevirtual 28, 3) := by decide +kernel
theorem dX9_reckon_16 : decode cX9_reckon 16 = .ok (.aload_n 1, 1) := by decide +kernel
theorem dX9_reckon_17 : decode cX9_reckon 17 = .ok (.getfield 31, 3) := by decide +kernel
theorem dX9_reckon_20 : decode cX9_reckon 20 = .ok (.bipush 8, 2) := by decide +kernel
theorem dX9_reckon_22 : decode cX9_reckon 22 = .ok (.if_icmp .gt 12, 3) := by decide +kernel
theorem dX9_reckon_25 : decode cX9_reckon 25 = .ok (.aload_n 0, 1) := by decide +kernel
theorem dX9_reckon_26 : decode cX9_reckon 26 = .ok (.aload_n 1, 1) := by decide +kernel
theorem dX9_reckon_27 : decode cX9_reckon 27 = .ok (.iload_n 2, 1) := by decide +kernel
theorem dX9_reckon_28 : decode cX9_reckon 28 = .ok (.invokevirtual 35, 3) := by decide +kernel
theorem dX9_reckon_31 : decode cX9_reckon 31 = .ok (.goto 36, 3) := by decide +kernel
theorem dX9_reckon_34 : decode cX9_reckon 34 = .ok (.aload_n 1, 1) := by decide +kernel
theorem dX9_reckon_35 : decode cX9_reckon 35 = .ok (.getfield 31, 3) := by decide +kernel
theorem dX9_reckon_38 : decode cX9_reckon 38 = .ok (.bipush 16, 2) := by decide +kernel
theorem dX9_reckon_40 : decode cX9_reckon 40 = .ok (.if_icmp .le 12, 3) := by decide +kernel
theorem dX9_reckon_43 : decode cX9_reckon 43 = .ok (.aload_n 1, 1) := by decide +kernel
theorem dX9_reckon_44 : decode cX9_reckon 44 = .ok (.getfield 31, 3) := by decide +kernel
theorem dX9_reckon_47 : decode cX9_reckon 47 = .ok (.bipush 26, 2) := by decide +kernel
theorem dX9_reckon_49 : decode cX9_reckon 49 = .ok (.if_icmp .ne 12, 3) := by decide +kernel
theorem dX9_reckon_52 : decode cX9_reckon 52 = .ok (.aload_n 0, 1) := by decide +kernel
theorem dX9_reckon_53 : decode cX9_reckon 53 = .ok (.aload_n 1, 1) := by decide +kernel
theorem dX9_reckon_54 : decode cX9_reckon 54 = .ok (.iload_n 2, 1) := by decide +kernel
theorem dX9_reckon_55 : decode cX9_reckon 55 = .ok (.invokevirtual 39, 3) := by decide +kernel
theorem dX9_reckon_58 : decode cX9_reckon 58 = .ok (.goto 9, 3) := by decide +kernel
theorem dX9_reckon_61 : decode cX9_reckon 61 = .ok (.aload_n 0, 1) := by decide +kernel
theorem dX9_reckon_62 : decode cX9_reckon 62 = .ok (.aload_n 1, 1) := by decide +kernel
theorem dX9_reckon_63 : decode cX9_reckon 63 = .ok (.iload_n 2, 1) := by decide +kernel
theorem dX9_reckon_64 : decode cX9_reckon 64 = .ok (.invokevirtual 42, 3) := by decide +kernel
theorem dX9_reckon_67 : decode cX9_reckon 67 = .ok (.iinc 2 1, 3) := by decide +kernel
theorem dX9_reckon_70 : decode cX9_reckon 70 = .ok (.goto (-68), 3) := by decide +kernel
theorem dX9_reckon_73 : decode cX9_reckon 73 = .ok (.return_, 1) := by decide +kernel
theorem dX9_fromX_0 : decode cX9_fromX 0 = .ok (.aload_n 0, 1) := by decide +kernel
theorem dX9_fromX_1 : decode cX9_fromX 1 = .ok (.getfield 14, 3) := by decide +kernel
theorem dX9_fromX_4 : decode cX9_fromX 4 = .ok (.iload_n 2, 1) := by decide +kernel
theorem dX9_fromX_5 : decode cX9_fromX 5 = .ok (.invokevirtual 45, 3) := by decide +kernel
theorem dX9_fromX_8 : decode cX9_fromX 8 = .ok (.ifCond .ne 30, 3) := by decide +kernel
theorem dX9_fromX_11 : decode cX9_fromX 11 = .ok (.aload_n 1, 1) := by decide +kernel
theorem dX9_fromX_12 : decode cX9_fromX 12 = .ok (.getfield 23, 3) := by decide +kernel
theorem dX9_fromX_15 : decode cX9_fromX 15 = .ok (.iload_n 2, 1) := by decide +kernel
theorem dX9_fromX_16 : decode cX9_fromX 16 = .ok (.aload_n 1, 1) := by decide +kernel
theorem dX9_fromX_17 : decode cX9_fromX 17 = .ok (.getfield 31, 3) := by decide +kernel
theorem dX9_fromX_20 : decode cX9_fromX 20 = .ok (.aload_n 0, 1) := by decide +kernel
theorem dX9_fromX_21 : decode cX9_fromX 21 = .ok (.getfield 14, 3) := by decide +kernel
theorem dX9_fromX_24 : decode cX9_fromX 24 = .ok (.iload_n 2, 1) := by decide +kernel
theorem dX9_fromX_25 : decode cX9_fromX 25 = .ok (.invokevirtual 49, 3) := by decide +kernel
theorem dX9_fromX_28 : decode cX9_fromX 28 = .ok (.aload_n 1, 1) := by decide +kernel
theorem dX9_fromX_29 : decode cX9_fromX 29 = .ok (.getfield 53, 3) := by decide +kernel
theorem dX9_fromX_32 : decode cX9_fromX 32 = .ok (.invokestatic 57, 3) := by decide +kernel
theorem dX9_fromX_35 : decode cX9_fromX 35 = .ok (.invokevirtual 63, 3) := by decide +kernel
theorem dX9_fromX_38 : decode cX9_fromX 38 = .ok (.return_, 1) := by decide +kernel
theorem dX9_fromBoth_0 : decode cX9_fromBoth 0 = .ok (.aload_n 0, 1) := by decide +kernel
theorem dX9_fromBoth_1 : decode cX9_fromBoth 1 = .ok (.getfield 14, 3) := by decide +kernel
theorem dX9_fromBoth_4 : decode cX9_fromBoth 4 = .ok (.iload_n 2, 1) := by decide +kernel
theorem dX9_fromBoth_5 : decode cX9_fromBoth 5 = .ok (.invokevirtual 45, 3) := by decide +kernel
theorem dX9_fromBoth_8 : decode cX9_fromBoth 8 = .ok (.ifCond .ne 14, 3) := by decide +kernel
theorem dX9_fromBoth_11 : decode cX9_fromBoth 11 = .ok (.aload_n 0, 1) := by decide +kernel
theorem dX9_fromBoth_12 : decode cX9_fromBoth 12 = .ok (.getfield 20, 3) := by decide +kernel
theorem dX9_fromBoth_15 : decode cX9_fromBoth 15 = .ok (.iload_n 2, 1) := by decide +kernel
theorem dX9_fromBoth_16 : decode cX9_fromBoth 16 = .ok (.invokevirtual 45, 3) := by decide +kernel
theorem dX9_fromBoth_19 : decode cX9_fromBoth 19 = .ok (.ifCond .eq 4, 3) := by decide +kernel
theorem dX9_fromBoth_22 : decode cX9_fromBoth 22 = .ok (.return_, 1) := by decide +kernel
theorem dX9_fromBoth_23 : decode cX9_fromBoth 23 = .ok (.aload_n 0, 1) := by decide +kernel
theorem dX9_fromBoth_24 : decode cX9_fromBoth 24 = .ok (.getfield 14, 3) := by decide +kernel
theorem dX9_fromBoth_27 : decode cX9_fromBoth 27 = .ok (.iload_n 2, 1) := by decide +kernel
theorem dX9_fromBoth_28 : decode cX9_fromBoth 28 = .ok (.invokevirtual 49, 3) := by decide +kernel
theorem dX9_fromBoth_31 : decode cX9_fromBoth 31 = .ok (.dstore_n 3, 1) := by decide +kernel
theorem dX9_fromBoth_32 : decode cX9_fromBoth 32 = .ok (.aload_n 0, 1) := by decide +kernel
theorem dX9_fromBoth_33 : decode cX9_fromBoth 33 = .ok (.getfield 20, 3) := by decide +kernel
theorem dX9_fromBoth_36 : decode cX9_fromBoth 36 = .ok (.iload_n 2, 1) := by decide +kernel
theorem dX9_fromBoth_37 : decode cX9_fromBoth 37 = .ok (.invokevirtual 49, 3) := by decide +kernel
theorem dX9_fromBoth_40 : decode cX9_fromBoth 40 = .ok (.dstore 5, 2) := by decide +kernel
theorem dX9_fromBoth_42 : decode cX9_fromBoth 42 = .ok (.aload_n 1, 1) := by decide +kernel
theorem dX9_fromBoth_43 : decode cX9_fromBoth 43 = .ok (.getfield 31, 3) := by decide +kernel
theorem dX9_fromBoth_46 : decode cX9_fromBoth 46 = .ok (.dload_n 3, 1) := by decide +kernel
theorem dX9_fromBoth_47 : decode cX9_fromBoth 47 = .ok (.dload 5, 2) := by decide +kernel
theorem dX9_fromBoth_49 : decode cX9_fromBoth 49 = .ok (.invokestatic 67, 3) := by decide +kernel
theorem dX9_fromBoth_52 : decode cX9_fromBoth 52 = .ok (.ifCond .ne 25, 3) := by decide +kernel
theorem dX9_fromBoth_55 : decode cX9_fromBoth 55 = .ok (.aload_n 1, 1) := by decide +kernel
theorem dX9_fromBoth_56 : decode cX9_fromBoth 56 = .ok (.getfield 23, 3) := by decide +kernel
theorem dX9_fromBoth_59 : decode cX9_fromBoth 59 = .ok (.iload_n 2, 1) := by decide +kernel
theorem dX9_fromBoth_60 : decode cX9_fromBoth 60 = .ok (.aload_n 1, 1) := by decide +kernel
theorem dX9_fromBoth_61 : decode cX9_fromBoth 61 = .ok (.getfield 31, 3) := by decide +kernel
theorem dX9_fromBoth_64 : decode cX9_fromBoth 64 = .ok (.dload_n 3, 1) := by decide +kernel
theorem dX9_fromBoth_65 : decode cX9_fromBoth 65 = .ok (.dload 5, 2) := by decide +kernel
theorem dX9_fromBoth_67 : decode cX9_fromBoth 67 = .ok (.aload_n 1, 1) := by decide +kernel
theorem dX9_fromBoth_68 : decode cX9_fromBoth 68 = .ok (.getfield 53, 3) := by decide +kernel
theorem dX9_fromBoth_71 : decode cX9_fromBoth 71 = .ok (.invokestatic 71, 3) := by decide +kernel
theorem dX9_fromBoth_74 : decode cX9_fromBoth 74 = .ok (.invokevirtual 63, 3) := by decide +kernel
theorem dX9_fromBoth_77 : decode cX9_fromBoth 77 = .ok (.return_, 1) := by decide +kernel
theorem dX9_fromRow_0 : decode cX9_fromRow 0 = .ok (.aload_n 1, 1) := by decide +kernel
theorem dX9_fromRow_1 : decode cX9_fromRow 1 = .ok (.getfield 23, 3) := by decide +kernel
theorem dX9_fromRow_4 : decode cX9_fromRow 4 = .ok (.astore_n 3, 1) := by decide +kernel
theorem dX9_fromRow_5 : decode cX9_fromRow 5 = .ok (.aload_n 1, 1) := by decide +kernel
theorem dX9_fromRow_6 : decode cX9_fromRow 6 = .ok (.getfield 31, 3) := by decide +kernel
theorem dX9_fromRow_9 : decode cX9_fromRow 9 = .ok (.tableswitch 152 17 24 #[47, 60, 92, 101, 111, 121, 130, 139], 47) := by decide +kernel
theorem dX9_fromRow_56 : decode cX9_fromRow 56 = .ok (.aload_n 0, 1) := by decide +kernel
theorem dX9_fromRow_57 : decode cX9_fromRow 57 = .ok (.aload_n 3, 1) := by decide +kernel
theorem dX9_fromRow_58 : decode cX9_fromRow 58 = .ok (.iload_n 2, 1) := by decide +kernel
theorem dX9_fromRow_59 : decode cX9_fromRow 59 = .ok (.aload_n 1, 1) := by decide +kernel
theorem dX9_fromRow_60 : decode cX9_fromRow 60 = .ok (.getfield 75, 3) := by decide +kernel
theorem dX9_fromRow_63 : decode cX9_fromRow 63 = .ok (.invokevirtual 78, 3) := by decide +kernel
theorem dX9_fromRow_66 : decode cX9_fromRow 66 = .ok (.goto 105, 3) := by decide +kernel
theorem dX9_fromRow_69 : decode cX9_fromRow 69 = .ok (.aload_n 3, 1) := by decide +kernel
theorem dX9_fromRow_70 : decode cX9_fromRow 70 = .ok (.iload_n 2, 1) := by decide +kernel
theorem dX9_fromRow_71 : decode cX9_fromRow 71 = .ok (.aload_n 0, 1) := by decide +kernel
theorem dX9_fromRow_72 : decode cX9_fromRow 72 = .ok (.getfield 14, 3) := by decide +kernel
theorem dX9_fromRow_75 : decode cX9_fromRow 75 = .ok (.iload_n 2, 1) := by decide +kernel
theorem dX9_fromRow_76 : decode cX9_fromRow 76 = .ok (.invokevirtual 45, 3) := by decide +kernel
theorem dX9_fromRow_79 : decode cX9_fromRow 79 = .ok (.ifCond .eq 10, 3) := by decide +kernel
theorem dX9_fromRow_82 : decode cX9_fromRow 82 = .ok (.aload_n 0, 1) := by decide +kernel
theorem dX9_fromRow_83 : decode cX9_fromRow 83 = .ok (.getfield 20, 3) := by decide +kernel
theorem dX9_fromRow_86 : decode cX9_fromRow 86 = .ok (.goto 7, 3) := by decide +kernel
theorem dX9_fromRow_89 : decode cX9_fromRow 89 = .ok (.aload_n 0, 1) := by decide +kernel
theorem dX9_fromRow_90 : decode cX9_fromRow 90 = .ok (.getfield 14, 3) := by decide +kernel
theorem dX9_fromRow_93 : decode cX9_fromRow 93 = .ok (.iload_n 2, 1) := by decide +kernel
theorem dX9_fromRow_94 : decode cX9_fromRow 94 = .ok (.iconst 0, 1) := by decide +kernel
theorem dX9_fromRow_95 : decode cX9_fromRow 95 = .ok (.invokevirtual 82, 3) := by decide +kernel
theorem dX9_fromRow_98 : decode cX9_fromRow 98 = .ok (.goto 73, 3) := by decide +kernel
theorem dX9_fromRow_101 : decode cX9_fromRow 101 = .ok (.aload_n 0, 1) := by decide +kernel
theorem dX9_fromRow_102 : decode cX9_fromRow 102 = .ok (.aload_n 3, 1) := by decide +kernel
theorem dX9_fromRow_103 : decode cX9_fromRow 103 = .ok (.iload_n 2, 1) := by decide +kernel
theorem dX9_fromRow_104 : decode cX9_fromRow 104 = .ok (.invokevirtual 86, 3) := by decide +kernel
theorem dX9_fromRow_107 : decode cX9_fromRow 107 = .ok (.goto 64, 3) := by decide +kernel
theorem dX9_fromRow_110 : decode cX9_fromRow 110 = .ok (.aload_n 0, 1) := by decide +kernel
theorem dX9_fromRow_111 : decode cX9_fromRow 111 = .ok (.aload_n 3, 1) := by decide +kernel
theorem dX9_fromRow_112 : decode cX9_fromRow 112 = .ok (.iload_n 2, 1) := by decide +kernel
theorem dX9_fromRow_113 : decode cX9_fromRow 113 = .ok (.iconst 1, 1) := by decide +kernel
theorem dX9_fromRow_114 : decode cX9_fromRow 114 = .ok (.invokevirtual 90, 3) := by decide +kernel
theorem dX9_fromRow_117 : decode cX9_fromRow 117 = .ok (.goto 54, 3) := by decide +kernel
theorem dX9_fromRow_120 : decode cX9_fromRow 120 = .ok (.aload_n 0, 1) := by decide +kernel
theorem dX9_fromRow_121 : decode cX9_fromRow 121 = .ok (.aload_n 3, 1) := by decide +kernel
theorem dX9_fromRow_122 : decode cX9_fromRow 122 = .ok (.iload_n 2, 1) := by decide +kernel
theorem dX9_fromRow_123 : decode cX9_fromRow 123 = .ok (.iconst 0, 1) := by decide +kernel
theorem dX9_fromRow_124 : decode cX9_fromRow 124 = .ok (.invokevirtual 90, 3) := by decide +kernel
theorem dX9_fromRow_127 : decode cX9_fromRow 127 = .ok (.goto 44, 3) := by decide +kernel
theorem dX9_fromRow_130 : decode cX9_fromRow 130 = .ok (.aload_n 0, 1) := by decide +kernel
theorem dX9_fromRow_131 : decode cX9_fromRow 131 = .ok (.aload_n 3, 1) := by decide +kernel
theorem dX9_fromRow_132 : decode cX9_fromRow 132 = .ok (.iload_n 2, 1) := by decide +kernel
theorem dX9_fromRow_133 : decode cX9_fromRow 133 = .ok (.invokevirtual 94, 3) := by decide +kernel
theorem dX9_fromRow_136 : decode cX9_fromRow 136 = .ok (.goto 35, 3) := by decide +kernel
theorem dX9_fromRow_139 : decode cX9_fromRow 139 = .ok (.aload_n 0, 1) := by decide +kernel
theorem dX9_fromRow_140 : decode cX9_fromRow 140 = .ok (.aload_n 3, 1) := by decide +kernel
theorem dX9_fromRow_141 : decode cX9_fromRow 141 = .ok (.iload_n 2, 1) := by decide +kernel
theorem dX9_fromRow_142 : decode cX9_fromRow 142 = .ok (.invokevirtual 97, 3) := by decide +kernel
theorem dX9_fromRow_145 : decode cX9_fromRow 145 = .ok (.goto 26, 3) := by decide +kernel
theorem dX9_fromRow_148 : decode cX9_fromRow 148 = .ok (.aload_n 0, 1) := by decide +kernel
theorem dX9_fromRow_149 : decode cX9_fromRow 149 = .ok (.aload_n 3, 1) := by decide +kernel
theorem dX9_fromRow_150 : decode cX9_fromRow 150 = .ok (.iload_n 2, 1) := by decide +kernel
theorem dX9_fromRow_151 : decode cX9_fromRow 151 = .ok (.aload_n 1, 1) := by decide +kernel
theorem dX9_fromRow_152 : decode cX9_fromRow 152 = .ok (.getfield 53, 3) := by decide +kernel
theorem dX9_fromRow_155 : decode cX9_fromRow 155 = .ok (.invokevirtual 100, 3) := by decide +kernel
theorem dX9_fromRow_158 : decode cX9_fromRow 158 = .ok (.goto 13, 3) := by decide +kernel
theorem dX9_fromRow_161 : decode cX9_fromRow 161 = .ok (.aload_n 0, 1) := by decide +kernel
theorem dX9_fromRow_162 : decode cX9_fromRow 162 = .ok (.aload_n 3, 1) := by decide +kernel
theorem dX9_fromRow_163 : decode cX9_fromRow 163 = .ok (.iload_n 2, 1) := by decide +kernel
theorem dX9_fromRow_164 : decode cX9_fromRow 164 = .ok (.aload_n 1, 1) := by decide +kernel
theorem dX9_fromRow_165 : decode cX9_fromRow 165 = .ok (.getfield 75, 3) := by decide +kernel
theorem dX9_fromRow_168 : decode cX9_fromRow 168 = .ok (.invokevirtual 103, 3) := by decide +kernel
theorem dX9_fromRow_171 : decode cX9_fromRow 171 = .ok (.return_, 1) := by decide +kernel
theorem dX9_keep_0 : decode cX9_keep 0 = .ok (.aload_n 0, 1) := by decide +kernel
theorem dX9_keep_1 : decode cX9_keep 1 = .ok (.getfield 14, 3) := by decide +kernel
theorem dX9_keep_4 : decode cX9_keep 4 = .ok (.iload_n 2, 1) := by decide +kernel
theorem dX9_keep_5 : decode cX9_keep 5 = .ok (.invokevirtual 45, 3) := by decide +kernel
theorem dX9_keep_8 : decode cX9_keep 8 = .ok (.ifCond .ne 33, 3) := by decide +kernel
theorem dX9_keep_11 : decode cX9_keep 11 = .ok (.iload_n 3, 1) := by decide +kernel
theorem dX9_keep_12 : decode cX9_keep 12 = .ok (.aload_n 0, 1) := by decide +kernel
theorem dX9_keep_13 : decode cX9_keep 13 = .ok (.getfield 14, 3) := by decide +kernel
theorem dX9_keep_16 : decode cX9_keep 16 = .ok (.iload_n 2, 1) := by decide +kernel
theorem dX9_keep_17 : decode cX9_keep 17 = .ok (.aload_n 0, 1) := by decide +kernel
theorem dX9_keep_18 : decode cX9_keep 18 = .ok (.getfield 20, 3) := by decide +kernel
theorem dX9_keep_21 : decode cX9_keep 21 = .ok (.iload_n 2, 1) := by decide +kernel
theorem dX9_keep_22 : decode cX9_keep 22 = .ok (.invokestatic 106, 3) := by decide +kernel
theorem dX9_keep_25 : decode cX9_keep 25 = .ok (.ifCond .eq 16, 3) := by decide +kernel
theorem dX9_keep_28 : decode cX9_keep 28 = .ok (.aload_n 1, 1) := by decide +kernel
theorem dX9_keep_29 : decode cX9_keep 29 = .ok (.iload_n 2, 1) := by decide +kernel
theorem dX9_keep_30 : decode cX9_keep 30 = .ok (.aload_n 0, 1) := by decide +kernel
theorem dX9_keep_31 : decode cX9_keep 31 = .ok (.getfield 14, 3) := by decide +kernel
theorem dX9_keep_34 : decode cX9_keep 34 = .ok (.iload_n 2, 1) := by decide +kernel
theorem dX9_keep_35 : decode cX9_keep 35 = .ok (.invokevirtual 49, 3) := by decide +kernel
theorem dX9_keep_38 : decode cX9_keep 38 = .ok (.invokevirtual 63, 3) := by decide +kernel
theorem dX9_keep_41 : decode cX9_keep 41 = .ok (.return_, 1) := by decide +kernel
theorem dX9_middle_0 : decode cX9_middle 0 = .ok (.iload_n 2, 1) := by decide +kernel
theorem dX9_middle_1 : decode cX9_middle 1 = .ok (.iconst 1, 1) := by decide +kernel
theorem dX9_middle_2 : decode cX9_middle 2 = .ok (.if_icmp .lt 11, 3) := by decide +kernel
theorem dX9_middle_5 : decode cX9_middle 5 = .ok (.iload_n 2, 1) := by decide +kernel
theorem dX9_middle_6 : decode cX9_middle 6 = .ok (.iconst 1, 1) := by decide +kernel
theorem dX9_middle_7 : decode cX9_middle 7 = .ok (.iadd, 1) := by decide +kernel
theorem dX9_middle_8 : decode cX9_middle 8 = .ok (.bipush 16, 2) := by decide +kernel
theorem dX9_middle_10 : decode cX9_middle 10 = .ok (.if_icmp .lt 4, 3) := by decide +kernel
theorem dX9_middle_13 : decode cX9_middle 13 = .ok (.return_, 1) := by decide +kernel
theorem dX9_middle_14 : decode cX9_middle 14 = .ok (.aload_n 0, 1) := by decide +kernel
theorem dX9_middle_15 : decode cX9_middle 15 = .ok (.getfield 14, 3) := by decide +kernel
theorem dX9_middle_18 : decode cX9_middle 18 = .ok (.iload_n 2, 1) := by decide +kernel
theorem dX9_middle_19 : decode cX9_middle 19 = .ok (.iconst 1, 1) := by decide +kernel
theorem dX9_middle_20 : decode cX9_middle 20 = .ok (.isub, 1) := by decide +kernel
theorem dX9_middle_21 : decode cX9_middle 21 = .ok (.invokevirtual 45, 3) := by decide +kernel
theorem dX9_middle_24 : decode cX9_middle 24 = .ok (.ifCond .ne 27, 3) := by decide +kernel
theorem dX9_middle_27 : decode cX9_middle 27 = .ok (.aload_n 0, 1) := by decide +kernel
theorem dX9_middle_28 : decode cX9_middle 28 = .ok (.getfield 14, 3) := by decide +kernel
theorem dX9_middle_31 : decode cX9_middle 31 = .ok (.iload_n 2, 1) := by decide +kernel
theorem dX9_middle_32 : decode cX9_middle 32 = .ok (.invokevirtual 45, 3) := by decide +kernel
theorem dX9_middle_35 : decode cX9_middle 35 = .ok (.ifCond .ne 16, 3) := by decide +kernel
theorem dX9_middle_38 : decode cX9_middle 38 = .ok (.aload_n 0, 1) := by decide +kernel
theorem dX9_middle_39 : decode cX9_middle 39 = .ok (.getfield 14, 3) := by decide +kernel
theorem dX9_middle_42 : decode cX9_middle 42 = .ok (.iload_n 2, 1) := by decide +kernel
theorem dX9_middle_43 : decode cX9_middle 43 = .ok (.iconst 1, 1) := by decide +kernel
theorem dX9_middle_44 : decode cX9_middle 44 = .ok (.iadd, 1) := by decide +kernel
theorem dX9_middle_45 : decode cX9_middle 45 = .ok (.invokevirtual 45, 3) := by decide +kernel
theorem dX9_middle_48 : decode cX9_middle 48 = .ok (.ifCond .eq 4, 3) := by decide +kernel
theorem dX9_middle_51 : decode cX9_middle 51 = .ok (.return_, 1) := by decide +kernel
theorem dX9_middle_52 : decode cX9_middle 52 = .ok (.aload_n 0, 1) := by decide +kernel
theorem dX9_middle_53 : decode cX9_middle 53 = .ok (.getfield 14, 3) := by decide +kernel
theorem dX9_middle_56 : decode cX9_middle 56 = .ok (.iload_n 2, 1) := by decide +kernel
theorem dX9_middle_57 : decode cX9_middle 57 = .ok (.iconst 1, 1) := by decide +kernel
theorem dX9_middle_58 : decode cX9_middle 58 = .ok (.isub, 1) := by decide +kernel
theorem dX9_middle_59 : decode cX9_middle 59 = .ok (.invokevirtual 49, 3) := by decide +kernel
theorem dX9_middle_62 : decode cX9_middle 62 = .ok (.dstore_n 3, 1) := by decide +kernel
theorem dX9_middle_63 : decode cX9_middle 63 = .ok (.aload_n 0, 1) := by decide +kernel
theorem dX9_middle_64 : decode cX9_middle 64 = .ok (.getfield 14, 3) := by decide +kernel
theorem dX9_middle_67 : decode cX9_middle 67 = .ok (.iload_n 2, 1) := by decide +kernel
theorem dX9_middle_68 : decode cX9_middle 68 = .ok (.invokevirtual 49, 3) := by decide +kernel
theorem dX9_middle_71 : decode cX9_middle 71 = .ok (.dstore 5, 2) := by decide +kernel
theorem dX9_middle_73 : decode cX9_middle 73 = .ok (.dload_n 3, 1) := by decide +kernel
theorem dX9_middle_74 : decode cX9_middle 74 = .ok (.dload 5, 2) := by decide +kernel
theorem dX9_middle_76 : decode cX9_middle 76 = .ok (.invokestatic 112, 3) := by decide +kernel
theorem dX9_middle_79 : decode cX9_middle 79 = .ok (.dstore 7, 2) := by decide +kernel
theorem dX9_middle_81 : decode cX9_middle 81 = .ok (.dload_n 3, 1) := by decide +kernel
theorem dX9_middle_82 : decode cX9_middle 82 = .ok (.dload 5, 2) := by decide +kernel
theorem dX9_middle_84 : decode cX9_middle 84 = .ok (.invokestatic 116, 3) := by decide +kernel
theorem dX9_middle_87 : decode cX9_middle 87 = .ok (.dstore 9, 2) := by decide +kernel
theorem dX9_middle_89 : decode cX9_middle 89 = .ok (.aload_n 1, 1) := by decide +kernel
theorem dX9_middle_90 : decode cX9_middle 90 = .ok (.iload_n 2, 1) := by decide +kernel
theorem dX9_middle_91 : decode cX9_middle 91 = .ok (.dload 7, 2) := by decide +kernel
theorem dX9_middle_93 : decode cX9_middle 93 = .ok (.dload 9, 2) := by decide +kernel
theorem dX9_middle_95 : decode cX9_middle 95 = .ok (.aload_n 0, 1) := by decide +kernel
theorem dX9_middle_96 : decode cX9_middle 96 = .ok (.getfield 14, 3) := by decide +kernel
theorem dX9_middle_99 : decode cX9_middle 99 = .ok (.iload_n 2, 1) := by decide +kernel
theorem dX9_middle_100 : decode cX9_middle 100 = .ok (.iconst 1, 1) := by decide +kernel
theorem dX9_middle_101 : decode cX9_middle 101 = .ok (.iadd, 1) := by decide +kernel
theorem dX9_middle_102 : decode cX9_middle 102 = .ok (.invokevirtual 49, 3) := by decide +kernel
theorem dX9_middle_105 : decode cX9_middle 105 = .ok (.invokestatic 112, 3) := by decide +kernel
theorem dX9_middle_108 : decode cX9_middle 108 = .ok (.invokestatic 116, 3) := by decide +kernel
theorem dX9_middle_111 : decode cX9_middle 111 = .ok (.invokevirtual 63, 3) := by decide +kernel
theorem dX9_middle_114 : decode cX9_middle 114 = .ok (.return_, 1) := by decide +kernel
theorem dX9_extreme_0 : decode cX9_extreme 0 = .ok (.iload_n 2, 1) := by decide +kernel
theorem dX9_extreme_1 : decode cX9_extreme 1 = .ok (.ifCond .le 13, 3) := by decide +kernel
theorem dX9_extreme_4 : decode cX9_extreme 4 = .ok (.aload_n 1, 1) := by decide +kernel
theorem dX9_extreme_5 : decode cX9_extreme 5 = .ok (.iload_n 2, 1) := by decide +kernel
theorem dX9_extreme_6 : decode cX9_extreme 6 = .ok (.aload_n 1, 1) := by decide +kernel
theorem dX9_extreme_7 : decode cX9_extreme 7 = .ok (.iload_n 2, 1) := by decide +kernel
theorem dX9_extreme_8 : decode cX9_extreme 8 = .ok (.iconst 1, 1) := by decide +kernel
theorem dX9_extreme_9 : decode cX9_extreme 9 = .ok (.isub, 1) := by decide +kernel
theorem dX9_extreme_10 : decode cX9_extreme 10 = .ok (.iconst 0, 1) := by decide +kernel
theorem dX9_extreme_11 : decode cX9_extreme 11 = .ok (.invokevirtual 82, 3) := by decide +kernel
theorem dX9_extreme_14 : decode cX9_extreme 14 = .ok (.aload_n 0, 1) := by decide +kernel
theorem dX9_extreme_15 : decode cX9_extreme 15 = .ok (.getfield 14, 3) := by decide +kernel
theorem dX9_extreme_18 : decode cX9_extreme 18 = .ok (.iload_n 2, 1) := by decide +kernel
theorem dX9_extreme_19 : decode cX9_extreme 19 = .ok (.invokevirtual 45, 3) := by decide +kernel
theorem dX9_extreme_22 : decode cX9_extreme 22 = .ok (.ifCond .eq 4, 3) := by decide +kernel
theorem dX9_extreme_25 : decode cX9_extreme 25 = .ok (.return_, 1) := by decide +kernel
theorem dX9_extreme_26 : decode cX9_extreme 26 = .ok (.aload_n 0, 1) := by decide +kernel
theorem dX9_extreme_27 : decode cX9_extreme 27 = .ok (.getfield 14, 3) := by decide +kernel
theorem dX9_extreme_30 : decode cX9_extreme 30 = .ok (.iload_n 2, 1) := by decide +kernel
theorem dX9_extreme_31 : decode cX9_extreme 31 = .ok (.invokevirtual 49, 3) := by decide +kernel
theorem dX9_extreme_34 : decode cX9_extreme 34 = .ok (.dstore 4, 2) := by decide +kernel
theorem dX9_extreme_36 : decode cX9_extreme 36 = .ok (.aload_n 1, 1) := by decide +kernel
theorem dX9_extreme_37 : decode cX9_extreme 37 = .ok (.iload_n 2, 1) := by decide +kernel
theorem dX9_extreme_38 : decode cX9_extreme 38 = .ok (.invokevirtual 45, 3) := by decide +kernel
theorem dX9_extreme_41 : decode cX9_extreme 41 = .ok (.ifCond .eq 13, 3) := by decide +kernel
theorem dX9_extreme_44 : decode cX9_extreme 44 = .ok (.aload_n 1, 1) := by decide +kernel
theorem dX9_extreme_45 : decode cX9_extreme 45 = .ok (.iload_n 2, 1) := by decide +kernel
theorem dX9_extreme_46 : decode cX9_extreme 46 = .ok (.dload 4, 2) := by decide +kernel
theorem dX9_extreme_48 : decode cX9_extreme 48 = .ok (.invokevirtual 63, 3) := by decide +kernel
theorem dX9_extreme_51 : decode cX9_extreme 51 = .ok (.goto 40, 3) := by decide +kernel
theorem dX9_extreme_54 : decode cX9_extreme 54 = .ok (.iload_n 3, 1) := by decide +kernel
theorem dX9_extreme_55 : decode cX9_extreme 55 = .ok (.ifCond .eq 21, 3) := by decide +kernel
theorem dX9_extreme_58 : decode cX9_extreme 58 = .ok (.aload_n 1, 1) := by decide +kernel
theorem dX9_extreme_59 : decode cX9_extreme 59 = .ok (.iload_n 2, 1) := by decide +kernel
theorem dX9_extreme_60 : decode cX9_extreme 60 = .ok (.aload_n 1, 1) := by decide +kernel
theorem dX9_extreme_61 : decode cX9_extreme 61 = .ok (.iload_n 2, 1) := by decide +kernel
theorem dX9_extreme_62 : decode cX9_extreme 62 = .ok (.invokevirtual 49, 3) := by decide +kernel
theorem dX9_extreme_65 : decode cX9_extreme 65 = .ok (.dload 4, 2) := by decide +kernel
theorem dX9_extreme_67 : decode cX9_extreme 67 = .ok (.invokestatic 116, 3) := by decide +kernel
theorem dX9_extreme_70 : decode cX9_extreme 70 = .ok (.invokevirtual 63, 3) := by decide +kernel
theorem dX9_extreme_73 : decode cX9_extreme 73 = .ok (.goto 18, 3) := by decide +kernel
theorem dX9_extreme_76 : decode cX9_extreme 76 = .ok (.aload_n 1, 1) := by decide +kernel
theorem dX9_extreme_77 : decode cX9_extreme 77 = .ok (.iload_n 2, 1) := by decide +kernel
theorem dX9_extreme_78 : decode cX9_extreme 78 = .ok (.aload_n 1, 1) := by decide +kernel
theorem dX9_extreme_79 : decode cX9_extreme 79 = .ok (.iload_n 2, 1) := by decide +kernel
theorem dX9_extreme_80 : decode cX9_extreme 80 = .ok (.invokevirtual 49, 3) := by decide +kernel
theorem dX9_extreme_83 : decode cX9_extreme 83 = .ok (.dload 4, 2) := by decide +kernel
theorem dX9_extreme_85 : decode cX9_extreme 85 = .ok (.invokestatic 112, 3) := by decide +kernel
theorem dX9_extreme_88 : decode cX9_extreme 88 = .ok (.invokevirtual 63, 3) := by decide +kernel
theorem dX9_extreme_91 : decode cX9_extreme 91 = .ok (.return_, 1) := by decide +kernel
theorem dX9_insert_0 : decode cX9_insert 0 = .ok (.aload_n 0, 1) := by decide +kernel
theorem dX9_insert_1 : decode cX9_insert 1 = .ok (.getfield 14, 3) := by decide +kernel
theorem dX9_insert_4 : decode cX9_insert 4 = .ok (.iload_n 2, 1) := by decide +kernel
theorem dX9_insert_5 : decode cX9_insert 5 = .ok (.invokevirtual 45, 3) := by decide +kernel
theorem dX9_insert_8 : decode cX9_insert 8 = .ok (.ifCond .eq 4, 3) := by decide +kernel
theorem dX9_insert_11 : decode cX9_insert 11 = .ok (.return_, 1) := by decide +kernel
theorem dX9_insert_12 : decode cX9_insert 12 = .ok (.aload_n 0, 1) := by decide +kernel
theorem dX9_insert_13 : decode cX9_insert 13 = .ok (.getfield 14, 3) := by decide +kernel
theorem dX9_insert_16 : decode cX9_insert 16 = .ok (.iload_n 2, 1) := by decide +kernel
theorem dX9_insert_17 : decode cX9_insert 17 = .ok (.invokevirtual 49, 3) := by decide +kernel
theorem dX9_insert_20 : decode cX9_insert 20 = .ok (.dstore_n 3, 1) := by decide +kernel
theorem dX9_insert_21 : decode cX9_insert 21 = .ok (.iload_n 2, 1) := by decide +kernel
theorem dX9_insert_22 : decode cX9_insert 22 = .ok (.istore 5, 2) := by decide +kernel
theorem dX9_insert_24 : decode cX9_insert 24 = .ok (.iload 5, 2) := by decide +kernel
theorem dX9_insert_26 : decode cX9_insert 26 = .ok (.ifCond .le 47, 3) := by decide +kernel
theorem dX9_insert_29 : decode cX9_insert 29 = .ok (.aload_n 1, 1) := by decide +kernel
theorem dX9_insert_30 : decode cX9_insert 30 = .ok (.iload 5, 2) := by decide +kernel
theorem dX9_insert_32 : decode cX9_insert 32 = .ok (.iconst 1, 1) := by decide +kernel
theorem dX9_insert_33 : decode cX9_insert 33 = .ok (.isub, 1) := by decide +kernel
theorem dX9_insert_34 : decode cX9_insert 34 = .ok (.invokevirtual 45, 3) := by decide +kernel
theorem dX9_insert_37 : decode cX9_insert 37 = .ok (.ifCond .ne 18, 3) := by decide +kernel
