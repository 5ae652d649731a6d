def gX1_behindSign_169 (x0 : UInt64) (x1 : Int32) (v5 : UInt64) (v7 : UInt64) (s0 : Int32) (s1 : Int32) : Option Int64 := if FP.dIsNaN (FP.dsub v7 FP.dconst1) = false then (if FP.dIsNaN (FP.dmul (FP.dsub v7 FP.dconst1) v5) = false then (if x1 = 0 then (some ((((s1 + s0).toInt64) <<< ((52 : Int32).toInt64 &&& 63)) + (FP.d2l (FP.dmul (FP.dsub v7 FP.dconst1) v5)))) else (some ((((s1 + s0).toInt64) <<< ((23 : Int32).toInt64 &&& 63)) + (FP.d2l (FP.dmul (FP.dsub v7 FP.dconst1) v5))))) else none) else none
def gX1_behindSign_155 (x0 : UInt64) (x1 : Int32) (v5 : UInt64) (v7 : UInt64) (v9 : Int32) : Option Int64 := if x1 = 0 then (gX1_behindSign_169 x0 x1 v5 v7 (1023 : Int32) v9) else (gX1_behindSign_169 x0 x1 v5 v7 (127 : Int32) v9)
def gX1_behindSign_122 (x0 : UInt64) (x1 : Int32) (k122 : UInt64 → UInt64 → Int32 → Int32 → Option Int64) (v5 : UInt64) (v7 : UInt64) (v9 : Int32) (v10 : Int32) : Option Int64 := if (32 : Int32) ≤ v10 then (gX1_behindSign_155 x0 x1 v5 v7 v9) else (if (Op.cmpValue (FP.dcmp v7 (4611686018427387904 : UInt64)) CmpOp.l) < 0 then (gX1_behindSign_155 x0 x1 v5 v7 v9) else (if FP.dIsNaN (FP.dmul v7 (4602678819172646912 : UInt64)) = false then (k122 v5 (FP.dmul v7 (4602678819172646912 : UInt64)) (v9 + (1 : Int32)) (v10 + (1 : Int32))) else none))
def gX1_behindSign_119 (x0 : UInt64) (x1 : Int32) (v5 : UInt64) (v7 : UInt64) (v9 : Int32) : Option Int64 := lq4 (gX1_behindSign_122 x0 x1) 40 v5 v7 v9 (0 : Int32)
def gX1_behindSign_88 (x0 : UInt64) (x1 : Int32) (k88 : UInt64 → UInt64 → Int32 → Int32 → Option Int64) (v5 : UInt64) (v7 : UInt64) (v9 : Int32) (v10 : Int32) : Option Int64 := if (32 : Int32) ≤ v10 then (gX1_behindSign_119 x0 x1 v5 v7 v9) else (if 0 ≤ (Op.cmpValue (FP.dcmp v7 FP.dconst1) CmpOp.g) then (gX1_behindSign_119 x0 x1 v5 v7 v9) else (if FP.dIsNaN (FP.dmul v7 (4751297606875873280 : UInt64)) = false then (k88 v5 (FP.dmul v7 (4751297606875873280 : UInt64)) (v9 + (-32 : Int32)) (v10 + (1 : Int32))) else none))
def gX1_behindSign_85 (x0 : UInt64) (x1 : Int32) (v5 : UInt64) (v7 : UInt64) (v9 : Int32) : Option Int64 := lq4 (gX1_behindSign_88 x0 x1) 40 v5 v7 v9 (0 : Int32)
def gX1_behindSign_52 (x0 : UInt64) (x1 : Int32) (k52 : UInt64 → UInt64 → Int32 → Int32 → Option Int64) (v5 : UInt64) (v7 : UInt64) (v9 : Int32) (v10 : Int32) : Option Int64 := if (32 : Int32) ≤ v10 then (gX1_behindSign_85 x0 x1 v5 v7 v9) else (if (Op.cmpValue (FP.dcmp v7 (4751297606875873280 : UInt64)) CmpOp.l) < 0 then (gX1_behindSign_85 x0 x1 v5 v7 v9) else (if FP.dIsNaN (FP.dmul v7 (4463067230724161536 : UInt64)) = false then (k52 v5 (FP.dmul v7 (4463067230724161536 : UInt64)) (v9 + (32 : Int32)) (v10 + (1 : Int32))) else none))
def gX1_behindSign_27 (x0 : UInt64) (x1 : Int32) (v3 : UInt64) (s0 : UInt64) : Option Int64 := if 0 ≤ (Op.cmpValue (FP.dcmp x0 v3) CmpOp.g) then (lq4 (gX1_behindSign_52 x0 x1) 40 s0 x0 (0 : Int32) (0 : Int32)) else (if FP.dIsNaN (FP.ddiv x0 v3) = false then (if FP.dIsNaN (FP.dmul (FP.ddiv x0 v3) s0) = false then (some (FP.d2l (FP.dmul (FP.ddiv x0 v3) s0))) else none) else none)
def gX1_behindSign_13 (x0 : UInt64) (x1 : Int32) (s0 : UInt64) : Option Int64 := if x1 = 0 then (gX1_behindSign_27 x0 x1 s0 (4841369599423283200 : UInt64)) else (gX1_behindSign_27 x0 x1 s0 (4710765210229538816 : UInt64))
def gX1_behindSign (x0 : UInt64) (x1 : Int32) : Option Int64 := if x1 = 0 then (gX1_behindSign_13 x0 x1 (4503599627370496 : UInt64)) else (gX1_behindSign_13 x0 x1 (4039728865751334912 : UInt64))
theorem hd_X1_behindSign : yX1_behindSign.cls ≠ "java/lang/invoke/MethodHandle" ∧ yX1_behindSign.cls ≠ "java/lang/invoke/VarHandle" ∧ (parseMethodDescriptor yX1_behindSign.desc).map (fun d => d.parameters.length) = some 2 := by decide +kernel
set_option maxHeartbeats 4000000 in
set_option maxRecDepth 100000 in
theorem tX1_behindSign {G : GG} {l : Launch} {z N : Nat} {ct : Nat → va_E} (x0 : UInt64) (x1 : Int32) {r : Int64} (hg : gX1_behindSign x0 x1 = some r) : Ct G l yX1_behindSign cX1_behindSign 14 (some .long) ({ frames := 0, cells := 0, slots := 0, locals := 0 } : Room) [.double x0, .int x1] z ct N (some (.long r)) ct N := by
  refine Ct.of (lv := [(0, .double x0), (2, .int x1)]) (by decide +kernel) (Nat.le_of_ble_eq_true rfl) rfl (fun p e s m args below meth c C => ?_)
  have L_169 : ∀ (v5 : UInt64) (v7 : UInt64) (s0 : Int32) (s1 : Int32), gX1_behindSign_169 x0 x1 v5 v7 s0 s1 = some r → J G p l e ({ frames := 0, cells := 0, slots := 0, locals := 0 } : Room) s m args below meth c z 14 (MQ below (Qd G z (some (.long r)) ct N) args s 0 0 (zA z)) ct N 0 0 169 [(2, .int x1), (5, .double v5), (7, .double v7)] [.int s0, .int s1] := by
    intro v5 v7 s0 s1 hg
    rw [gX1_behindSign_169] at hg
    refine j_iadd C dX1_behindSign_169 ?_
    refine j_i2l C dX1_behindSign_170 ?_
    refine j_lstore C [(10, .long ((s1 + s0).toInt64)), (2, .int x1), (5, .double v5), (7, .double v7)] dX1_behindSign_171 (by decide) rfl ?_
    refine j_dload C dX1_behindSign_173 3 rfl ?_
    refine j_dconst1 C dX1_behindSign_175 ?_
    refine j_dsub C hg dX1_behindSign_176 (fun hg => ?_)
    refine j_dload C dX1_behindSign_177 2 rfl ?_
    refine j_dmul C hg dX1_behindSign_179 (fun hg => ?_)
    refine j_d2l C dX1_behindSign_180 ?_
    refine j_lstore C [(12, .long (FP.d2l (FP.dmul (FP.dsub v7 FP.dconst1) v5))), (10, .long ((s1 + s0).toInt64)), (2, .int x1), (5, .double v5), (7, .double v7)] dX1_behindSign_181 (by decide) rfl ?_
    refine j_lload C dX1_behindSign_183 1 rfl ?_
    refine j_iload_n C dX1_behindSign_185 2 rfl rfl ?_
    refine j_if_eq C 194 hg dX1_behindSign_186 (by decide) (fun hg => ?_) (fun hg => ?_)
    · refine j_bipush (v := 52) C dX1_behindSign_194 (by decide) ?_
      refine j_lshl C dX1_behindSign_196 ?_
      refine j_lload C dX1_behindSign_197 0 rfl ?_
      refine j_ladd C dX1_behindSign_199 ?_
      exact j_lret C dX1_behindSign_200 (by rw [← Option.some.inj hg]) rfl rfl
    · refine j_bipush (v := 23) C dX1_behindSign_189 (by decide) ?_
      refine j_goto C 196 dX1_behindSign_191 (by decide) ?_
      refine j_lshl C dX1_behindSign_196 ?_
      refine j_lload C dX1_behindSign_197 0 rfl ?_
      refine j_ladd C dX1_behindSign_199 ?_
      exact j_lret C dX1_behindSign_200 (by rw [← Option.some.inj hg]) rfl rfl
  have L_155 : ∀ (v5 : UInt64) (v7 : UInt64) (v9 : Int32), gX1_behindSign_155 x0 x1 v5 v7 v9 = some r → J G p l e ({ frames := 0, cells := 0, slots := 0, locals := 0 } : Room) s m args below meth c z 14 (MQ below (Qd G z (some (.long r)) ct N) args s 0 0 (zA z)) ct N 0 0 155 [(2, .int x1), (5, .double v5), (7, .double v7), (9, .int v9)] [] := by
    intro v5 v7 v9 hg
    rw [gX1_behindSign_155] at hg
    refine j_iload C dX1_behindSign_155 3 rfl ?_
    refine j_iload_n C dX1_behindSign_157 0 rfl rfl ?_
    refine j_if_eq C 166 hg dX1_behindSign_158 (by decide) (fun hg => ?_) (fun hg => ?_)
    · refine j_sipush (v := 1023) C dX1_behindSign_166 (by decide) ?_
      exact j_re [0, 1, 2] rfl (L_169 v5 v7 (1023 : Int32) v9 hg)
    · refine j_bipush (v := 127) C dX1_behindSign_161 (by decide) ?_
      refine j_goto C 169 dX1_behindSign_163 (by decide) ?_
      exact j_re [0, 1, 2] rfl (L_169 v5 v7 (127 : Int32) v9 hg)
  have L_122 : ∀ (n122 : Nat) (v5 : UInt64) (v7 : UInt64) (v9 : Int32) (v10 : Int32), lq4 (gX1_behindSign_122 x0 x1) n122 v5 v7 v9 v10 = some r → J G p l e ({ frames := 0, cells := 0, slots := 0, locals := 0 } : Room) s m args below meth c z 14 (MQ below (Qd G z (some (.long r)) ct N) args s 0 0 (zA z)) ct N 0 0 122 [(2, .int x1), (5, .double v5), (7, .double v7), (9, .int v9), (10, .int v10)] [] := by
    intro n122
    induction n122 with
    | zero => intro v5 v7 v9 v10 hg; cases hg
    | succ n122 ih122 =>
      intro v5 v7 v9 v10 hg
      replace hg : gX1_behindSign_122 x0 x1 (lq4 (gX1_behindSign_122 x0 x1) n122) v5 v7 v9 v10 = some r := hg
      rw [gX1_behindSign_122] at hg
      refine j_iload C dX1_behindSign_122 4 rfl ?_
      refine j_bipush (v := 32) C dX1_behindSign_124 (by decide) ?_
      refine j_icmp_ge C 155 hg dX1_behindSign_126 (by decide) (fun hg => ?_) (fun hg => ?_)
      · exact j_re [0, 1, 2, 3] rfl (L_155 v5 v7 v9 hg)
      · refine j_dload C dX1_behindSign_129 2 rfl ?_
        refine j_ldc2d C q2_161 dX1_behindSign_131 ?_
        refine j_dcmp C dX1_behindSign_134 ?_
        refine j_if_lt C 155 hg dX1_behindSign_135 (by decide) (fun hg => ?_) (fun hg => ?_)
        · exact j_re [0, 1, 2, 3] rfl (L_155 v5 v7 v9 hg)
        · refine j_dload C dX1_behindSign_138 2 rfl ?_
          refine j_ldc2d C q2_162 dX1_behindSign_140 ?_
          refine j_dmul C hg dX1_behindSign_143 (fun hg => ?_)
          refine j_dstore C [(7, .double (FP.dmul v7 (4602678819172646912 : UInt64))), (2, .int x1), (5, .double v5), (9, .int v9), (10, .int v10)] dX1_behindSign_144 (by decide) rfl ?_
          refine j_iinc C [(9, .int (v9 + (1 : Int32))), (7, .double (FP.dmul v7 (4602678819172646912 : UInt64))), (2, .int x1), (5, .double v5), (10, .int v10)] dX1_behindSign_146 3 rfl rfl (by decide) rfl ?_
          refine j_iinc C [(10, .int (v10 + (1 : Int32))), (9, .int (v9 + (1 : Int32))), (7, .double (FP.dmul v7 (4602678819172646912 : UInt64))), (2, .int x1), (5, .double v5)] dX1_behindSign_149 4 rfl rfl (by decide) rfl ?_
          refine j_goto C 122 dX1_behindSign_152 (by decide) ?_
          exact j_re [3, 4, 2, 1, 0] rfl (ih122 v5 (FP.dmul v7 (4602678819172646912 : UInt64)) (v9 + (1 : Int32)) (v10 + (1 : Int32)) hg)
  have L_119 : ∀ (v5 : UInt64) (v7 : UInt64) (v9 : Int32), gX1_behindSign_119 x0 x1 v5 v7 v9 = some r → J G p l e ({ frames := 0, cells := 0, slots := 0, locals := 0 } : Room) s m args below meth c z 14 (MQ below (Qd G z (some (.long r)) ct N) args s 0 0 (zA z)) ct N 0 0 119 [(2, .int x1), (5, .double v5), (7, .double v7), (9, .int v9)] [] := by
    intro v5 v7 v9 hg
    rw [gX1_behindSign_119] at hg
    refine j_iconst (v := 0) C dX1_behindSign_119 (by decide) ?_
    refine j_istore C [(10, .int (0 : Int32)), (2, .int x1), (5, .double v5), (7, .double v7), (9, .int v9)] dX1_behindSign_120 (by decide) rfl ?_
    exact j_re [1, 2, 3, 4, 0] rfl (L_122 40 v5 v7 v9 (0 : Int32) hg)
  have L_88 : ∀ (n88 : Nat) (v5 : UInt64) (v7 : UInt64) (v9 : Int32) (v10 : Int32), lq4 (gX1_behindSign_88 x0 x1) n88 v5 v7 v9 v10 = some r → J G p l e ({ frames := 0, cells := 0, slots := 0, locals := 0 } : Room) s m args below meth c z 14 (MQ below (Qd G z (some (.long r)) ct N) args s 0 0 (zA z)) ct N 0 0 88 [(2, .int x1), (5, .double v5), (7, .double v7), (9, .int v9), (10, .int v10)] [] := by
    intro n88
    induction n88 with
    | zero => intro v5 v7 v9 v10 hg; cases hg
    | succ n88 ih88 =>
      intro v5 v7 v9 v10 hg
      replace hg : gX1_behindSign_88 x0 x1 (lq4 (gX1_behindSign_88 x0 x1) n88) v5 v7 v9 v10 = some r := hg
      rw [gX1_behindSign_88] at hg
      refine j_iload C dX1_behindSign_88 4 rfl ?_
      refine j_bipush (v := 32) C dX1_behindSign_90 (by decide) ?_
      refine j_icmp_ge C 119 hg dX1_behindSign_92 (by decide) (fun hg => ?_) (fun hg => ?_)
      · exact j_re [0, 1, 2, 3] rfl (L_119 v5 v7 v9 hg)
      · refine j_dload C dX1_behindSign_95 2 rfl ?_
        refine j_dconst1 C dX1_behindSign_97 ?_
        refine j_dcmp C dX1_behindSign_98 ?_
        refine j_if_ge C 119 hg dX1_behindSign_99 (by decide) (fun hg => ?_) (fun hg => ?_)
        · exact j_re [0, 1, 2, 3] rfl (L_119 v5 v7 v9 hg)
        · refine j_dload C dX1_behindSign_102 2 rfl ?_
          refine j_ldc2d C q2_159 dX1_behindSign_104 ?_
          refine j_dmul C hg dX1_behindSign_107 (fun hg => ?_)
          refine j_dstore C [(7, .double (FP.dmul v7 (4751297606875873280 : UInt64))), (2, .int x1), (5, .double v5), (9, .int v9), (10, .int v10)] dX1_behindSign_108 (by decide) rfl ?_
          refine j_iinc C [(9, .int (v9 + (-32 : Int32))), (7, .double (FP.dmul v7 (4751297606875873280 : UInt64))), (2, .int x1), (5, .double v5), (10, .int v10)] dX1_behindSign_110 3 rfl rfl (by decide) rfl ?_
          refine j_iinc C [(10, .int (v10 + (1 : Int32))), (9, .int (v9 + (-32 : Int32))), (7, .double (FP.dmul v7 (4751297606875873280 : UInt64))), (2, .int x1), (5, .double v5)] dX1_behindSign_113 4 rfl rfl (by decide) rfl ?_
          refine j_goto C 88 dX1_behindSign_116 (by decide) ?_
          exact j_re [3, 4, 2, 1, 0] rfl (ih88 v5 (FP.dmul v7 (4751297606875873280 : UInt64)) (v9 + (-32 : Int32)) (v10 + (1 : Int32)) hg)
  have L_85 : ∀ (v5 : UInt64) (v7 : UInt64) (v9 : Int32), gX1_behindSign_85 x0 x1 v5 v7 v9 = some r → J G p l e ({ frames := 0, cells := 0, slots := 0, locals := 0 } : Room) s m args below meth c z 14 (MQ below (Qd G z (some (.long r)) ct N) args s 0 0 (zA z)) ct N 0 0 85 [(2, .int x1), (5, .double v5), (7, .double v7), (9, .int v9)] [] := by
    intro v5 v7 v9 hg
    rw [gX1_behindSign_85] at hg
    refine j_iconst (v := 0) C dX1_behindSign_85 (by decide) ?_
    refine j_istore C [(10, .int (0 : Int32)), (2, .int x1), (5, .double v5), (7, .double v7), (9, .int v9)] dX1_behindSign_86 (by decide) rfl ?_
    exact j_re [1, 2, 3, 4, 0] rfl (L_88 40 v5 v7 v9 (0 : Int32) hg)
  have L_52 : ∀ (n52 : Nat) (v5 : UInt64) (v7 : UInt64) (v9 : Int32) (v10 : Int32), lq4 (gX1_behindSign_52 x0 x1) n52 v5 v7 v9 v10 = some r → J G p l e ({ frames := 0, cells := 0, slots := 0, locals := 0 } : Room) s m args below meth c z 14 (MQ below (Qd G z (some (.long r)) ct N) args s 0 0 (zA z)) ct N 0 0 52 [(2, .int x1), (5, .double v5), (7, .double v7), (9, .int v9), (10, .int v10)] [] := by
    intro n52
    induction n52 with
    | zero => intro v5 v7 v9 v10 hg; cases hg
    | succ n52 ih52 =>
      intro v5 v7 v9 v10 hg
      replace hg : gX1_behindSign_52 x0 x1 (lq4 (gX1_behindSign_52 x0 x1) n52) v5 v7 v9 v10 = some r := hg
      rw [gX1_behindSign_52] at hg
      refine j_iload C dX1_behindSign_52 4 rfl ?_
      refine j_bipush (v := 32) C dX1_behindSign_54 (by decide) ?_
      refine j_icmp_ge C 85 hg dX1_behindSign_56 (by decide) (fun hg => ?_) (fun hg => ?_)
      · exact j_re [0, 1, 2, 3] rfl (L_85 v5 v7 v9 hg)
      · refine j_dload C dX1_behindSign_59 2 rfl ?_
        refine j_ldc2d C q2_159 dX1_behindSign_61 ?_
        refine j_dcmp C dX1_behindSign_64 ?_
        refine j_if_lt C 85 hg dX1_behindSign_65 (by decide) (fun hg => ?_) (fun hg => ?_)
        · exact j_re [0, 1, 2, 3] rfl (L_85 v5 v7 v9 hg)
        · refine j_dload C dX1_behindSign_68 2 rfl ?_
          refine j_ldc2d C q2_160 dX1_behindSign_70 ?_
          refine j_dmul C hg dX1_behindSign_73 (fun hg => ?_)
          refine j_dstore C [(7, .double (FP.dmul v7 (4463067230724161536 : UInt64))), (2, .int x1), (5, .double v5), (9, .int v9), (10, .int v10)] dX1_behindSign_74 (by decide) rfl ?_
          refine j_iinc C [(9, .int (v9 + (32 : Int32))), (7, .double (FP.dmul v7 (4463067230724161536 : UInt64))), (2, .int x1), (5, .double v5), (10, .int v10)] dX1_behindSign_76 3 rfl rfl (by decide) rfl ?_
          refine j_iinc C [(10, .int (v10 + (1 : Int32))), (9, .int (v9 + (32 : Int32))), (7, .double (FP.dmul v7 (4463067230724161536 : UInt64))), (2, .int x1), (5, .double v5)] dX1_behindSign_79 4 rfl rfl (by decide) rfl ?_
          refine j_goto C 52 dX1_behindSign_82 (by decide) ?_
          exact j_re [3, 4, 2, 1, 0] rfl (ih52 v5 (FP.dmul v7 (4463067230724161536 : UInt64)) (v9 + (32 : Int32)) (v10 + (1 : Int32)) hg)
  have L_27 : ∀ (v3 : UInt64) (s0 : UInt64), gX1_behindSign_27 x0 x1 v3 s0 = some r → J G p l e ({ frames := 0, cells := 0, slots := 0, locals := 0 } : Room) s m args below meth c z 14 (MQ below (Qd G z (some (.long r)) ct N) args s 0 0 (zA z)) ct N 0 0 27 [(0, .double x0), (2, .int x1), (3, .double v3)] [.double s0] := by
    intro v3 s0 hg
    rw [gX1_behindSign_27] at hg
    refine j_dstore C [(5, .double s0), (0, .double x0), (2, .int x1), (3, .double v3)] dX1_behindSign_27 (by decide) rfl ?_
    refine j_dload_n C dX1_behindSign_29 1 rfl rfl ?_
    refine j_dload_n C dX1_behindSign_30 3 rfl rfl ?_
    refine j_dcmp C dX1_behindSign_31 ?_
    refine j_if_ge C 43 hg dX1_behindSign_32 (by decide) (fun hg => ?_) (fun hg => ?_)
    · refine j_dload_n C dX1_behindSign_43 1 rfl rfl ?_
      refine j_dstore C [(7, .double x0), (5, .double s0), (0, .double x0), (2, .int x1), (3, .double v3)] dX1_behindSign_44 (by decide) rfl ?_
      refine j_iconst (v := 0) C dX1_behindSign_46 (by decide) ?_
      refine j_istore C [(9, .int (0 : Int32)), (7, .double x0), (5, .double s0), (0, .double x0), (2, .int x1), (3, .double v3)] dX1_behindSign_47 (by decide) rfl ?_
      refine j_iconst (v := 0) C dX1_behindSign_49 (by decide) ?_
      refine j_istore C [(10, .int (0 : Int32)), (9, .int (0 : Int32)), (7, .double x0), (5, .double s0), (0, .double x0), (2, .int x1), (3, .double v3)] dX1_behindSign_50 (by decide) rfl ?_
      exact j_re [5, 3, 2, 1, 0] rfl (L_52 40 s0 x0 (0 : Int32) (0 : Int32) hg)
    · refine j_dload_n C dX1_behindSign_35 1 rfl rfl ?_
      refine j_dload_n C dX1_behindSign_36 3 rfl rfl ?_
      refine j_ddiv C hg dX1_behindSign_37 (fun hg => ?_)
      refine j_dload C dX1_behindSign_38 0 rfl ?_
      refine j_dmul C hg dX1_behindSign_40 (fun hg => ?_)
      refine j_d2l C dX1_behindSign_41 ?_
      exact j_lret C dX1_behindSign_42 (by rw [← Option.some.inj hg]) rfl rfl
  have L_13 : ∀ (s0 : UInt64), gX1_behindSign_13 x0 x1 s0 = some r → J G p l e ({ frames := 0, cells := 0, slots := 0, locals := 0 } : Room) s m args below meth c z 14 (MQ below (Qd G z (some (.long r)) ct N) args s 0 0 (zA z)) ct N 0 0 13 [(0, .double x0), (2, .int x1)] [.double s0] := by
    intro s0 hg
    rw [gX1_behindSign_13] at hg
    refine j_dstore_n C [(3, .double s0), (0, .double x0), (2, .int x1)] dX1_behindSign_13 rfl (by decide) rfl ?_
    refine j_iload_n C dX1_behindSign_14 2 rfl rfl ?_
    refine j_if_eq C 24 hg dX1_behindSign_15 (by decide) (fun hg => ?_) (fun hg => ?_)
    · refine j_ldc2d C q2_158 dX1_behindSign_24 ?_
      exact j_re [1, 2, 0] rfl (L_27 s0 (4841369599423283200 : UInt64) hg)
    · refine j_ldc2d C q2_157 dX1_behindSign_18 ?_
      refine j_goto C 27 dX1_behindSign_21 (by decide) ?_
      exact j_re [1, 2, 0] rfl (L_27 s0 (4710765210229538816 : UInt64) hg)
  rw [gX1_behindSign] at hg
  refine j_iload_n C dX1_behindSign_0 1 rfl rfl ?_
  refine j_if_eq C 10 hg dX1_behindSign_1 (by decide) (fun hg => ?_) (fun hg => ?_)
  · refine j_ldc2d C q2_156 dX1_behindSign_10 ?_
    exact L_13 (4503599627370496 : UInt64) hg
  · refine j_ldc2d C q2_155 dX1_behindSign_4 ?_
    refine j_goto C 13 dX1_behindSign_7 (by decide) ?_
    exact L_13 (4039728865751334912 : UInt64) hg
