def gX6_remainder_97 (x0 : UInt64) (x1 : UInt64) (k97 : Int64 → Int32 → Int64 → Int32 → Option UInt64) (v12 : Int64) (v14 : Int32) (v15 : Int64) (v17 : Int32) : Option UInt64 := if v17 ≤ 0 then ((gX6_twoTo v14).bind (fun r7 => if FP.dIsNaN (FP.dmul (FP.l2d v15) r7) = false then (if 0 ≤ (Op.cmpValue (FP.dcmp x0 FP.dconst0) CmpOp.g) then (some (FP.dmul (FP.l2d v15) r7)) else (some (FP.dneg (FP.dmul (FP.l2d v15) r7)))) else none)) else (if ¬ v12 = 0 then (k97 v12 v14 ((v15 <<< ((if (10 : Int32) < v17 then (10 : Int32) else v17).toInt64 &&& 63)) - (v15 <<< ((if (10 : Int32) < v17 then (10 : Int32) else v17).toInt64 &&& 63)) / v12 * v12) (v17 + (-10 : Int32))) else none)
def gX6_remainder_26 (x0 : UInt64) (x1 : UInt64) (v4 : UInt64) (s0 : UInt64) : Option UInt64 := if 0 ≤ (Op.cmpValue (FP.dcmp v4 s0) CmpOp.g) then ((gX1_behindSign v4 (0 : Int32)).bind (fun r1 => (gX1_behindSign s0 (0 : Int32)).bind (fun r2 => (gX1_wideDigits r2).bind (fun r3 => if 0 < (lg_cmp r3 (0 : Int64)) then ((gX1_widePower r2).bind (fun r4 => (gX1_wideDigits r1).bind (fun r5 => if ¬ r3 = 0 then ((gX1_widePower r1).bind (fun r6 => lq4 (gX6_remainder_97 x0 x1) 300 r3 r4 (r5 - r5 / r3 * r3) (r6 - r4))) else none))) else (some x0))))) else (some x0)
def gX6_remainder_12 (x0 : UInt64) (x1 : UInt64) (s0 : UInt64) : Option UInt64 := if 0 ≤ (Op.cmpValue (FP.dcmp x1 FP.dconst0) CmpOp.g) then (gX6_remainder_26 x0 x1 s0 x1) else (gX6_remainder_26 x0 x1 s0 (FP.dneg x1))
def gX6_remainder (x0 : UInt64) (x1 : UInt64) : Option UInt64 := if 0 ≤ (Op.cmpValue (FP.dcmp x0 FP.dconst0) CmpOp.g) then (gX6_remainder_12 x0 x1 x0) else (gX6_remainder_12 x0 x1 (FP.dneg x0))
theorem hd_X6_remainder : yX6_remainder.cls ≠ "java/lang/invoke/MethodHandle" ∧ yX6_remainder.cls ≠ "java/lang/invoke/VarHandle" ∧ (parseMethodDescriptor yX6_remainder.desc).map (fun d => d.parameters.length) = some 2 := by decide +kernel
set_option maxHeartbeats 4000000 in
set_option maxRecDepth 100000 in
theorem tX6_remainder {G : GG} {l : Launch} {z N : Nat} {ct : Nat → va_E} (x0 : UInt64) (x1 : UInt64) {r : UInt64} (hg : gX6_remainder x0 x1 = some r) : Ct G l yX6_remainder cX6_remainder 19 (some .double) ({ frames := 1, cells := 0, slots := 0, locals := 33 } : Room) [.double x0, .double x1] z ct N (some (.double r)) ct N := by
  refine Ct.of (lv := [(0, .double x0), (2, .double x1)]) (by decide +kernel) (Nat.le_of_ble_eq_true rfl) rfl (fun p e s m args below meth c C => ?_)
  have L_97 : ∀ (n97 : Nat) (v12 : Int64) (v14 : Int32) (v15 : Int64) (v17 : Int32), lq4 (gX6_remainder_97 x0 x1) n97 v12 v14 v15 v17 = some r → J G p l e ({ frames := 1, cells := 0, slots := 0, locals := 33 } : Room) s m args below meth c z 19 (MQ below (Qd G z (some (.double r)) ct N) args s 0 0 (zA z)) ct N 0 0 97 [(0, .double x0), (12, .long v12), (14, .int v14), (15, .long v15), (17, .int v17)] [] := by
    intro n97
    induction n97 with
    | zero => intro v12 v14 v15 v17 hg; cases hg
    | succ n97 ih97 =>
      intro v12 v14 v15 v17 hg
      replace hg : gX6_remainder_97 x0 x1 (lq4 (gX6_remainder_97 x0 x1) n97) v12 v14 v15 v17 = some r := hg
      rw [gX6_remainder_97] at hg
      refine j_iload C dX6_remainder_97 4 rfl ?_
      refine j_if_le C 123 hg dX6_remainder_99 (by decide) (fun hg => ?_) (fun hg => ?_)
      · refine j_lload C dX6_remainder_123 3 rfl ?_
        refine j_l2d C dX6_remainder_125 ?_
        refine j_iload C dX6_remainder_126 2 rfl ?_
        obtain ⟨r7, hr7, hg⟩ := ob hg
        refine j_callS C [.int v14] (tX6_twoTo v14 hr7) q1_224 q1_10 q1_223 q2_172 hd_X6_twoTo rfl dX6_remainder_128 rfl (Nat.le_of_ble_eq_true rfl) ⟨(Nat.le_of_ble_eq_true rfl), (Nat.le_of_ble_eq_true rfl)⟩ ⟨(Nat.le_of_ble_eq_true rfl), (Nat.le_of_ble_eq_true rfl)⟩ ?_
        refine j_dmul C hg dX6_remainder_131 (fun hg => ?_)
        refine j_dstore C [(17, .double (FP.dmul (FP.l2d v15) r7)), (0, .double x0), (12, .long v12), (14, .int v14), (15, .long v15)] dX6_remainder_132 (by decide) rfl ?_
        refine j_dload_n C dX6_remainder_134 1 rfl rfl ?_
        refine j_dconst0 C dX6_remainder_135 ?_
        refine j_dcmp C dX6_remainder_136 ?_
        refine j_if_ge C 146 hg dX6_remainder_137 (by decide) (fun hg => ?_) (fun hg => ?_)
        · refine j_dload C dX6_remainder_146 0 rfl ?_
          exact j_dret C dX6_remainder_148 (by rw [← Option.some.inj hg]) rfl rfl
        · refine j_dload C dX6_remainder_140 0 rfl ?_
          refine j_dneg C dX6_remainder_142 ?_
          refine j_goto C 148 dX6_remainder_143 (by decide) ?_
          exact j_dret C dX6_remainder_148 (by rw [← Option.some.inj hg]) rfl rfl
      · refine j_lload C dX6_remainder_102 3 rfl ?_
        refine j_iload C dX6_remainder_104 4 rfl ?_
        refine j_bipush (v := 10) C dX6_remainder_106 (by decide) ?_
        refine j_mmin C q2_171 q1_220 q1_9 q1_221 (Nat.le_of_ble_eq_true rfl) (Nat.le_of_ble_eq_true rfl) (Nat.le_of_ble_eq_true rfl) (Nat.le_of_ble_eq_true rfl) dX6_remainder_108 ?_
        refine j_lshl C dX6_remainder_111 ?_
        refine j_lload C dX6_remainder_112 1 rfl ?_
        refine j_lrem C hg dX6_remainder_114 (fun hg => ?_)
        refine j_lstore C [(15, .long ((v15 <<< ((if (10 : Int32) < v17 then (10 : Int32) else v17).toInt64 &&& 63)) - (v15 <<< ((if (10 : Int32) < v17 then (10 : Int32) else v17).toInt64 &&& 63)) / v12 * v12)), (0, .double x0), (12, .long v12), (14, .int v14), (17, .int v17)] dX6_remainder_115 (by decide) rfl ?_
        refine j_iinc C [(17, .int (v17 + (-10 : Int32))), (15, .long ((v15 <<< ((if (10 : Int32) < v17 then (10 : Int32) else v17).toInt64 &&& 63)) - (v15 <<< ((if (10 : Int32) < v17 then (10 : Int32) else v17).toInt64 &&& 63)) / v12 * v12)), (0, .double x0), (12, .long v12), (14, .int v14)] dX6_remainder_117 4 rfl rfl (by decide) rfl ?_
        refine j_goto C 97 dX6_remainder_120 (by decide) ?_
        exact j_re [2, 3, 4, 1, 0] rfl (ih97 v12 v14 ((v15 <<< ((if (10 : Int32) < v17 then (10 : Int32) else v17).toInt64 &&& 63)) - (v15 <<< ((if (10 : Int32) < v17 then (10 : Int32) else v17).toInt64 &&& 63)) / v12 * v12) (v17 + (-10 : Int32)) hg)
  have L_26 : ∀ (v4 : UInt64) (s0 : UInt64), gX6_remainder_26 x0 x1 v4 s0 = some r → J G p l e ({ frames := 1, cells := 0, slots := 0, locals := 33 } : Room) s m args below meth c z 19 (MQ below (Qd G z (some (.double r)) ct N) args s 0 0 (zA z)) ct N 0 0 26 [(0, .double x0), (4, .double v4)] [.double s0] := by
    intro v4 s0 hg
    rw [gX6_remainder_26] at hg
    refine j_dstore C [(6, .double s0), (0, .double x0), (4, .double v4)] dX6_remainder_26 (by decide) rfl ?_
    refine j_dload C dX6_remainder_28 2 rfl ?_
    refine j_dload C dX6_remainder_30 0 rfl ?_
    refine j_dcmp C dX6_remainder_32 ?_
    refine j_if_ge C 38 hg dX6_remainder_33 (by decide) (fun hg => ?_) (fun hg => ?_)
    · refine j_dload C dX6_remainder_38 2 rfl ?_
      refine j_iconst (v := 0) C dX6_remainder_40 (by decide) ?_
      obtain ⟨r1, hr1, hg⟩ := ob hg
      refine j_callS C [.double v4, .int (0 : Int32)] (tX1_behindSign v4 (0 : Int32) hr1) q2_154 q1_12 q2_153 q2_152 hd_X1_behindSign rfl dX6_remainder_41 rfl (Nat.le_of_ble_eq_true rfl) ⟨(Nat.le_of_ble_eq_true rfl), (Nat.le_of_ble_eq_true rfl)⟩ ⟨(Nat.le_of_ble_eq_true rfl), (Nat.le_of_ble_eq_true rfl)⟩ ?_
      refine j_lstore C [(8, .long r1), (6, .double s0), (0, .double x0), (4, .double v4)] dX6_remainder_44 (by decide) rfl ?_
      refine j_dload C dX6_remainder_46 1 rfl ?_
      refine j_iconst (v := 0) C dX6_remainder_48 (by decide) ?_
      obtain ⟨r2, hr2, hg⟩ := ob hg
      refine j_callS C [.double s0, .int (0 : Int32)] (tX1_behindSign s0 (0 : Int32) hr2) q2_154 q1_12 q2_153 q2_152 hd_X1_behindSign rfl dX6_remainder_49 rfl (Nat.le_of_ble_eq_true rfl) ⟨(Nat.le_of_ble_eq_true rfl), (Nat.le_of_ble_eq_true rfl)⟩ ⟨(Nat.le_of_ble_eq_true rfl), (Nat.le_of_ble_eq_true rfl)⟩ ?_
      refine j_lstore C [(10, .long r2), (8, .long r1), (6, .double s0), (0, .double x0), (4, .double v4)] dX6_remainder_52 (by decide) rfl ?_
      refine j_lload C dX6_remainder_54 0 rfl ?_
      obtain ⟨r3, hr3, hg⟩ := ob hg
      refine j_callS C [.long r2] (tX1_wideDigits r2 hr3) q2_165 q1_12 q2_164 q2_163 hd_X1_wideDigits rfl dX6_remainder_56 rfl (Nat.le_of_ble_eq_true rfl) ⟨(Nat.le_of_ble_eq_true rfl), (Nat.le_of_ble_eq_true rfl)⟩ ⟨(Nat.le_of_ble_eq_true rfl), (Nat.le_of_ble_eq_true rfl)⟩ ?_
      refine j_lstore C [(12, .long r3), (10, .long r2), (8, .long r1), (6, .double s0), (0, .double x0), (4, .double v4)] dX6_remainder_59 (by decide) rfl ?_
      refine j_lload C dX6_remainder_61 0 rfl ?_
      refine j_lconst (v := 0) C dX6_remainder_63 (by decide) ?_
      refine j_lcmp C dX6_remainder_64 ?_
      refine j_if_gt C 70 hg dX6_remainder_65 (by decide) (fun hg => ?_) (fun hg => ?_)
      · refine j_lload C dX6_remainder_70 1 rfl ?_
        obtain ⟨r4, hr4, hg⟩ := ob hg
        refine j_callS C [.long r2] (tX1_widePower r2 hr4) q2_170 q1_12 q2_169 q2_168 hd_X1_widePower rfl dX6_remainder_72 rfl (Nat.le_of_ble_eq_true rfl) ⟨(Nat.le_of_ble_eq_true rfl), (Nat.le_of_ble_eq_true rfl)⟩ ⟨(Nat.le_of_ble_eq_true rfl), (Nat.le_of_ble_eq_true rfl)⟩ ?_
        refine j_istore C [(14, .int r4), (12, .long r3), (10, .long r2), (8, .long r1), (6, .double s0), (0, .double x0), (4, .double v4)] dX6_remainder_75 (by decide) rfl ?_
        refine j_lload C dX6_remainder_77 3 rfl ?_
        obtain ⟨r5, hr5, hg⟩ := ob hg
        refine j_callS C [.long r1] (tX1_wideDigits r1 hr5) q2_165 q1_12 q2_164 q2_163 hd_X1_wideDigits rfl dX6_remainder_79 rfl (Nat.le_of_ble_eq_true rfl) ⟨(Nat.le_of_ble_eq_true rfl), (Nat.le_of_ble_eq_true rfl)⟩ ⟨(Nat.le_of_ble_eq_true rfl), (Nat.le_of_ble_eq_true rfl)⟩ ?_
        refine j_lload C dX6_remainder_82 1 rfl ?_
        refine j_lrem C hg dX6_remainder_84 (fun hg => ?_)
        refine j_lstore C [(15, .long (r5 - r5 / r3 * r3)), (14, .int r4), (12, .long r3), (10, .long r2), (8, .long r1), (6, .double s0), (0, .double x0), (4, .double v4)] dX6_remainder_85 (by decide) rfl ?_
        refine j_lload C dX6_remainder_87 4 rfl ?_
        obtain ⟨r6, hr6, hg⟩ := ob hg
        refine j_callS C [.long r1] (tX1_widePower r1 hr6) q2_170 q1_12 q2_169 q2_168 hd_X1_widePower rfl dX6_remainder_89 rfl (Nat.le_of_ble_eq_true rfl) ⟨(Nat.le_of_ble_eq_true rfl), (Nat.le_of_ble_eq_true rfl)⟩ ⟨(Nat.le_of_ble_eq_true rfl), (Nat.le_of_ble_eq_true rfl)⟩ ?_
        refine j_iload C dX6_remainder_92 1 rfl ?_
        refine j_isub C dX6_remainder_94 ?_
        refine j_istore C [(17, .int (r6 - r4)), (15, .long (r5 - r5 / r3 * r3)), (14, .int r4), (12, .long r3), (10, .long r2), (8, .long r1), (6, .double s0), (0, .double x0), (4, .double v4)] dX6_remainder_95 (by decide) rfl ?_
        exact j_re [7, 3, 2, 1, 0] rfl (L_97 300 r3 r4 (r5 - r5 / r3 * r3) (r6 - r4) hg)
      · refine j_dload_n C dX6_remainder_68 4 rfl rfl ?_
        exact j_dret C dX6_remainder_69 (by rw [← Option.some.inj hg]) rfl rfl
    · refine j_dload_n C dX6_remainder_36 1 rfl rfl ?_
      exact j_dret C dX6_remainder_37 (by rw [← Option.some.inj hg]) rfl rfl
  have L_12 : ∀ (s0 : UInt64), gX6_remainder_12 x0 x1 s0 = some r → J G p l e ({ frames := 1, cells := 0, slots := 0, locals := 33 } : Room) s m args below meth c z 19 (MQ below (Qd G z (some (.double r)) ct N) args s 0 0 (zA z)) ct N 0 0 12 [(0, .double x0), (2, .double x1)] [.double s0] := by
    intro s0 hg
    rw [gX6_remainder_12] at hg
    refine j_dstore C [(4, .double s0), (0, .double x0), (2, .double x1)] dX6_remainder_12 (by decide) rfl ?_
    refine j_dload_n C dX6_remainder_14 2 rfl rfl ?_
    refine j_dconst0 C dX6_remainder_15 ?_
    refine j_dcmp C dX6_remainder_16 ?_
    refine j_if_ge C 25 hg dX6_remainder_17 (by decide) (fun hg => ?_) (fun hg => ?_)
    · refine j_dload_n C dX6_remainder_25 2 rfl rfl ?_
      exact j_re [1, 0] rfl (L_26 s0 x1 hg)
    · refine j_dload_n C dX6_remainder_20 2 rfl rfl ?_
      refine j_dneg C dX6_remainder_21 ?_
      refine j_goto C 26 dX6_remainder_22 (by decide) ?_
      exact j_re [1, 0] rfl (L_26 s0 (FP.dneg x1) hg)
  rw [gX6_remainder] at hg
  refine j_dload_n C dX6_remainder_0 0 rfl rfl ?_
  refine j_dconst0 C dX6_remainder_1 ?_
  refine j_dcmp C dX6_remainder_2 ?_
  refine j_if_ge C 11 hg dX6_remainder_3 (by decide) (fun hg => ?_) (fun hg => ?_)
  · refine j_dload_n C dX6_remainder_11 0 rfl rfl ?_
    exact L_12 x0 hg
  · refine j_dload_n C dX6_remainder_6 0 rfl rfl ?_
    refine j_dneg C dX6_remainder_7 ?_
    refine j_goto C 12 dX6_remainder_8 (by decide) ?_
    exact L_12 (FP.dneg x0) hg
