def gX6_twoTo_52 (x0 : Int32) (k31 : UInt64 → UInt64 → Int32 → Int32 → Option UInt64) (v1 : UInt64) (v3 : UInt64) (v5 : Int32) (v6 : Int32) : Option UInt64 := if FP.dIsNaN (FP.dmul v3 v3) = false then (k31 v1 (FP.dmul v3 v3) v5 (v6 + (1 : Int32))) else none
def gX6_twoTo_31 (x0 : Int32) (k31 : UInt64 → UInt64 → Int32 → Int32 → Option UInt64) (v1 : UInt64) (v3 : UInt64) (v5 : Int32) (v6 : Int32) : Option UInt64 := if (11 : Int32) ≤ v6 then (some v1) else (if ((v5 >>> (v6 &&& 31)) &&& (1 : Int32)) = 0 then (gX6_twoTo_52 x0 k31 v1 v3 v5 v6) else (if FP.dIsNaN (FP.dmul v1 v3) = false then (gX6_twoTo_52 x0 k31 (FP.dmul v1 v3) v3 v5 v6) else none))
def gX6_twoTo_26 (x0 : Int32) (v1 : UInt64) (v3 : UInt64) (s0 : Int32) : Option UInt64 := lq4 (gX6_twoTo_31 x0) 20 v1 v3 s0 (0 : Int32)
def gX6_twoTo_15 (x0 : Int32) (v1 : UInt64) (s0 : UInt64) : Option UInt64 := if 0 ≤ x0 then (gX6_twoTo_26 x0 v1 s0 x0) else (gX6_twoTo_26 x0 v1 s0 (-x0))
def gX6_twoTo (x0 : Int32) : Option UInt64 := if 0 ≤ x0 then (gX6_twoTo_15 x0 FP.dconst1 (4611686018427387904 : UInt64)) else (gX6_twoTo_15 x0 FP.dconst1 (4602678819172646912 : UInt64))
theorem hd_X6_twoTo : yX6_twoTo.cls ≠ "java/lang/invoke/MethodHandle" ∧ yX6_twoTo.cls ≠ "java/lang/invoke/VarHandle" ∧ (parseMethodDescriptor yX6_twoTo.desc).map (fun d => d.parameters.length) = some 1 := by decide +kernel
set_option maxHeartbeats 4000000 in
set_option maxRecDepth 100000 in
theorem tX6_twoTo {G : GG} {l : Launch} {z N : Nat} {ct : Nat → va_E} (x0 : Int32) {r : UInt64} (hg : gX6_twoTo x0 = some r) : Ct G l yX6_twoTo cX6_twoTo 7 (some .double) ({ frames := 0, cells := 0, slots := 0, locals := 0 } : Room) [.int x0] z ct N (some (.double r)) ct N := by
  refine Ct.of (lv := [(0, .int x0)]) (by decide +kernel) (Nat.le_of_ble_eq_true rfl) rfl (fun p e s m args below meth c C => ?_)
  have L_31 : ∀ (n31 : Nat) (v1 : UInt64) (v3 : UInt64) (v5 : Int32) (v6 : Int32), lq4 (gX6_twoTo_31 x0) n31 v1 v3 v5 v6 = some r → J G p l e ({ frames := 0, cells := 0, slots := 0, locals := 0 } : Room) s m args below meth c z 7 (MQ below (Qd G z (some (.double r)) ct N) args s 0 0 (zA z)) ct N 0 0 31 [(1, .double v1), (3, .double v3), (5, .int v5), (6, .int v6)] [] := by
    intro n31
    induction n31 with
    | zero => intro v1 v3 v5 v6 hg; cases hg
    | succ n31 ih31 =>
      have L_52 : ∀ (v1 : UInt64) (v3 : UInt64) (v5 : Int32) (v6 : Int32), gX6_twoTo_52 x0 (lq4 (gX6_twoTo_31 x0) n31) v1 v3 v5 v6 = some r → J G p l e ({ frames := 0, cells := 0, slots := 0, locals := 0 } : Room) s m args below meth c z 7 (MQ below (Qd G z (some (.double r)) ct N) args s 0 0 (zA z)) ct N 0 0 52 [(1, .double v1), (3, .double v3), (5, .int v5), (6, .int v6)] [] := by
        intro v1 v3 v5 v6 hg
        rw [gX6_twoTo_52] at hg
        refine j_dload_n C dX6_twoTo_52 1 rfl rfl ?_
        refine j_dload_n C dX6_twoTo_53 1 rfl rfl ?_
        refine j_dmul C hg dX6_twoTo_54 (fun hg => ?_)
        refine j_dstore_n C [(3, .double (FP.dmul v3 v3)), (1, .double v1), (5, .int v5), (6, .int v6)] dX6_twoTo_55 rfl (by decide) rfl ?_
        refine j_iinc C [(6, .int (v6 + (1 : Int32))), (3, .double (FP.dmul v3 v3)), (1, .double v1), (5, .int v5)] dX6_twoTo_56 3 rfl rfl (by decide) rfl ?_
        refine j_goto C 31 dX6_twoTo_59 (by decide) ?_
        exact j_re [2, 1, 3, 0] rfl (ih31 v1 (FP.dmul v3 v3) v5 (v6 + (1 : Int32)) hg)
      intro v1 v3 v5 v6 hg
      replace hg : gX6_twoTo_31 x0 (lq4 (gX6_twoTo_31 x0) n31) v1 v3 v5 v6 = some r := hg
      rw [gX6_twoTo_31] at hg
      refine j_iload C dX6_twoTo_31 3 rfl ?_
      refine j_bipush (v := 11) C dX6_twoTo_33 (by decide) ?_
      refine j_icmp_ge C 62 hg dX6_twoTo_35 (by decide) (fun hg => ?_) (fun hg => ?_)
      · refine j_dload_n C dX6_twoTo_62 0 rfl rfl ?_
        exact j_dret C dX6_twoTo_63 (by rw [← Option.some.inj hg]) rfl rfl
      · refine j_iload C dX6_twoTo_38 2 rfl ?_
        refine j_iload C dX6_twoTo_40 3 rfl ?_
        refine j_ishr C dX6_twoTo_42 ?_
        refine j_iconst (v := 1) C dX6_twoTo_43 (by decide) ?_
        refine j_iand C dX6_twoTo_44 ?_
        refine j_if_eq C 52 hg dX6_twoTo_45 (by decide) (fun hg => ?_) (fun hg => ?_)
        · exact L_52 v1 v3 v5 v6 hg
        · refine j_dload_n C dX6_twoTo_48 0 rfl rfl ?_
          refine j_dload_n C dX6_twoTo_49 1 rfl rfl ?_
          refine j_dmul C hg dX6_twoTo_50 (fun hg => ?_)
          refine j_dstore_n C [(1, .double (FP.dmul v1 v3)), (3, .double v3), (5, .int v5), (6, .int v6)] dX6_twoTo_51 rfl (by decide) rfl ?_
          exact L_52 (FP.dmul v1 v3) v3 v5 v6 hg
  have L_26 : ∀ (v1 : UInt64) (v3 : UInt64) (s0 : Int32), gX6_twoTo_26 x0 v1 v3 s0 = some r → J G p l e ({ frames := 0, cells := 0, slots := 0, locals := 0 } : Room) s m args below meth c z 7 (MQ below (Qd G z (some (.double r)) ct N) args s 0 0 (zA z)) ct N 0 0 26 [(1, .double v1), (3, .double v3)] [.int s0] := by
    intro v1 v3 s0 hg
    rw [gX6_twoTo_26] at hg
    refine j_istore C [(5, .int s0), (1, .double v1), (3, .double v3)] dX6_twoTo_26 (by decide) rfl ?_
    refine j_iconst (v := 0) C dX6_twoTo_28 (by decide) ?_
    refine j_istore C [(6, .int (0 : Int32)), (5, .int s0), (1, .double v1), (3, .double v3)] dX6_twoTo_29 (by decide) rfl ?_
    exact j_re [2, 3, 1, 0] rfl (L_31 20 v1 v3 s0 (0 : Int32) hg)
  have L_15 : ∀ (v1 : UInt64) (s0 : UInt64), gX6_twoTo_15 x0 v1 s0 = some r → J G p l e ({ frames := 0, cells := 0, slots := 0, locals := 0 } : Room) s m args below meth c z 7 (MQ below (Qd G z (some (.double r)) ct N) args s 0 0 (zA z)) ct N 0 0 15 [(0, .int x0), (1, .double v1)] [.double s0] := by
    intro v1 s0 hg
    rw [gX6_twoTo_15] at hg
    refine j_dstore_n C [(3, .double s0), (0, .int x0), (1, .double v1)] dX6_twoTo_15 rfl (by decide) rfl ?_
    refine j_iload_n C dX6_twoTo_16 1 rfl rfl ?_
    refine j_if_ge C 25 hg dX6_twoTo_17 (by decide) (fun hg => ?_) (fun hg => ?_)
    · refine j_iload_n C dX6_twoTo_25 1 rfl rfl ?_
      exact j_re [2, 0] rfl (L_26 v1 s0 x0 hg)
    · refine j_iload_n C dX6_twoTo_20 1 rfl rfl ?_
      refine j_ineg C dX6_twoTo_21 ?_
      refine j_goto C 26 dX6_twoTo_22 (by decide) ?_
      exact j_re [2, 0] rfl (L_26 v1 s0 (-x0) hg)
  rw [gX6_twoTo] at hg
  refine j_dconst1 C dX6_twoTo_0 ?_
  refine j_dstore_n C [(1, .double FP.dconst1), (0, .int x0)] dX6_twoTo_1 rfl (by decide) rfl ?_
  refine j_iload_n C dX6_twoTo_2 1 rfl rfl ?_
  refine j_if_ge C 12 hg dX6_twoTo_3 (by decide) (fun hg => ?_) (fun hg => ?_)
  · refine j_ldc2d C q1_226 dX6_twoTo_12 ?_
    exact j_re [1, 0] rfl (L_15 FP.dconst1 (4611686018427387904 : UInt64) hg)
  · refine j_ldc2d C q1_225 dX6_twoTo_6 ?_
    refine j_goto C 15 dX6_twoTo_9 (by decide) ?_
    exact j_re [1, 0] rfl (L_15 FP.dconst1 (4602678819172646912 : UInt64) hg)
