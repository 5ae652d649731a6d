def gX10_set (G : GG) (z : Nat) (N : Nat) (b : Nat → va_E) (β : BS) (x0 : Int32) (x1 : Int32) (x2 : Int32) (x3 : Int32) : Option (BS × (Nat → va_E) × Nat × Int32) := (gX10_takesReadings β x0).bind (fun r1 => if r1 = 0 then (some (β, b, N, (0 : Int32))) else ((gX10_isPlace x1).bind (fun r2 => if r2 = 0 then (some (β, b, N, (0 : Int32))) else ((gX10_isPower x3).bind (fun r3 => if r3 = 0 then (some (β, b, N, (0 : Int32))) else (if ix x0 12 then (if isRb (b_lat β) = true then ((gX7_init 16 (b_num β x0.toNatClampNeg) (b_bl β x0.toNatClampNeg) x0 x1).bind (fun r5 => (gX10_remember3 β z N x0 ).bind (fun r6 => (gX6_twoTo x3).bind (fun r7 => if FP.dIsNaN (FP.dmul (FP.i2d x2) r7) = false then ((gX6_brought (FP.dmul (FP.i2d x2) r7) (b_nar r6 x0.toNatClampNeg)).bind (fun r8 => (gX8_put 16 (b_num r6 x0.toNatClampNeg) (b_bl r6 x0.toNatClampNeg) x1 r8).bind (fun r9 => some (b_bl_ (b_num_ r6 (va_up (b_num r6) x0.toNatClampNeg r9.1)) (va_up (b_bl r6) x0.toNatClampNeg r9.2), va_up b N (.inr (3, [b_lat β, .int x0, .ref (z + (13 + 4 * x0.toNatClampNeg + 1)), .int x1, .double r5.1, .int r5.2])), N + 1, (1 : Int32))))) else none)))) else none) else none))))))
theorem hd_X10_set : yX10_set.cls ≠ "java/lang/invoke/MethodHandle" ∧ yX10_set.cls ≠ "java/lang/invoke/VarHandle" ∧ (parseMethodDescriptor yX10_set.desc).map (fun d => d.parameters.length) = some 4 := by decide +kernel
set_option maxHeartbeats 4000000 in
set_option maxRecDepth 100000 in
theorem tX10_set {G : GG} {l : Launch} {z N : Nat} {b : Nat → va_E}  (hN : 71 ≤ N) (β : BS) (x0 : Int32) (x1 : Int32) (x2 : Int32) (x3 : Int32) {r : BS × (Nat → va_E) × Nat × Int32} (hg : gX10_set G z N b β x0 x1 x2 x3 = some r) : Ct G l yX10_set cX10_set 6 (some .int) ({ frames := 3, cells := 1, slots := 6, locals := 66 } : Room) [.ref (z + 0), .int x0, .int x1, .int x2, .int x3] z (ctB G z β b) N (some (.int r.2.2.2)) (ctB G z r.1 r.2.1) r.2.2.1 := by
  refine Ct.of (lv := [(0, .ref (z + 0)), (1, .int x0), (2, .int x1), (3, .int x2), (4, .int x3)]) (by decide +kernel) (Nat.le_of_ble_eq_true rfl) rfl (fun p e s m args below meth c C => ?_)
  rw [gX10_set] at hg
  refine j_aload_n C dX10_set_0 0 rfl rfl ?_
  refine j_iload_n C dX10_set_1 1 rfl rfl ?_
  obtain ⟨r1, hr1, hg⟩ := ob hg
  refine j_callV C [.int x0] (tX10_takesReadings (b := b) (by omega) β x0 hr1) (by omega) cb_0 rfl q1_159 q1_1 q1_158 qp_0 q1_156 hd_X10_takesReadings rfl dX10_set_2 rfl (Nat.le_of_ble_eq_true rfl) ⟨(Nat.le_of_ble_eq_true rfl), (Nat.le_of_ble_eq_true rfl)⟩ ⟨(Nat.le_of_ble_eq_true rfl), (Nat.le_of_ble_eq_true rfl)⟩ ?_
  refine j_if_eq C 23 hg dX10_set_5 (by decide) (fun hg => ?_) (fun hg => ?_)
  · refine j_iconst (v := 0) C dX10_set_23 (by decide) ?_
    refine j_wide (k := 1) (n := 6) (Nat.le_of_ble_eq_true rfl) (Nat.le_of_ble_eq_true rfl) ?_
    exact j_iret C dX10_set_24 (by first | rfl | (rw [← Option.some.inj hg] <;> rfl)) (by first | rfl | (rw [← Option.some.inj hg] <;> rfl)) (by first | rfl | (rw [← Option.some.inj hg] <;> rfl))
  · refine j_iload_n C dX10_set_8 2 rfl rfl ?_
    obtain ⟨r2, hr2, hg⟩ := ob hg
    refine j_callS C [.int x1] (tX10_isPlace x1 hr2) q1_173 q1_1 q1_172 q1_171 hd_X10_isPlace rfl dX10_set_9 rfl (Nat.le_of_ble_eq_true rfl) ⟨(Nat.le_of_ble_eq_true rfl), (Nat.le_of_ble_eq_true rfl)⟩ ⟨(Nat.le_of_ble_eq_true rfl), (Nat.le_of_ble_eq_true rfl)⟩ ?_
    refine j_if_eq C 23 hg dX10_set_12 (by decide) (fun hg => ?_) (fun hg => ?_)
    · refine j_iconst (v := 0) C dX10_set_23 (by decide) ?_
      refine j_wide (k := 1) (n := 6) (Nat.le_of_ble_eq_true rfl) (Nat.le_of_ble_eq_true rfl) ?_
      exact j_iret C dX10_set_24 (by first | rfl | (rw [← Option.some.inj hg] <;> rfl)) (by first | rfl | (rw [← Option.some.inj hg] <;> rfl)) (by first | rfl | (rw [← Option.some.inj hg] <;> rfl))
    · refine j_iload C dX10_set_15 4 rfl ?_
      obtain ⟨r3, hr3, hg⟩ := ob hg
      refine j_callS C [.int x3] (tX10_isPower x3 hr3) q1_176 q1_1 q1_175 q1_174 hd_X10_isPower rfl dX10_set_17 rfl (Nat.le_of_ble_eq_true rfl) ⟨(Nat.le_of_ble_eq_true rfl), (Nat.le_of_ble_eq_true rfl)⟩ ⟨(Nat.le_of_ble_eq_true rfl), (Nat.le_of_ble_eq_true rfl)⟩ ?_
      refine j_if_ne C 25 hg dX10_set_20 (by decide) (fun hg => ?_) (fun hg => ?_)
      · refine j_aload_n C dX10_set_25 0 rfl rfl ?_
        refine j_get (fs := [.ref (z + 1), .ref (z + 2), .ref (z + 5), .ref (z + 12), .int (b_acnt β), .int (b_rngs β), b_lat β, .int (b_chg β), .int (b_frs β)]) (v := .ref (z + 1)) C (by omega) cb_0 rfl inX10 0 (by decide) q1_124 rfl rfl dX10_set_26 ?_
        refine j_iload_n C dX10_set_29 1 rfl rfl ?_
        obtain ⟨hi4, hg⟩ := gd hg
        have hl4 := ix_lt hi4
        refine jb_C C hi4 (by omega) cb_1 dX10_set_30 ?_
        refine j_astore C [(5, .ref (z + (13 + 4 * x0.toNatClampNeg))), (0, .ref (z + 0)), (1, .int x0), (2, .int x1), (3, .int x2), (4, .int x3)] dX10_set_31 (by decide) rfl ?_
        refine j_aload_n C dX10_set_33 1 rfl rfl ?_
        refine j_new C tyX7 tyX7_ok (ci := 3) rfl inX7 q1_177 q1_178 q1_8 [.null, .int (0 : Int32), .null, .int (0 : Int32), .double (0 : UInt64), .int (0 : Int32)] (fun j hj => by rcases (show j = 0 ∨ j = 1 ∨ j = 2 ∨ j = 3 ∨ j = 4 ∨ j = 5 by omega) with rfl | rfl | rfl | rfl | rfl | rfl <;> rfl) ⟨(Nat.le_of_ble_eq_true rfl), (Nat.le_of_ble_eq_true rfl)⟩ dX10_set_34 ?_
        refine j_dup C dX10_set_37 rfl ?_
        refine j_aload_n C dX10_set_38 1 rfl rfl ?_
        refine j_get (fs := [.ref (z + 1), .ref (z + 2), .ref (z + 5), .ref (z + 12), .int (b_acnt β), .int (b_rngs β), b_lat β, .int (b_chg β), .int (b_frs β)]) (v := b_lat β) C (by omega) ((va_up_ne _ _ (by omega)).trans cb_0) rfl inX10 6 (by decide) q1_130 rfl rfl dX10_set_39 ?_
        refine j_iload_n C dX10_set_42 2 rfl rfl ?_
        refine j_aload C dX10_set_43 0 rfl ?_
        refine j_get (fs := [.ref (z + (13 + 4 * x0.toNatClampNeg + 1)), .int (b_nar β x0.toNatClampNeg), .int (b_ff β x0.toNatClampNeg), .int (b_fa β x0.toNatClampNeg), .int (b_fb β x0.toNatClampNeg), .int (b_fc β x0.toNatClampNeg)]) (v := .ref (z + (13 + 4 * x0.toNatClampNeg + 1))) C (by omega) ((va_up_ne _ _ (by omega)).trans (cb_col hl4)) rfl inX3 0 (by decide) q1_68 rfl rfl dX10_set_45 ?_
        refine j_iload_n C dX10_set_48 3 rfl rfl ?_
        obtain ⟨hlat, hg⟩ := gd hg
        replace hlat := isRb_of hlat
        obtain ⟨r5, hr5, hg⟩ := ob hg
        refine j_callI C [b_lat β, .int x0, .ref (z + (13 + 4 * x0.toNatClampNeg + 1)), .int x1] (tX7_init (ct := ctB G z β b) (t := N) (N := N + 1) (by omega) hlat ⟨by omega, (cb_rd hl4), (cb_num hl4), (cb_bl hl4)⟩ (by omega) x0 x1 hr5) q1_181 q1_8 q1_180 q1_179 rfl hd_X7_init rfl dX10_set_49 rfl (Nat.le_of_ble_eq_true rfl) ⟨(Nat.le_of_ble_eq_true rfl), (Nat.le_of_ble_eq_true rfl)⟩ ⟨(Nat.le_of_ble_eq_true rfl), (Nat.le_of_ble_eq_true rfl)⟩ (j_ct (bs_up (by omega)) ?_)
        obtain ⟨r6, hr6, hg⟩ := ob hg
        refine j_callV C [.ref (z + N)] (tX10_remember3 (b := va_up b N (.inr (3, [b_lat β, .int x0, .ref (z + (13 + 4 * x0.toNatClampNeg + 1)), .int x1, .double r5.1, .int r5.2]))) (by omega) (t := N) (by omega) (by omega) (va_up_self _ _ _) β  hr6) (by omega) cb_0 rfl q1_218 q1_1 q1_217 qp_2 q1_215 hd_X10_remember rfl dX10_set_52 rfl (Nat.le_of_ble_eq_true rfl) ⟨(Nat.le_of_ble_eq_true rfl), (Nat.le_of_ble_eq_true rfl)⟩ ⟨(Nat.le_of_ble_eq_true rfl), (Nat.le_of_ble_eq_true rfl)⟩ ?_
        refine j_aload C dX10_set_55 0 rfl ?_
        refine j_get (fs := [.ref (z + (13 + 4 * x0.toNatClampNeg + 1)), .int (b_nar r6 x0.toNatClampNeg), .int (b_ff r6 x0.toNatClampNeg), .int (b_fa r6 x0.toNatClampNeg), .int (b_fb r6 x0.toNatClampNeg), .int (b_fc r6 x0.toNatClampNeg)]) (v := .ref (z + (13 + 4 * x0.toNatClampNeg + 1))) C (by omega) (cb_col hl4) rfl inX3 0 (by decide) q1_68 rfl rfl dX10_set_57 ?_
        refine j_iload_n C dX10_set_60 3 rfl rfl ?_
        refine j_iload_n C dX10_set_61 4 rfl rfl ?_
        refine j_i2d C dX10_set_62 ?_
        refine j_iload C dX10_set_63 5 rfl ?_
        obtain ⟨r7, hr7, hg⟩ := ob hg
        refine j_callS C [.int x3] (tX6_twoTo x3 hr7) q1_224 q1_10 q1_223 q1_222 hd_X6_twoTo rfl dX10_set_65 rfl (Nat.le_of_ble_eq_true rfl) ⟨(Nat.le_of_ble_eq_true rfl), (Nat.le_of_ble_eq_true rfl)⟩ ⟨(Nat.le_of_ble_eq_true rfl), (Nat.le_of_ble_eq_true rfl)⟩ ?_
        refine j_dmul C hg dX10_set_68 (fun hg => ?_)
        refine j_aload C dX10_set_69 0 rfl ?_
        refine j_get (fs := [.ref (z + (13 + 4 * x0.toNatClampNeg + 1)), .int (b_nar r6 x0.toNatClampNeg), .int (b_ff r6 x0.toNatClampNeg), .int (b_fa r6 x0.toNatClampNeg), .int (b_fb r6 x0.toNatClampNeg), .int (b_fc r6 x0.toNatClampNeg)]) (v := .int (b_nar r6 x0.toNatClampNeg)) C (by omega) (cb_col hl4) rfl inX3 1 (by decide) q1_70 rfl rfl dX10_set_71 ?_
        obtain ⟨r8, hr8, hg⟩ := ob hg
        refine j_callS C [.double (FP.dmul (FP.i2d x2) r7), .int (b_nar r6 x0.toNatClampNeg)] (tX6_brought (FP.dmul (FP.i2d x2) r7) (b_nar r6 x0.toNatClampNeg) hr8) q1_229 q1_10 q1_228 q1_227 hd_X6_brought rfl dX10_set_74 rfl (Nat.le_of_ble_eq_true rfl) ⟨(Nat.le_of_ble_eq_true rfl), (Nat.le_of_ble_eq_true rfl)⟩ ⟨(Nat.le_of_ble_eq_true rfl), (Nat.le_of_ble_eq_true rfl)⟩ ?_
        obtain ⟨r9, hr9, hg⟩ := ob hg
        refine j_ct (rdS_self (r := 13 + 4 * x0.toNatClampNeg + 1) (cb_num hl4) (cb_bl hl4)).symm ?_
        refine j_callV C [.int x1, .double r8] (tX8_put (ct := ctB G z r6 (va_up b N (.inr (3, [b_lat β, .int x0, .ref (z + (13 + 4 * x0.toNatClampNeg + 1)), .int x1, .double r5.1, .int r5.2])))) (by omega) (cb_rd hl4) x1 r8 hr9) (by omega) ((rdS_ne (by omega) (by omega)).trans (cb_rd hl4)) rfl q1_233 q1_2 q1_231 q1_232 q1_230 hd_X8_put rfl dX10_set_77 rfl (Nat.le_of_ble_eq_true rfl) ⟨(Nat.le_of_ble_eq_true rfl), (Nat.le_of_ble_eq_true rfl)⟩ ⟨(Nat.le_of_ble_eq_true rfl), (Nat.le_of_ble_eq_true rfl)⟩ (j_ct (bs_rd hl4) ?_)
        refine j_iconst (v := 1) C dX10_set_80 (by decide) ?_
        refine j_wide (k := 1) (n := 6) (Nat.le_of_ble_eq_true rfl) (Nat.le_of_ble_eq_true rfl) ?_
        exact j_iret C dX10_set_81 (by first | rfl | (rw [← Option.some.inj hg] <;> rfl)) (by first | rfl | (rw [← Option.some.inj hg] <;> rfl)) (by first | rfl | (rw [← Option.some.inj hg] <;> rfl))
      · refine j_iconst (v := 0) C dX10_set_23 (by decide) ?_
        refine j_wide (k := 1) (n := 6) (Nat.le_of_ble_eq_true rfl) (Nat.le_of_ble_eq_true rfl) ?_
        exact j_iret C dX10_set_24 (by first | rfl | (rw [← Option.some.inj hg] <;> rfl)) (by first | rfl | (rw [← Option.some.inj hg] <;> rfl)) (by first | rfl | (rw [← Option.some.inj hg] <;> rfl))

def gX10_special (G : GG) (z : Nat) (N : Nat) (b : Nat → va_E) (β : BS) (x0 : Int32) (x1 : Int32) (x2 : Int32) : Option (BS × (Nat → va_E) × Nat × Int32) := (gX10_takesReadings β x0).bind (fun r1 => if r1 = 0 then (some (β, b, N, (0 : Int32))) else ((gX10_isPlace x1).bind (fun r2 => if r2 = 0 then (some (β, b, N, (0 : Int32))) else ((gX10_isSpecial x2).bind (fun r3 => if r3 = 0 then (some (β, b, N, (0 : Int32))) else (if ix x0 12 then (if isRb (b_lat β) = true then ((gX7_init 16 (b_num β x0.toNatClampNeg) (b_bl β x0.toNatClampNeg) x0 x1).bind (fun r5 => (gX10_remember3 β z N x0 ).bind (fun r6 => (gX8_putSpecial 16 (b_num r6 x0.toNatClampNeg) (b_bl r6 x0.toNatClampNeg) x1 x2 (b_nar r6 x0.toNatClampNeg)).bind (fun r7 => some (b_bl_ (b_num_ r6 (va_up (b_num r6) x0.toNatClampNeg r7.1)) (va_up (b_bl r6) x0.toNatClampNeg r7.2), va_up b N (.inr (3, [b_lat β, .int x0, .ref (z + (13 + 4 * x0.toNatClampNeg + 1)), .int x1, .double r5.1, .int r5.2])), N + 1, (1 : Int32)))))) else none) else none))))))
theorem hd_X10_special : yX10_special.cls ≠ "java/lang/invoke/MethodHandle" ∧ yX10_special.cls ≠ "java/lang/invoke/VarHandle" ∧ (parseMethodDescriptor yX10_special.desc).map (fun d => d.parameters.length) = some 3 := by decide +kernel
set_option maxHeartbeats 4000000 in
set_option maxRecDepth 100000 in
theorem tX10_special {G : GG} {l : Launch} {z N : Nat} {b : Nat → va_E}  (hN : 71 ≤ N) (β : BS) (x0 : Int32) (x1 : Int32) (x2 : Int32) {r : BS × (Nat → va_E) × Nat × Int32} (hg : gX10_special G z N b β x0 x1 x2 = some r) : Ct G l yX10_special cX10_special 5 (some .int) ({ frames := 3, cells := 1, slots := 6, locals := 66 } : Room) [.ref (z + 0), .int x0, .int x1, .int x2] z (ctB G z β b) N (some (.int r.2.2.2)) (ctB G z r.1 r.2.1) r.2.2.1 := by
  refine Ct.of (lv := [(0, .ref (z + 0)), (1, .int x0), (2, .int x1), (3, .int x2)]) (by decide +kernel) (Nat.le_of_ble_eq_true rfl) rfl (fun p e s m args below meth c C => ?_)
  rw [gX10_special] at hg
  refine j_aload_n C dX10_special_0 0 rfl rfl ?_
  refine j_iload_n C dX10_special_1 1 rfl rfl ?_
  obtain ⟨r1, hr1, hg⟩ := ob hg
  refine j_callV C [.int x0] (tX10_takesReadings (b := b) (by omega) β x0 hr1) (by omega) cb_0 rfl q1_159 q1_1 q1_158 qp_0 q1_156 hd_X10_takesReadings rfl dX10_special_2 rfl (Nat.le_of_ble_eq_true rfl) ⟨(Nat.le_of_ble_eq_true rfl), (Nat.le_of_ble_eq_true rfl)⟩ ⟨(Nat.le_of_ble_eq_true rfl), (Nat.le_of_ble_eq_true rfl)⟩ ?_
  refine j_if_eq C 22 hg dX10_special_5 (by decide) (fun hg => ?_) (fun hg => ?_)
  · refine j_iconst (v := 0) C dX10_special_22 (by decide) ?_
    refine j_wide (k := 1) (n := 6) (Nat.le_of_ble_eq_true rfl) (Nat.le_of_ble_eq_true rfl) ?_
    exact j_iret C dX10_special_23 (by first | rfl | (rw [← Option.some.inj hg] <;> rfl)) (by first | rfl | (rw [← Option.some.inj hg] <;> rfl)) (by first | rfl | (rw [← Option.some.inj hg] <;> rfl))
  · refine j_iload_n C dX10_special_8 2 rfl rfl ?_
    obtain ⟨r2, hr2, hg⟩ := ob hg
    refine j_callS C [.int x1] (tX10_isPlace x1 hr2) q1_173 q1_1 q1_172 q1_171 hd_X10_isPlace rfl dX10_special_9 rfl (Nat.le_of_ble_eq_true rfl) ⟨(Nat.le_of_ble_eq_true rfl), (Nat.le_of_ble_eq_true rfl)⟩ ⟨(Nat.le_of_ble_eq_true rfl), (Nat.le_of_ble_eq_true rfl)⟩ ?_
    refine j_if_eq C 22 hg dX10_special_12 (by decide) (fun hg => ?_) (fun hg => ?_)
    · refine j_iconst (v := 0) C dX10_special_22 (by decide) ?_
      refine j_wide (k := 1) (n := 6) (Nat.le_of_ble_eq_true rfl) (Nat.le_of_ble_eq_true rfl) ?_
      exact j_iret C dX10_special_23 (by first | rfl | (rw [← Option.some.inj hg] <;> rfl)) (by first | rfl | (rw [← Option.some.inj hg] <;> rfl)) (by first | rfl | (rw [← Option.some.inj hg] <;> rfl))
    · refine j_iload_n C dX10_special_15 3 rfl rfl ?_
      obtain ⟨r3, hr3, hg⟩ := ob hg
      refine j_callS C [.int x2] (tX10_isSpecial x2 hr3) q2_0 q1_1 q1_239 q1_238 hd_X10_isSpecial rfl dX10_special_16 rfl (Nat.le_of_ble_eq_true rfl) ⟨(Nat.le_of_ble_eq_true rfl), (Nat.le_of_ble_eq_true rfl)⟩ ⟨(Nat.le_of_ble_eq_true rfl), (Nat.le_of_ble_eq_true rfl)⟩ ?_
      refine j_if_ne C 24 hg dX10_special_19 (by decide) (fun hg => ?_) (fun hg => ?_)
      · refine j_aload_n C dX10_special_24 0 rfl rfl ?_
        refine j_get (fs := [.ref (z + 1), .ref (z + 2), .ref (z + 5), .ref (z + 12), .int (b_acnt β), .int (b_rngs β), b_lat β, .int (b_chg β), .int (b_frs β)]) (v := .ref (z + 1)) C (by omega) cb_0 rfl inX10 0 (by decide) q1_124 rfl rfl dX10_special_25 ?_
        refine j_iload_n C dX10_special_28 1 rfl rfl ?_
        obtain ⟨hi4, hg⟩ := gd hg
        have hl4 := ix_lt hi4
        refine jb_C C hi4 (by omega) cb_1 dX10_special_29 ?_
        refine j_astore C [(4, .ref (z + (13 + 4 * x0.toNatClampNeg))), (0, .ref (z + 0)), (1, .int x0), (2, .int x1), (3, .int x2)] dX10_special_30 (by decide) rfl ?_
        refine j_aload_n C dX10_special_32 1 rfl rfl ?_
        refine j_new C tyX7 tyX7_ok (ci := 3) rfl inX7 q1_177 q1_178 q1_8 [.null, .int (0 : Int32), .null, .int (0 : Int32), .double (0 : UInt64), .int (0 : Int32)] (fun j hj => by rcases (show j = 0 ∨ j = 1 ∨ j = 2 ∨ j = 3 ∨ j = 4 ∨ j = 5 by omega) with rfl | rfl | rfl | rfl | rfl | rfl <;> rfl) ⟨(Nat.le_of_ble_eq_true rfl), (Nat.le_of_ble_eq_true rfl)⟩ dX10_special_33 ?_
        refine j_dup C dX10_special_36 rfl ?_
        refine j_aload_n C dX10_special_37 1 rfl rfl ?_
        refine j_get (fs := [.ref (z + 1), .ref (z + 2), .ref (z + 5), .ref (z + 12), .int (b_acnt β), .int (b_rngs β), b_lat β, .int (b_chg β), .int (b_frs β)]) (v := b_lat β) C (by omega) ((va_up_ne _ _ (by omega)).trans cb_0) rfl inX10 6 (by decide) q1_130 rfl rfl dX10_special_38 ?_
        refine j_iload_n C dX10_special_41 2 rfl rfl ?_
        refine j_aload C dX10_special_42 0 rfl ?_
        refine j_get (fs := [.ref (z + (13 + 4 * x0.toNatClampNeg + 1)), .int (b_nar β x0.toNatClampNeg), .int (b_ff β x0.toNatClampNeg), .int (b_fa β x0.toNatClampNeg), .int (b_fb β x0.toNatClampNeg), .int (b_fc β x0.toNatClampNeg)]) (v := .ref (z + (13 + 4 * x0.toNatClampNeg + 1))) C (by omega) ((va_up_ne _ _ (by omega)).trans (cb_col hl4)) rfl inX3 0 (by decide) q1_68 rfl rfl dX10_special_44 ?_
        refine j_iload_n C dX10_special_47 3 rfl rfl ?_
        obtain ⟨hlat, hg⟩ := gd hg
        replace hlat := isRb_of hlat
        obtain ⟨r5, hr5, hg⟩ := ob hg
        refine j_callI C [b_lat β, .int x0, .ref (z + (13 + 4 * x0.toNatClampNeg + 1)), .int x1] (tX7_init (ct := ctB G z β b) (t := N) (N := N + 1) (by omega) hlat ⟨by omega, (cb_rd hl4), (cb_num hl4), (cb_bl hl4)⟩ (by omega) x0 x1 hr5) q1_181 q1_8 q1_180 q1_179 rfl hd_X7_init rfl dX10_special_48 rfl (Nat.le_of_ble_eq_true rfl) ⟨(Nat.le_of_ble_eq_true rfl), (Nat.le_of_ble_eq_true rfl)⟩ ⟨(Nat.le_of_ble_eq_true rfl), (Nat.le_of_ble_eq_true rfl)⟩ (j_ct (bs_up (by omega)) ?_)
        obtain ⟨r6, hr6, hg⟩ := ob hg
        refine j_callV C [.ref (z + N)] (tX10_remember3 (b := va_up b N (.inr (3, [b_lat β, .int x0, .ref (z + (13 + 4 * x0.toNatClampNeg + 1)), .int x1, .double r5.1, .int r5.2]))) (by omega) (t := N) (by omega) (by omega) (va_up_self _ _ _) β  hr6) (by omega) cb_0 rfl q1_218 q1_1 q1_217 qp_2 q1_215 hd_X10_remember rfl dX10_special_51 rfl (Nat.le_of_ble_eq_true rfl) ⟨(Nat.le_of_ble_eq_true rfl), (Nat.le_of_ble_eq_true rfl)⟩ ⟨(Nat.le_of_ble_eq_true rfl), (Nat.le_of_ble_eq_true rfl)⟩ ?_
        refine j_aload C dX10_special_54 0 rfl ?_
        refine j_get (fs := [.ref (z + (13 + 4 * x0.toNatClampNeg + 1)), .int (b_nar r6 x0.toNatClampNeg), .int (b_ff r6 x0.toNatClampNeg), .int (b_fa r6 x0.toNatClampNeg), .int (b_fb r6 x0.toNatClampNeg), .int (b_fc r6 x0.toNatClampNeg)]) (v := .ref (z + (13 + 4 * x0.toNatClampNeg + 1))) C (by omega) (cb_col hl4) rfl inX3 0 (by decide) q1_68 rfl rfl dX10_special_56 ?_
        refine j_iload_n C dX10_special_59 3 rfl rfl ?_
        refine j_iload_n C dX10_special_60 4 rfl rfl ?_
        refine j_aload C dX10_special_61 0 rfl ?_
        refine j_get (fs := [.ref (z + (13 + 4 * x0.toNatClampNeg + 1)), .int (b_nar r6 x0.toNatClampNeg), .int (b_ff r6 x0.toNatClampNeg), .int (b_fa r6 x0.toNatClampNeg), .int (b_fb r6 x0.toNatClampNeg), .int (b_fc r6 x0.toNatClampNeg)]) (v := .int (b_nar r6 x0.toNatClampNeg)) C (by omega) (cb_col hl4) rfl inX3 1 (by decide) q1_70 rfl rfl dX10_special_63 ?_
        obtain ⟨r7, hr7, hg⟩ := ob hg
        refine j_ct (rdS_self (r := 13 + 4 * x0.toNatClampNeg + 1) (cb_num hl4) (cb_bl hl4)).symm ?_
        refine j_callV C [.int x1, .int x2, .int (b_nar r6 x0.toNatClampNeg)] (tX8_putSpecial (ct := ctB G z r6 (va_up b N (.inr (3, [b_lat β, .int x0, .ref (z + (13 + 4 * x0.toNatClampNeg + 1)), .int x1, .double r5.1, .int r5.2])))) (by omega) (cb_rd hl4) x1 x2 (b_nar r6 x0.toNatClampNeg) hr7) (by omega) ((rdS_ne (by omega) (by omega)).trans (cb_rd hl4)) rfl q2_4 q1_2 q2_2 q2_3 q2_1 hd_X8_putSpecial rfl dX10_special_66 rfl (Nat.le_of_ble_eq_true rfl) ⟨(Nat.le_of_ble_eq_true rfl), (Nat.le_of_ble_eq_true rfl)⟩ ⟨(Nat.le_of_ble_eq_true rfl), (Nat.le_of_ble_eq_true rfl)⟩ (j_ct (bs_rd hl4) ?_)
        refine j_iconst (v := 1) C dX10_special_69 (by decide) ?_
        refine j_wide (k := 1) (n := 6) (Nat.le_of_ble_eq_true rfl) (Nat.le_of_ble_eq_true rfl) ?_
        exact j_iret C dX10_special_70 (by first | rfl | (rw [← Option.some.inj hg] <;> rfl)) (by first | rfl | (rw [← Option.some.inj hg] <;> rfl)) (by first | rfl | (rw [← Option.some.inj hg] <;> rfl))
      · refine j_iconst (v := 0) C dX10_special_22 (by decide) ?_
        refine j_wide (k := 1) (n := 6) (Nat.le_of_ble_eq_true rfl) (Nat.le_of_ble_eq_true rfl) ?_
        exact j_iret C dX10_special_23 (by first | rfl | (rw [← Option.some.inj hg] <;> rfl)) (by first | rfl | (rw [← Option.some.inj hg] <;> rfl)) (by first | rfl | (rw [← Option.some.inj hg] <;> rfl))

def gX10_constant (G : GG) (z : Nat) (N : Nat) (b : Nat → va_E) (β : BS) (x0 : Int32) (x1 : Int32) (x2 : Int32) : Option (BS × (Nat → va_E) × Nat × Int32) := (gX10_isConstant x0).bind (fun r1 => if r1 = 0 then (some (β, b, N, (0 : Int32))) else ((gX10_isPower x2).bind (fun r2 => if r2 = 0 then (some (β, b, N, (0 : Int32))) else ((gX10_hasRoom β ).bind (fun r3 => if r3 = 0 then (some (β, b, N, (0 : Int32))) else (if isRb (b_lat β) = true then ((gX7_init 8 (b_cn β) (b_cb β) (0 : Int32) x0).bind (fun r4 => (gX10_remember3 β z N (0 : Int32) ).bind (fun r5 => (gX6_twoTo x2).bind (fun r6 => if FP.dIsNaN (FP.dmul (FP.i2d x1) r6) = false then ((gX8_put 8 (b_cn r5) (b_cb r5) x0 (FP.dmul (FP.i2d x1) r6)).bind (fun r7 => some (b_cb_ (b_cn_ r5 r7.1) r7.2, va_up b N (.inr (3, [b_lat β, .int (0 : Int32), .ref (z + 2), .int x0, .double r4.1, .int r4.2])), N + 1, (1 : Int32)))) else none)))) else none))))))
theorem hd_X10_constant : yX10_constant.cls ≠ "java/lang/invoke/MethodHandle" ∧ yX10_constant.cls ≠ "java/lang/invoke/VarHandle" ∧ (parseMethodDescriptor yX10_constant.desc).map (fun d => d.parameters.length) = some 3 := by decide +kernel
set_option maxHeartbeats 4000000 in
set_option maxRecDepth 100000 in
theorem tX10_constant {G : GG} {l : Launch} {z N : Nat} {b : Nat → va_E}  (hN : 71 ≤ N) (β : BS) (x0 : Int32) (x1 : Int32) (x2 : Int32) {r : BS × (Nat → va_E) × Nat × Int32} (hg : gX10_constant G z N b β x0 x1 x2 = some r) : Ct G l yX10_constant cX10_constant 4 (some .int) ({ frames := 3, cells := 1, slots := 6, locals := 66 } : Room) [.ref (z + 0), .int x0, .int x1, .int x2] z (ctB G z β b) N (some (.int r.2.2.2)) (ctB G z r.1 r.2.1) r.2.2.1 := by
  refine Ct.of (lv := [(0, .ref (z + 0)), (1, .int x0), (2, .int x1), (3, .int x2)]) (by decide +kernel) (Nat.le_of_ble_eq_true rfl) rfl (fun p e s m args below meth c C => ?_)
  rw [gX10_constant] at hg
  refine j_iload_n C dX10_constant_0 1 rfl rfl ?_
  obtain ⟨r1, hr1, hg⟩ := ob hg
  refine j_callS C [.int x0] (tX10_isConstant x0 hr1) q2_26 q1_1 q2_25 q2_24 hd_X10_isConstant rfl dX10_constant_1 rfl (Nat.le_of_ble_eq_true rfl) ⟨(Nat.le_of_ble_eq_true rfl), (Nat.le_of_ble_eq_true rfl)⟩ ⟨(Nat.le_of_ble_eq_true rfl), (Nat.le_of_ble_eq_true rfl)⟩ ?_
  refine j_if_eq C 21 hg dX10_constant_4 (by decide) (fun hg => ?_) (fun hg => ?_)
  · refine j_iconst (v := 0) C dX10_constant_21 (by decide) ?_
    refine j_wide (k := 1) (n := 6) (Nat.le_of_ble_eq_true rfl) (Nat.le_of_ble_eq_true rfl) ?_
    exact j_iret C dX10_constant_22 (by first | rfl | (rw [← Option.some.inj hg] <;> rfl)) (by first | rfl | (rw [← Option.some.inj hg] <;> rfl)) (by first | rfl | (rw [← Option.some.inj hg] <;> rfl))
  · refine j_iload_n C dX10_constant_7 3 rfl rfl ?_
    obtain ⟨r2, hr2, hg⟩ := ob hg
    refine j_callS C [.int x2] (tX10_isPower x2 hr2) q1_176 q1_1 q1_175 q1_174 hd_X10_isPower rfl dX10_constant_8 rfl (Nat.le_of_ble_eq_true rfl) ⟨(Nat.le_of_ble_eq_true rfl), (Nat.le_of_ble_eq_true rfl)⟩ ⟨(Nat.le_of_ble_eq_true rfl), (Nat.le_of_ble_eq_true rfl)⟩ ?_
    refine j_if_eq C 21 hg dX10_constant_11 (by decide) (fun hg => ?_) (fun hg => ?_)
    · refine j_iconst (v := 0) C dX10_constant_21 (by decide) ?_
      refine j_wide (k := 1) (n := 6) (Nat.le_of_ble_eq_true rfl) (Nat.le_of_ble_eq_true rfl) ?_
      exact j_iret C dX10_constant_22 (by first | rfl | (rw [← Option.some.inj hg] <;> rfl)) (by first | rfl | (rw [← Option.some.inj hg] <;> rfl)) (by first | rfl | (rw [← Option.some.inj hg] <;> rfl))
    · refine j_aload_n C dX10_constant_14 0 rfl rfl ?_
      obtain ⟨r3, hr3, hg⟩ := ob hg
      refine j_callV C [] (tX10_hasRoom (b := b) (by omega) β  hr3) (by omega) cb_0 rfl q1_170 q1_1 q1_169 qp_1 q1_167 hd_X10_hasRoom rfl dX10_constant_15 rfl (Nat.le_of_ble_eq_true rfl) ⟨(Nat.le_of_ble_eq_true rfl), (Nat.le_of_ble_eq_true rfl)⟩ ⟨(Nat.le_of_ble_eq_true rfl), (Nat.le_of_ble_eq_true rfl)⟩ ?_
      refine j_if_ne C 23 hg dX10_constant_18 (by decide) (fun hg => ?_) (fun hg => ?_)
      · refine j_aload_n C dX10_constant_23 0 rfl rfl ?_
        refine j_new C tyX7 tyX7_ok (ci := 3) rfl inX7 q1_177 q1_178 q1_8 [.null, .int (0 : Int32), .null, .int (0 : Int32), .double (0 : UInt64), .int (0 : Int32)] (fun j hj => by rcases (show j = 0 ∨ j = 1 ∨ j = 2 ∨ j = 3 ∨ j = 4 ∨ j = 5 by omega) with rfl | rfl | rfl | rfl | rfl | rfl <;> rfl) ⟨(Nat.le_of_ble_eq_true rfl), (Nat.le_of_ble_eq_true rfl)⟩ dX10_constant_24 ?_
        refine j_dup C dX10_constant_27 rfl ?_
        refine j_aload_n C dX10_constant_28 0 rfl rfl ?_
        refine j_get (fs := [.ref (z + 1), .ref (z + 2), .ref (z + 5), .ref (z + 12), .int (b_acnt β), .int (b_rngs β), b_lat β, .int (b_chg β), .int (b_frs β)]) (v := b_lat β) C (by omega) ((va_up_ne _ _ (by omega)).trans cb_0) rfl inX10 6 (by decide) q1_130 rfl rfl dX10_constant_29 ?_
        refine j_iconst (v := 0) C dX10_constant_32 (by decide) ?_
        refine j_aload_n C dX10_constant_33 0 rfl rfl ?_
        refine j_get (fs := [.ref (z + 1), .ref (z + 2), .ref (z + 5), .ref (z + 12), .int (b_acnt β), .int (b_rngs β), b_lat β, .int (b_chg β), .int (b_frs β)]) (v := .ref (z + 2)) C (by omega) ((va_up_ne _ _ (by omega)).trans cb_0) rfl inX10 1 (by decide) q1_125 rfl rfl dX10_constant_34 ?_
        refine j_iload_n C dX10_constant_37 1 rfl rfl ?_
        obtain ⟨hlat, hg⟩ := gd hg
        replace hlat := isRb_of hlat
        obtain ⟨r4, hr4, hg⟩ := ob hg
        refine j_callI C [b_lat β, .int (0 : Int32), .ref (z + 2), .int x0] (tX7_init (ct := ctB G z β b) (t := N) (N := N + 1) (by omega) hlat ⟨by omega, cb_2, cb_3, cb_4⟩ (by omega) (0 : Int32) x0 hr4) q1_181 q1_8 q1_180 q1_179 rfl hd_X7_init rfl dX10_constant_38 rfl (Nat.le_of_ble_eq_true rfl) ⟨(Nat.le_of_ble_eq_true rfl), (Nat.le_of_ble_eq_true rfl)⟩ ⟨(Nat.le_of_ble_eq_true rfl), (Nat.le_of_ble_eq_true rfl)⟩ (j_ct (bs_up (by omega)) ?_)
        obtain ⟨r5, hr5, hg⟩ := ob hg
        refine j_callV C [.ref (z + N)] (tX10_remember3 (b := va_up b N (.inr (3, [b_lat β, .int (0 : Int32), .ref (z + 2), .int x0, .double r4.1, .int r4.2]))) (by omega) (t := N) (by omega) (by omega) (va_up_self _ _ _) β  hr5) (by omega) cb_0 rfl q1_218 q1_1 q1_217 qp_2 q1_215 hd_X10_remember rfl dX10_constant_41 rfl (Nat.le_of_ble_eq_true rfl) ⟨(Nat.le_of_ble_eq_true rfl), (Nat.le_of_ble_eq_true rfl)⟩ ⟨(Nat.le_of_ble_eq_true rfl), (Nat.le_of_ble_eq_true rfl)⟩ ?_
        refine j_aload_n C dX10_constant_44 0 rfl rfl ?_
        refine j_get (fs := [.ref (z + 1), .ref (z + 2), .ref (z + 5), .ref (z + 12), .int (b_acnt r5), .int (b_rngs r5), b_lat r5, .int (b_chg r5), .int (b_frs r5)]) (v := .ref (z + 2)) C (by omega) cb_0 rfl inX10 1 (by decide) q1_125 rfl rfl dX10_constant_45 ?_
        refine j_iload_n C dX10_constant_48 1 rfl rfl ?_
        refine j_iload_n C dX10_constant_49 2 rfl rfl ?_
        refine j_i2d C dX10_constant_50 ?_
        refine j_iload_n C dX10_constant_51 3 rfl rfl ?_
        obtain ⟨r6, hr6, hg⟩ := ob hg
        refine j_callS C [.int x2] (tX6_twoTo x2 hr6) q1_224 q1_10 q1_223 q1_222 hd_X6_twoTo rfl dX10_constant_52 rfl (Nat.le_of_ble_eq_true rfl) ⟨(Nat.le_of_ble_eq_true rfl), (Nat.le_of_ble_eq_true rfl)⟩ ⟨(Nat.le_of_ble_eq_true rfl), (Nat.le_of_ble_eq_true rfl)⟩ ?_
        refine j_dmul C hg dX10_constant_55 (fun hg => ?_)
        obtain ⟨r7, hr7, hg⟩ := ob hg
        refine j_ct (rdS_self (r := 2) cb_3 cb_4).symm ?_
        refine j_callV C [.int x0, .double (FP.dmul (FP.i2d x1) r6)] (tX8_put (ct := ctB G z r5 (va_up b N (.inr (3, [b_lat β, .int (0 : Int32), .ref (z + 2), .int x0, .double r4.1, .int r4.2])))) (by omega) cb_2 x0 (FP.dmul (FP.i2d x1) r6) hr7) (by omega) ((rdS_ne (by omega) (by omega)).trans cb_2) rfl q1_233 q1_2 q1_231 q1_232 q1_230 hd_X8_put rfl dX10_constant_56 rfl (Nat.le_of_ble_eq_true rfl) ⟨(Nat.le_of_ble_eq_true rfl), (Nat.le_of_ble_eq_true rfl)⟩ ⟨(Nat.le_of_ble_eq_true rfl), (Nat.le_of_ble_eq_true rfl)⟩ (j_ct bs_cst ?_)
        refine j_iconst (v := 1) C dX10_constant_59 (by decide) ?_
        refine j_wide (k := 1) (n := 6) (Nat.le_of_ble_eq_true rfl) (Nat.le_of_ble_eq_true rfl) ?_
        exact j_iret C dX10_constant_60 (by first | rfl | (rw [← Option.some.inj hg] <;> rfl)) (by first | rfl | (rw [← Option.some.inj hg] <;> rfl)) (by first | rfl | (rw [← Option.some.inj hg] <;> rfl))
      · refine j_iconst (v := 0) C dX10_constant_21 (by decide) ?_
        refine j_wide (k := 1) (n := 6) (Nat.le_of_ble_eq_true rfl) (Nat.le_of_ble_eq_true rfl) ?_
        exact j_iret C dX10_constant_22 (by first | rfl | (rw [← Option.some.inj hg] <;> rfl)) (by first | rfl | (rw [← Option.some.inj hg] <;> rfl)) (by first | rfl | (rw [← Option.some.inj hg] <;> rfl))

def gX10_constantSpecial (G : GG) (z : Nat) (N : Nat) (b : Nat → va_E) (β : BS) (x0 : Int32) (x1 : Int32) : Option (BS × (Nat → va_E) × Nat × Int32) := (gX10_isConstant x0).bind (fun r1 => if r1 = 0 then (some (β, b, N, (0 : Int32))) else ((gX10_isSpecial x1).bind (fun r2 => if r2 = 0 then (some (β, b, N, (0 : Int32))) else ((gX10_hasRoom β ).bind (fun r3 => if r3 = 0 then (some (β, b, N, (0 : Int32))) else (if isRb (b_lat β) = true then ((gX7_init 8 (b_cn β) (b_cb β) (0 : Int32) x0).bind (fun r4 => (gX10_remember3 β z N (0 : Int32) ).bind (fun r5 => (gX8_putSpecial 8 (b_cn r5) (b_cb r5) x0 x1 (0 : Int32)).bind (fun r6 => some (b_cb_ (b_cn_ r5 r6.1) r6.2, va_up b N (.inr (3, [b_lat β, .int (0 : Int32), .ref (z + 2), .int x0, .double r4.1, .int r4.2])), N + 1, (1 : Int32)))))) else none))))))
theorem hd_X10_constantSpecial : yX10_constantSpecial.cls ≠ "java/lang/invoke/MethodHandle" ∧ yX10_constantSpecial.cls ≠ "java/lang/invoke/VarHandle" ∧ (parseMethodDescriptor yX10_constantSpecial.desc).map (fun d => d.parameters.length) = some 2 := by decide +kernel
set_option maxHeartbeats 4000000 in
set_option maxRecDepth 100000 in
theorem tX10_constantSpecial {G : GG} {l : Launch} {z N : Nat} {b : Nat → va_E}  (hN : 71 ≤ N) (β : BS) (x0 : Int32) (x1 : Int32) {r : BS × (Nat → va_E) × Nat × Int32} (hg : gX10_constantSpecial G z N b β x0 x1 = some r) : Ct G l yX10_constantSpecial cX10_constantSpecial 3 (some .int) ({ frames := 3, cells := 1, slots := 6, locals := 66 } : Room) [.ref (z + 0), .int x0, .int x1] z (ctB G z β b) N (some (.int r.2.2.2)) (ctB G z r.1 r.2.1) r.2.2.1 := by
  refine Ct.of (lv := [(0, .ref (z + 0)), (1, .int x0), (2, .int x1)]) (by decide +kernel) (Nat.le_of_ble_eq_true rfl) rfl (fun p e s m args below meth c C => ?_)
  rw [gX10_constantSpecial] at hg
  refine j_iload_n C dX10_constantSpecial_0 1 rfl rfl ?_
  obtain ⟨r1, hr1, hg⟩ := ob hg
  refine j_callS C [.int x0] (tX10_isConstant x0 hr1) q2_26 q1_1 q2_25 q2_24 hd_X10_isConstant rfl dX10_constantSpecial_1 rfl (Nat.le_of_ble_eq_true rfl) ⟨(Nat.le_of_ble_eq_true rfl), (Nat.le_of_ble_eq_true rfl)⟩ ⟨(Nat.le_of_ble_eq_true rfl), (Nat.le_of_ble_eq_true rfl)⟩ ?_
  refine j_if_eq C 21 hg dX10_constantSpecial_4 (by decide) (fun hg => ?_) (fun hg => ?_)
  · refine j_iconst (v := 0) C dX10_constantSpecial_21 (by decide) ?_
    refine j_wide (k := 1) (n := 6) (Nat.le_of_ble_eq_true rfl) (Nat.le_of_ble_eq_true rfl) ?_
    exact j_iret C dX10_constantSpecial_22 (by first | rfl | (rw [← Option.some.inj hg] <;> rfl)) (by first | rfl | (rw [← Option.some.inj hg] <;> rfl)) (by first | rfl | (rw [← Option.some.inj hg] <;> rfl))
  · refine j_iload_n C dX10_constantSpecial_7 2 rfl rfl ?_
    obtain ⟨r2, hr2, hg⟩ := ob hg
    refine j_callS C [.int x1] (tX10_isSpecial x1 hr2) q2_0 q1_1 q1_239 q1_238 hd_X10_isSpecial rfl dX10_constantSpecial_8 rfl (Nat.le_of_ble_eq_true rfl) ⟨(Nat.le_of_ble_eq_true rfl), (Nat.le_of_ble_eq_true rfl)⟩ ⟨(Nat.le_of_ble_eq_true rfl), (Nat.le_of_ble_eq_true rfl)⟩ ?_
    refine j_if_eq C 21 hg dX10_constantSpecial_11 (by decide) (fun hg => ?_) (fun hg => ?_)
    · refine j_iconst (v := 0) C dX10_constantSpecial_21 (by decide) ?_
      refine j_wide (k := 1) (n := 6) (Nat.le_of_ble_eq_true rfl) (Nat.le_of_ble_eq_true rfl) ?_
      exact j_iret C dX10_constantSpecial_22 (by first | rfl | (rw [← Option.some.inj hg] <;> rfl)) (by first | rfl | (rw [← Option.some.inj hg] <;> rfl)) (by first | rfl | (rw [← Option.some.inj hg] <;> rfl))
    · refine j_aload_n C dX10_constantSpecial_14 0 rfl rfl ?_
      obtain ⟨r3, hr3, hg⟩ := ob hg
      refine j_callV C [] (tX10_hasRoom (b := b) (by omega) β  hr3) (by omega) cb_0 rfl q1_170 q1_1 q1_169 qp_1 q1_167 hd_X10_hasRoom rfl dX10_constantSpecial_15 rfl (Nat.le_of_ble_eq_true rfl) ⟨(Nat.le_of_ble_eq_true rfl), (Nat.le_of_ble_eq_true rfl)⟩ ⟨(Nat.le_of_ble_eq_true rfl), (Nat.le_of_ble_eq_true rfl)⟩ ?_
      refine j_if_ne C 23 hg dX10_constantSpecial_18 (by decide) (fun hg => ?_) (fun hg => ?_)
      · refine j_aload_n C dX10_constantSpecial_23 0 rfl rfl ?_
        refine j_new C tyX7 tyX7_ok (ci := 3) rfl inX7 q1_177 q1_178 q1_8 [.null, .int (0 : Int32), .null, .int (0 : Int32), .double (0 : UInt64), .int (0 : Int32)] (fun j hj => by rcases (show j = 0 ∨ j = 1 ∨ j = 2 ∨ j = 3 ∨ j = 4 ∨ j = 5 by omega) with rfl | rfl | rfl | rfl | rfl | rfl <;> rfl) ⟨(Nat.le_of_ble_eq_true rfl), (Nat.le_of_ble_eq_true rfl)⟩ dX10_constantSpecial_24 ?_
        refine j_dup C dX10_constantSpecial_27 rfl ?_
        refine j_aload_n C dX10_constantSpecial_28 0 rfl rfl ?_
        refine j_get (fs := [.ref (z + 1), .ref (z + 2), .ref (z + 5), .ref (z + 12), .int (b_acnt β), .int (b_rngs β), b_lat β, .int (b_chg β), .int (b_frs β)]) (v := b_lat β) C (by omega) ((va_up_ne _ _ (by omega)).trans cb_0) rfl inX10 6 (by decide) q1_130 rfl rfl dX10_constantSpecial_29 ?_
        refine j_iconst (v := 0) C dX10_constantSpecial_32 (by decide) ?_
        refine j_aload_n C dX10_constantSpecial_33 0 rfl rfl ?_
        refine j_get (fs := [.ref (z + 1), .ref (z + 2), .ref (z + 5), .ref (z + 12), .int (b_acnt β), .int (b_rngs β), b_lat β, .int (b_chg β), .int (b_frs β)]) (v := .ref (z + 2)) C (by omega) ((va_up_ne _ _ (by omega)).trans cb_0) rfl inX10 1 (by decide) q1_125 rfl rfl dX10_constantSpecial_34 ?_
        refine j_iload_n C dX10_constantSpecial_37 1 rfl rfl ?_
        obtain ⟨hlat, hg⟩ := gd hg
        replace hlat := isRb_of hlat
        obtain ⟨r4, hr4, hg⟩ := ob hg
        refine j_callI C [b_lat β, .int (0 : Int32), .ref (z + 2), .int x0] (tX7_init (ct := ctB G z β b) (t := N) (N := N + 1) (by omega) hlat ⟨by omega, cb_2, cb_3, cb_4⟩ (by omega) (0 : Int32) x0 hr4) q1_181 q1_8 q1_180 q1_179 rfl hd_X7_init rfl dX10_constantSpecial_38 rfl (Nat.le_of_ble_eq_true rfl) ⟨(Nat.le_of_ble_eq_true rfl), (Nat.le_of_ble_eq_true rfl)⟩ ⟨(Nat.le_of_ble_eq_true rfl), (Nat.le_of_ble_eq_true rfl)⟩ (j_ct (bs_up (by omega)) ?_)
        obtain ⟨r5, hr5, hg⟩ := ob hg
        refine j_callV C [.ref (z + N)] (tX10_remember3 (b := va_up b N (.inr (3, [b_lat β, .int (0 : Int32), .ref (z + 2), .int x0, .double r4.1, .int r4.2]))) (by omega) (t := N) (by omega) (by omega) (va_up_self _ _ _) β  hr5) (by omega) cb_0 rfl q1_218 q1_1 q1_217 qp_2 q1_215 hd_X10_remember rfl dX10_constantSpecial_41 rfl (Nat.le_of_ble_eq_true rfl) ⟨(Nat.le_of_ble_eq_true rfl), (Nat.le_of_ble_eq_true rfl)⟩ ⟨(Nat.le_of_ble_eq_true rfl), (Nat.le_of_ble_eq_true rfl)⟩ ?_
        refine j_aload_n C dX10_constantSpecial_44 0 rfl rfl ?_
        refine j_get (fs := [.ref (z + 1), .ref (z + 2), .ref (z + 5), .ref (z + 12), .int (b_acnt r5), .int (b_rngs r5), b_lat r5, .int (b_chg r5), .int (b_frs r5)]) (v := .ref (z + 2)) C (by omega) cb_0 rfl inX10 1 (by decide) q1_125 rfl rfl dX10_constantSpecial_45 ?_
        refine j_iload_n C dX10_constantSpecial_48 1 rfl rfl ?_
        refine j_iload_n C dX10_constantSpecial_49 2 rfl rfl ?_
        refine j_iconst (v := 0) C dX10_constantSpecial_50 (by decide) ?_
        obtain ⟨r6, hr6, hg⟩ := ob hg
        refine j_ct (rdS_self (r := 2) cb_3 cb_4).symm ?_
        refine j_callV C [.int x0, .int x1, .int (0 : Int32)] (tX8_putSpecial (ct := ctB G z r5 (va_up b N (.inr (3, [b_lat β, .int (0 : Int32), .ref (z + 2), .int x0, .double r4.1, .int r4.2])))) (by omega) cb_2 x0 x1 (0 : Int32) hr6) (by omega) ((rdS_ne (by omega) (by omega)).trans cb_2) rfl q2_4 q1_2 q2_2 q2_3 q2_1 hd_X8_putSpecial rfl dX10_constantSpecial_51 rfl (Nat.le_of_ble_eq_true rfl) ⟨(Nat.le_of_ble_eq_true rfl), (Nat.le_of_ble_eq_true rfl)⟩ ⟨(Nat.le_of_ble_eq_true rfl), (Nat.le_of_ble_eq_true rfl)⟩ (j_ct bs_cst ?_)
        refine j_iconst (v := 1) C dX10_constantSpecial_54 (by decide) ?_
        refine j_wide (k := 1) (n := 6) (Nat.le_of_ble_eq_true rfl) (Nat.le_of_ble_eq_true rfl) ?_
        exact j_iret C dX10_constantSpecial_55 (by first | rfl | (rw [← Option.some.inj hg] <;> rfl)) (by first | rfl | (rw [← Option.some.inj hg] <;> rfl)) (by first | rfl | (rw [← Option.some.inj hg] <;> rfl))
      · refine j_iconst (v := 0) C dX10_constantSpecial_21 (by decide) ?_
        refine j_wide (k := 1) (n := 6) (Nat.le_of_ble_eq_true rfl) (Nat.le_of_ble_eq_true rfl) ?_
        exact j_iret C dX10_constantSpecial_22 (by first | rfl | (rw [← Option.some.inj hg] <;> rfl)) (by first | rfl | (rw [← Option.some.inj hg] <;> rfl)) (by first | rfl | (rw [← Option.some.inj hg] <;> rfl))

def gX10_formula_55 (G : GG) (z : Nat) (N : Nat) (b : Nat → va_E) (β : BS) (x0 : Int32) (x1 : Int32) (x2 : Int32) (x3 : Int32) (x4 : Int32) (β9 : BS) (b9 : Nat → va_E) (N9 : Nat) : Option (BS × (Nat → va_E) × Nat × Int32) := (gX10_hasRoom β9 ).bind (fun r4 => if r4 = 0 then (some (β9, b9, N9, (0 : Int32))) else (if ix x0 12 then (if isRb (b_lat β9) = true then ((gX4_init (b_nar β9 x0.toNatClampNeg) (b_ff β9 x0.toNatClampNeg) (b_fa β9 x0.toNatClampNeg) (b_fb β9 x0.toNatClampNeg) (b_fc β9 x0.toNatClampNeg) (b_num β9 x0.toNatClampNeg) (b_bl β9 x0.toNatClampNeg) x0).bind (fun r6 => (gX10_remember2 β9 z N9 x0 ).bind (fun r7 => some (b_fc_ (b_fb_ (b_fa_ (b_ff_ r7 (va_up (b_ff r7) x0.toNatClampNeg x1)) (va_up (b_fa (b_ff_ r7 (va_up (b_ff r7) x0.toNatClampNeg x1))) x0.toNatClampNeg x2)) (va_up (b_fb (b_fa_ (b_ff_ r7 (va_up (b_ff r7) x0.toNatClampNeg x1)) (va_up (b_fa (b_ff_ r7 (va_up (b_ff r7) x0.toNatClampNeg x1))) x0.toNatClampNeg x2))) x0.toNatClampNeg x3)) (va_up (b_fc (b_fb_ (b_fa_ (b_ff_ r7 (va_up (b_ff r7) x0.toNatClampNeg x1)) (va_up (b_fa (b_ff_ r7 (va_up (b_ff r7) x0.toNatClampNeg x1))) x0.toNatClampNeg x2)) (va_up (b_fb (b_fa_ (b_ff_ r7 (va_up (b_ff r7) x0.toNatClampNeg x1)) (va_up (b_fa (b_ff_ r7 (va_up (b_ff r7) x0.toNatClampNeg x1))) x0.toNatClampNeg x2))) x0.toNatClampNeg x3))) x0.toNatClampNeg x4), va_up (va_up (va_up (va_up (va_up b9 N9 (.inr (2, [b_lat β9, .int x0, .ref (z + (13 + 4 * x0.toNatClampNeg)), .ref (z + (N9 + 1))]))) (N9 + 1) (.inr (1, [.ref (z + (N9 + 2)), .int r6.1, .int r6.2.1, .int r6.2.2.1, .int r6.2.2.2.1, .int r6.2.2.2.2.1]))) (N9 + 2) (.inr (4, [.ref (z + (N9 + 3)), .ref (z + (N9 + 4))]))) (N9 + 3) (cD G 16 r6.2.2.2.2.2.1)) (N9 + 4) (cZ G 16 r6.2.2.2.2.2.2), N9 + 5, (1 : Int32))))) else none) else none))
def gX10_formula (G : GG) (z : Nat) (N : Nat) (b : Nat → va_E) (β : BS) (x0 : Int32) (x1 : Int32) (x2 : Int32) (x3 : Int32) (x4 : Int32) : Option (BS × (Nat → va_E) × Nat × Int32) := (gX10_isColumn x0).bind (fun r1 => if r1 = 0 then (some (β, b, N, (0 : Int32))) else ((gX10_isComparison x4).bind (fun r2 => if r2 = 0 then (some (β, b, N, (0 : Int32))) else (if x1 < 0 then (some (β, b, N, (0 : Int32))) else (if x1 < (27 : Int32) then (if x2 < 0 then (some (β, b, N, (0 : Int32))) else (if x0 ≤ x2 then (some (β, b, N, (0 : Int32))) else (if x3 < 0 then (some (β, b, N, (0 : Int32))) else (if x3 < x0 then (gX10_formula_55 G z N b β x0 x1 x2 x3 x4 β b N) else ((gX10_isConstantSource x3).bind (fun r3 => if r3 = 0 then (some (β, b, N, (0 : Int32))) else (gX10_formula_55 G z N b β x0 x1 x2 x3 x4 β b N))))))) else (some (β, b, N, (0 : Int32))))))))
theorem hd_X10_formula : yX10_formula.cls ≠ "java/lang/invoke/MethodHandle" ∧ yX10_formula.cls ≠ "java/lang/invoke/VarHandle" ∧ (parseMethodDescriptor yX10_formula.desc).map (fun d => d.parameters.length) = some 5 := by decide +kernel
set_option maxHeartbeats 4000000 in
set_option maxRecDepth 100000 in
theorem tX10_formula {G : GG} {l : Launch} {z N : Nat} {b : Nat → va_E}  (hN : 71 ≤ N) (β : BS) (x0 : Int32) (x1 : Int32) (x2 : Int32) (x3 : Int32) (x4 : Int32) {r : BS × (Nat → va_E) × Nat × Int32} (hg : gX10_formula G z N b β x0 x1 x2 x3 x4 = some r) : Ct G l yX10_formula cX10_formula 7 (some .int) ({ frames := 4, cells := 5, slots := 44, locals := 91 } : Room) [.ref (z + 0), .int x0, .int x1, .int x2, .int x3, .int x4] z (ctB G z β b) N (some (.int r.2.2.2)) (ctB G z r.1 r.2.1) r.2.2.1 := by
  refine Ct.of (lv := [(0, .ref (z + 0)), (1, .int x0), (2, .int x1), (3, .int x2), (4, .int x3), (5, .int x4)]) (by decide +kernel) (Nat.le_of_ble_eq_true rfl) rfl (fun p e s m args below meth c C => ?_)
  have L_55 : ∀ (β9 : BS) (b9 : Nat → va_E) (N9 : Nat), 71 ≤ N9 → gX10_formula_55 G z N b β x0 x1 x2 x3 x4 β9 b9 N9 = some r → J G p l e ({ frames := 4, cells := 5, slots := 44, locals := 91 } : Room) s m args below meth c z 7 (MQ below (Qd G z (some (.int r.2.2.2)) (ctB G z r.1 r.2.1) r.2.2.1) args s 5 44 (zA z)) (ctB G z β9 b9) N9 0 0 55 [(0, .ref (z + 0)), (1, .int x0), (2, .int x1), (3, .int x2), (4, .int x3), (5, .int x4)] [] := by
    intro β9 b9 N9 hN9 hg
    rw [gX10_formula_55] at hg
    refine j_aload_n C dX10_formula_55 0 rfl rfl ?_
    obtain ⟨r4, hr4, hg⟩ := ob hg
    refine j_callV C [] (tX10_hasRoom (b := b9) (by omega) β9  hr4) (by omega) cb_0 rfl q1_170 q1_1 q1_169 qp_1 q1_167 hd_X10_hasRoom rfl dX10_formula_56 rfl (Nat.le_of_ble_eq_true rfl) ⟨(Nat.le_of_ble_eq_true rfl), (Nat.le_of_ble_eq_true rfl)⟩ ⟨(Nat.le_of_ble_eq_true rfl), (Nat.le_of_ble_eq_true rfl)⟩ ?_
    refine j_if_ne C 64 hg dX10_formula_59 (by decide) (fun hg => ?_) (fun hg => ?_)
    · refine j_aload_n C dX10_formula_64 0 rfl rfl ?_
      refine j_get (fs := [.ref (z + 1), .ref (z + 2), .ref (z + 5), .ref (z + 12), .int (b_acnt β9), .int (b_rngs β9), b_lat β9, .int (b_chg β9), .int (b_frs β9)]) (v := .ref (z + 1)) C (by omega) cb_0 rfl inX10 0 (by decide) q1_124 rfl rfl dX10_formula_65 ?_
      refine j_iload_n C dX10_formula_68 1 rfl rfl ?_
      obtain ⟨hi5, hg⟩ := gd hg
      have hl5 := ix_lt hi5
      refine jb_C C hi5 (by omega) cb_1 dX10_formula_69 ?_
      refine j_astore C [(6, .ref (z + (13 + 4 * x0.toNatClampNeg))), (0, .ref (z + 0)), (1, .int x0), (2, .int x1), (3, .int x2), (4, .int x3), (5, .int x4)] dX10_formula_70 (by decide) rfl ?_
      refine j_aload_n C dX10_formula_72 1 rfl rfl ?_
      refine j_new C tyX4 tyX4_ok (ci := 2) rfl inX4 q2_41 q2_42 q1_11 [.null, .int (0 : Int32), .null, .null] (fun j hj => by rcases (show j = 0 ∨ j = 1 ∨ j = 2 ∨ j = 3 by omega) with rfl | rfl | rfl | rfl <;> rfl) ⟨(Nat.le_of_ble_eq_true rfl), (Nat.le_of_ble_eq_true rfl)⟩ dX10_formula_73 ?_
      refine j_dup C dX10_formula_76 rfl ?_
      refine j_aload_n C dX10_formula_77 1 rfl rfl ?_
      refine j_get (fs := [.ref (z + 1), .ref (z + 2), .ref (z + 5), .ref (z + 12), .int (b_acnt β9), .int (b_rngs β9), b_lat β9, .int (b_chg β9), .int (b_frs β9)]) (v := b_lat β9) C (by omega) ((va_up_ne _ _ (by omega)).trans cb_0) rfl inX10 6 (by decide) q1_130 rfl rfl dX10_formula_78 ?_
      refine j_iload_n C dX10_formula_81 2 rfl rfl ?_
      refine j_aload C dX10_formula_82 0 rfl ?_
      obtain ⟨hlat, hg⟩ := gd hg
      replace hlat := isRb_of hlat
      obtain ⟨r6, hr6, hg⟩ := ob hg
      refine j_callI C [b_lat β9, .int x0, .ref (z + (13 + 4 * x0.toNatClampNeg))] (tX4_init (ct := ctB G z β9 b9) (t := N9) (k := 13 + 4 * x0.toNatClampNeg) hlat (by omega) (cb_col hl5) ⟨by omega, (cb_rd hl5), (cb_num hl5), (cb_bl hl5)⟩ x0 hr6) q2_45 q1_11 q2_44 q2_43 rfl hd_X4_init rfl dX10_formula_84 rfl (Nat.le_of_ble_eq_true rfl) ⟨(Nat.le_of_ble_eq_true rfl), (Nat.le_of_ble_eq_true rfl)⟩ ⟨(Nat.le_of_ble_eq_true rfl), (Nat.le_of_ble_eq_true rfl)⟩ (j_ct (bs_up5 (by omega)) ?_)
      obtain ⟨r7, hr7, hg⟩ := ob hg
      refine j_callV C [.ref (z + N9)] (tX10_remember2 (b := va_up (va_up (va_up (va_up (va_up b9 N9 (.inr (2, [b_lat β9, .int x0, .ref (z + (13 + 4 * x0.toNatClampNeg)), .ref (z + (N9 + 1))]))) (N9 + 1) (.inr (1, [.ref (z + (N9 + 2)), .int r6.1, .int r6.2.1, .int r6.2.2.1, .int r6.2.2.2.1, .int r6.2.2.2.2.1]))) (N9 + 2) (.inr (4, [.ref (z + (N9 + 3)), .ref (z + (N9 + 4))]))) (N9 + 3) (cD G 16 r6.2.2.2.2.2.1)) (N9 + 4) (cZ G 16 r6.2.2.2.2.2.2)) (by omega) (t := N9) (by omega) (by omega) ((va_up_ne _ _ (by omega)).trans ((va_up_ne _ _ (by omega)).trans ((va_up_ne _ _ (by omega)).trans ((va_up_ne _ _ (by omega)).trans (va_up_self _ _ _))))) β9  hr7) (by omega) cb_0 rfl q1_218 q1_1 q1_217 qp_2 q1_215 hd_X10_remember rfl dX10_formula_87 rfl (Nat.le_of_ble_eq_true rfl) ⟨(Nat.le_of_ble_eq_true rfl), (Nat.le_of_ble_eq_true rfl)⟩ ⟨(Nat.le_of_ble_eq_true rfl), (Nat.le_of_ble_eq_true rfl)⟩ ?_
      refine j_aload C dX10_formula_90 0 rfl ?_
      refine j_iload_n C dX10_formula_92 3 rfl rfl ?_
      refine j_put (fs := [.ref (z + (13 + 4 * x0.toNatClampNeg + 1)), .int (b_nar r7 x0.toNatClampNeg), .int (b_ff r7 x0.toNatClampNeg), .int (b_fa r7 x0.toNatClampNeg), .int (b_fb r7 x0.toNatClampNeg), .int (b_fc r7 x0.toNatClampNeg)]) C tyX3 tyX3_ok nmX3 (by omega) (cb_col hl5) rfl inX3 2 (by decide) q1_74 rfl rfl (tyX3_ok 2 (by decide)) rfl rfl (Nat.le_of_ble_eq_true rfl) dX10_formula_93 (j_ct (bs_ff hl5) ?_)
      refine j_aload C dX10_formula_96 0 rfl ?_
      refine j_iload_n C dX10_formula_98 4 rfl rfl ?_
      refine j_put (fs := [.ref (z + (13 + 4 * x0.toNatClampNeg + 1)), .int (b_nar (b_ff_ r7 (va_up (b_ff r7) x0.toNatClampNeg x1)) x0.toNatClampNeg), .int (b_ff (b_ff_ r7 (va_up (b_ff r7) x0.toNatClampNeg x1)) x0.toNatClampNeg), .int (b_fa (b_ff_ r7 (va_up (b_ff r7) x0.toNatClampNeg x1)) x0.toNatClampNeg), .int (b_fb (b_ff_ r7 (va_up (b_ff r7) x0.toNatClampNeg x1)) x0.toNatClampNeg), .int (b_fc (b_ff_ r7 (va_up (b_ff r7) x0.toNatClampNeg x1)) x0.toNatClampNeg)]) C tyX3 tyX3_ok nmX3 (by omega) (cb_col hl5) rfl inX3 3 (by decide) q1_76 rfl rfl (tyX3_ok 3 (by decide)) rfl rfl (Nat.le_of_ble_eq_true rfl) dX10_formula_99 (j_ct (bs_fa hl5) ?_)
      refine j_aload C dX10_formula_102 0 rfl ?_
      refine j_iload C dX10_formula_104 5 rfl ?_
      refine j_put (fs := [.ref (z + (13 + 4 * x0.toNatClampNeg + 1)), .int (b_nar (b_fa_ (b_ff_ r7 (va_up (b_ff r7) x0.toNatClampNeg x1)) (va_up (b_fa (b_ff_ r7 (va_up (b_ff r7) x0.toNatClampNeg x1))) x0.toNatClampNeg x2)) x0.toNatClampNeg), .int (b_ff (b_fa_ (b_ff_ r7 (va_up (b_ff r7) x0.toNatClampNeg x1)) (va_up (b_fa (b_ff_ r7 (va_up (b_ff r7) x0.toNatClampNeg x1))) x0.toNatClampNeg x2)) x0.toNatClampNeg), .int (b_fa (b_fa_ (b_ff_ r7 (va_up (b_ff r7) x0.toNatClampNeg x1)) (va_up (b_fa (b_ff_ r7 (va_up (b_ff r7) x0.toNatClampNeg x1))) x0.toNatClampNeg x2)) x0.toNatClampNeg), .int (b_fb (b_fa_ (b_ff_ r7 (va_up (b_ff r7) x0.toNatClampNeg x1)) (va_up (b_fa (b_ff_ r7 (va_up (b_ff r7) x0.toNatClampNeg x1))) x0.toNatClampNeg x2)) x0.toNatClampNeg), .int (b_fc (b_fa_ (b_ff_ r7 (va_up (b_ff r7) x0.toNatClampNeg x1)) (va_up (b_fa (b_ff_ r7 (va_up (b_ff r7) x0.toNatClampNeg x1))) x0.toNatClampNeg x2)) x0.toNatClampNeg)]) C tyX3 tyX3_ok nmX3 (by omega) (cb_col hl5) rfl inX3 4 (by decide) q1_78 rfl rfl (tyX3_ok 4 (by decide)) rfl rfl (Nat.le_of_ble_eq_true rfl) dX10_formula_106 (j_ct (bs_fb hl5) ?_)
      refine j_aload C dX10_formula_109 0 rfl ?_
      refine j_iload C dX10_formula_111 6 rfl ?_
      refine j_put (fs := [.ref (z + (13 + 4 * x0.toNatClampNeg + 1)), .int (b_nar (b_fb_ (b_fa_ (b_ff_ r7 (va_up (b_ff r7) x0.toNatClampNeg x1)) (va_up (b_fa (b_ff_ r7 (va_up (b_ff r7) x0.toNatClampNeg x1))) x0.toNatClampNeg x2)) (va_up (b_fb (b_fa_ (b_ff_ r7 (va_up (b_ff r7) x0.toNatClampNeg x1)) (va_up (b_fa (b_ff_ r7 (va_up (b_ff r7) x0.toNatClampNeg x1))) x0.toNatClampNeg x2))) x0.toNatClampNeg x3)) x0.toNatClampNeg), .int (b_ff (b_fb_ (b_fa_ (b_ff_ r7 (va_up (b_ff r7) x0.toNatClampNeg x1)) (va_up (b_fa (b_ff_ r7 (va_up (b_ff r7) x0.toNatClampNeg x1))) x0.toNatClampNeg x2)) (va_up (b_fb (b_fa_ (b_ff_ r7 (va_up (b_ff r7) x0.toNatClampNeg x1)) (va_up (b_fa (b_ff_ r7 (va_up (b_ff r7) x0.toNatClampNeg x1))) x0.toNatClampNeg x2))) x0.toNatClampNeg x3)) x0.toNatClampNeg), .int (b_fa (b_fb_ (b_fa_ (b_ff_ r7 (va_up (b_ff r7) x0.toNatClampNeg x1)) (va_up (b_fa (b_ff_ r7 (va_up (b_ff r7) x0.toNatClampNeg x1))) x0.toNatClampNeg x2)) (va_up (b_fb (b_fa_ (b_ff_ r7 (va_up (b_ff r7) x0.toNatClampNeg x1)) (va_up (b_fa (b_ff_ r7 (va_up (b_ff r7) x0.toNatClampNeg x1))) x0.toNatClampNeg x2))) x0.toNatClampNeg x3)) x0.toNatClampNeg), .int (b_fb (b_fb_ (b_fa_ (b_ff_ r7 (va_up (b_ff r7) x0.toNatClampNeg x1)) (va_up (b_fa (b_ff_ r7 (va_up (b_ff r7) x0.toNatClampNeg x1))) x0.toNatClampNeg x2)) (va_up (b_fb (b_fa_ (b_ff_ r7 (va_up (b_ff r7) x0.toNatClampNeg x1)) (va_up (b_fa (b_ff_ r7 (va_up (b_ff r7) x0.toNatClampNeg x1))) x0.toNatClampNeg x2))) x0.toNatClampNeg x3)) x0.toNatClampNeg), .int (b_fc (b_fb_ (b_fa_ (b_ff_ r7 (va_up (b_ff r7) x0.toNatClampNeg x1)) (va_up (b_fa (b_ff_ r7 (va_up (b_ff r7) x0.toNatClampNeg x1))) x0.toNatClampNeg x2)) (va_up (b_fb (b_fa_ (b_ff_ r7 (va_up (b_ff r7) x0.toNatClampNeg x1)) (va_up (b_fa (b_ff_ r7 (va_up (b_ff r7) x0.toNatClampNeg x1))) x0.toNatClampNeg x2))) x0.toNatClampNeg x3)) x0.toNatClampNeg)]) C tyX3 tyX3_ok nmX3 (by omega) (cb_col hl5) rfl inX3 5 (by decide) q1_81 rfl rfl (tyX3_ok 5 (by decide)) rfl rfl (Nat.le_of_ble_eq_true rfl) dX10_formula_113 (j_ct (bs_fc hl5) ?_)
      refine j_iconst (v := 1) C dX10_formula_116 (by decide) ?_
      refine j_wide (k := 5) (n := 44) (Nat.le_of_ble_eq_true rfl) (Nat.le_of_ble_eq_true rfl) ?_
      exact j_iret C dX10_formula_117 (by first | rfl | (rw [← Option.some.inj hg] <;> rfl)) (by first | rfl | (rw [← Option.some.inj hg] <;> rfl)) (by first | rfl | (rw [← Option.some.inj hg] <;> rfl))
    · refine j_iconst (v := 0) C dX10_formula_62 (by decide) ?_
      refine j_wide (k := 5) (n := 44) (Nat.le_of_ble_eq_true rfl) (Nat.le_of_ble_eq_true rfl) ?_
      exact j_iret C dX10_formula_63 (by first | rfl | (rw [← Option.some.inj hg] <;> rfl)) (by first | rfl | (rw [← Option.some.inj hg] <;> rfl)) (by first | rfl | (rw [← Option.some.inj hg] <;> rfl))
  rw [gX10_formula] at hg
  refine j_iload_n C dX10_formula_0 1 rfl rfl ?_
  obtain ⟨r1, hr1, hg⟩ := ob hg
  refine j_callS C [.int x0] (tX10_isColumn x0 hr1) q1_162 q1_1 q1_161 q1_160 hd_X10_isColumn rfl dX10_formula_1 rfl (Nat.le_of_ble_eq_true rfl) ⟨(Nat.le_of_ble_eq_true rfl), (Nat.le_of_ble_eq_true rfl)⟩ ⟨(Nat.le_of_ble_eq_true rfl), (Nat.le_of_ble_eq_true rfl)⟩ ?_
  refine j_if_eq C 25 hg dX10_formula_4 (by decide) (fun hg => ?_) (fun hg => ?_)
  · refine j_iconst (v := 0) C dX10_formula_25 (by decide) ?_
    refine j_wide (k := 5) (n := 44) (Nat.le_of_ble_eq_true rfl) (Nat.le_of_ble_eq_true rfl) ?_
    exact j_iret C dX10_formula_26 (by first | rfl | (rw [← Option.some.inj hg] <;> rfl)) (by first | rfl | (rw [← Option.some.inj hg] <;> rfl)) (by first | rfl | (rw [← Option.some.inj hg] <;> rfl))
  · refine j_iload C dX10_formula_7 5 rfl ?_
    obtain ⟨r2, hr2, hg⟩ := ob hg
    refine j_callS C [.int x4] (tX10_isComparison x4 hr2) q2_37 q1_1 q2_36 q2_35 hd_X10_isComparison rfl dX10_formula_9 rfl (Nat.le_of_ble_eq_true rfl) ⟨(Nat.le_of_ble_eq_true rfl), (Nat.le_of_ble_eq_true rfl)⟩ ⟨(Nat.le_of_ble_eq_true rfl), (Nat.le_of_ble_eq_true rfl)⟩ ?_
    refine j_if_eq C 25 hg dX10_formula_12 (by decide) (fun hg => ?_) (fun hg => ?_)
    · refine j_iconst (v := 0) C dX10_formula_25 (by decide) ?_
      refine j_wide (k := 5) (n := 44) (Nat.le_of_ble_eq_true rfl) (Nat.le_of_ble_eq_true rfl) ?_
      exact j_iret C dX10_formula_26 (by first | rfl | (rw [← Option.some.inj hg] <;> rfl)) (by first | rfl | (rw [← Option.some.inj hg] <;> rfl)) (by first | rfl | (rw [← Option.some.inj hg] <;> rfl))
    · refine j_iload_n C dX10_formula_15 2 rfl rfl ?_
      refine j_if_lt C 25 hg dX10_formula_16 (by decide) (fun hg => ?_) (fun hg => ?_)
      · refine j_iconst (v := 0) C dX10_formula_25 (by decide) ?_
        refine j_wide (k := 5) (n := 44) (Nat.le_of_ble_eq_true rfl) (Nat.le_of_ble_eq_true rfl) ?_
        exact j_iret C dX10_formula_26 (by first | rfl | (rw [← Option.some.inj hg] <;> rfl)) (by first | rfl | (rw [← Option.some.inj hg] <;> rfl)) (by first | rfl | (rw [← Option.some.inj hg] <;> rfl))
      · refine j_iload_n C dX10_formula_19 2 rfl rfl ?_
        refine j_bipush (v := 27) C dX10_formula_20 (by decide) ?_
        refine j_icmp_lt C 27 hg dX10_formula_22 (by decide) (fun hg => ?_) (fun hg => ?_)
        · refine j_iload_n C dX10_formula_27 3 rfl rfl ?_
          refine j_if_lt C 62 hg dX10_formula_28 (by decide) (fun hg => ?_) (fun hg => ?_)
          · refine j_iconst (v := 0) C dX10_formula_62 (by decide) ?_
            refine j_wide (k := 5) (n := 44) (Nat.le_of_ble_eq_true rfl) (Nat.le_of_ble_eq_true rfl) ?_
            exact j_iret C dX10_formula_63 (by first | rfl | (rw [← Option.some.inj hg] <;> rfl)) (by first | rfl | (rw [← Option.some.inj hg] <;> rfl)) (by first | rfl | (rw [← Option.some.inj hg] <;> rfl))
          · refine j_iload_n C dX10_formula_31 3 rfl rfl ?_
            refine j_iload_n C dX10_formula_32 1 rfl rfl ?_
            refine j_icmp_ge C 62 hg dX10_formula_33 (by decide) (fun hg => ?_) (fun hg => ?_)
            · refine j_iconst (v := 0) C dX10_formula_62 (by decide) ?_
              refine j_wide (k := 5) (n := 44) (Nat.le_of_ble_eq_true rfl) (Nat.le_of_ble_eq_true rfl) ?_
              exact j_iret C dX10_formula_63 (by first | rfl | (rw [← Option.some.inj hg] <;> rfl)) (by first | rfl | (rw [← Option.some.inj hg] <;> rfl)) (by first | rfl | (rw [← Option.some.inj hg] <;> rfl))
            · refine j_iload C dX10_formula_36 4 rfl ?_
              refine j_if_lt C 62 hg dX10_formula_38 (by decide) (fun hg => ?_) (fun hg => ?_)
              · refine j_iconst (v := 0) C dX10_formula_62 (by decide) ?_
                refine j_wide (k := 5) (n := 44) (Nat.le_of_ble_eq_true rfl) (Nat.le_of_ble_eq_true rfl) ?_
                exact j_iret C dX10_formula_63 (by first | rfl | (rw [← Option.some.inj hg] <;> rfl)) (by first | rfl | (rw [← Option.some.inj hg] <;> rfl)) (by first | rfl | (rw [← Option.some.inj hg] <;> rfl))
              · refine j_iload C dX10_formula_41 4 rfl ?_
                refine j_iload_n C dX10_formula_43 1 rfl rfl ?_
                refine j_icmp_lt C 55 hg dX10_formula_44 (by decide) (fun hg => ?_) (fun hg => ?_)
                · exact L_55 β b N (by omega) hg
                · refine j_iload C dX10_formula_47 4 rfl ?_
                  obtain ⟨r3, hr3, hg⟩ := ob hg
                  refine j_callS C [.int x3] (tX10_isConstantSource x3 hr3) q2_40 q1_1 q2_39 q2_38 hd_X10_isConstantSource rfl dX10_formula_49 rfl (Nat.le_of_ble_eq_true rfl) ⟨(Nat.le_of_ble_eq_true rfl), (Nat.le_of_ble_eq_true rfl)⟩ ⟨(Nat.le_of_ble_eq_true rfl), (Nat.le_of_ble_eq_true rfl)⟩ ?_
                  refine j_if_eq C 62 hg dX10_formula_52 (by decide) (fun hg => ?_) (fun hg => ?_)
                  · refine j_iconst (v := 0) C dX10_formula_62 (by decide) ?_
                    refine j_wide (k := 5) (n := 44) (Nat.le_of_ble_eq_true rfl) (Nat.le_of_ble_eq_true rfl) ?_
                    exact j_iret C dX10_formula_63 (by first | rfl | (rw [← Option.some.inj hg] <;> rfl)) (by first | rfl | (rw [← Option.some.inj hg] <;> rfl)) (by first | rfl | (rw [← Option.some.inj hg] <;> rfl))
                  · exact L_55 β b N (by omega) hg
        · refine j_iconst (v := 0) C dX10_formula_25 (by decide) ?_
          refine j_wide (k := 5) (n := 44) (Nat.le_of_ble_eq_true rfl) (Nat.le_of_ble_eq_true rfl) ?_
          exact j_iret C dX10_formula_26 (by first | rfl | (rw [← Option.some.inj hg] <;> rfl)) (by first | rfl | (rw [← Option.some.inj hg] <;> rfl)) (by first | rfl | (rw [← Option.some.inj hg] <;> rfl))

def gX10_input (G : GG) (z : Nat) (N : Nat) (b : Nat → va_E) (β : BS) (x0 : Int32) : Option (BS × (Nat → va_E) × Nat × Int32) := (gX10_isColumn x0).bind (fun r1 => if r1 = 0 then (some (β, b, N, (0 : Int32))) else (if ix x0 12 then ((gX3_hasFormula (b_nar β x0.toNatClampNeg) (b_ff β x0.toNatClampNeg) (b_fa β x0.toNatClampNeg) (b_fb β x0.toNatClampNeg) (b_fc β x0.toNatClampNeg)).bind (fun r3 => if r3 = 0 then (some (β, b, N, (0 : Int32))) else ((gX10_hasRoom β ).bind (fun r4 => if r4 = 0 then (some (β, b, N, (0 : Int32))) else ((gX10_refresh β x0).bind (fun r5 => if ix x0 12 then (if isRb (b_lat r5) = true then ((gX4_init (b_nar r5 x0.toNatClampNeg) (b_ff r5 x0.toNatClampNeg) (b_fa r5 x0.toNatClampNeg) (b_fb r5 x0.toNatClampNeg) (b_fc r5 x0.toNatClampNeg) (b_num r5 x0.toNatClampNeg) (b_bl r5 x0.toNatClampNeg) x0).bind (fun r7 => (gX10_remember2 r5 z N x0 ).bind (fun r8 => some (b_ff_ r8 (va_up (b_ff r8) x0.toNatClampNeg (-1 : Int32)), va_up (va_up (va_up (va_up (va_up b N (.inr (2, [b_lat r5, .int x0, .ref (z + (13 + 4 * x0.toNatClampNeg)), .ref (z + (N + 1))]))) (N + 1) (.inr (1, [.ref (z + (N + 2)), .int r7.1, .int r7.2.1, .int r7.2.2.1, .int r7.2.2.2.1, .int r7.2.2.2.2.1]))) (N + 2) (.inr (4, [.ref (z + (N + 3)), .ref (z + (N + 4))]))) (N + 3) (cD G 16 r7.2.2.2.2.2.1)) (N + 4) (cZ G 16 r7.2.2.2.2.2.2), N + 5, (1 : Int32))))) else none) else none)))))) else none))
theorem hd_X10_input : yX10_input.cls ≠ "java/lang/invoke/MethodHandle" ∧ yX10_input.cls ≠ "java/lang/invoke/VarHandle" ∧ (parseMethodDescriptor yX10_input.desc).map (fun d => d.parameters.length) = some 1 := by decide +kernel
set_option maxHeartbeats 4000000 in
set_option maxRecDepth 100000 in
theorem tX10_input {G : GG} {l : Launch} {z N : Nat} {b : Nat → va_E}  (hN : 71 ≤ N) (β : BS) (x0 : Int32) {r : BS × (Nat → va_E) × Nat × Int32} (hg : gX10_input G z N b β x0 = some r) : Ct G l yX10_input cX10_input 3 (some .int) ({ frames := 6, cells := 5, slots := 44, locals := 166 } : Room) [.ref (z + 0), .int x0] z (ctB G z β b) N (some (.int r.2.2.2)) (ctB G z r.1 r.2.1) r.2.2.1 := by
  refine Ct.of (lv := [(0, .ref (z + 0)), (1, .int x0)]) (by decide +kernel) (Nat.le_of_ble_eq_true rfl) rfl (fun p e s m args below meth c C => ?_)
  rw [gX10_input] at hg
  refine j_iload_n C dX10_input_0 1 rfl rfl ?_
  obtain ⟨r1, hr1, hg⟩ := ob hg
  refine j_callS C [.int x0] (tX10_isColumn x0 hr1) q1_162 q1_1 q1_161 q1_160 hd_X10_isColumn rfl dX10_input_1 rfl (Nat.le_of_ble_eq_true rfl) ⟨(Nat.le_of_ble_eq_true rfl), (Nat.le_of_ble_eq_true rfl)⟩ ⟨(Nat.le_of_ble_eq_true rfl), (Nat.le_of_ble_eq_true rfl)⟩ ?_
  refine j_if_eq C 26 hg dX10_input_4 (by decide) (fun hg => ?_) (fun hg => ?_)
  · refine j_iconst (v := 0) C dX10_input_26 (by decide) ?_
    refine j_wide (k := 5) (n := 44) (Nat.le_of_ble_eq_true rfl) (Nat.le_of_ble_eq_true rfl) ?_
    exact j_iret C dX10_input_27 (by first | rfl | (rw [← Option.some.inj hg] <;> rfl)) (by first | rfl | (rw [← Option.some.inj hg] <;> rfl)) (by first | rfl | (rw [← Option.some.inj hg] <;> rfl))
  · refine j_aload_n C dX10_input_7 0 rfl rfl ?_
    refine j_get (fs := [.ref (z + 1), .ref (z + 2), .ref (z + 5), .ref (z + 12), .int (b_acnt β), .int (b_rngs β), b_lat β, .int (b_chg β), .int (b_frs β)]) (v := .ref (z + 1)) C (by omega) cb_0 rfl inX10 0 (by decide) q1_124 rfl rfl dX10_input_8 ?_
    refine j_iload_n C dX10_input_11 1 rfl rfl ?_
    obtain ⟨hi2, hg⟩ := gd hg
    have hl2 := ix_lt hi2
    refine jb_C C hi2 (by omega) cb_1 dX10_input_12 ?_
    obtain ⟨r3, hr3, hg⟩ := ob hg
    refine j_callV C [] (tX3_hasFormula (by omega) (cb_col hl2)  hr3) (by omega) (cb_col hl2) rfl q1_166 q1_4 q1_164 q1_165 q1_163 hd_X3_hasFormula rfl dX10_input_13 rfl (Nat.le_of_ble_eq_true rfl) ⟨(Nat.le_of_ble_eq_true rfl), (Nat.le_of_ble_eq_true rfl)⟩ ⟨(Nat.le_of_ble_eq_true rfl), (Nat.le_of_ble_eq_true rfl)⟩ ?_
    refine j_if_eq C 26 hg dX10_input_16 (by decide) (fun hg => ?_) (fun hg => ?_)
    · refine j_iconst (v := 0) C dX10_input_26 (by decide) ?_
      refine j_wide (k := 5) (n := 44) (Nat.le_of_ble_eq_true rfl) (Nat.le_of_ble_eq_true rfl) ?_
      exact j_iret C dX10_input_27 (by first | rfl | (rw [← Option.some.inj hg] <;> rfl)) (by first | rfl | (rw [← Option.some.inj hg] <;> rfl)) (by first | rfl | (rw [← Option.some.inj hg] <;> rfl))
    · refine j_aload_n C dX10_input_19 0 rfl rfl ?_
      obtain ⟨r4, hr4, hg⟩ := ob hg
      refine j_callV C [] (tX10_hasRoom (b := b) (by omega) β  hr4) (by omega) cb_0 rfl q1_170 q1_1 q1_169 qp_1 q1_167 hd_X10_hasRoom rfl dX10_input_20 rfl (Nat.le_of_ble_eq_true rfl) ⟨(Nat.le_of_ble_eq_true rfl), (Nat.le_of_ble_eq_true rfl)⟩ ⟨(Nat.le_of_ble_eq_true rfl), (Nat.le_of_ble_eq_true rfl)⟩ ?_
      refine j_if_ne C 28 hg dX10_input_23 (by decide) (fun hg => ?_) (fun hg => ?_)
      · refine j_aload_n C dX10_input_28 0 rfl rfl ?_
        refine j_iload_n C dX10_input_29 1 rfl rfl ?_
        obtain ⟨r5, hr5, hg⟩ := ob hg
        refine j_callV C [.int x0] (tX10_refresh (b := b) (by omega) β x0 hr5) (by omega) cb_0 rfl q2_74 q1_1 q2_73 qp_3 q2_71 hd_X10_refresh rfl dX10_input_30 rfl (Nat.le_of_ble_eq_true rfl) ⟨(Nat.le_of_ble_eq_true rfl), (Nat.le_of_ble_eq_true rfl)⟩ ⟨(Nat.le_of_ble_eq_true rfl), (Nat.le_of_ble_eq_true rfl)⟩ ?_
        refine j_aload_n C dX10_input_33 0 rfl rfl ?_
        refine j_get (fs := [.ref (z + 1), .ref (z + 2), .ref (z + 5), .ref (z + 12), .int (b_acnt r5), .int (b_rngs r5), b_lat r5, .int (b_chg r5), .int (b_frs r5)]) (v := .ref (z + 1)) C (by omega) cb_0 rfl inX10 0 (by decide) q1_124 rfl rfl dX10_input_34 ?_
        refine j_iload_n C dX10_input_37 1 rfl rfl ?_
        obtain ⟨hi6, hg⟩ := gd hg
        have hl6 := ix_lt hi6
        refine jb_C C hi6 (by omega) cb_1 dX10_input_38 ?_
        refine j_astore_n C [(2, .ref (z + (13 + 4 * x0.toNatClampNeg))), (0, .ref (z + 0)), (1, .int x0)] dX10_input_39 rfl (by decide) rfl ?_
        refine j_aload_n C dX10_input_40 1 rfl rfl ?_
        refine j_new C tyX4 tyX4_ok (ci := 2) rfl inX4 q2_41 q2_42 q1_11 [.null, .int (0 : Int32), .null, .null] (fun j hj => by rcases (show j = 0 ∨ j = 1 ∨ j = 2 ∨ j = 3 by omega) with rfl | rfl | rfl | rfl <;> rfl) ⟨(Nat.le_of_ble_eq_true rfl), (Nat.le_of_ble_eq_true rfl)⟩ dX10_input_41 ?_
        refine j_dup C dX10_input_44 rfl ?_
        refine j_aload_n C dX10_input_45 1 rfl rfl ?_
        refine j_get (fs := [.ref (z + 1), .ref (z + 2), .ref (z + 5), .ref (z + 12), .int (b_acnt r5), .int (b_rngs r5), b_lat r5, .int (b_chg r5), .int (b_frs r5)]) (v := b_lat r5) C (by omega) ((va_up_ne _ _ (by omega)).trans cb_0) rfl inX10 6 (by decide) q1_130 rfl rfl dX10_input_46 ?_
        refine j_iload_n C dX10_input_49 2 rfl rfl ?_
        refine j_aload_n C dX10_input_50 0 rfl rfl ?_
        obtain ⟨hlat, hg⟩ := gd hg
        replace hlat := isRb_of hlat
        obtain ⟨r7, hr7, hg⟩ := ob hg
        refine j_callI C [b_lat r5, .int x0, .ref (z + (13 + 4 * x0.toNatClampNeg))] (tX4_init (ct := ctB G z r5 b) (t := N) (k := 13 + 4 * x0.toNatClampNeg) hlat (by omega) (cb_col hl6) ⟨by omega, (cb_rd hl6), (cb_num hl6), (cb_bl hl6)⟩ x0 hr7) q2_45 q1_11 q2_44 q2_43 rfl hd_X4_init rfl dX10_input_51 rfl (Nat.le_of_ble_eq_true rfl) ⟨(Nat.le_of_ble_eq_true rfl), (Nat.le_of_ble_eq_true rfl)⟩ ⟨(Nat.le_of_ble_eq_true rfl), (Nat.le_of_ble_eq_true rfl)⟩ (j_ct (bs_up5 (by omega)) ?_)
        obtain ⟨r8, hr8, hg⟩ := ob hg
        refine j_callV C [.ref (z + N)] (tX10_remember2 (b := va_up (va_up (va_up (va_up (va_up b N (.inr (2, [b_lat r5, .int x0, .ref (z + (13 + 4 * x0.toNatClampNeg)), .ref (z + (N + 1))]))) (N + 1) (.inr (1, [.ref (z + (N + 2)), .int r7.1, .int r7.2.1, .int r7.2.2.1, .int r7.2.2.2.1, .int r7.2.2.2.2.1]))) (N + 2) (.inr (4, [.ref (z + (N + 3)), .ref (z + (N + 4))]))) (N + 3) (cD G 16 r7.2.2.2.2.2.1)) (N + 4) (cZ G 16 r7.2.2.2.2.2.2)) (by omega) (t := N) (by omega) (by omega) ((va_up_ne _ _ (by omega)).trans ((va_up_ne _ _ (by omega)).trans ((va_up_ne _ _ (by omega)).trans ((va_up_ne _ _ (by omega)).trans (va_up_self _ _ _))))) r5  hr8) (by omega) cb_0 rfl q1_218 q1_1 q1_217 qp_2 q1_215 hd_X10_remember rfl dX10_input_54 rfl (Nat.le_of_ble_eq_true rfl) ⟨(Nat.le_of_ble_eq_true rfl), (Nat.le_of_ble_eq_true rfl)⟩ ⟨(Nat.le_of_ble_eq_true rfl), (Nat.le_of_ble_eq_true rfl)⟩ ?_
        refine j_aload_n C dX10_input_57 0 rfl rfl ?_
        refine j_iconst (v := (-1)) C dX10_input_58 (by decide) ?_
        refine j_put (fs := [.ref (z + (13 + 4 * x0.toNatClampNeg + 1)), .int (b_nar r8 x0.toNatClampNeg), .int (b_ff r8 x0.toNatClampNeg), .int (b_fa r8 x0.toNatClampNeg), .int (b_fb r8 x0.toNatClampNeg), .int (b_fc r8 x0.toNatClampNeg)]) C tyX3 tyX3_ok nmX3 (by omega) (cb_col hl6) rfl inX3 2 (by decide) q1_74 rfl rfl (tyX3_ok 2 (by decide)) rfl rfl (Nat.le_of_ble_eq_true rfl) dX10_input_59 (j_ct (bs_ff hl6) ?_)
        refine j_iconst (v := 1) C dX10_input_62 (by decide) ?_
        refine j_wide (k := 5) (n := 44) (Nat.le_of_ble_eq_true rfl) (Nat.le_of_ble_eq_true rfl) ?_
        exact j_iret C dX10_input_63 (by first | rfl | (rw [← Option.some.inj hg] <;> rfl)) (by first | rfl | (rw [← Option.some.inj hg] <;> rfl)) (by first | rfl | (rw [← Option.some.inj hg] <;> rfl))
      · refine j_iconst (v := 0) C dX10_input_26 (by decide) ?_
        refine j_wide (k := 5) (n := 44) (Nat.le_of_ble_eq_true rfl) (Nat.le_of_ble_eq_true rfl) ?_
        exact j_iret C dX10_input_27 (by first | rfl | (rw [← Option.some.inj hg] <;> rfl)) (by first | rfl | (rw [← Option.some.inj hg] <;> rfl)) (by first | rfl | (rw [← Option.some.inj hg] <;> rfl))

def gX10_width_68 (G : GG) (z : Nat) (N : Nat) (b : Nat → va_E) (β : BS) (x0 : Int32) (x1 : Int32) (k68 : BS → (Nat → va_E) → Nat → Int32 → Option (BS × (Nat → va_E) × Nat × Int32)) (β9 : BS) (b9 : Nat → va_E) (N9 : Nat) (v4 : Int32) : Option (BS × (Nat → va_E) × Nat × Int32) := if (16 : Int32) ≤ v4 then (some (β9, b9, N9, (1 : Int32))) else ((gX8_putBroughtS 16 (b_num β9 x0.toNatClampNeg) (b_bl β9 x0.toNatClampNeg) v4 v4 x1).bind (fun r8 => k68 (b_bl_ (b_num_ β9 (va_up (b_num β9) x0.toNatClampNeg r8.1)) (va_up (b_bl β9) x0.toNatClampNeg r8.2)) b9 N9 (v4 + (1 : Int32))))
def gX10_width (G : GG) (z : Nat) (N : Nat) (b : Nat → va_E) (β : BS) (x0 : Int32) (x1 : Int32) : Option (BS × (Nat → va_E) × Nat × Int32) := (gX10_isColumn x0).bind (fun r1 => if r1 = 0 then (some (β, b, N, (0 : Int32))) else (if ix x0 12 then (if (b_nar β x0.toNatClampNeg) = x1 then (some (β, b, N, (0 : Int32))) else ((gX10_hasRoom β ).bind (fun r3 => if r3 = 0 then (some (β, b, N, (0 : Int32))) else (if ix x0 12 then (if isRb (b_lat β) = true then ((gX4_init (b_nar β x0.toNatClampNeg) (b_ff β x0.toNatClampNeg) (b_fa β x0.toNatClampNeg) (b_fb β x0.toNatClampNeg) (b_fc β x0.toNatClampNeg) (b_num β x0.toNatClampNeg) (b_bl β x0.toNatClampNeg) x0).bind (fun r5 => (gX10_remember2 β z N x0 ).bind (fun r6 => if vp_nar .boolean x1 = x1 then ((gX3_hasFormula (b_nar (b_nar_ r6 (va_up (b_nar r6) x0.toNatClampNeg x1)) x0.toNatClampNeg) (b_ff (b_nar_ r6 (va_up (b_nar r6) x0.toNatClampNeg x1)) x0.toNatClampNeg) (b_fa (b_nar_ r6 (va_up (b_nar r6) x0.toNatClampNeg x1)) x0.toNatClampNeg) (b_fb (b_nar_ r6 (va_up (b_nar r6) x0.toNatClampNeg x1)) x0.toNatClampNeg) (b_fc (b_nar_ r6 (va_up (b_nar r6) x0.toNatClampNeg x1)) x0.toNatClampNeg)).bind (fun r7 => if r7 = 0 then (lq4 (gX10_width_68 G z N b β x0 x1) 20 (b_nar_ r6 (va_up (b_nar r6) x0.toNatClampNeg x1)) (va_up (va_up (va_up (va_up (va_up b N (.inr (2, [b_lat β, .int x0, .ref (z + (13 + 4 * x0.toNatClampNeg)), .ref (z + (N + 1))]))) (N + 1) (.inr (1, [.ref (z + (N + 2)), .int r5.1, .int r5.2.1, .int r5.2.2.1, .int r5.2.2.2.1, .int r5.2.2.2.2.1]))) (N + 2) (.inr (4, [.ref (z + (N + 3)), .ref (z + (N + 4))]))) (N + 3) (cD G 16 r5.2.2.2.2.2.1)) (N + 4) (cZ G 16 r5.2.2.2.2.2.2)) (N + 5) (0 : Int32)) else (some (b_nar_ r6 (va_up (b_nar r6) x0.toNatClampNeg x1), va_up (va_up (va_up (va_up (va_up b N (.inr (2, [b_lat β, .int x0, .ref (z + (13 + 4 * x0.toNatClampNeg)), .ref (z + (N + 1))]))) (N + 1) (.inr (1, [.ref (z + (N + 2)), .int r5.1, .int r5.2.1, .int r5.2.2.1, .int r5.2.2.2.1, .int r5.2.2.2.2.1]))) (N + 2) (.inr (4, [.ref (z + (N + 3)), .ref (z + (N + 4))]))) (N + 3) (cD G 16 r5.2.2.2.2.2.1)) (N + 4) (cZ G 16 r5.2.2.2.2.2.2), N + 5, (1 : Int32))))) else none))) else none) else none)))) else none))
theorem hd_X10_width : yX10_width.cls ≠ "java/lang/invoke/MethodHandle" ∧ yX10_width.cls ≠ "java/lang/invoke/VarHandle" ∧ (parseMethodDescriptor yX10_width.desc).map (fun d => d.parameters.length) = some 2 := by decide +kernel
set_option maxHeartbeats 4000000 in
set_option maxRecDepth 100000 in
theorem tX10_width {G : GG} {l : Launch} {z N : Nat} {b : Nat → va_E}  (hN : 71 ≤ N) (β : BS) (x0 : Int32) (x1 : Int32) {r : BS × (Nat → va_E) × Nat × Int32} (hg : gX10_width G z N b β x0 x1 = some r) : Ct G l yX10_width cX10_width 5 (some .int) ({ frames := 4, cells := 5, slots := 44, locals := 91 } : Room) [.ref (z + 0), .int x0, .int x1] z (ctB G z β b) N (some (.int r.2.2.2)) (ctB G z r.1 r.2.1) r.2.2.1 := by
  refine Ct.of (lv := [(0, .ref (z + 0)), (1, .int x0), (2, .int x1)]) (by decide +kernel) (Nat.le_of_ble_eq_true rfl) rfl (fun p e s m args below meth c C => ?_)
  have L_68 : ∀ (n68 : Nat) (β9 : BS) (b9 : Nat → va_E) (N9 : Nat) (v4 : Int32), x0.toNatClampNeg < 12 → 71 ≤ N9 → lq4 (gX10_width_68 G z N b β x0 x1) n68 β9 b9 N9 v4 = some r → J G p l e ({ frames := 4, cells := 5, slots := 44, locals := 91 } : Room) s m args below meth c z 5 (MQ below (Qd G z (some (.int r.2.2.2)) (ctB G z r.1 r.2.1) r.2.2.1) args s 5 44 (zA z)) (ctB G z β9 b9) N9 5 44 68 [(2, .int x1), (3, .ref (z + (13 + 4 * x0.toNatClampNeg))), (4, .int v4)] [] := by
    intro n68
    induction n68 with
    | zero => intro β9 b9 N9 v4 hp68_0 hN9 hg; cases hg
    | succ n68 ih68 =>
      intro β9 b9 N9 v4 hp68_0 hN9 hg
      replace hg : gX10_width_68 G z N b β x0 x1 (lq4 (gX10_width_68 G z N b β x0 x1) n68) β9 b9 N9 v4 = some r := hg
      rw [gX10_width_68] at hg
      refine j_iload C dX10_width_68 2 rfl ?_
      refine j_bipush (v := 16) C dX10_width_70 (by decide) ?_
      refine j_icmp_ge C 97 hg dX10_width_72 (by decide) (fun hg => ?_) (fun hg => ?_)
      · refine j_iconst (v := 1) C dX10_width_97 (by decide) ?_
        refine j_wide (k := 5) (n := 44) (Nat.le_of_ble_eq_true rfl) (Nat.le_of_ble_eq_true rfl) ?_
        exact j_iret C dX10_width_98 (by first | rfl | (rw [← Option.some.inj hg] <;> rfl)) (by first | rfl | (rw [← Option.some.inj hg] <;> rfl)) (by first | rfl | (rw [← Option.some.inj hg] <;> rfl))
      · refine j_aload_n C dX10_width_75 1 rfl rfl ?_
        refine j_get (fs := [.ref (z + (13 + 4 * x0.toNatClampNeg + 1)), .int (b_nar β9 x0.toNatClampNeg), .int (b_ff β9 x0.toNatClampNeg), .int (b_fa β9 x0.toNatClampNeg), .int (b_fb β9 x0.toNatClampNeg), .int (b_fc β9 x0.toNatClampNeg)]) (v := .ref (z + (13 + 4 * x0.toNatClampNeg + 1))) C (by omega) (cb_col hp68_0) rfl inX3 0 (by decide) q1_68 rfl rfl dX10_width_76 ?_
        refine j_iload C dX10_width_79 2 rfl ?_
        refine j_aload_n C dX10_width_81 1 rfl rfl ?_
        refine j_get (fs := [.ref (z + (13 + 4 * x0.toNatClampNeg + 1)), .int (b_nar β9 x0.toNatClampNeg), .int (b_ff β9 x0.toNatClampNeg), .int (b_fa β9 x0.toNatClampNeg), .int (b_fb β9 x0.toNatClampNeg), .int (b_fc β9 x0.toNatClampNeg)]) (v := .ref (z + (13 + 4 * x0.toNatClampNeg + 1))) C (by omega) (cb_col hp68_0) rfl inX3 0 (by decide) q1_68 rfl rfl dX10_width_82 ?_
        refine j_iload C dX10_width_85 2 rfl ?_
        refine j_iload_n C dX10_width_87 0 rfl rfl ?_
        obtain ⟨r8, hr8, hg⟩ := ob hg
        refine j_ct (rdS_self (r := 13 + 4 * x0.toNatClampNeg + 1) (cb_num hp68_0) (cb_bl hp68_0)).symm ?_
        refine j_callV C [.int v4, .ref (z + (13 + 4 * x0.toNatClampNeg + 1)), .int v4, .int x1] (tX8_putBroughtS (ct := ctB G z β9 b9) (by omega) (cb_rd hp68_0) v4 v4 x1 hr8) (by omega) ((rdS_ne (by omega) (by omega)).trans (cb_rd hp68_0)) rfl q2_56 q1_2 q2_54 q2_55 q2_86 hd_X8_putBrought rfl dX10_width_88 rfl (Nat.le_of_ble_eq_true rfl) ⟨(Nat.le_of_ble_eq_true rfl), (Nat.le_of_ble_eq_true rfl)⟩ ⟨(Nat.le_of_ble_eq_true rfl), (Nat.le_of_ble_eq_true rfl)⟩ (j_ct (bs_rd hp68_0) ?_)
        refine j_iinc C [(4, .int (v4 + (1 : Int32))), (2, .int x1), (3, .ref (z + (13 + 4 * x0.toNatClampNeg)))] dX10_width_91 2 rfl rfl (by decide) rfl ?_
        refine j_goto C 68 dX10_width_94 (by decide) ?_
        exact j_re [1, 2, 0] rfl (ih68 (b_bl_ (b_num_ β9 (va_up (b_num β9) x0.toNatClampNeg r8.1)) (va_up (b_bl β9) x0.toNatClampNeg r8.2)) b9 N9 (v4 + (1 : Int32)) hp68_0 (by omega) hg)
  rw [gX10_width] at hg
  refine j_iload_n C dX10_width_0 1 rfl rfl ?_
  obtain ⟨r1, hr1, hg⟩ := ob hg
  refine j_callS C [.int x0] (tX10_isColumn x0 hr1) q1_162 q1_1 q1_161 q1_160 hd_X10_isColumn rfl dX10_width_1 rfl (Nat.le_of_ble_eq_true rfl) ⟨(Nat.le_of_ble_eq_true rfl), (Nat.le_of_ble_eq_true rfl)⟩ ⟨(Nat.le_of_ble_eq_true rfl), (Nat.le_of_ble_eq_true rfl)⟩ ?_
  refine j_if_eq C 27 hg dX10_width_4 (by decide) (fun hg => ?_) (fun hg => ?_)
  · refine j_iconst (v := 0) C dX10_width_27 (by decide) ?_
    refine j_wide (k := 5) (n := 44) (Nat.le_of_ble_eq_true rfl) (Nat.le_of_ble_eq_true rfl) ?_
    exact j_iret C dX10_width_28 (by first | rfl | (rw [← Option.some.inj hg] <;> rfl)) (by first | rfl | (rw [← Option.some.inj hg] <;> rfl)) (by first | rfl | (rw [← Option.some.inj hg] <;> rfl))
  · refine j_aload_n C dX10_width_7 0 rfl rfl ?_
    refine j_get (fs := [.ref (z + 1), .ref (z + 2), .ref (z + 5), .ref (z + 12), .int (b_acnt β), .int (b_rngs β), b_lat β, .int (b_chg β), .int (b_frs β)]) (v := .ref (z + 1)) C (by omega) cb_0 rfl inX10 0 (by decide) q1_124 rfl rfl dX10_width_8 ?_
    refine j_iload_n C dX10_width_11 1 rfl rfl ?_
    obtain ⟨hi2, hg⟩ := gd hg
    have hl2 := ix_lt hi2
    refine jb_C C hi2 (by omega) cb_1 dX10_width_12 ?_
    refine j_get (fs := [.ref (z + (13 + 4 * x0.toNatClampNeg + 1)), .int (b_nar β x0.toNatClampNeg), .int (b_ff β x0.toNatClampNeg), .int (b_fa β x0.toNatClampNeg), .int (b_fb β x0.toNatClampNeg), .int (b_fc β x0.toNatClampNeg)]) (v := .int (b_nar β x0.toNatClampNeg)) C (by omega) (cb_col hl2) rfl inX3 1 (by decide) q1_70 rfl rfl dX10_width_13 ?_
    refine j_iload_n C dX10_width_16 2 rfl rfl ?_
    refine j_icmp_eq C 27 hg dX10_width_17 (by decide) (fun hg => ?_) (fun hg => ?_)
    · refine j_iconst (v := 0) C dX10_width_27 (by decide) ?_
      refine j_wide (k := 5) (n := 44) (Nat.le_of_ble_eq_true rfl) (Nat.le_of_ble_eq_true rfl) ?_
      exact j_iret C dX10_width_28 (by first | rfl | (rw [← Option.some.inj hg] <;> rfl)) (by first | rfl | (rw [← Option.some.inj hg] <;> rfl)) (by first | rfl | (rw [← Option.some.inj hg] <;> rfl))
    · refine j_aload_n C dX10_width_20 0 rfl rfl ?_
      obtain ⟨r3, hr3, hg⟩ := ob hg
      refine j_callV C [] (tX10_hasRoom (b := b) (by omega) β  hr3) (by omega) cb_0 rfl q1_170 q1_1 q1_169 qp_1 q1_167 hd_X10_hasRoom rfl dX10_width_21 rfl (Nat.le_of_ble_eq_true rfl) ⟨(Nat.le_of_ble_eq_true rfl), (Nat.le_of_ble_eq_true rfl)⟩ ⟨(Nat.le_of_ble_eq_true rfl), (Nat.le_of_ble_eq_true rfl)⟩ ?_
      refine j_if_ne C 29 hg dX10_width_24 (by decide) (fun hg => ?_) (fun hg => ?_)
      · refine j_aload_n C dX10_width_29 0 rfl rfl ?_
        refine j_get (fs := [.ref (z + 1), .ref (z + 2), .ref (z + 5), .ref (z + 12), .int (b_acnt β), .int (b_rngs β), b_lat β, .int (b_chg β), .int (b_frs β)]) (v := .ref (z + 1)) C (by omega) cb_0 rfl inX10 0 (by decide) q1_124 rfl rfl dX10_width_30 ?_
        refine j_iload_n C dX10_width_33 1 rfl rfl ?_
        obtain ⟨hi4, hg⟩ := gd hg
        have hl4 := ix_lt hi4
        refine jb_C C hi4 (by omega) cb_1 dX10_width_34 ?_
        refine j_astore_n C [(3, .ref (z + (13 + 4 * x0.toNatClampNeg))), (0, .ref (z + 0)), (1, .int x0), (2, .int x1)] dX10_width_35 rfl (by decide) rfl ?_
        refine j_aload_n C dX10_width_36 1 rfl rfl ?_
        refine j_new C tyX4 tyX4_ok (ci := 2) rfl inX4 q2_41 q2_42 q1_11 [.null, .int (0 : Int32), .null, .null] (fun j hj => by rcases (show j = 0 ∨ j = 1 ∨ j = 2 ∨ j = 3 by omega) with rfl | rfl | rfl | rfl <;> rfl) ⟨(Nat.le_of_ble_eq_true rfl), (Nat.le_of_ble_eq_true rfl)⟩ dX10_width_37 ?_
        refine j_dup C dX10_width_40 rfl ?_
        refine j_aload_n C dX10_width_41 1 rfl rfl ?_
        refine j_get (fs := [.ref (z + 1), .ref (z + 2), .ref (z + 5), .ref (z + 12), .int (b_acnt β), .int (b_rngs β), b_lat β, .int (b_chg β), .int (b_frs β)]) (v := b_lat β) C (by omega) ((va_up_ne _ _ (by omega)).trans cb_0) rfl inX10 6 (by decide) q1_130 rfl rfl dX10_width_42 ?_
        refine j_iload_n C dX10_width_45 2 rfl rfl ?_
        refine j_aload_n C dX10_width_46 0 rfl rfl ?_
        obtain ⟨hlat, hg⟩ := gd hg
        replace hlat := isRb_of hlat
        obtain ⟨r5, hr5, hg⟩ := ob hg
        refine j_callI C [b_lat β, .int x0, .ref (z + (13 + 4 * x0.toNatClampNeg))] (tX4_init (ct := ctB G z β b) (t := N) (k := 13 + 4 * x0.toNatClampNeg) hlat (by omega) (cb_col hl4) ⟨by omega, (cb_rd hl4), (cb_num hl4), (cb_bl hl4)⟩ x0 hr5) q2_45 q1_11 q2_44 q2_43 rfl hd_X4_init rfl dX10_width_47 rfl (Nat.le_of_ble_eq_true rfl) ⟨(Nat.le_of_ble_eq_true rfl), (Nat.le_of_ble_eq_true rfl)⟩ ⟨(Nat.le_of_ble_eq_true rfl), (Nat.le_of_ble_eq_true rfl)⟩ (j_ct (bs_up5 (by omega)) ?_)
        obtain ⟨r6, hr6, hg⟩ := ob hg
        refine j_callV C [.ref (z + N)] (tX10_remember2 (b := va_up (va_up (va_up (va_up (va_up b N (.inr (2, [b_lat β, .int x0, .ref (z + (13 + 4 * x0.toNatClampNeg)), .ref (z + (N + 1))]))) (N + 1) (.inr (1, [.ref (z + (N + 2)), .int r5.1, .int r5.2.1, .int r5.2.2.1, .int r5.2.2.2.1, .int r5.2.2.2.2.1]))) (N + 2) (.inr (4, [.ref (z + (N + 3)), .ref (z + (N + 4))]))) (N + 3) (cD G 16 r5.2.2.2.2.2.1)) (N + 4) (cZ G 16 r5.2.2.2.2.2.2)) (by omega) (t := N) (by omega) (by omega) ((va_up_ne _ _ (by omega)).trans ((va_up_ne _ _ (by omega)).trans ((va_up_ne _ _ (by omega)).trans ((va_up_ne _ _ (by omega)).trans (va_up_self _ _ _))))) β  hr6) (by omega) cb_0 rfl q1_218 q1_1 q1_217 qp_2 q1_215 hd_X10_remember rfl dX10_width_50 rfl (Nat.le_of_ble_eq_true rfl) ⟨(Nat.le_of_ble_eq_true rfl), (Nat.le_of_ble_eq_true rfl)⟩ ⟨(Nat.le_of_ble_eq_true rfl), (Nat.le_of_ble_eq_true rfl)⟩ ?_
        refine j_aload_n C dX10_width_53 0 rfl rfl ?_
        refine j_iload_n C dX10_width_54 3 rfl rfl ?_
        obtain ⟨hz, hg⟩ := gd hg
        refine j_put (fs := [.ref (z + (13 + 4 * x0.toNatClampNeg + 1)), .int (b_nar r6 x0.toNatClampNeg), .int (b_ff r6 x0.toNatClampNeg), .int (b_fa r6 x0.toNatClampNeg), .int (b_fb r6 x0.toNatClampNeg), .int (b_fc r6 x0.toNatClampNeg)]) C tyX3 tyX3_ok nmX3 (by omega) (cb_col hl4) rfl inX3 1 (by decide) q1_70 rfl rfl (tyX3_ok 1 (by decide)) (nar_b hz) (fit_b hz) (Nat.le_of_ble_eq_true rfl) dX10_width_55 (j_ct (bs_nar hl4) ?_)
        refine j_aload_n C dX10_width_58 0 rfl rfl ?_
        obtain ⟨r7, hr7, hg⟩ := ob hg
        refine j_callV C [] (tX3_hasFormula (by omega) (cb_col hl4)  hr7) (by omega) (cb_col hl4) rfl q1_166 q1_4 q1_164 q1_165 q1_163 hd_X3_hasFormula rfl dX10_width_59 rfl (Nat.le_of_ble_eq_true rfl) ⟨(Nat.le_of_ble_eq_true rfl), (Nat.le_of_ble_eq_true rfl)⟩ ⟨(Nat.le_of_ble_eq_true rfl), (Nat.le_of_ble_eq_true rfl)⟩ ?_
        refine j_if_ne C 97 hg dX10_width_62 (by decide) (fun hg => ?_) (fun hg => ?_)
        · refine j_iconst (v := 1) C dX10_width_97 (by decide) ?_
          refine j_wide (k := 5) (n := 44) (Nat.le_of_ble_eq_true rfl) (Nat.le_of_ble_eq_true rfl) ?_
          exact j_iret C dX10_width_98 (by first | rfl | (rw [← Option.some.inj hg] <;> rfl)) (by first | rfl | (rw [← Option.some.inj hg] <;> rfl)) (by first | rfl | (rw [← Option.some.inj hg] <;> rfl))
        · refine j_iconst (v := 0) C dX10_width_65 (by decide) ?_
          refine j_istore C [(4, .int (0 : Int32)), (3, .ref (z + (13 + 4 * x0.toNatClampNeg))), (0, .ref (z + 0)), (1, .int x0), (2, .int x1)] dX10_width_66 (by decide) rfl ?_
          exact j_re [4, 1, 0] rfl (L_68 20 (b_nar_ r6 (va_up (b_nar r6) x0.toNatClampNeg x1)) (va_up (va_up (va_up (va_up (va_up b N (.inr (2, [b_lat β, .int x0, .ref (z + (13 + 4 * x0.toNatClampNeg)), .ref (z + (N + 1))]))) (N + 1) (.inr (1, [.ref (z + (N + 2)), .int r5.1, .int r5.2.1, .int r5.2.2.1, .int r5.2.2.2.1, .int r5.2.2.2.2.1]))) (N + 2) (.inr (4, [.ref (z + (N + 3)), .ref (z + (N + 4))]))) (N + 3) (cD G 16 r5.2.2.2.2.2.1)) (N + 4) (cZ G 16 r5.2.2.2.2.2.2)) (N + 5) (0 : Int32) hl4 (by omega) hg)
      · refine j_iconst (v := 0) C dX10_width_27 (by decide) ?_
        refine j_wide (k := 5) (n := 44) (Nat.le_of_ble_eq_true rfl) (Nat.le_of_ble_eq_true rfl) ?_
        exact j_iret C dX10_width_28 (by first | rfl | (rw [← Option.some.inj hg] <;> rfl)) (by first | rfl | (rw [← Option.some.inj hg] <;> rfl)) (by first | rfl | (rw [← Option.some.inj hg] <;> rfl))
