def gX8_blankAt (n : Nat) (f : Nat → UInt64) (h : Nat → Int32) (x0 : Int32) : Option Int32 := if ix x0 n then (if vp_nar .boolean (h x0.toNatClampNeg) = (h x0.toNatClampNeg) then some (h x0.toNatClampNeg) else none) else none
theorem hd_X8_blankAt : yX8_blankAt.cls ≠ "java/lang/invoke/MethodHandle" ∧ yX8_blankAt.cls ≠ "java/lang/invoke/VarHandle" ∧ (parseMethodDescriptor yX8_blankAt.desc).map (fun d => d.parameters.length) = some 1 := by decide +kernel
set_option maxHeartbeats 4000000 in
set_option maxRecDepth 100000 in
theorem tX8_blankAt {G : GG} {l : Launch} {z N : Nat} {ct : Nat → va_E} {ra n : Nat} {f : Nat → UInt64} {h : Nat → Int32} (hR : RdAt G z ct N ra n f h) (x0 : Int32) {r : Int32} (hg : gX8_blankAt n f h x0 = some r) : Ct G l yX8_blankAt cX8_blankAt 2 (some .boolean) ({ frames := 0, cells := 0, slots := 0, locals := 0 } : Room) [.ref (z + ra), .int x0] z ct N (some (.int r)) ct N := by
  have hRN := hR.1
  refine Ct.of (lv := [(0, .ref (z + ra)), (1, .int x0)]) (by decide +kernel) (Nat.le_of_ble_eq_true rfl) rfl (fun p e s m args below meth c C => ?_)
  rw [gX8_blankAt] at hg
  refine j_aload_n C dX8_blankAt_0 0 rfl rfl ?_
  refine j_get (fs := [.ref (z + (ra + 1)), .ref (z + (ra + 2))]) (v := .ref (z + (ra + 2))) C (by omega) hR.2.1 rfl inX8 1 (by decide) q1_32 rfl rfl dX8_blankAt_1 ?_
  refine j_iload_n C dX8_blankAt_4 1 rfl rfl ?_
  refine j_zald C hg (by omega) hR.2.2.2 dX8_blankAt_5 (fun hg => ?_)
  obtain ⟨hz, hg⟩ := gd hg
  exact j_zret C dX8_blankAt_6 hz (by rw [← Option.some.inj hg] <;> rfl) rfl rfl

def gX8_at (n : Nat) (f : Nat → UInt64) (h : Nat → Int32) (x0 : Int32) : Option UInt64 := if ix x0 n then (some (f x0.toNatClampNeg)) else none
theorem hd_X8_at : yX8_at.cls ≠ "java/lang/invoke/MethodHandle" ∧ yX8_at.cls ≠ "java/lang/invoke/VarHandle" ∧ (parseMethodDescriptor yX8_at.desc).map (fun d => d.parameters.length) = some 1 := by decide +kernel
set_option maxHeartbeats 4000000 in
set_option maxRecDepth 100000 in
theorem tX8_at {G : GG} {l : Launch} {z N : Nat} {ct : Nat → va_E} {ra n : Nat} {f : Nat → UInt64} {h : Nat → Int32} (hR : RdAt G z ct N ra n f h) (x0 : Int32) {r : UInt64} (hg : gX8_at n f h x0 = some r) : Ct G l yX8_at cX8_at 2 (some .double) ({ frames := 0, cells := 0, slots := 0, locals := 0 } : Room) [.ref (z + ra), .int x0] z ct N (some (.double r)) ct N := by
  have hRN := hR.1
  refine Ct.of (lv := [(0, .ref (z + ra)), (1, .int x0)]) (by decide +kernel) (Nat.le_of_ble_eq_true rfl) rfl (fun p e s m args below meth c C => ?_)
  rw [gX8_at] at hg
  refine j_aload_n C dX8_at_0 0 rfl rfl ?_
  refine j_get (fs := [.ref (z + (ra + 1)), .ref (z + (ra + 2))]) (v := .ref (z + (ra + 1))) C (by omega) hR.2.1 rfl inX8 0 (by decide) q1_31 rfl rfl dX8_at_1 ?_
  refine j_iload_n C dX8_at_4 1 rfl rfl ?_
  refine j_dald C hg (by omega) hR.2.2.1 dX8_at_5 (fun hg => ?_)
  exact j_dret C dX8_at_6 (by rw [← Option.some.inj hg] <;> rfl) rfl rfl

def gX8_countBlanks_36 (n : Nat) (f : Nat → UInt64) (h : Nat → Int32) (k13 : Int32 → Int32 → Int32 → Option Int32) (v3 : Int32) (v4 : Int32) (s0 : Int32) (s1 : Int32) : Option Int32 := k13 (s1 + s0) v3 (v4 + (1 : Int32))
def gX8_countBlanks_13 (n : Nat) (f : Nat → UInt64) (h : Nat → Int32) (k13 : Int32 → Int32 → Int32 → Option Int32) (v1 : Int32) (v3 : Int32) (v4 : Int32) : Option Int32 := if v3 ≤ v4 then (some v1) else (if ix v4 n then (if (h v4.toNatClampNeg) = 0 then (gX8_countBlanks_36 n f h k13 v3 v4 (0 : Int32) v1) else (gX8_countBlanks_36 n f h k13 v3 v4 (1 : Int32) v1)) else none)
def gX8_countBlanks (n : Nat) (f : Nat → UInt64) (h : Nat → Int32) : Option Int32 := lq3 (gX8_countBlanks_13 n f h) 20 (0 : Int32) (Int32.ofNat n) (0 : Int32)
theorem hd_X8_countBlanks : yX8_countBlanks.cls ≠ "java/lang/invoke/MethodHandle" ∧ yX8_countBlanks.cls ≠ "java/lang/invoke/VarHandle" ∧ (parseMethodDescriptor yX8_countBlanks.desc).map (fun d => d.parameters.length) = some 0 := by decide +kernel
set_option maxHeartbeats 4000000 in
set_option maxRecDepth 100000 in
theorem tX8_countBlanks {G : GG} {l : Launch} {z N : Nat} {ct : Nat → va_E} {ra n : Nat} {f : Nat → UInt64} {h : Nat → Int32} (hR : RdAt G z ct N ra n f h) {r : Int32} (hg : gX8_countBlanks n f h = some r) : Ct G l yX8_countBlanks cX8_countBlanks 6 (some .int) ({ frames := 0, cells := 0, slots := 0, locals := 0 } : Room) [.ref (z + ra)] z ct N (some (.int r)) ct N := by
  have hRN := hR.1
  refine Ct.of (lv := [(0, .ref (z + ra))]) (by decide +kernel) (Nat.le_of_ble_eq_true rfl) rfl (fun p e s m args below meth c C => ?_)
  have L_13 : ∀ (n13 : Nat) (v1 : Int32) (v3 : Int32) (v4 : Int32), lq3 (gX8_countBlanks_13 n f h) n13 v1 v3 v4 = some r → J G p l e ({ frames := 0, cells := 0, slots := 0, locals := 0 } : Room) s m args below meth c z 6 (MQ below (Qd G z (some (.int r)) ct N) args s 0 0 (zA z)) ct N 0 0 13 [(1, .int v1), (2, .ref (z + (ra + 2))), (3, .int v3), (4, .int v4)] [] := by
    intro n13
    induction n13 with
    | zero => intro v1 v3 v4 hg; cases hg
    | succ n13 ih13 =>
      have L_36 : ∀ (v3 : Int32) (v4 : Int32) (s0 : Int32) (s1 : Int32), gX8_countBlanks_36 n f h (lq3 (gX8_countBlanks_13 n f h) n13) v3 v4 s0 s1 = some r → J G p l e ({ frames := 0, cells := 0, slots := 0, locals := 0 } : Room) s m args below meth c z 6 (MQ below (Qd G z (some (.int r)) ct N) args s 0 0 (zA z)) ct N 0 0 36 [(2, .ref (z + (ra + 2))), (3, .int v3), (4, .int v4)] [.int s0, .int s1] := by
        intro v3 v4 s0 s1 hg
        rw [gX8_countBlanks_36] at hg
        refine j_iadd C dX8_countBlanks_36 ?_
        refine j_istore_n C [(1, .int (s1 + s0)), (2, .ref (z + (ra + 2))), (3, .int v3), (4, .int v4)] dX8_countBlanks_37 rfl (by decide) rfl ?_
        refine j_iinc C [(4, .int (v4 + (1 : Int32))), (1, .int (s1 + s0)), (2, .ref (z + (ra + 2))), (3, .int v3)] dX8_countBlanks_38 3 rfl rfl (by decide) rfl ?_
        refine j_goto C 13 dX8_countBlanks_41 (by decide) ?_
        exact j_re [1, 2, 3, 0] rfl (ih13 (s1 + s0) v3 (v4 + (1 : Int32)) hg)
      intro v1 v3 v4 hg
      replace hg : gX8_countBlanks_13 n f h (lq3 (gX8_countBlanks_13 n f h) n13) v1 v3 v4 = some r := hg
      rw [gX8_countBlanks_13] at hg
      refine j_iload C dX8_countBlanks_13 3 rfl ?_
      refine j_iload_n C dX8_countBlanks_15 2 rfl rfl ?_
      refine j_icmp_ge C 44 hg dX8_countBlanks_16 (by decide) (fun hg => ?_) (fun hg => ?_)
      · refine j_iload_n C dX8_countBlanks_44 0 rfl rfl ?_
        exact j_iret C dX8_countBlanks_45 (by rw [← Option.some.inj hg] <;> rfl) rfl rfl
      · refine j_aload_n C dX8_countBlanks_19 1 rfl rfl ?_
        refine j_iload C dX8_countBlanks_20 3 rfl ?_
        refine j_zald C hg (by omega) hR.2.2.2 dX8_countBlanks_22 (fun hg => ?_)
        refine j_istore C [(5, .int (h v4.toNatClampNeg)), (1, .int v1), (2, .ref (z + (ra + 2))), (3, .int v3), (4, .int v4)] dX8_countBlanks_23 (by decide) rfl ?_
        refine j_iload_n C dX8_countBlanks_25 1 rfl rfl ?_
        refine j_iload C dX8_countBlanks_26 0 rfl ?_
        refine j_if_eq C 35 hg dX8_countBlanks_28 (by decide) (fun hg => ?_) (fun hg => ?_)
        · refine j_iconst (v := 0) C dX8_countBlanks_35 (by decide) ?_
          exact j_re [2, 3, 4] rfl (L_36 v3 v4 (0 : Int32) v1 hg)
        · refine j_iconst (v := 1) C dX8_countBlanks_31 (by decide) ?_
          refine j_goto C 36 dX8_countBlanks_32 (by decide) ?_
          exact j_re [2, 3, 4] rfl (L_36 v3 v4 (1 : Int32) v1 hg)
  rw [gX8_countBlanks] at hg
  refine j_iconst (v := 0) C dX8_countBlanks_0 (by decide) ?_
  refine j_istore_n C [(1, .int (0 : Int32)), (0, .ref (z + ra))] dX8_countBlanks_1 rfl (by decide) rfl ?_
  refine j_aload_n C dX8_countBlanks_2 1 rfl rfl ?_
  refine j_get (fs := [.ref (z + (ra + 1)), .ref (z + (ra + 2))]) (v := .ref (z + (ra + 2))) C (by omega) hR.2.1 rfl inX8 1 (by decide) q1_32 rfl rfl dX8_countBlanks_3 ?_
  refine j_astore_n C [(2, .ref (z + (ra + 2))), (1, .int (0 : Int32)), (0, .ref (z + ra))] dX8_countBlanks_6 rfl (by decide) rfl ?_
  refine j_aload_n C dX8_countBlanks_7 0 rfl rfl ?_
  refine j_alenZ C rfl (by omega) hR.2.2.2 dX8_countBlanks_8 ?_
  refine j_istore_n C [(3, .int (Int32.ofNat n)), (2, .ref (z + (ra + 2))), (1, .int (0 : Int32)), (0, .ref (z + ra))] dX8_countBlanks_9 rfl (by decide) rfl ?_
  refine j_iconst (v := 0) C dX8_countBlanks_10 (by decide) ?_
  refine j_istore C [(4, .int (0 : Int32)), (3, .int (Int32.ofNat n)), (2, .ref (z + (ra + 2))), (1, .int (0 : Int32)), (0, .ref (z + ra))] dX8_countBlanks_11 (by decide) rfl ?_
  exact j_re [3, 2, 1, 0] rfl (L_13 20 (0 : Int32) (Int32.ofNat n) (0 : Int32) hg)

def gX8_put (n : Nat) (f : Nat → UInt64) (h : Nat → Int32) (x0 : Int32) (x1 : UInt64) : Option ((Nat → UInt64) × (Nat → Int32)) := if ix x0 n then (if ix x0 n then (some (vf_upd f x0.toNatClampNeg x1, upd h x0.toNatClampNeg (vp_nar .boolean (0 : Int32)))) else none) else none
theorem hd_X8_put : yX8_put.cls ≠ "java/lang/invoke/MethodHandle" ∧ yX8_put.cls ≠ "java/lang/invoke/VarHandle" ∧ (parseMethodDescriptor yX8_put.desc).map (fun d => d.parameters.length) = some 2 := by decide +kernel
set_option maxHeartbeats 4000000 in
set_option maxRecDepth 100000 in
theorem tX8_put {G : GG} {l : Launch} {z N : Nat} {ct : Nat → va_E} {ra n : Nat} {f : Nat → UInt64} {h : Nat → Int32} (hrN : ra + 2 < N) (hr : ct ra = rdO z ra) (x0 : Int32) (x1 : UInt64) {r : (Nat → UInt64) × (Nat → Int32)} (hg : gX8_put n f h x0 x1 = some r) : Ct G l yX8_put cX8_put 4 none ({ frames := 0, cells := 0, slots := 0, locals := 0 } : Room) [.ref (z + ra), .int x0, .double x1] z (va_up (va_up ct (ra + 1) (cD G n f)) (ra + 2) (cZ G n h)) N none (va_up (va_up ct (ra + 1) (cD G n r.1)) (ra + 2) (cZ G n r.2)) N := by
  refine Ct.of (lv := [(0, .ref (z + ra)), (1, .int x0), (2, .double x1)]) (by decide +kernel) (Nat.le_of_ble_eq_true rfl) rfl (fun p e s m args below meth c C => ?_)
  rw [gX8_put] at hg
  refine j_aload_n C dX8_put_0 0 rfl rfl ?_
  refine j_get (fs := [.ref (z + (ra + 1)), .ref (z + (ra + 2))]) (v := .ref (z + (ra + 1))) C (by omega) ((va_up_ne _ _ (by omega)).trans ((va_up_ne _ _ (by omega)).trans hr)) rfl inX8 0 (by decide) q1_31 rfl rfl dX8_put_1 ?_
  refine j_iload_n C dX8_put_4 1 rfl rfl ?_
  refine j_dload_n C dX8_put_5 2 rfl rfl ?_
  refine j_dast C hg (by omega) (lk2_1 (by omega)) dX8_put_6 (fun hg => j_ct (un2_1 (by omega)) ?_)
  refine j_aload_n C dX8_put_7 0 rfl rfl ?_
  refine j_get (fs := [.ref (z + (ra + 1)), .ref (z + (ra + 2))]) (v := .ref (z + (ra + 2))) C (by omega) ((va_up_ne _ _ (by omega)).trans ((va_up_ne _ _ (by omega)).trans hr)) rfl inX8 1 (by decide) q1_32 rfl rfl dX8_put_8 ?_
  refine j_iload_n C dX8_put_11 1 rfl rfl ?_
  refine j_iconst (v := 0) C dX8_put_12 (by decide) ?_
  refine j_zast C hg (by omega) lk2_2 dX8_put_13 (fun hg => j_ct un2_2 ?_)
  exact j_vret C dX8_put_14 rfl (by rw [← Option.some.inj hg] <;> rfl) rfl

def gX8_clear (n : Nat) (f : Nat → UInt64) (h : Nat → Int32) (x0 : Int32) : Option ((Nat → UInt64) × (Nat → Int32)) := if ix x0 n then (if ix x0 n then (some (vf_upd f x0.toNatClampNeg FP.dconst0, upd h x0.toNatClampNeg (vp_nar .boolean (1 : Int32)))) else none) else none
theorem hd_X8_clear : yX8_clear.cls ≠ "java/lang/invoke/MethodHandle" ∧ yX8_clear.cls ≠ "java/lang/invoke/VarHandle" ∧ (parseMethodDescriptor yX8_clear.desc).map (fun d => d.parameters.length) = some 1 := by decide +kernel
set_option maxHeartbeats 4000000 in
set_option maxRecDepth 100000 in
theorem tX8_clear {G : GG} {l : Launch} {z N : Nat} {ct : Nat → va_E} {ra n : Nat} {f : Nat → UInt64} {h : Nat → Int32} (hrN : ra + 2 < N) (hr : ct ra = rdO z ra) (x0 : Int32) {r : (Nat → UInt64) × (Nat → Int32)} (hg : gX8_clear n f h x0 = some r) : Ct G l yX8_clear cX8_clear 2 none ({ frames := 0, cells := 0, slots := 0, locals := 0 } : Room) [.ref (z + ra), .int x0] z (va_up (va_up ct (ra + 1) (cD G n f)) (ra + 2) (cZ G n h)) N none (va_up (va_up ct (ra + 1) (cD G n r.1)) (ra + 2) (cZ G n r.2)) N := by
  refine Ct.of (lv := [(0, .ref (z + ra)), (1, .int x0)]) (by decide +kernel) (Nat.le_of_ble_eq_true rfl) rfl (fun p e s m args below meth c C => ?_)
  rw [gX8_clear] at hg
  refine j_aload_n C dX8_clear_0 0 rfl rfl ?_
  refine j_get (fs := [.ref (z + (ra + 1)), .ref (z + (ra + 2))]) (v := .ref (z + (ra + 1))) C (by omega) ((va_up_ne _ _ (by omega)).trans ((va_up_ne _ _ (by omega)).trans hr)) rfl inX8 0 (by decide) q1_31 rfl rfl dX8_clear_1 ?_
  refine j_iload_n C dX8_clear_4 1 rfl rfl ?_
  refine j_dconst0 C dX8_clear_5 ?_
  refine j_dast C hg (by omega) (lk2_1 (by omega)) dX8_clear_6 (fun hg => j_ct (un2_1 (by omega)) ?_)
  refine j_aload_n C dX8_clear_7 0 rfl rfl ?_
  refine j_get (fs := [.ref (z + (ra + 1)), .ref (z + (ra + 2))]) (v := .ref (z + (ra + 2))) C (by omega) ((va_up_ne _ _ (by omega)).trans ((va_up_ne _ _ (by omega)).trans hr)) rfl inX8 1 (by decide) q1_32 rfl rfl dX8_clear_8 ?_
  refine j_iload_n C dX8_clear_11 1 rfl rfl ?_
  refine j_iconst (v := 1) C dX8_clear_12 (by decide) ?_
  refine j_zast C hg (by omega) lk2_2 dX8_clear_13 (fun hg => j_ct un2_2 ?_)
  exact j_vret C dX8_clear_14 rfl (by rw [← Option.some.inj hg] <;> rfl) rfl

def gX8_putSpecial (n : Nat) (f : Nat → UInt64) (h : Nat → Int32) (x0 : Int32) (x1 : Int32) (x2 : Int32) : Option ((Nat → UInt64) × (Nat → Int32)) := if x1 = 0 then ((gX8_clear n f h x0).bind (fun r3 => some (r3.1, r3.2))) else ((gX6_named x1 x2).bind (fun r1 => (gX8_put n f h x0 r1).bind (fun r2 => some (r2.1, r2.2))))
theorem hd_X8_putSpecial : yX8_putSpecial.cls ≠ "java/lang/invoke/MethodHandle" ∧ yX8_putSpecial.cls ≠ "java/lang/invoke/VarHandle" ∧ (parseMethodDescriptor yX8_putSpecial.desc).map (fun d => d.parameters.length) = some 3 := by decide +kernel
set_option maxHeartbeats 4000000 in
set_option maxRecDepth 100000 in
theorem tX8_putSpecial {G : GG} {l : Launch} {z N : Nat} {ct : Nat → va_E} {ra n : Nat} {f : Nat → UInt64} {h : Nat → Int32} (hrN : ra + 2 < N) (hr : ct ra = rdO z ra) (x0 : Int32) (x1 : Int32) (x2 : Int32) {r : (Nat → UInt64) × (Nat → Int32)} (hg : gX8_putSpecial n f h x0 x1 x2 = some r) : Ct G l yX8_putSpecial cX8_putSpecial 4 none ({ frames := 1, cells := 0, slots := 0, locals := 23 } : Room) [.ref (z + ra), .int x0, .int x1, .int x2] z (va_up (va_up ct (ra + 1) (cD G n f)) (ra + 2) (cZ G n h)) N none (va_up (va_up ct (ra + 1) (cD G n r.1)) (ra + 2) (cZ G n r.2)) N := by
  refine Ct.of (lv := [(0, .ref (z + ra)), (1, .int x0), (2, .int x1), (3, .int x2)]) (by decide +kernel) (Nat.le_of_ble_eq_true rfl) rfl (fun p e s m args below meth c C => ?_)
  rw [gX8_putSpecial] at hg
  refine j_iload_n C dX8_putSpecial_0 2 rfl rfl ?_
  refine j_if_ne C 12 hg dX8_putSpecial_1 (by decide) (fun hg => ?_) (fun hg => ?_)
  · refine j_aload_n C dX8_putSpecial_12 0 rfl rfl ?_
    refine j_iload_n C dX8_putSpecial_13 1 rfl rfl ?_
    refine j_iload_n C dX8_putSpecial_14 2 rfl rfl ?_
    refine j_iload_n C dX8_putSpecial_15 3 rfl rfl ?_
    obtain ⟨r1, hr1, hg⟩ := ob hg
    refine j_callS C [.int x1, .int x2] (tX6_named x1 x2 hr1) q2_11 q1_10 q2_10 q2_9 hd_X6_named rfl dX8_putSpecial_16 rfl (Nat.le_of_ble_eq_true rfl) ⟨(Nat.le_of_ble_eq_true rfl), (Nat.le_of_ble_eq_true rfl)⟩ ⟨(Nat.le_of_ble_eq_true rfl), (Nat.le_of_ble_eq_true rfl)⟩ ?_
    obtain ⟨r2, hr2, hg⟩ := ob hg
    refine j_ct (rdS_self (r := ra) (lk2_1 (by omega)) lk2_2).symm ?_
    refine j_callV C [.int x0, .double r1] (tX8_put (ct := va_up (va_up ct (ra + 1) (cD G n f)) (ra + 2) (cZ G n h)) (by omega) ((va_up_ne _ _ (by omega)).trans ((va_up_ne _ _ (by omega)).trans hr)) x0 r1 hr2) (by omega) ((rdS_ne (by omega) (by omega)).trans ((va_up_ne _ _ (by omega)).trans ((va_up_ne _ _ (by omega)).trans hr))) rfl q1_233 q1_2 q1_231 q1_232 q2_19 hd_X8_put rfl dX8_putSpecial_19 rfl (Nat.le_of_ble_eq_true rfl) ⟨(Nat.le_of_ble_eq_true rfl), (Nat.le_of_ble_eq_true rfl)⟩ ⟨(Nat.le_of_ble_eq_true rfl), (Nat.le_of_ble_eq_true rfl)⟩ (j_ct ((congrArg (fun c9 => va_up c9 (ra + 2) (cZ G n r2.2)) (un2_1 (by omega))).trans un2_2) ?_)
    exact j_vret C dX8_putSpecial_22 rfl (by rw [← Option.some.inj hg] <;> rfl) rfl
  · refine j_aload_n C dX8_putSpecial_4 0 rfl rfl ?_
    refine j_iload_n C dX8_putSpecial_5 1 rfl rfl ?_
    obtain ⟨r3, hr3, hg⟩ := ob hg
    refine j_ct (rdS_self (r := ra) (lk2_1 (by omega)) lk2_2).symm ?_
    refine j_callV C [.int x0] (tX8_clear (ct := va_up (va_up ct (ra + 1) (cD G n f)) (ra + 2) (cZ G n h)) (by omega) ((va_up_ne _ _ (by omega)).trans ((va_up_ne _ _ (by omega)).trans hr)) x0 hr3) (by omega) ((rdS_ne (by omega) (by omega)).trans ((va_up_ne _ _ (by omega)).trans ((va_up_ne _ _ (by omega)).trans hr))) rfl q2_8 q1_2 q2_6 q2_7 q2_5 hd_X8_clear rfl dX8_putSpecial_6 rfl (Nat.le_of_ble_eq_true rfl) ⟨(Nat.le_of_ble_eq_true rfl), (Nat.le_of_ble_eq_true rfl)⟩ ⟨(Nat.le_of_ble_eq_true rfl), (Nat.le_of_ble_eq_true rfl)⟩ (j_ct ((congrArg (fun c9 => va_up c9 (ra + 2) (cZ G n r3.2)) (un2_1 (by omega))).trans un2_2) ?_)
    refine j_goto C 22 dX8_putSpecial_9 (by decide) ?_
    exact j_vret C dX8_putSpecial_22 rfl (by rw [← Option.some.inj hg] <;> rfl) rfl

def gX8_putBrought (n : Nat) (f : Nat → UInt64) (h : Nat → Int32) (n2 : Nat) (f2 : Nat → UInt64) (h2 : Nat → Int32) (x0 : Int32) (x2 : Int32) (x3 : Int32) : Option ((Nat → UInt64) × (Nat → Int32)) := if ix x2 n2 then ((gX6_brought (f2 x2.toNatClampNeg) x3).bind (fun r1 => if ix x0 n then (if ix x2 n2 then (if ix x0 n then (some (vf_upd f x0.toNatClampNeg r1, upd h x0.toNatClampNeg (vp_nar .boolean (h2 x2.toNatClampNeg)))) else none) else none) else none)) else none
theorem hd_X8_putBrought : yX8_putBrought.cls ≠ "java/lang/invoke/MethodHandle" ∧ yX8_putBrought.cls ≠ "java/lang/invoke/VarHandle" ∧ (parseMethodDescriptor yX8_putBrought.desc).map (fun d => d.parameters.length) = some 4 := by decide +kernel
set_option maxHeartbeats 4000000 in
set_option maxRecDepth 100000 in
theorem tX8_putBrought {G : GG} {l : Launch} {z N : Nat} {ct : Nat → va_E} {ra n q n2 : Nat} {f2 : Nat → UInt64} {h2 : Nat → Int32} {f : Nat → UInt64} {h : Nat → Int32} (hrN : ra + 2 < N) (hr : ct ra = rdO z ra) (hq : RdAt G z ct N q n2 f2 h2) (hd : q + 2 < ra ∨ ra + 2 < q) (x0 : Int32) (x2 : Int32) (x3 : Int32) {r : (Nat → UInt64) × (Nat → Int32)} (hg : gX8_putBrought n f h n2 f2 h2 x0 x2 x3 = some r) : Ct G l yX8_putBrought cX8_putBrought 5 none ({ frames := 1, cells := 0, slots := 0, locals := 22 } : Room) [.ref (z + ra), .int x0, .ref (z + q), .int x2, .int x3] z (va_up (va_up ct (ra + 1) (cD G n f)) (ra + 2) (cZ G n h)) N none (va_up (va_up ct (ra + 1) (cD G n r.1)) (ra + 2) (cZ G n r.2)) N := by
  have hqN := hq.1
  refine Ct.of (lv := [(0, .ref (z + ra)), (1, .int x0), (2, .ref (z + q)), (3, .int x2), (4, .int x3)]) (by decide +kernel) (Nat.le_of_ble_eq_true rfl) rfl (fun p e s m args below meth c C => ?_)
  rw [gX8_putBrought] at hg
  refine j_aload_n C dX8_putBrought_0 0 rfl rfl ?_
  refine j_get (fs := [.ref (z + (ra + 1)), .ref (z + (ra + 2))]) (v := .ref (z + (ra + 1))) C (by omega) ((va_up_ne _ _ (by omega)).trans ((va_up_ne _ _ (by omega)).trans hr)) rfl inX8 0 (by decide) q1_31 rfl rfl dX8_putBrought_1 ?_
  refine j_iload_n C dX8_putBrought_4 1 rfl rfl ?_
  refine j_aload_n C dX8_putBrought_5 2 rfl rfl ?_
  refine j_get (fs := [.ref (z + (q + 1)), .ref (z + (q + 2))]) (v := .ref (z + (q + 1))) C (by omega) ((va_up_ne _ _ (by omega)).trans ((va_up_ne _ _ (by omega)).trans hq.2.1)) rfl inX8 0 (by decide) q1_31 rfl rfl dX8_putBrought_6 ?_
  refine j_iload_n C dX8_putBrought_9 3 rfl rfl ?_
  refine j_dald C hg (by omega) ((va_up_ne _ _ (by omega)).trans ((va_up_ne _ _ (by omega)).trans hq.2.2.1)) dX8_putBrought_10 (fun hg => ?_)
  refine j_iload C dX8_putBrought_11 4 rfl ?_
  obtain ⟨r1, hr1, hg⟩ := ob hg
  refine j_callS C [.double (f2 x2.toNatClampNeg), .int x3] (tX6_brought (f2 x2.toNatClampNeg) x3 hr1) q1_229 q1_10 q1_228 q2_57 hd_X6_brought rfl dX8_putBrought_13 rfl (Nat.le_of_ble_eq_true rfl) ⟨(Nat.le_of_ble_eq_true rfl), (Nat.le_of_ble_eq_true rfl)⟩ ⟨(Nat.le_of_ble_eq_true rfl), (Nat.le_of_ble_eq_true rfl)⟩ ?_
  refine j_dast C hg (by omega) (lk2_1 (by omega)) dX8_putBrought_16 (fun hg => j_ct (un2_1 (by omega)) ?_)
  refine j_aload_n C dX8_putBrought_17 0 rfl rfl ?_
  refine j_get (fs := [.ref (z + (ra + 1)), .ref (z + (ra + 2))]) (v := .ref (z + (ra + 2))) C (by omega) ((va_up_ne _ _ (by omega)).trans ((va_up_ne _ _ (by omega)).trans hr)) rfl inX8 1 (by decide) q1_32 rfl rfl dX8_putBrought_18 ?_
  refine j_iload_n C dX8_putBrought_21 1 rfl rfl ?_
  refine j_aload_n C dX8_putBrought_22 2 rfl rfl ?_
  refine j_get (fs := [.ref (z + (q + 1)), .ref (z + (q + 2))]) (v := .ref (z + (q + 2))) C (by omega) ((va_up_ne _ _ (by omega)).trans ((va_up_ne _ _ (by omega)).trans hq.2.1)) rfl inX8 1 (by decide) q1_32 rfl rfl dX8_putBrought_23 ?_
  refine j_iload_n C dX8_putBrought_26 3 rfl rfl ?_
  refine j_zald C hg (by omega) ((va_up_ne _ _ (by omega)).trans ((va_up_ne _ _ (by omega)).trans hq.2.2.2)) dX8_putBrought_27 (fun hg => ?_)
  refine j_zast C hg (by omega) lk2_2 dX8_putBrought_28 (fun hg => j_ct un2_2 ?_)
  exact j_vret C dX8_putBrought_29 rfl (by rw [← Option.some.inj hg] <;> rfl) rfl

def gX8_putBroughtS (n : Nat) (f : Nat → UInt64) (h : Nat → Int32) (x0 : Int32) (x2 : Int32) (x3 : Int32) : Option ((Nat → UInt64) × (Nat → Int32)) := if ix x2 n then ((gX6_brought (f x2.toNatClampNeg) x3).bind (fun r1 => if ix x0 n then (if ix x2 n then (if ix x0 n then (some (vf_upd f x0.toNatClampNeg r1, upd h x0.toNatClampNeg (vp_nar .boolean (h x2.toNatClampNeg)))) else none) else none) else none)) else none
set_option maxHeartbeats 4000000 in
set_option maxRecDepth 100000 in
theorem tX8_putBroughtS {G : GG} {l : Launch} {z N : Nat} {ct : Nat → va_E} {ra n : Nat} {f : Nat → UInt64} {h : Nat → Int32} (hrN : ra + 2 < N) (hr : ct ra = rdO z ra) (x0 : Int32) (x2 : Int32) (x3 : Int32) {r : (Nat → UInt64) × (Nat → Int32)} (hg : gX8_putBroughtS n f h x0 x2 x3 = some r) : Ct G l yX8_putBrought cX8_putBrought 5 none ({ frames := 1, cells := 0, slots := 0, locals := 22 } : Room) [.ref (z + ra), .int x0, .ref (z + ra), .int x2, .int x3] z (va_up (va_up ct (ra + 1) (cD G n f)) (ra + 2) (cZ G n h)) N none (va_up (va_up ct (ra + 1) (cD G n r.1)) (ra + 2) (cZ G n r.2)) N := by
  refine Ct.of (lv := [(0, .ref (z + ra)), (1, .int x0), (2, .ref (z + ra)), (3, .int x2), (4, .int x3)]) (by decide +kernel) (Nat.le_of_ble_eq_true rfl) rfl (fun p e s m args below meth c C => ?_)
  rw [gX8_putBroughtS] at hg
  refine j_aload_n C dX8_putBrought_0 0 rfl rfl ?_
  refine j_get (fs := [.ref (z + (ra + 1)), .ref (z + (ra + 2))]) (v := .ref (z + (ra + 1))) C (by omega) ((va_up_ne _ _ (by omega)).trans ((va_up_ne _ _ (by omega)).trans hr)) rfl inX8 0 (by decide) q1_31 rfl rfl dX8_putBrought_1 ?_
  refine j_iload_n C dX8_putBrought_4 1 rfl rfl ?_
  refine j_aload_n C dX8_putBrought_5 2 rfl rfl ?_
  refine j_get (fs := [.ref (z + (ra + 1)), .ref (z + (ra + 2))]) (v := .ref (z + (ra + 1))) C (by omega) ((va_up_ne _ _ (by omega)).trans ((va_up_ne _ _ (by omega)).trans hr)) rfl inX8 0 (by decide) q1_31 rfl rfl dX8_putBrought_6 ?_
  refine j_iload_n C dX8_putBrought_9 3 rfl rfl ?_
  refine j_dald C hg (by omega) (lk2_1 (by omega)) dX8_putBrought_10 (fun hg => ?_)
  refine j_iload C dX8_putBrought_11 4 rfl ?_
  obtain ⟨r1, hr1, hg⟩ := ob hg
  refine j_callS C [.double (f x2.toNatClampNeg), .int x3] (tX6_brought (f x2.toNatClampNeg) x3 hr1) q1_229 q1_10 q1_228 q2_57 hd_X6_brought rfl dX8_putBrought_13 rfl (Nat.le_of_ble_eq_true rfl) ⟨(Nat.le_of_ble_eq_true rfl), (Nat.le_of_ble_eq_true rfl)⟩ ⟨(Nat.le_of_ble_eq_true rfl), (Nat.le_of_ble_eq_true rfl)⟩ ?_
  refine j_dast C hg (by omega) (lk2_1 (by omega)) dX8_putBrought_16 (fun hg => j_ct (un2_1 (by omega)) ?_)
  refine j_aload_n C dX8_putBrought_17 0 rfl rfl ?_
  refine j_get (fs := [.ref (z + (ra + 1)), .ref (z + (ra + 2))]) (v := .ref (z + (ra + 2))) C (by omega) ((va_up_ne _ _ (by omega)).trans ((va_up_ne _ _ (by omega)).trans hr)) rfl inX8 1 (by decide) q1_32 rfl rfl dX8_putBrought_18 ?_
  refine j_iload_n C dX8_putBrought_21 1 rfl rfl ?_
  refine j_aload_n C dX8_putBrought_22 2 rfl rfl ?_
  refine j_get (fs := [.ref (z + (ra + 1)), .ref (z + (ra + 2))]) (v := .ref (z + (ra + 2))) C (by omega) ((va_up_ne _ _ (by omega)).trans ((va_up_ne _ _ (by omega)).trans hr)) rfl inX8 1 (by decide) q1_32 rfl rfl dX8_putBrought_23 ?_
  refine j_iload_n C dX8_putBrought_26 3 rfl rfl ?_
  refine j_zald C hg (by omega) lk2_2 dX8_putBrought_27 (fun hg => ?_)
  refine j_zast C hg (by omega) lk2_2 dX8_putBrought_28 (fun hg => j_ct un2_2 ?_)
  exact j_vret C dX8_putBrought_29 rfl (by rw [← Option.some.inj hg] <;> rfl) rfl

def gX5_isSo_87 (n1 : Nat) (f1 : Nat → UInt64) (h1 : Nat → Int32) (n2 : Nat) (f2 : Nat → UInt64) (h2 : Nat → Int32) (x0 : Int32) (x2 : Int32) (x4 : Int32) (v5 : Int32) (s0 : Int32) : Option Int32 := if s0 = v5 then (some (0 : Int32)) else (some (1 : Int32))
def gX5_isSo_50 (n1 : Nat) (f1 : Nat → UInt64) (h1 : Nat → Int32) (n2 : Nat) (f2 : Nat → UInt64) (h2 : Nat → Int32) (x0 : Int32) (x2 : Int32) (x4 : Int32) (v5 : Int32) (v6 : Int32) (s0 : Int32) : Option Int32 := if s0 = 0 then ((gX8_at n1 f1 h1 x2).bind (fun r3 => (gX8_at n2 f2 h2 x4).bind (fun r4 => (gX5_isSoOf v6 r3 r4).bind (fun r5 => gX5_isSo_87 n1 f1 h1 n2 f2 h2 x0 x2 x4 v5 r5)))) else (if v6 = (5 : Int32) then (gX5_isSo_87 n1 f1 h1 n2 f2 h2 x0 x2 x4 v5 (1 : Int32)) else (gX5_isSo_87 n1 f1 h1 n2 f2 h2 x0 x2 x4 v5 (0 : Int32)))
def gX5_isSo_45 (n1 : Nat) (f1 : Nat → UInt64) (h1 : Nat → Int32) (n2 : Nat) (f2 : Nat → UInt64) (h2 : Nat → Int32) (x0 : Int32) (x2 : Int32) (x4 : Int32) (v5 : Int32) (v6 : Int32) : Option Int32 := gX5_isSo_50 n1 f1 h1 n2 f2 h2 x0 x2 x4 v5 v6 (1 : Int32)
def gX5_isSo_26 (n1 : Nat) (f1 : Nat → UInt64) (h1 : Nat → Int32) (n2 : Nat) (f2 : Nat → UInt64) (h2 : Nat → Int32) (x0 : Int32) (x2 : Int32) (x4 : Int32) (v5 : Int32) (s0 : Int32) : Option Int32 := (gX8_blankAt n1 f1 h1 x2).bind (fun r1 => if r1 = 0 then ((gX8_blankAt n2 f2 h2 x4).bind (fun r2 => if r2 = 0 then (gX5_isSo_50 n1 f1 h1 n2 f2 h2 x0 x2 x4 v5 s0 (0 : Int32)) else (gX5_isSo_45 n1 f1 h1 n2 f2 h2 x0 x2 x4 v5 s0))) else (gX5_isSo_45 n1 f1 h1 n2 f2 h2 x0 x2 x4 v5 s0))
def gX5_isSo_11 (n1 : Nat) (f1 : Nat → UInt64) (h1 : Nat → Int32) (n2 : Nat) (f2 : Nat → UInt64) (h2 : Nat → Int32) (x0 : Int32) (x2 : Int32) (x4 : Int32) (s0 : Int32) : Option Int32 := if s0 = 0 then (gX5_isSo_26 n1 f1 h1 n2 f2 h2 x0 x2 x4 s0 x0) else (gX5_isSo_26 n1 f1 h1 n2 f2 h2 x0 x2 x4 s0 (x0 - (6 : Int32)))
def gX5_isSo (n1 : Nat) (f1 : Nat → UInt64) (h1 : Nat → Int32) (n2 : Nat) (f2 : Nat → UInt64) (h2 : Nat → Int32) (x0 : Int32) (x2 : Int32) (x4 : Int32) : Option Int32 := if x0 < (6 : Int32) then (gX5_isSo_11 n1 f1 h1 n2 f2 h2 x0 x2 x4 (0 : Int32)) else (gX5_isSo_11 n1 f1 h1 n2 f2 h2 x0 x2 x4 (1 : Int32))
theorem hd_X5_isSo : yX5_isSo.cls ≠ "java/lang/invoke/MethodHandle" ∧ yX5_isSo.cls ≠ "java/lang/invoke/VarHandle" ∧ (parseMethodDescriptor yX5_isSo.desc).map (fun d => d.parameters.length) = some 5 := by decide +kernel
set_option maxHeartbeats 4000000 in
set_option maxRecDepth 100000 in
theorem tX5_isSo {G : GG} {l : Launch} {z N : Nat} {ct : Nat → va_E} {qa n1 qb n2 : Nat} {f1 : Nat → UInt64} {h1 : Nat → Int32} {f2 : Nat → UInt64} {h2 : Nat → Int32} (hR1 : RdAt G z ct N qa n1 f1 h1) (hR2 : RdAt G z ct N qb n2 f2 h2) (x0 : Int32) (x2 : Int32) (x4 : Int32) {r : Int32} (hg : gX5_isSo n1 f1 h1 n2 f2 h2 x0 x2 x4 = some r) : Ct G l yX5_isSo cX5_isSo 9 (some .boolean) ({ frames := 1, cells := 0, slots := 0, locals := 24 } : Room) [.int x0, .ref (z + qa), .int x2, .ref (z + qb), .int x4] z ct N (some (.int r)) ct N := by
  have hRN1 := hR1.1
  have hRN2 := hR2.1
  refine Ct.of (lv := [(0, .int x0), (1, .ref (z + qa)), (2, .int x2), (3, .ref (z + qb)), (4, .int x4)]) (by decide +kernel) (Nat.le_of_ble_eq_true rfl) rfl (fun p e s m args below meth c C => ?_)
  have L_87 : ∀ (v5 : Int32) (s0 : Int32), gX5_isSo_87 n1 f1 h1 n2 f2 h2 x0 x2 x4 v5 s0 = some r → J G p l e ({ frames := 1, cells := 0, slots := 0, locals := 24 } : Room) s m args below meth c z 9 (MQ below (Qd G z (some (.int r)) ct N) args s 0 0 (zA z)) ct N 0 0 87 [(5, .int v5)] [.int s0] := by
    intro v5 s0 hg
    rw [gX5_isSo_87] at hg
    refine j_istore C [(8, .int s0), (5, .int v5)] dX5_isSo_87 (by decide) rfl ?_
    refine j_iload C dX5_isSo_89 0 rfl ?_
    refine j_iload C dX5_isSo_91 1 rfl ?_
    refine j_icmp_eq C 100 hg dX5_isSo_93 (by decide) (fun hg => ?_) (fun hg => ?_)
    · refine j_iconst (v := 0) C dX5_isSo_100 (by decide) ?_
      exact j_zret C dX5_isSo_101 (by decide) (by rw [← Option.some.inj hg] <;> rfl) rfl rfl
    · refine j_iconst (v := 1) C dX5_isSo_96 (by decide) ?_
      refine j_goto C 101 dX5_isSo_97 (by decide) ?_
      exact j_zret C dX5_isSo_101 (by decide) (by rw [← Option.some.inj hg] <;> rfl) rfl rfl
  have L_50 : ∀ (v5 : Int32) (v6 : Int32) (s0 : Int32), gX5_isSo_50 n1 f1 h1 n2 f2 h2 x0 x2 x4 v5 v6 s0 = some r → J G p l e ({ frames := 1, cells := 0, slots := 0, locals := 24 } : Room) s m args below meth c z 9 (MQ below (Qd G z (some (.int r)) ct N) args s 0 0 (zA z)) ct N 0 0 50 [(1, .ref (z + qa)), (2, .int x2), (3, .ref (z + qb)), (4, .int x4), (5, .int v5), (6, .int v6)] [.int s0] := by
    intro v5 v6 s0 hg
    rw [gX5_isSo_50] at hg
    refine j_istore C [(7, .int s0), (1, .ref (z + qa)), (2, .int x2), (3, .ref (z + qb)), (4, .int x4), (5, .int v5), (6, .int v6)] dX5_isSo_50 (by decide) rfl ?_
    refine j_iload C dX5_isSo_52 0 rfl ?_
    refine j_if_eq C 71 hg dX5_isSo_54 (by decide) (fun hg => ?_) (fun hg => ?_)
    · refine j_iload C dX5_isSo_71 6 rfl ?_
      refine j_aload_n C dX5_isSo_73 1 rfl rfl ?_
      refine j_iload_n C dX5_isSo_74 2 rfl rfl ?_
      obtain ⟨r3, hr3, hg⟩ := ob hg
      refine j_callV C [.int x2] (tX8_at ⟨by omega, hR1.2.1, hR1.2.2.1, hR1.2.2.2⟩ x2 hr3) (by omega) hR1.2.1 rfl q1_189 q1_2 q1_187 q1_188 q2_194 hd_X8_at rfl dX5_isSo_75 rfl (Nat.le_of_ble_eq_true rfl) ⟨(Nat.le_of_ble_eq_true rfl), (Nat.le_of_ble_eq_true rfl)⟩ ⟨(Nat.le_of_ble_eq_true rfl), (Nat.le_of_ble_eq_true rfl)⟩ ?_
      refine j_aload_n C dX5_isSo_78 3 rfl rfl ?_
      refine j_iload C dX5_isSo_79 4 rfl ?_
      obtain ⟨r4, hr4, hg⟩ := ob hg
      refine j_callV C [.int x4] (tX8_at ⟨by omega, hR2.2.1, hR2.2.2.1, hR2.2.2.2⟩ x4 hr4) (by omega) hR2.2.1 rfl q1_189 q1_2 q1_187 q1_188 q2_194 hd_X8_at rfl dX5_isSo_81 rfl (Nat.le_of_ble_eq_true rfl) ⟨(Nat.le_of_ble_eq_true rfl), (Nat.le_of_ble_eq_true rfl)⟩ ⟨(Nat.le_of_ble_eq_true rfl), (Nat.le_of_ble_eq_true rfl)⟩ ?_
      obtain ⟨r5, hr5, hg⟩ := ob hg
      refine j_callS C [.int v6, .double r3, .double r4] (tX5_isSoOf v6 r3 r4 hr5) q2_197 q1_13 q2_196 q2_195 hd_X5_isSoOf rfl dX5_isSo_84 rfl (Nat.le_of_ble_eq_true rfl) ⟨(Nat.le_of_ble_eq_true rfl), (Nat.le_of_ble_eq_true rfl)⟩ ⟨(Nat.le_of_ble_eq_true rfl), (Nat.le_of_ble_eq_true rfl)⟩ ?_
      exact j_re [5] rfl (L_87 v5 r5 hg)
    · refine j_iload C dX5_isSo_57 6 rfl ?_
      refine j_iconst (v := 5) C dX5_isSo_59 (by decide) ?_
      refine j_icmp_ne C 67 hg dX5_isSo_60 (by decide) (fun hg => ?_) (fun hg => ?_)
      · refine j_iconst (v := 0) C dX5_isSo_67 (by decide) ?_
        refine j_goto C 87 dX5_isSo_68 (by decide) ?_
        exact j_re [5] rfl (L_87 v5 (0 : Int32) hg)
      · refine j_iconst (v := 1) C dX5_isSo_63 (by decide) ?_
        refine j_goto C 87 dX5_isSo_64 (by decide) ?_
        exact j_re [5] rfl (L_87 v5 (1 : Int32) hg)
  have L_45 : ∀ (v5 : Int32) (v6 : Int32), gX5_isSo_45 n1 f1 h1 n2 f2 h2 x0 x2 x4 v5 v6 = some r → J G p l e ({ frames := 1, cells := 0, slots := 0, locals := 24 } : Room) s m args below meth c z 9 (MQ below (Qd G z (some (.int r)) ct N) args s 0 0 (zA z)) ct N 0 0 45 [(1, .ref (z + qa)), (2, .int x2), (3, .ref (z + qb)), (4, .int x4), (5, .int v5), (6, .int v6)] [] := by
    intro v5 v6 hg
    rw [gX5_isSo_45] at hg
    refine j_iconst (v := 1) C dX5_isSo_45 (by decide) ?_
    refine j_goto C 50 dX5_isSo_46 (by decide) ?_
    exact L_50 v5 v6 (1 : Int32) hg
  have L_26 : ∀ (v5 : Int32) (s0 : Int32), gX5_isSo_26 n1 f1 h1 n2 f2 h2 x0 x2 x4 v5 s0 = some r → J G p l e ({ frames := 1, cells := 0, slots := 0, locals := 24 } : Room) s m args below meth c z 9 (MQ below (Qd G z (some (.int r)) ct N) args s 0 0 (zA z)) ct N 0 0 26 [(1, .ref (z + qa)), (2, .int x2), (3, .ref (z + qb)), (4, .int x4), (5, .int v5)] [.int s0] := by
    intro v5 s0 hg
    rw [gX5_isSo_26] at hg
    refine j_istore C [(6, .int s0), (1, .ref (z + qa)), (2, .int x2), (3, .ref (z + qb)), (4, .int x4), (5, .int v5)] dX5_isSo_26 (by decide) rfl ?_
    refine j_aload_n C dX5_isSo_28 1 rfl rfl ?_
    refine j_iload_n C dX5_isSo_29 2 rfl rfl ?_
    obtain ⟨r1, hr1, hg⟩ := ob hg
    refine j_callV C [.int x2] (tX8_blankAt ⟨by omega, hR1.2.1, hR1.2.2.1, hR1.2.2.2⟩ x2 hr1) (by omega) hR1.2.1 rfl q1_193 q1_2 q1_191 q1_192 q2_193 hd_X8_blankAt rfl dX5_isSo_30 rfl (Nat.le_of_ble_eq_true rfl) ⟨(Nat.le_of_ble_eq_true rfl), (Nat.le_of_ble_eq_true rfl)⟩ ⟨(Nat.le_of_ble_eq_true rfl), (Nat.le_of_ble_eq_true rfl)⟩ ?_
    refine j_if_ne C 45 hg dX5_isSo_33 (by decide) (fun hg => ?_) (fun hg => ?_)
    · exact j_re [1, 2, 3, 4, 5, 0] rfl (L_45 v5 s0 hg)
    · refine j_aload_n C dX5_isSo_36 3 rfl rfl ?_
      refine j_iload C dX5_isSo_37 4 rfl ?_
      obtain ⟨r2, hr2, hg⟩ := ob hg
      refine j_callV C [.int x4] (tX8_blankAt ⟨by omega, hR2.2.1, hR2.2.2.1, hR2.2.2.2⟩ x4 hr2) (by omega) hR2.2.1 rfl q1_193 q1_2 q1_191 q1_192 q2_193 hd_X8_blankAt rfl dX5_isSo_39 rfl (Nat.le_of_ble_eq_true rfl) ⟨(Nat.le_of_ble_eq_true rfl), (Nat.le_of_ble_eq_true rfl)⟩ ⟨(Nat.le_of_ble_eq_true rfl), (Nat.le_of_ble_eq_true rfl)⟩ ?_
      refine j_if_eq C 49 hg dX5_isSo_42 (by decide) (fun hg => ?_) (fun hg => ?_)
      · refine j_iconst (v := 0) C dX5_isSo_49 (by decide) ?_
        exact j_re [1, 2, 3, 4, 5, 0] rfl (L_50 v5 s0 (0 : Int32) hg)
      · exact j_re [1, 2, 3, 4, 5, 0] rfl (L_45 v5 s0 hg)
  have L_11 : ∀ (s0 : Int32), gX5_isSo_11 n1 f1 h1 n2 f2 h2 x0 x2 x4 s0 = some r → J G p l e ({ frames := 1, cells := 0, slots := 0, locals := 24 } : Room) s m args below meth c z 9 (MQ below (Qd G z (some (.int r)) ct N) args s 0 0 (zA z)) ct N 0 0 11 [(0, .int x0), (1, .ref (z + qa)), (2, .int x2), (3, .ref (z + qb)), (4, .int x4)] [.int s0] := by
    intro s0 hg
    rw [gX5_isSo_11] at hg
    refine j_istore C [(5, .int s0), (0, .int x0), (1, .ref (z + qa)), (2, .int x2), (3, .ref (z + qb)), (4, .int x4)] dX5_isSo_11 (by decide) rfl ?_
    refine j_iload C dX5_isSo_13 0 rfl ?_
    refine j_if_eq C 25 hg dX5_isSo_15 (by decide) (fun hg => ?_) (fun hg => ?_)
    · refine j_iload_n C dX5_isSo_25 1 rfl rfl ?_
      exact j_re [2, 3, 4, 5, 0] rfl (L_26 s0 x0 hg)
    · refine j_iload_n C dX5_isSo_18 1 rfl rfl ?_
      refine j_bipush (v := 6) C dX5_isSo_19 (by decide) ?_
      refine j_isub C dX5_isSo_21 ?_
      refine j_goto C 26 dX5_isSo_22 (by decide) ?_
      exact j_re [2, 3, 4, 5, 0] rfl (L_26 s0 (x0 - (6 : Int32)) hg)
  rw [gX5_isSo] at hg
  refine j_iload_n C dX5_isSo_0 0 rfl rfl ?_
  refine j_bipush (v := 6) C dX5_isSo_1 (by decide) ?_
  refine j_icmp_lt C 10 hg dX5_isSo_3 (by decide) (fun hg => ?_) (fun hg => ?_)
  · refine j_iconst (v := 0) C dX5_isSo_10 (by decide) ?_
    exact L_11 (0 : Int32) hg
  · refine j_iconst (v := 1) C dX5_isSo_6 (by decide) ?_
    refine j_goto C 11 dX5_isSo_7 (by decide) ?_
    exact L_11 (1 : Int32) hg

def gX3_hasFormula (nar : Int32) (ff : Int32) (fa : Int32) (fb : Int32) (fc : Int32) : Option Int32 := if ff = (-1 : Int32) then (some (0 : Int32)) else (some (1 : Int32))
theorem hd_X3_hasFormula : yX3_hasFormula.cls ≠ "java/lang/invoke/MethodHandle" ∧ yX3_hasFormula.cls ≠ "java/lang/invoke/VarHandle" ∧ (parseMethodDescriptor yX3_hasFormula.desc).map (fun d => d.parameters.length) = some 0 := by decide +kernel
set_option maxHeartbeats 4000000 in
set_option maxRecDepth 100000 in
theorem tX3_hasFormula {G : GG} {l : Launch} {z N : Nat} {ct : Nat → va_E} {k : Nat} {nar ff fa fb fc : Int32} (hkN : k + 3 < N) (hC : ct k = coO z k nar ff fa fb fc) {r : Int32} (hg : gX3_hasFormula nar ff fa fb fc = some r) : Ct G l yX3_hasFormula cX3_hasFormula 1 (some .boolean) ({ frames := 0, cells := 0, slots := 0, locals := 0 } : Room) [.ref (z + k)] z ct N (some (.int r)) ct N := by
  refine Ct.of (lv := [(0, .ref (z + k))]) (by decide +kernel) (Nat.le_of_ble_eq_true rfl) rfl (fun p e s m args below meth c C => ?_)
  rw [gX3_hasFormula] at hg
  refine j_aload_n C dX3_hasFormula_0 0 rfl rfl ?_
  refine j_get (fs := [.ref (z + (k + 1)), .int nar, .int ff, .int fa, .int fb, .int fc]) (v := .int ff) C (by omega) hC rfl inX3 2 (by decide) q1_72 rfl rfl dX3_hasFormula_1 ?_
  refine j_iconst (v := (-1)) C dX3_hasFormula_4 (by decide) ?_
  refine j_icmp_eq C 12 hg dX3_hasFormula_5 (by decide) (fun hg => ?_) (fun hg => ?_)
  · refine j_iconst (v := 0) C dX3_hasFormula_12 (by decide) ?_
    exact j_zret C dX3_hasFormula_13 (by decide) (by rw [← Option.some.inj hg] <;> rfl) rfl rfl
  · refine j_iconst (v := 1) C dX3_hasFormula_8 (by decide) ?_
    refine j_goto C 13 dX3_hasFormula_9 (by decide) ?_
    exact j_zret C dX3_hasFormula_13 (by decide) (by rw [← Option.some.inj hg] <;> rfl) rfl rfl

def gX3_answer (nar : Int32) (ff : Int32) (fa : Int32) (fb : Int32) (fc : Int32) (F : Nat → UInt64) (H : Nat → Int32) (x0 : Int32) : Option Int32 := if x0 = (0 : Int32) then ((gX3_hasFormula nar ff fa fb fc).bind (fun r3 => if r3 = 0 then (some (0 : Int32)) else (some (1 : Int32)))) else (if x0 = (1 : Int32) then (if nar = 0 then (some (0 : Int32)) else (some (1 : Int32))) else (if x0 = (2 : Int32) then ((gX8_countBlanks 16 F H).bind (fun r2 => some r2)) else (if x0 = (3 : Int32) then (some ff) else (some (-1 : Int32)))))
theorem hd_X3_answer : yX3_answer.cls ≠ "java/lang/invoke/MethodHandle" ∧ yX3_answer.cls ≠ "java/lang/invoke/VarHandle" ∧ (parseMethodDescriptor yX3_answer.desc).map (fun d => d.parameters.length) = some 1 := by decide +kernel
set_option maxHeartbeats 4000000 in
set_option maxRecDepth 100000 in
theorem tX3_answer {G : GG} {l : Launch} {z N : Nat} {ct : Nat → va_E} {k : Nat} {nar ff fa fb fc : Int32} {F : Nat → UInt64} {H : Nat → Int32} (hkN : k + 3 < N) (hC : ct k = coO z k nar ff fa fb fc) (hR : RdAt G z ct N (k + 1) 16 F H) (x0 : Int32) {r : Int32} (hg : gX3_answer nar ff fa fb fc F H x0 = some r) : Ct G l yX3_answer cX3_answer 2 (some .int) ({ frames := 1, cells := 0, slots := 0, locals := 25 } : Room) [.ref (z + k), .int x0] z ct N (some (.int r)) ct N := by
  refine Ct.of (lv := [(0, .ref (z + k)), (1, .int x0)]) (by decide +kernel) (Nat.le_of_ble_eq_true rfl) rfl (fun p e s m args below meth c C => ?_)
  rw [gX3_answer] at hg
  refine j_iload_n C dX3_answer_0 1 rfl rfl ?_
  by_cases c1_0 : x0 = (0 : Int32)
  · replace hg := (if_pos c1_0).symm.trans hg
    refine j_tableIn (off := 31) C 32 dX3_answer_1 (by rw [c1_0]; decide) (by rw [c1_0]; decide) (by rw [c1_0]; rfl) (by decide) ?_
    refine j_aload_n C dX3_answer_32 0 rfl rfl ?_
    obtain ⟨r3, hr3, hg⟩ := ob hg
    refine j_callV C [] (tX3_hasFormula (by omega) hC  hr3) (by omega) hC rfl q1_166 q1_4 q1_164 q1_165 q3_91 hd_X3_hasFormula rfl dX3_answer_33 rfl (Nat.le_of_ble_eq_true rfl) ⟨(Nat.le_of_ble_eq_true rfl), (Nat.le_of_ble_eq_true rfl)⟩ ⟨(Nat.le_of_ble_eq_true rfl), (Nat.le_of_ble_eq_true rfl)⟩ ?_
    refine j_if_eq C 43 hg dX3_answer_36 (by decide) (fun hg => ?_) (fun hg => ?_)
    · refine j_iconst (v := 0) C dX3_answer_43 (by decide) ?_
      exact j_iret C dX3_answer_44 (by rw [← Option.some.inj hg] <;> rfl) rfl rfl
    · refine j_iconst (v := 1) C dX3_answer_39 (by decide) ?_
      refine j_goto C 44 dX3_answer_40 (by decide) ?_
      exact j_iret C dX3_answer_44 (by rw [← Option.some.inj hg] <;> rfl) rfl rfl
  · replace hg := (if_neg c1_0).symm.trans hg
    by_cases c1_1 : x0 = (1 : Int32)
    · replace hg := (if_pos c1_1).symm.trans hg
      refine j_tableIn (off := 44) C 45 dX3_answer_1 (by rw [c1_1]; decide) (by rw [c1_1]; decide) (by rw [c1_1]; rfl) (by decide) ?_
      refine j_aload_n C dX3_answer_45 0 rfl rfl ?_
      refine j_get (fs := [.ref (z + (k + 1)), .int nar, .int ff, .int fa, .int fb, .int fc]) (v := .int nar) C (by omega) hC rfl inX3 1 (by decide) q1_69 rfl rfl dX3_answer_46 ?_
      refine j_if_eq C 56 hg dX3_answer_49 (by decide) (fun hg => ?_) (fun hg => ?_)
      · refine j_iconst (v := 0) C dX3_answer_56 (by decide) ?_
        exact j_iret C dX3_answer_57 (by rw [← Option.some.inj hg] <;> rfl) rfl rfl
      · refine j_iconst (v := 1) C dX3_answer_52 (by decide) ?_
        refine j_goto C 57 dX3_answer_53 (by decide) ?_
        exact j_iret C dX3_answer_57 (by rw [← Option.some.inj hg] <;> rfl) rfl rfl
    · replace hg := (if_neg c1_1).symm.trans hg
      by_cases c1_2 : x0 = (2 : Int32)
      · replace hg := (if_pos c1_2).symm.trans hg
        refine j_tableIn (off := 57) C 58 dX3_answer_1 (by rw [c1_2]; decide) (by rw [c1_2]; decide) (by rw [c1_2]; rfl) (by decide) ?_
        refine j_aload_n C dX3_answer_58 0 rfl rfl ?_
        refine j_get (fs := [.ref (z + (k + 1)), .int nar, .int ff, .int fa, .int fb, .int fc]) (v := .ref (z + (k + 1))) C (by omega) hC rfl inX3 0 (by decide) q1_66 rfl rfl dX3_answer_59 ?_
        obtain ⟨r2, hr2, hg⟩ := ob hg
        refine j_callV C [] (tX8_countBlanks ⟨by omega, hR.2.1, hR.2.2.1, hR.2.2.2⟩  hr2) (by omega) hR.2.1 rfl q3_95 q1_2 q3_93 q3_94 q3_92 hd_X8_countBlanks rfl dX3_answer_62 rfl (Nat.le_of_ble_eq_true rfl) ⟨(Nat.le_of_ble_eq_true rfl), (Nat.le_of_ble_eq_true rfl)⟩ ⟨(Nat.le_of_ble_eq_true rfl), (Nat.le_of_ble_eq_true rfl)⟩ ?_
        exact j_iret C dX3_answer_65 (by rw [← Option.some.inj hg] <;> rfl) rfl rfl
      · replace hg := (if_neg c1_2).symm.trans hg
        by_cases c1_3 : x0 = (3 : Int32)
        · replace hg := (if_pos c1_3).symm.trans hg
          refine j_tableIn (off := 65) C 66 dX3_answer_1 (by rw [c1_3]; decide) (by rw [c1_3]; decide) (by rw [c1_3]; rfl) (by decide) ?_
          refine j_aload_n C dX3_answer_66 0 rfl rfl ?_
          refine j_get (fs := [.ref (z + (k + 1)), .int nar, .int ff, .int fa, .int fb, .int fc]) (v := .int ff) C (by omega) hC rfl inX3 2 (by decide) q1_72 rfl rfl dX3_answer_67 ?_
          exact j_iret C dX3_answer_70 (by rw [← Option.some.inj hg] <;> rfl) rfl rfl
        · replace hg := (if_neg c1_3).symm.trans hg
          have ho : x0.toInt < 0 ∨ 3 < x0.toInt := by
            by_cases ho : x0.toInt < 0 ∨ 3 < x0.toInt
            · exact ho
            · obtain ⟨k, hk, hx⟩ := sw_in ho
              match k, hk, hx with
              | 0, _, hx => exact absurd (Int32.toInt_inj.mp (hx.trans (by decide))) c1_0
              | 1, _, hx => exact absurd (Int32.toInt_inj.mp (hx.trans (by decide))) c1_1
              | 2, _, hx => exact absurd (Int32.toInt_inj.mp (hx.trans (by decide))) c1_2
              | 3, _, hx => exact absurd (Int32.toInt_inj.mp (hx.trans (by decide))) c1_3
              | k + 4, hk, _ => exact absurd hk (Nat.not_lt.mpr (Nat.le_add_left _ _))
          refine j_tableOut C 71 dX3_answer_1 ho (by decide) ?_
          refine j_iconst (v := (-1)) C dX3_answer_71 (by decide) ?_
          exact j_iret C dX3_answer_72 (by rw [← Option.some.inj hg] <;> rfl) rfl rfl

def gX3_become_42 (nar : Int32) (ff : Int32) (fa : Int32) (fb : Int32) (fc : Int32) (F : Nat → UInt64) (H : Nat → Int32) (nar2 : Int32) (ff2 : Int32) (fa2 : Int32) (fb2 : Int32) (fc2 : Int32) (F2 : Nat → UInt64) (H2 : Nat → Int32) (k42 : Int32 → Int32 → Int32 → Int32 → Int32 → (Nat → UInt64) → (Nat → Int32) → Int32 → Option (Int32 × Int32 × Int32 × Int32 × Int32 × (Nat → UInt64) × (Nat → Int32))) (nar9 : Int32) (ff9 : Int32) (fa9 : Int32) (fb9 : Int32) (fc9 : Int32) (F9 : Nat → UInt64) (H9 : Nat → Int32) (v2 : Int32) : Option (Int32 × Int32 × Int32 × Int32 × Int32 × (Nat → UInt64) × (Nat → Int32)) := if (16 : Int32) ≤ v2 then (some (nar9, ff9, fa9, fb9, fc9, F9, H9)) else ((gX8_putBrought 16 F9 H9 16 F2 H2 v2 v2 (0 : Int32)).bind (fun r1 => k42 nar9 ff9 fa9 fb9 fc9 r1.1 r1.2 (v2 + (1 : Int32))))
def gX3_become (nar : Int32) (ff : Int32) (fa : Int32) (fb : Int32) (fc : Int32) (F : Nat → UInt64) (H : Nat → Int32) (nar2 : Int32) (ff2 : Int32) (fa2 : Int32) (fb2 : Int32) (fc2 : Int32) (F2 : Nat → UInt64) (H2 : Nat → Int32) : Option (Int32 × Int32 × Int32 × Int32 × Int32 × (Nat → UInt64) × (Nat → Int32)) := if vp_nar .boolean nar2 = nar2 then (lq8 (gX3_become_42 nar ff fa fb fc F H nar2 ff2 fa2 fb2 fc2 F2 H2) 20 nar2 ff2 fa2 fb2 fc2 F H (0 : Int32)) else none
theorem hd_X3_become : yX3_become.cls ≠ "java/lang/invoke/MethodHandle" ∧ yX3_become.cls ≠ "java/lang/invoke/VarHandle" ∧ (parseMethodDescriptor yX3_become.desc).map (fun d => d.parameters.length) = some 1 := by decide +kernel
set_option maxHeartbeats 4000000 in
set_option maxRecDepth 100000 in
theorem tX3_become {G : GG} {l : Launch} {z N : Nat} {ct : Nat → va_E} {k q : Nat} {nar2 ff2 fa2 fb2 fc2 : Int32} {F2 : Nat → UInt64} {H2 : Nat → Int32} {nar : Int32} {ff : Int32} {fa : Int32} {fb : Int32} {fc : Int32} {F : Nat → UInt64} {H : Nat → Int32} (hkN : k + 3 < N) (hr : ct (k + 1) = rdO z (k + 1)) (hqN : q + 3 < N) (hC : ct q = coO z q nar2 ff2 fa2 fb2 fc2) (hR : RdAt G z ct N (q + 1) 16 F2 H2) (hd : q + 3 < k ∨ k + 3 < q) {r : Int32 × Int32 × Int32 × Int32 × Int32 × (Nat → UInt64) × (Nat → Int32)} (hg : gX3_become nar ff fa fb fc F H nar2 ff2 fa2 fb2 fc2 F2 H2 = some r) : Ct G l yX3_become cX3_become 3 none ({ frames := 2, cells := 0, slots := 0, locals := 46 } : Room) [.ref (z + k), .ref (z + q)] z (va_up (va_up (va_up ct k (.inr (1, [.ref (z + (k + 1)), .int nar, .int ff, .int fa, .int fb, .int fc]))) (k + 2) (cD G 16 F)) (k + 3) (cZ G 16 H)) N none (va_up (va_up (va_up ct k (.inr (1, [.ref (z + (k + 1)), .int r.1, .int r.2.1, .int r.2.2.1, .int r.2.2.2.1, .int r.2.2.2.2.1]))) (k + 2) (cD G 16 r.2.2.2.2.2.1)) (k + 3) (cZ G 16 r.2.2.2.2.2.2)) N := by
  refine Ct.of (lv := [(0, .ref (z + k)), (1, .ref (z + q))]) (by decide +kernel) (Nat.le_of_ble_eq_true rfl) rfl (fun p e s m args below meth c C => ?_)
  have L_42 : ∀ (n42 : Nat) (nar9 : Int32) (ff9 : Int32) (fa9 : Int32) (fb9 : Int32) (fc9 : Int32) (F9 : Nat → UInt64) (H9 : Nat → Int32) (v2 : Int32), lq8 (gX3_become_42 nar ff fa fb fc F H nar2 ff2 fa2 fb2 fc2 F2 H2) n42 nar9 ff9 fa9 fb9 fc9 F9 H9 v2 = some r → J G p l e ({ frames := 2, cells := 0, slots := 0, locals := 46 } : Room) s m args below meth c z 3 (MQ below (Qd G z none (va_up (va_up (va_up ct k (.inr (1, [.ref (z + (k + 1)), .int r.1, .int r.2.1, .int r.2.2.1, .int r.2.2.2.1, .int r.2.2.2.2.1]))) (k + 2) (cD G 16 r.2.2.2.2.2.1)) (k + 3) (cZ G 16 r.2.2.2.2.2.2)) N) args s 0 0 (zA z)) (va_up (va_up (va_up ct k (.inr (1, [.ref (z + (k + 1)), .int nar9, .int ff9, .int fa9, .int fb9, .int fc9]))) (k + 2) (cD G 16 F9)) (k + 3) (cZ G 16 H9)) N 0 0 42 [(0, .ref (z + k)), (1, .ref (z + q)), (2, .int v2)] [] := by
    intro n42
    induction n42 with
    | zero => intro nar9 ff9 fa9 fb9 fc9 F9 H9 v2 hg; cases hg
    | succ n42 ih42 =>
      intro nar9 ff9 fa9 fb9 fc9 F9 H9 v2 hg
      replace hg : gX3_become_42 nar ff fa fb fc F H nar2 ff2 fa2 fb2 fc2 F2 H2 (lq8 (gX3_become_42 nar ff fa fb fc F H nar2 ff2 fa2 fb2 fc2 F2 H2) n42) nar9 ff9 fa9 fb9 fc9 F9 H9 v2 = some r := hg
      rw [gX3_become_42] at hg
      refine j_iload_n C dX3_become_42 2 rfl rfl ?_
      refine j_bipush (v := 16) C dX3_become_43 (by decide) ?_
      refine j_icmp_ge C 68 hg dX3_become_45 (by decide) (fun hg => ?_) (fun hg => ?_)
      · exact j_vret C dX3_become_68 rfl (by rw [← Option.some.inj hg] <;> rfl) rfl
      · refine j_aload_n C dX3_become_48 0 rfl rfl ?_
        refine j_get (fs := [.ref (z + (k + 1)), .int nar9, .int ff9, .int fa9, .int fb9, .int fc9]) (v := .ref (z + (k + 1))) C (by omega) (lk3_1 (by omega) (by omega)) rfl inX3 0 (by decide) q1_66 rfl rfl dX3_become_49 ?_
        refine j_iload_n C dX3_become_52 2 rfl rfl ?_
        refine j_aload_n C dX3_become_53 1 rfl rfl ?_
        refine j_get (fs := [.ref (z + (q + 1)), .int nar2, .int ff2, .int fa2, .int fb2, .int fc2]) (v := .ref (z + (q + 1))) C (by omega) ((va_up_ne _ _ (by omega)).trans ((va_up_ne _ _ (by omega)).trans ((va_up_ne _ _ (by omega)).trans hC))) rfl inX3 0 (by decide) q1_66 rfl rfl dX3_become_54 ?_
        refine j_iload_n C dX3_become_57 2 rfl rfl ?_
        refine j_iconst (v := 0) C dX3_become_58 (by decide) ?_
        obtain ⟨r1, hr1, hg⟩ := ob hg
        refine j_ct (rdS_self (r := k + 1) (lk3_2 (by omega)) lk3_3).symm ?_
        refine j_callV C [.int v2, .ref (z + (q + 1)), .int v2, .int (0 : Int32)] (tX8_putBrought (ct := va_up (va_up (va_up ct k (.inr (1, [.ref (z + (k + 1)), .int nar9, .int ff9, .int fa9, .int fb9, .int fc9]))) (k + 2) (cD G 16 F9)) (k + 3) (cZ G 16 H9)) (by omega) ((va_up_ne _ _ (by omega)).trans ((va_up_ne _ _ (by omega)).trans ((va_up_ne _ _ (by omega)).trans hr))) ⟨by omega, ((va_up_ne _ _ (by omega)).trans ((va_up_ne _ _ (by omega)).trans ((va_up_ne _ _ (by omega)).trans hR.2.1))), ((va_up_ne _ _ (by omega)).trans ((va_up_ne _ _ (by omega)).trans ((va_up_ne _ _ (by omega)).trans hR.2.2.1))), ((va_up_ne _ _ (by omega)).trans ((va_up_ne _ _ (by omega)).trans ((va_up_ne _ _ (by omega)).trans hR.2.2.2)))⟩ (by omega) v2 v2 (0 : Int32) hr1) (by omega) ((rdS_ne (by omega) (by omega)).trans ((va_up_ne _ _ (by omega)).trans ((va_up_ne _ _ (by omega)).trans ((va_up_ne _ _ (by omega)).trans hr)))) rfl q2_56 q1_2 q2_54 q2_55 q2_53 hd_X8_putBrought rfl dX3_become_59 rfl (Nat.le_of_ble_eq_true rfl) ⟨(Nat.le_of_ble_eq_true rfl), (Nat.le_of_ble_eq_true rfl)⟩ ⟨(Nat.le_of_ble_eq_true rfl), (Nat.le_of_ble_eq_true rfl)⟩ (j_ct ((congrArg (fun c9 => va_up c9 (k + 3) (cZ G 16 r1.2)) (un3_2 (by omega))).trans un3_3) ?_)
        refine j_iinc C [(2, .int (v2 + (1 : Int32))), (0, .ref (z + k)), (1, .ref (z + q))] dX3_become_62 2 rfl rfl (by decide) rfl ?_
        refine j_goto C 42 dX3_become_65 (by decide) ?_
        exact j_re [1, 2, 0] rfl (ih42 nar9 ff9 fa9 fb9 fc9 r1.1 r1.2 (v2 + (1 : Int32)) hg)
  rw [gX3_become] at hg
  refine j_aload_n C dX3_become_0 0 rfl rfl ?_
  refine j_aload_n C dX3_become_1 1 rfl rfl ?_
  refine j_get (fs := [.ref (z + (q + 1)), .int nar2, .int ff2, .int fa2, .int fb2, .int fc2]) (v := .int nar2) C (by omega) ((va_up_ne _ _ (by omega)).trans ((va_up_ne _ _ (by omega)).trans ((va_up_ne _ _ (by omega)).trans hC))) rfl inX3 1 (by decide) q1_69 rfl rfl dX3_become_2 ?_
  obtain ⟨hz, hg⟩ := gd hg
  refine j_put (fs := [.ref (z + (k + 1)), .int nar, .int ff, .int fa, .int fb, .int fc]) C tyX3 tyX3_ok nmX3 (by omega) (lk3_1 (by omega) (by omega)) rfl inX3 1 (by decide) q1_69 rfl rfl (tyX3_ok 1 (by decide)) (nar_b hz) (fit_b hz) (Nat.le_of_ble_eq_true rfl) dX3_become_5 (j_ct (un3_1 (by omega) (by omega)) ?_)
  refine j_aload_n C dX3_become_8 0 rfl rfl ?_
  refine j_aload_n C dX3_become_9 1 rfl rfl ?_
  refine j_get (fs := [.ref (z + (q + 1)), .int nar2, .int ff2, .int fa2, .int fb2, .int fc2]) (v := .int ff2) C (by omega) ((va_up_ne _ _ (by omega)).trans ((va_up_ne _ _ (by omega)).trans ((va_up_ne _ _ (by omega)).trans hC))) rfl inX3 2 (by decide) q1_72 rfl rfl dX3_become_10 ?_
  refine j_put (fs := [.ref (z + (k + 1)), .int nar2, .int ff, .int fa, .int fb, .int fc]) C tyX3 tyX3_ok nmX3 (by omega) (lk3_1 (by omega) (by omega)) rfl inX3 2 (by decide) q1_72 rfl rfl (tyX3_ok 2 (by decide)) rfl rfl (Nat.le_of_ble_eq_true rfl) dX3_become_13 (j_ct (un3_1 (by omega) (by omega)) ?_)
  refine j_aload_n C dX3_become_16 0 rfl rfl ?_
  refine j_aload_n C dX3_become_17 1 rfl rfl ?_
  refine j_get (fs := [.ref (z + (q + 1)), .int nar2, .int ff2, .int fa2, .int fb2, .int fc2]) (v := .int fa2) C (by omega) ((va_up_ne _ _ (by omega)).trans ((va_up_ne _ _ (by omega)).trans ((va_up_ne _ _ (by omega)).trans hC))) rfl inX3 3 (by decide) q1_75 rfl rfl dX3_become_18 ?_
  refine j_put (fs := [.ref (z + (k + 1)), .int nar2, .int ff2, .int fa, .int fb, .int fc]) C tyX3 tyX3_ok nmX3 (by omega) (lk3_1 (by omega) (by omega)) rfl inX3 3 (by decide) q1_75 rfl rfl (tyX3_ok 3 (by decide)) rfl rfl (Nat.le_of_ble_eq_true rfl) dX3_become_21 (j_ct (un3_1 (by omega) (by omega)) ?_)
  refine j_aload_n C dX3_become_24 0 rfl rfl ?_
  refine j_aload_n C dX3_become_25 1 rfl rfl ?_
  refine j_get (fs := [.ref (z + (q + 1)), .int nar2, .int ff2, .int fa2, .int fb2, .int fc2]) (v := .int fb2) C (by omega) ((va_up_ne _ _ (by omega)).trans ((va_up_ne _ _ (by omega)).trans ((va_up_ne _ _ (by omega)).trans hC))) rfl inX3 4 (by decide) q1_77 rfl rfl dX3_become_26 ?_
  refine j_put (fs := [.ref (z + (k + 1)), .int nar2, .int ff2, .int fa2, .int fb, .int fc]) C tyX3 tyX3_ok nmX3 (by omega) (lk3_1 (by omega) (by omega)) rfl inX3 4 (by decide) q1_77 rfl rfl (tyX3_ok 4 (by decide)) rfl rfl (Nat.le_of_ble_eq_true rfl) dX3_become_29 (j_ct (un3_1 (by omega) (by omega)) ?_)
  refine j_aload_n C dX3_become_32 0 rfl rfl ?_
  refine j_aload_n C dX3_become_33 1 rfl rfl ?_
  refine j_get (fs := [.ref (z + (q + 1)), .int nar2, .int ff2, .int fa2, .int fb2, .int fc2]) (v := .int fc2) C (by omega) ((va_up_ne _ _ (by omega)).trans ((va_up_ne _ _ (by omega)).trans ((va_up_ne _ _ (by omega)).trans hC))) rfl inX3 5 (by decide) q1_79 rfl rfl dX3_become_34 ?_
  refine j_put (fs := [.ref (z + (k + 1)), .int nar2, .int ff2, .int fa2, .int fb2, .int fc]) C tyX3 tyX3_ok nmX3 (by omega) (lk3_1 (by omega) (by omega)) rfl inX3 5 (by decide) q1_79 rfl rfl (tyX3_ok 5 (by decide)) rfl rfl (Nat.le_of_ble_eq_true rfl) dX3_become_37 (j_ct (un3_1 (by omega) (by omega)) ?_)
  refine j_iconst (v := 0) C dX3_become_40 (by decide) ?_
  refine j_istore_n C [(2, .int (0 : Int32)), (0, .ref (z + k)), (1, .ref (z + q))] dX3_become_41 rfl (by decide) rfl ?_
  exact j_re [1, 2, 0] rfl (L_42 20 nar2 ff2 fa2 fb2 fc2 F H (0 : Int32) hg)

def gX0_look (a1 : Int32) (a2 : Int32) (a3 : Int32) (a4 : Int32) (a5 : Int32) (a6 : Int32) (x0 : Int32) : Option (Int32 × Int32 × Int32 × Int32 × Int32 × Int32) := some (a1, a2, a3, (1 : Int32), x0, x0 &&& (a5 ^^^ (-1 : Int32)))
theorem hd_X0_look : yX0_look.cls ≠ "java/lang/invoke/MethodHandle" ∧ yX0_look.cls ≠ "java/lang/invoke/VarHandle" ∧ (parseMethodDescriptor yX0_look.desc).map (fun d => d.parameters.length) = some 1 := by decide +kernel
set_option maxHeartbeats 4000000 in
set_option maxRecDepth 100000 in
theorem tX0_look {G : GG} {l : Launch} {z N : Nat} {ct : Nat → va_E} {k : Nat} {a1 : Int32} {a2 : Int32} {a3 : Int32} {a4 : Int32} {a5 : Int32} {a6 : Int32} (hkN : k < N) (x0 : Int32) {r : Int32 × Int32 × Int32 × Int32 × Int32 × Int32} (hg : gX0_look a1 a2 a3 a4 a5 a6 x0 = some r) : Ct G l yX0_look cX0_look 2 none ({ frames := 0, cells := 0, slots := 0, locals := 0 } : Room) [.ref (z + k), .int x0] z (va_up ct k (.inr (0, [.int a1, .int a2, .int a3, .int a4, .int a5, .int a6]))) N none (va_up ct k (.inr (0, [.int r.1, .int r.2.1, .int r.2.2.1, .int r.2.2.2.1, .int r.2.2.2.2.1, .int r.2.2.2.2.2]))) N := by
  refine Ct.of (lv := [(0, .ref (z + k)), (1, .int x0)]) (by decide +kernel) (Nat.le_of_ble_eq_true rfl) rfl (fun p e s m args below meth c C => ?_)
  rw [gX0_look] at hg
  refine j_aload_n C dX0_look_0 0 rfl rfl ?_
  refine j_iload_n C dX0_look_1 1 rfl rfl ?_
  refine j_aload_n C dX0_look_2 0 rfl rfl ?_
  refine j_get (fs := [.int a1, .int a2, .int a3, .int a4, .int a5, .int a6]) (v := .int a5) C (by omega) lk1_1 rfl inX0 4 (by decide) q1_108 rfl rfl dX0_look_3 ?_
  refine j_iconst (v := (-1)) C dX0_look_6 (by decide) ?_
  refine j_ixor C dX0_look_7 ?_
  refine j_iand C dX0_look_8 ?_
  refine j_put (fs := [.int a1, .int a2, .int a3, .int a4, .int a5, .int a6]) C tyX0 tyX0_ok nmX0 (by omega) lk1_1 rfl inX0 5 (by decide) q1_109 rfl rfl (tyX0_ok 5 (by decide)) rfl rfl (Nat.le_of_ble_eq_true rfl) dX0_look_9 (j_ct un1_1 ?_)
  refine j_aload_n C dX0_look_12 0 rfl rfl ?_
  refine j_iload_n C dX0_look_13 1 rfl rfl ?_
  refine j_put (fs := [.int a1, .int a2, .int a3, .int a4, .int a5, .int (x0 &&& (a5 ^^^ (-1 : Int32)))]) C tyX0 tyX0_ok nmX0 (by omega) lk1_1 rfl inX0 4 (by decide) q1_108 rfl rfl (tyX0_ok 4 (by decide)) rfl rfl (Nat.le_of_ble_eq_true rfl) dX0_look_14 (j_ct un1_1 ?_)
  refine j_aload_n C dX0_look_17 0 rfl rfl ?_
  refine j_iconst (v := 1) C dX0_look_18 (by decide) ?_
  refine j_put (fs := [.int a1, .int a2, .int a3, .int a4, .int x0, .int (x0 &&& (a5 ^^^ (-1 : Int32)))]) C tyX0 tyX0_ok nmX0 (by omega) lk1_1 rfl inX0 3 (by decide) q1_106 rfl rfl (tyX0_ok 3 (by decide)) rfl rfl (Nat.le_of_ble_eq_true rfl) dX0_look_19 (j_ct un1_1 ?_)
  exact j_vret C dX0_look_22 rfl (by rw [← Option.some.inj hg] <;> rfl) rfl

def gX0_firstRang_2 (a1 : Int32) (a2 : Int32) (a3 : Int32) (a4 : Int32) (a5 : Int32) (a6 : Int32) (k2 : Int32 → Option Int32) (v1 : Int32) : Option Int32 := if (16 : Int32) ≤ v1 then (some (-1 : Int32)) else (if ((a6 >>> (v1 &&& 31)) &&& (1 : Int32)) = 0 then (k2 (v1 + (1 : Int32))) else (some v1))
def gX0_firstRang (a1 : Int32) (a2 : Int32) (a3 : Int32) (a4 : Int32) (a5 : Int32) (a6 : Int32) : Option Int32 := lq1 (gX0_firstRang_2 a1 a2 a3 a4 a5 a6) 20 (0 : Int32)
theorem hd_X0_firstRang : yX0_firstRang.cls ≠ "java/lang/invoke/MethodHandle" ∧ yX0_firstRang.cls ≠ "java/lang/invoke/VarHandle" ∧ (parseMethodDescriptor yX0_firstRang.desc).map (fun d => d.parameters.length) = some 0 := by decide +kernel
set_option maxHeartbeats 4000000 in
set_option maxRecDepth 100000 in
theorem tX0_firstRang {G : GG} {l : Launch} {z N : Nat} {ct : Nat → va_E} {k : Nat} {a1 a2 a3 a4 a5 a6 : Int32} (hkN : k < N) (hA : ct k = alO a1 a2 a3 a4 a5 a6) {r : Int32} (hg : gX0_firstRang a1 a2 a3 a4 a5 a6 = some r) : Ct G l yX0_firstRang cX0_firstRang 2 (some .int) ({ frames := 0, cells := 0, slots := 0, locals := 0 } : Room) [.ref (z + k)] z ct N (some (.int r)) ct N := by
  refine Ct.of (lv := [(0, .ref (z + k))]) (by decide +kernel) (Nat.le_of_ble_eq_true rfl) rfl (fun p e s m args below meth c C => ?_)
  have L_2 : ∀ (n2 : Nat) (v1 : Int32), lq1 (gX0_firstRang_2 a1 a2 a3 a4 a5 a6) n2 v1 = some r → J G p l e ({ frames := 0, cells := 0, slots := 0, locals := 0 } : Room) s m args below meth c z 2 (MQ below (Qd G z (some (.int r)) ct N) args s 0 0 (zA z)) ct N 0 0 2 [(0, .ref (z + k)), (1, .int v1)] [] := by
    intro n2
    induction n2 with
    | zero => intro v1 hg; cases hg
    | succ n2 ih2 =>
      intro v1 hg
      replace hg : gX0_firstRang_2 a1 a2 a3 a4 a5 a6 (lq1 (gX0_firstRang_2 a1 a2 a3 a4 a5 a6) n2) v1 = some r := hg
      rw [gX0_firstRang_2] at hg
      refine j_iload_n C dX0_firstRang_2 1 rfl rfl ?_
      refine j_bipush (v := 16) C dX0_firstRang_3 (by decide) ?_
      refine j_icmp_ge C 27 hg dX0_firstRang_5 (by decide) (fun hg => ?_) (fun hg => ?_)
      · refine j_iconst (v := (-1)) C dX0_firstRang_27 (by decide) ?_
        exact j_iret C dX0_firstRang_28 (by rw [← Option.some.inj hg] <;> rfl) rfl rfl
      · refine j_aload_n C dX0_firstRang_8 0 rfl rfl ?_
        refine j_get (fs := [.int a1, .int a2, .int a3, .int a4, .int a5, .int a6]) (v := .int a6) C (by omega) hA rfl inX0 5 (by decide) q1_109 rfl rfl dX0_firstRang_9 ?_
        refine j_iload_n C dX0_firstRang_12 1 rfl rfl ?_
        refine j_ishr C dX0_firstRang_13 ?_
        refine j_iconst (v := 1) C dX0_firstRang_14 (by decide) ?_
        refine j_iand C dX0_firstRang_15 ?_
        refine j_if_eq C 21 hg dX0_firstRang_16 (by decide) (fun hg => ?_) (fun hg => ?_)
        · refine j_iinc C [(1, .int (v1 + (1 : Int32))), (0, .ref (z + k))] dX0_firstRang_21 1 rfl rfl (by decide) rfl ?_
          refine j_goto C 2 dX0_firstRang_24 (by decide) ?_
          exact j_re [1, 0] rfl (ih2 (v1 + (1 : Int32)) hg)
        · refine j_iload_n C dX0_firstRang_19 1 rfl rfl ?_
          exact j_iret C dX0_firstRang_20 (by rw [← Option.some.inj hg] <;> rfl) rfl rfl
  rw [gX0_firstRang] at hg
  refine j_iconst (v := 0) C dX0_firstRang_0 (by decide) ?_
  refine j_istore_n C [(1, .int (0 : Int32)), (0, .ref (z + k))] dX0_firstRang_1 rfl (by decide) rfl ?_
  exact j_re [1, 0] rfl (L_2 20 (0 : Int32) hg)

def gX0_answer (a1 : Int32) (a2 : Int32) (a3 : Int32) (a4 : Int32) (a5 : Int32) (a6 : Int32) (x0 : Int32) : Option Int32 := if x0 = (0 : Int32) then ((gJ6_bitCount_0f7a4 a5).bind (fun r4 => some r4)) else (if x0 = (1 : Int32) then ((gJ6_bitCount_0f7a4 a6).bind (fun r3 => some r3)) else (if x0 = (2 : Int32) then ((gX0_firstRang a1 a2 a3 a4 a5 a6 ).bind (fun r2 => some r2)) else (some (-1 : Int32))))
theorem hd_X0_answer : yX0_answer.cls ≠ "java/lang/invoke/MethodHandle" ∧ yX0_answer.cls ≠ "java/lang/invoke/VarHandle" ∧ (parseMethodDescriptor yX0_answer.desc).map (fun d => d.parameters.length) = some 1 := by decide +kernel
set_option maxHeartbeats 4000000 in
set_option maxRecDepth 100000 in
theorem tX0_answer {G : GG} {l : Launch} {z N : Nat} {ct : Nat → va_E} {k : Nat} {a1 a2 a3 a4 a5 a6 : Int32} (hkN : k < N) (hA : ct k = alO a1 a2 a3 a4 a5 a6) (x0 : Int32) {r : Int32} (hg : gX0_answer a1 a2 a3 a4 a5 a6 x0 = some r) : Ct G l yX0_answer cX0_answer 2 (some .int) ({ frames := 1, cells := 0, slots := 0, locals := 21 } : Room) [.ref (z + k), .int x0] z ct N (some (.int r)) ct N := by
  refine Ct.of (lv := [(0, .ref (z + k)), (1, .int x0)]) (by decide +kernel) (Nat.le_of_ble_eq_true rfl) rfl (fun p e s m args below meth c C => ?_)
  rw [gX0_answer] at hg
  refine j_iload_n C dX0_answer_0 1 rfl rfl ?_
  by_cases c1_0 : x0 = (0 : Int32)
  · replace hg := (if_pos c1_0).symm.trans hg
    refine j_tableIn (off := 27) C 28 dX0_answer_1 (by rw [c1_0]; decide) (by rw [c1_0]; decide) (by rw [c1_0]; rfl) (by decide) ?_
    refine j_aload_n C dX0_answer_28 0 rfl rfl ?_
    refine j_get (fs := [.int a1, .int a2, .int a3, .int a4, .int a5, .int a6]) (v := .int a5) C (by omega) hA rfl inX0 4 (by decide) q1_108 rfl rfl dX0_answer_29 ?_
    obtain ⟨r4, hr4, hg⟩ := ob hg
    refine j_callS C [.int a5] (tJ6_bitCount_0f7a4 a5 hr4) q3_25 q1_14 q3_24 q3_74 hd_J6_bitCount_0f7a4 rfl dX0_answer_32 rfl (Nat.le_of_ble_eq_true rfl) ⟨(Nat.le_of_ble_eq_true rfl), (Nat.le_of_ble_eq_true rfl)⟩ ⟨(Nat.le_of_ble_eq_true rfl), (Nat.le_of_ble_eq_true rfl)⟩ ?_
    exact j_iret C dX0_answer_35 (by rw [← Option.some.inj hg] <;> rfl) rfl rfl
  · replace hg := (if_neg c1_0).symm.trans hg
    by_cases c1_1 : x0 = (1 : Int32)
    · replace hg := (if_pos c1_1).symm.trans hg
      refine j_tableIn (off := 35) C 36 dX0_answer_1 (by rw [c1_1]; decide) (by rw [c1_1]; decide) (by rw [c1_1]; rfl) (by decide) ?_
      refine j_aload_n C dX0_answer_36 0 rfl rfl ?_
      refine j_get (fs := [.int a1, .int a2, .int a3, .int a4, .int a5, .int a6]) (v := .int a6) C (by omega) hA rfl inX0 5 (by decide) q1_109 rfl rfl dX0_answer_37 ?_
      obtain ⟨r3, hr3, hg⟩ := ob hg
      refine j_callS C [.int a6] (tJ6_bitCount_0f7a4 a6 hr3) q3_25 q1_14 q3_24 q3_74 hd_J6_bitCount_0f7a4 rfl dX0_answer_40 rfl (Nat.le_of_ble_eq_true rfl) ⟨(Nat.le_of_ble_eq_true rfl), (Nat.le_of_ble_eq_true rfl)⟩ ⟨(Nat.le_of_ble_eq_true rfl), (Nat.le_of_ble_eq_true rfl)⟩ ?_
      exact j_iret C dX0_answer_43 (by rw [← Option.some.inj hg] <;> rfl) rfl rfl
    · replace hg := (if_neg c1_1).symm.trans hg
      by_cases c1_2 : x0 = (2 : Int32)
      · replace hg := (if_pos c1_2).symm.trans hg
        refine j_tableIn (off := 43) C 44 dX0_answer_1 (by rw [c1_2]; decide) (by rw [c1_2]; decide) (by rw [c1_2]; rfl) (by decide) ?_
        refine j_aload_n C dX0_answer_44 0 rfl rfl ?_
        obtain ⟨r2, hr2, hg⟩ := ob hg
        refine j_callV C [] (tX0_firstRang (by omega) hA  hr2) (by omega) hA rfl q3_78 q1_5 q3_77 qp_17 q3_75 hd_X0_firstRang rfl dX0_answer_45 rfl (Nat.le_of_ble_eq_true rfl) ⟨(Nat.le_of_ble_eq_true rfl), (Nat.le_of_ble_eq_true rfl)⟩ ⟨(Nat.le_of_ble_eq_true rfl), (Nat.le_of_ble_eq_true rfl)⟩ ?_
        exact j_iret C dX0_answer_48 (by rw [← Option.some.inj hg] <;> rfl) rfl rfl
      · replace hg := (if_neg c1_2).symm.trans hg
        have ho : x0.toInt < 0 ∨ 2 < x0.toInt := by
          by_cases ho : x0.toInt < 0 ∨ 2 < x0.toInt
          · exact ho
          · obtain ⟨k, hk, hx⟩ := sw_in ho
            match k, hk, hx with
            | 0, _, hx => exact absurd (Int32.toInt_inj.mp (hx.trans (by decide))) c1_0
            | 1, _, hx => exact absurd (Int32.toInt_inj.mp (hx.trans (by decide))) c1_1
            | 2, _, hx => exact absurd (Int32.toInt_inj.mp (hx.trans (by decide))) c1_2
            | k + 3, hk, _ => exact absurd hk (Nat.not_lt.mpr (Nat.le_add_left _ _))
        refine j_tableOut C 49 dX0_answer_1 ho (by decide) ?_
        refine j_iconst (v := (-1)) C dX0_answer_49 (by decide) ?_
        exact j_iret C dX0_answer_50 (by rw [← Option.some.inj hg] <;> rfl) rfl rfl
