def RK (G : GG) (z : Nat) (ct : Nat → va_E) (N k : Nat) (nar ff fa fb fc : Int32) (xn : Nat → UInt64) (xb : Nat → Int32) (yn : Nat → UInt64) (yb : Nat → Int32) : Prop := (13 ≤ k ∧ k + 3 < N) ∧ ct 5 = .inr (5, [.ref (z + 6), .ref (z + 9)]) ∧ ct 6 = rdO z 6 ∧ ct 7 = cD G 16 xn ∧ ct 8 = cZ G 16 xb ∧ ct 9 = rdO z 9 ∧ ct 10 = cD G 16 yn ∧ ct 11 = cZ G 16 yb ∧ ct k = coO z k nar ff fa fb fc ∧ ct (k + 1) = rdO z (k + 1)
def gX9_fromX (nar : Int32) (ff : Int32) (fc : Int32) (xn : Nat → UInt64) (xb : Nat → Int32) (yn : Nat → UInt64) (yb : Nat → Int32) (F : Nat → UInt64) (H : Nat → Int32) (x1 : Int32) : Option ((Nat → UInt64) × (Nat → Int32)) := (gX8_blankAt 16 xn xb x1).bind (fun r1 => if r1 = 0 then ((gX8_at 16 xn xb x1).bind (fun r2 => (gX6_ofOne ff r2 nar).bind (fun r3 => (gX8_put 16 F H x1 r3).bind (fun r4 => some (r4.1, r4.2))))) else (some (F, H)))
theorem hd_X9_fromX : yX9_fromX.cls ≠ "java/lang/invoke/MethodHandle" ∧ yX9_fromX.cls ≠ "java/lang/invoke/VarHandle" ∧ (parseMethodDescriptor yX9_fromX.desc).map (fun d => d.parameters.length) = some 2 := by decide +kernel
set_option maxHeartbeats 4000000 in
set_option maxRecDepth 100000 in
theorem tX9_fromX {G : GG} {l : Launch} {z N : Nat} {ct : Nat → va_E} {k : Nat} {nar ff fa fb fc : Int32} {xn : Nat → UInt64} {xb : Nat → Int32} {yn : Nat → UInt64} {yb : Nat → Int32} {F : Nat → UInt64} {H : Nat → Int32} (hK : RK G z ct N k nar ff fa fb fc xn xb yn yb) (x1 : Int32) {r : (Nat → UInt64) × (Nat → Int32)} (hg : gX9_fromX nar ff fc xn xb yn yb F H x1 = some r) : Ct G l yX9_fromX cX9_fromX 3 none ({ frames := 3, cells := 0, slots := 0, locals := 71 } : Room) [.ref (z + 5), .ref (z + k), .int x1] z (va_up (va_up ct (k + 2) (cD G 16 F)) (k + 3) (cZ G 16 H)) N none (va_up (va_up ct (k + 2) (cD G 16 r.1)) (k + 3) (cZ G 16 r.2)) N := by
  obtain ⟨⟨hk1, hkN⟩, h5, h6, h7, h8, h9, h10, h11, hC, hr⟩ := id hK
  refine Ct.of (lv := [(0, .ref (z + 5)), (1, .ref (z + k)), (2, .int x1)]) (by decide +kernel) (Nat.le_of_ble_eq_true rfl) rfl (fun p e s m args below meth c C => ?_)
  rw [gX9_fromX] at hg
  refine j_aload_n C dX9_fromX_0 0 rfl rfl ?_
  refine j_get (fs := [.ref (z + 6), .ref (z + 9)]) (v := .ref (z + 6)) C (by omega) ((va_up_ne _ _ (by omega)).trans ((va_up_ne _ _ (by omega)).trans h5)) rfl inX9 0 (by decide) q1_48 rfl rfl dX9_fromX_1 ?_
  refine j_iload_n C dX9_fromX_4 2 rfl rfl ?_
  obtain ⟨r1, hr1, hg⟩ := ob hg
  refine j_callV C [.int x1] (tX8_blankAt ⟨by omega, ((va_up_ne _ _ (by omega)).trans ((va_up_ne _ _ (by omega)).trans h6)), ((va_up_ne _ _ (by omega)).trans ((va_up_ne _ _ (by omega)).trans h7)), ((va_up_ne _ _ (by omega)).trans ((va_up_ne _ _ (by omega)).trans h8))⟩ x1 hr1) (by omega) ((va_up_ne _ _ (by omega)).trans ((va_up_ne _ _ (by omega)).trans h6)) rfl q1_193 q1_2 q1_191 q1_192 q2_99 hd_X8_blankAt rfl dX9_fromX_5 rfl (Nat.le_of_ble_eq_true rfl) ⟨(Nat.le_of_ble_eq_true rfl), (Nat.le_of_ble_eq_true rfl)⟩ ⟨(Nat.le_of_ble_eq_true rfl), (Nat.le_of_ble_eq_true rfl)⟩ ?_
  refine j_if_ne C 38 hg dX9_fromX_8 (by decide) (fun hg => ?_) (fun hg => ?_)
  · exact j_vret C dX9_fromX_38 rfl (by rw [← Option.some.inj hg] <;> rfl) rfl
  · refine j_aload_n C dX9_fromX_11 1 rfl rfl ?_
    refine j_get (fs := [.ref (z + (k + 1)), .int nar, .int ff, .int fa, .int fb, .int fc]) (v := .ref (z + (k + 1))) C (by omega) ((va_up_ne _ _ (by omega)).trans ((va_up_ne _ _ (by omega)).trans hC)) rfl inX3 0 (by decide) q1_67 rfl rfl dX9_fromX_12 ?_
    refine j_iload_n C dX9_fromX_15 2 rfl rfl ?_
    refine j_aload_n C dX9_fromX_16 1 rfl rfl ?_
    refine j_get (fs := [.ref (z + (k + 1)), .int nar, .int ff, .int fa, .int fb, .int fc]) (v := .int ff) C (by omega) ((va_up_ne _ _ (by omega)).trans ((va_up_ne _ _ (by omega)).trans hC)) rfl inX3 2 (by decide) q1_73 rfl rfl dX9_fromX_17 ?_
    refine j_aload_n C dX9_fromX_20 0 rfl rfl ?_
    refine j_get (fs := [.ref (z + 6), .ref (z + 9)]) (v := .ref (z + 6)) C (by omega) ((va_up_ne _ _ (by omega)).trans ((va_up_ne _ _ (by omega)).trans h5)) rfl inX9 0 (by decide) q1_48 rfl rfl dX9_fromX_21 ?_
    refine j_iload_n C dX9_fromX_24 2 rfl rfl ?_
    obtain ⟨r2, hr2, hg⟩ := ob hg
    refine j_callV C [.int x1] (tX8_at ⟨by omega, ((va_up_ne _ _ (by omega)).trans ((va_up_ne _ _ (by omega)).trans h6)), ((va_up_ne _ _ (by omega)).trans ((va_up_ne _ _ (by omega)).trans h7)), ((va_up_ne _ _ (by omega)).trans ((va_up_ne _ _ (by omega)).trans h8))⟩ x1 hr2) (by omega) ((va_up_ne _ _ (by omega)).trans ((va_up_ne _ _ (by omega)).trans h6)) rfl q1_189 q1_2 q1_187 q1_188 q2_100 hd_X8_at rfl dX9_fromX_25 rfl (Nat.le_of_ble_eq_true rfl) ⟨(Nat.le_of_ble_eq_true rfl), (Nat.le_of_ble_eq_true rfl)⟩ ⟨(Nat.le_of_ble_eq_true rfl), (Nat.le_of_ble_eq_true rfl)⟩ ?_
    refine j_aload_n C dX9_fromX_28 1 rfl rfl ?_
    refine j_get (fs := [.ref (z + (k + 1)), .int nar, .int ff, .int fa, .int fb, .int fc]) (v := .int nar) C (by omega) ((va_up_ne _ _ (by omega)).trans ((va_up_ne _ _ (by omega)).trans hC)) rfl inX3 1 (by decide) q1_71 rfl rfl dX9_fromX_29 ?_
    obtain ⟨r3, hr3, hg⟩ := ob hg
    refine j_callS C [.int ff, .double r2, .int nar] (tX6_ofOne ff r2 nar hr3) q2_103 q1_10 q2_102 q2_101 hd_X6_ofOne rfl dX9_fromX_32 rfl (Nat.le_of_ble_eq_true rfl) ⟨(Nat.le_of_ble_eq_true rfl), (Nat.le_of_ble_eq_true rfl)⟩ ⟨(Nat.le_of_ble_eq_true rfl), (Nat.le_of_ble_eq_true rfl)⟩ ?_
    obtain ⟨r4, hr4, hg⟩ := ob hg
    refine j_ct (rdS_self (r := k + 1) (lk2_1 (by omega)) lk2_2).symm ?_
    refine j_callV C [.int x1, .double r3] (tX8_put (ct := va_up (va_up ct (k + 2) (cD G 16 F)) (k + 3) (cZ G 16 H)) (by omega) ((va_up_ne _ _ (by omega)).trans ((va_up_ne _ _ (by omega)).trans hr)) x1 r3 hr4) (by omega) ((rdS_ne (by omega) (by omega)).trans ((va_up_ne _ _ (by omega)).trans ((va_up_ne _ _ (by omega)).trans hr))) rfl q1_233 q1_2 q1_231 q1_232 q2_131 hd_X8_put rfl dX9_fromX_35 rfl (Nat.le_of_ble_eq_true rfl) ⟨(Nat.le_of_ble_eq_true rfl), (Nat.le_of_ble_eq_true rfl)⟩ ⟨(Nat.le_of_ble_eq_true rfl), (Nat.le_of_ble_eq_true rfl)⟩ (j_ct ((congrArg (fun c9 => va_up c9 (k + 3) (cZ G 16 r4.2)) (un2_1 (by omega))).trans un2_2) ?_)
    exact j_vret C dX9_fromX_38 rfl (by rw [← Option.some.inj hg] <;> rfl) rfl

def gX9_fromBoth (nar : Int32) (ff : Int32) (fc : Int32) (xn : Nat → UInt64) (xb : Nat → Int32) (yn : Nat → UInt64) (yb : Nat → Int32) (F : Nat → UInt64) (H : Nat → Int32) (x1 : Int32) : Option ((Nat → UInt64) × (Nat → Int32)) := (gX8_blankAt 16 xn xb x1).bind (fun r1 => if r1 = 0 then ((gX8_blankAt 16 yn yb x1).bind (fun r2 => if r2 = 0 then ((gX8_at 16 xn xb x1).bind (fun r3 => (gX8_at 16 yn yb x1).bind (fun r4 => (gX6_isVoid ff r3 r4).bind (fun r5 => if r5 = 0 then ((gX6_ofTwo ff r3 r4 nar).bind (fun r6 => (gX8_put 16 F H x1 r6).bind (fun r7 => some (r7.1, r7.2)))) else (some (F, H)))))) else (some (F, H)))) else (some (F, H)))
theorem hd_X9_fromBoth : yX9_fromBoth.cls ≠ "java/lang/invoke/MethodHandle" ∧ yX9_fromBoth.cls ≠ "java/lang/invoke/VarHandle" ∧ (parseMethodDescriptor yX9_fromBoth.desc).map (fun d => d.parameters.length) = some 2 := by decide +kernel
set_option maxHeartbeats 4000000 in
set_option maxRecDepth 100000 in
theorem tX9_fromBoth {G : GG} {l : Launch} {z N : Nat} {ct : Nat → va_E} {k : Nat} {nar ff fa fb fc : Int32} {xn : Nat → UInt64} {xb : Nat → Int32} {yn : Nat → UInt64} {yb : Nat → Int32} {F : Nat → UInt64} {H : Nat → Int32} (hK : RK G z ct N k nar ff fa fb fc xn xb yn yb) (x1 : Int32) {r : (Nat → UInt64) × (Nat → Int32)} (hg : gX9_fromBoth nar ff fc xn xb yn yb F H x1 = some r) : Ct G l yX9_fromBoth cX9_fromBoth 7 none ({ frames := 3, cells := 0, slots := 0, locals := 96 } : Room) [.ref (z + 5), .ref (z + k), .int x1] z (va_up (va_up ct (k + 2) (cD G 16 F)) (k + 3) (cZ G 16 H)) N none (va_up (va_up ct (k + 2) (cD G 16 r.1)) (k + 3) (cZ G 16 r.2)) N := by
  obtain ⟨⟨hk1, hkN⟩, h5, h6, h7, h8, h9, h10, h11, hC, hr⟩ := id hK
  refine Ct.of (lv := [(0, .ref (z + 5)), (1, .ref (z + k)), (2, .int x1)]) (by decide +kernel) (Nat.le_of_ble_eq_true rfl) rfl (fun p e s m args below meth c C => ?_)
  rw [gX9_fromBoth] at hg
  refine j_aload_n C dX9_fromBoth_0 0 rfl rfl ?_
  refine j_get (fs := [.ref (z + 6), .ref (z + 9)]) (v := .ref (z + 6)) C (by omega) ((va_up_ne _ _ (by omega)).trans ((va_up_ne _ _ (by omega)).trans h5)) rfl inX9 0 (by decide) q1_48 rfl rfl dX9_fromBoth_1 ?_
  refine j_iload_n C dX9_fromBoth_4 2 rfl rfl ?_
  obtain ⟨r1, hr1, hg⟩ := ob hg
  refine j_callV C [.int x1] (tX8_blankAt ⟨by omega, ((va_up_ne _ _ (by omega)).trans ((va_up_ne _ _ (by omega)).trans h6)), ((va_up_ne _ _ (by omega)).trans ((va_up_ne _ _ (by omega)).trans h7)), ((va_up_ne _ _ (by omega)).trans ((va_up_ne _ _ (by omega)).trans h8))⟩ x1 hr1) (by omega) ((va_up_ne _ _ (by omega)).trans ((va_up_ne _ _ (by omega)).trans h6)) rfl q1_193 q1_2 q1_191 q1_192 q2_99 hd_X8_blankAt rfl dX9_fromBoth_5 rfl (Nat.le_of_ble_eq_true rfl) ⟨(Nat.le_of_ble_eq_true rfl), (Nat.le_of_ble_eq_true rfl)⟩ ⟨(Nat.le_of_ble_eq_true rfl), (Nat.le_of_ble_eq_true rfl)⟩ ?_
  refine j_if_ne C 22 hg dX9_fromBoth_8 (by decide) (fun hg => ?_) (fun hg => ?_)
  · exact j_vret C dX9_fromBoth_22 rfl (by rw [← Option.some.inj hg] <;> rfl) rfl
  · refine j_aload_n C dX9_fromBoth_11 0 rfl rfl ?_
    refine j_get (fs := [.ref (z + 6), .ref (z + 9)]) (v := .ref (z + 9)) C (by omega) ((va_up_ne _ _ (by omega)).trans ((va_up_ne _ _ (by omega)).trans h5)) rfl inX9 1 (by decide) q1_50 rfl rfl dX9_fromBoth_12 ?_
    refine j_iload_n C dX9_fromBoth_15 2 rfl rfl ?_
    obtain ⟨r2, hr2, hg⟩ := ob hg
    refine j_callV C [.int x1] (tX8_blankAt ⟨by omega, ((va_up_ne _ _ (by omega)).trans ((va_up_ne _ _ (by omega)).trans h9)), ((va_up_ne _ _ (by omega)).trans ((va_up_ne _ _ (by omega)).trans h10)), ((va_up_ne _ _ (by omega)).trans ((va_up_ne _ _ (by omega)).trans h11))⟩ x1 hr2) (by omega) ((va_up_ne _ _ (by omega)).trans ((va_up_ne _ _ (by omega)).trans h9)) rfl q1_193 q1_2 q1_191 q1_192 q2_99 hd_X8_blankAt rfl dX9_fromBoth_16 rfl (Nat.le_of_ble_eq_true rfl) ⟨(Nat.le_of_ble_eq_true rfl), (Nat.le_of_ble_eq_true rfl)⟩ ⟨(Nat.le_of_ble_eq_true rfl), (Nat.le_of_ble_eq_true rfl)⟩ ?_
    refine j_if_eq C 23 hg dX9_fromBoth_19 (by decide) (fun hg => ?_) (fun hg => ?_)
    · refine j_aload_n C dX9_fromBoth_23 0 rfl rfl ?_
      refine j_get (fs := [.ref (z + 6), .ref (z + 9)]) (v := .ref (z + 6)) C (by omega) ((va_up_ne _ _ (by omega)).trans ((va_up_ne _ _ (by omega)).trans h5)) rfl inX9 0 (by decide) q1_48 rfl rfl dX9_fromBoth_24 ?_
      refine j_iload_n C dX9_fromBoth_27 2 rfl rfl ?_
      obtain ⟨r3, hr3, hg⟩ := ob hg
      refine j_callV C [.int x1] (tX8_at ⟨by omega, ((va_up_ne _ _ (by omega)).trans ((va_up_ne _ _ (by omega)).trans h6)), ((va_up_ne _ _ (by omega)).trans ((va_up_ne _ _ (by omega)).trans h7)), ((va_up_ne _ _ (by omega)).trans ((va_up_ne _ _ (by omega)).trans h8))⟩ x1 hr3) (by omega) ((va_up_ne _ _ (by omega)).trans ((va_up_ne _ _ (by omega)).trans h6)) rfl q1_189 q1_2 q1_187 q1_188 q2_100 hd_X8_at rfl dX9_fromBoth_28 rfl (Nat.le_of_ble_eq_true rfl) ⟨(Nat.le_of_ble_eq_true rfl), (Nat.le_of_ble_eq_true rfl)⟩ ⟨(Nat.le_of_ble_eq_true rfl), (Nat.le_of_ble_eq_true rfl)⟩ ?_
      refine j_dstore_n C [(3, .double r3), (0, .ref (z + 5)), (1, .ref (z + k)), (2, .int x1)] dX9_fromBoth_31 rfl (by decide) rfl ?_
      refine j_aload_n C dX9_fromBoth_32 1 rfl rfl ?_
      refine j_get (fs := [.ref (z + 6), .ref (z + 9)]) (v := .ref (z + 9)) C (by omega) ((va_up_ne _ _ (by omega)).trans ((va_up_ne _ _ (by omega)).trans h5)) rfl inX9 1 (by decide) q1_50 rfl rfl dX9_fromBoth_33 ?_
      refine j_iload_n C dX9_fromBoth_36 3 rfl rfl ?_
      obtain ⟨r4, hr4, hg⟩ := ob hg
      refine j_callV C [.int x1] (tX8_at ⟨by omega, ((va_up_ne _ _ (by omega)).trans ((va_up_ne _ _ (by omega)).trans h9)), ((va_up_ne _ _ (by omega)).trans ((va_up_ne _ _ (by omega)).trans h10)), ((va_up_ne _ _ (by omega)).trans ((va_up_ne _ _ (by omega)).trans h11))⟩ x1 hr4) (by omega) ((va_up_ne _ _ (by omega)).trans ((va_up_ne _ _ (by omega)).trans h9)) rfl q1_189 q1_2 q1_187 q1_188 q2_100 hd_X8_at rfl dX9_fromBoth_37 rfl (Nat.le_of_ble_eq_true rfl) ⟨(Nat.le_of_ble_eq_true rfl), (Nat.le_of_ble_eq_true rfl)⟩ ⟨(Nat.le_of_ble_eq_true rfl), (Nat.le_of_ble_eq_true rfl)⟩ ?_
      refine j_dstore C [(5, .double r4), (3, .double r3), (0, .ref (z + 5)), (1, .ref (z + k)), (2, .int x1)] dX9_fromBoth_40 (by decide) rfl ?_
      refine j_aload_n C dX9_fromBoth_42 3 rfl rfl ?_
      refine j_get (fs := [.ref (z + (k + 1)), .int nar, .int ff, .int fa, .int fb, .int fc]) (v := .int ff) C (by omega) ((va_up_ne _ _ (by omega)).trans ((va_up_ne _ _ (by omega)).trans hC)) rfl inX3 2 (by decide) q1_73 rfl rfl dX9_fromBoth_43 ?_
      refine j_dload_n C dX9_fromBoth_46 1 rfl rfl ?_
      refine j_dload C dX9_fromBoth_47 0 rfl ?_
      obtain ⟨r5, hr5, hg⟩ := ob hg
      refine j_callS C [.int ff, .double r3, .double r4] (tX6_isVoid ff r3 r4 hr5) q2_138 q1_10 q2_137 q2_136 hd_X6_isVoid rfl dX9_fromBoth_49 rfl (Nat.le_of_ble_eq_true rfl) ⟨(Nat.le_of_ble_eq_true rfl), (Nat.le_of_ble_eq_true rfl)⟩ ⟨(Nat.le_of_ble_eq_true rfl), (Nat.le_of_ble_eq_true rfl)⟩ ?_
      refine j_if_ne C 77 hg dX9_fromBoth_52 (by decide) (fun hg => ?_) (fun hg => ?_)
      · exact j_vret C dX9_fromBoth_77 rfl (by rw [← Option.some.inj hg] <;> rfl) rfl
      · refine j_aload_n C dX9_fromBoth_55 3 rfl rfl ?_
        refine j_get (fs := [.ref (z + (k + 1)), .int nar, .int ff, .int fa, .int fb, .int fc]) (v := .ref (z + (k + 1))) C (by omega) ((va_up_ne _ _ (by omega)).trans ((va_up_ne _ _ (by omega)).trans hC)) rfl inX3 0 (by decide) q1_67 rfl rfl dX9_fromBoth_56 ?_
        refine j_iload_n C dX9_fromBoth_59 4 rfl rfl ?_
        refine j_aload_n C dX9_fromBoth_60 3 rfl rfl ?_
        refine j_get (fs := [.ref (z + (k + 1)), .int nar, .int ff, .int fa, .int fb, .int fc]) (v := .int ff) C (by omega) ((va_up_ne _ _ (by omega)).trans ((va_up_ne _ _ (by omega)).trans hC)) rfl inX3 2 (by decide) q1_73 rfl rfl dX9_fromBoth_61 ?_
        refine j_dload_n C dX9_fromBoth_64 1 rfl rfl ?_
        refine j_dload C dX9_fromBoth_65 0 rfl ?_
        refine j_aload_n C dX9_fromBoth_67 3 rfl rfl ?_
        refine j_get (fs := [.ref (z + (k + 1)), .int nar, .int ff, .int fa, .int fb, .int fc]) (v := .int nar) C (by omega) ((va_up_ne _ _ (by omega)).trans ((va_up_ne _ _ (by omega)).trans hC)) rfl inX3 1 (by decide) q1_71 rfl rfl dX9_fromBoth_68 ?_
        obtain ⟨r6, hr6, hg⟩ := ob hg
        refine j_callS C [.int ff, .double r3, .double r4, .int nar] (tX6_ofTwo ff r3 r4 nar hr6) q2_145 q1_10 q2_144 q2_143 hd_X6_ofTwo rfl dX9_fromBoth_71 rfl (Nat.le_of_ble_eq_true rfl) ⟨(Nat.le_of_ble_eq_true rfl), (Nat.le_of_ble_eq_true rfl)⟩ ⟨(Nat.le_of_ble_eq_true rfl), (Nat.le_of_ble_eq_true rfl)⟩ ?_
        obtain ⟨r7, hr7, hg⟩ := ob hg
        refine j_ct (rdS_self (r := k + 1) (lk2_1 (by omega)) lk2_2).symm ?_
        refine j_callV C [.int x1, .double r6] (tX8_put (ct := va_up (va_up ct (k + 2) (cD G 16 F)) (k + 3) (cZ G 16 H)) (by omega) ((va_up_ne _ _ (by omega)).trans ((va_up_ne _ _ (by omega)).trans hr)) x1 r6 hr7) (by omega) ((rdS_ne (by omega) (by omega)).trans ((va_up_ne _ _ (by omega)).trans ((va_up_ne _ _ (by omega)).trans hr))) rfl q1_233 q1_2 q1_231 q1_232 q2_131 hd_X8_put rfl dX9_fromBoth_74 rfl (Nat.le_of_ble_eq_true rfl) ⟨(Nat.le_of_ble_eq_true rfl), (Nat.le_of_ble_eq_true rfl)⟩ ⟨(Nat.le_of_ble_eq_true rfl), (Nat.le_of_ble_eq_true rfl)⟩ (j_ct ((congrArg (fun c9 => va_up c9 (k + 3) (cZ G 16 r7.2)) (un2_1 (by omega))).trans un2_2) ?_)
        exact j_vret C dX9_fromBoth_77 rfl (by rw [← Option.some.inj hg] <;> rfl) rfl
    · exact j_vret C dX9_fromBoth_22 rfl (by rw [← Option.some.inj hg] <;> rfl) rfl

def gX9_keep (nar : Int32) (ff : Int32) (fc : Int32) (xn : Nat → UInt64) (xb : Nat → Int32) (yn : Nat → UInt64) (yb : Nat → Int32) (F : Nat → UInt64) (H : Nat → Int32) (x1 : Int32) (x2 : Int32) : Option ((Nat → UInt64) × (Nat → Int32)) := (gX8_blankAt 16 xn xb x1).bind (fun r1 => if r1 = 0 then ((gX5_isSo 16 xn xb 16 yn yb x2 x1 x1).bind (fun r2 => if r2 = 0 then (some (F, H)) else ((gX8_at 16 xn xb x1).bind (fun r3 => (gX8_put 16 F H x1 r3).bind (fun r4 => some (r4.1, r4.2)))))) else (some (F, H)))
theorem hd_X9_keep : yX9_keep.cls ≠ "java/lang/invoke/MethodHandle" ∧ yX9_keep.cls ≠ "java/lang/invoke/VarHandle" ∧ (parseMethodDescriptor yX9_keep.desc).map (fun d => d.parameters.length) = some 3 := by decide +kernel
set_option maxHeartbeats 4000000 in
set_option maxRecDepth 100000 in
theorem tX9_keep {G : GG} {l : Launch} {z N : Nat} {ct : Nat → va_E} {k : Nat} {nar ff fa fb fc : Int32} {xn : Nat → UInt64} {xb : Nat → Int32} {yn : Nat → UInt64} {yb : Nat → Int32} {F : Nat → UInt64} {H : Nat → Int32} (hK : RK G z ct N k nar ff fa fb fc xn xb yn yb) (x1 : Int32) (x2 : Int32) {r : (Nat → UInt64) × (Nat → Int32)} (hg : gX9_keep nar ff fc xn xb yn yb F H x1 x2 = some r) : Ct G l yX9_keep cX9_keep 4 none ({ frames := 2, cells := 0, slots := 0, locals := 52 } : Room) [.ref (z + 5), .ref (z + (k + 1)), .int x1, .int x2] z (va_up (va_up ct (k + 2) (cD G 16 F)) (k + 3) (cZ G 16 H)) N none (va_up (va_up ct (k + 2) (cD G 16 r.1)) (k + 3) (cZ G 16 r.2)) N := by
  obtain ⟨⟨hk1, hkN⟩, h5, h6, h7, h8, h9, h10, h11, hC, hr⟩ := id hK
  refine Ct.of (lv := [(0, .ref (z + 5)), (1, .ref (z + (k + 1))), (2, .int x1), (3, .int x2)]) (by decide +kernel) (Nat.le_of_ble_eq_true rfl) rfl (fun p e s m args below meth c C => ?_)
  rw [gX9_keep] at hg
  refine j_aload_n C dX9_keep_0 0 rfl rfl ?_
  refine j_get (fs := [.ref (z + 6), .ref (z + 9)]) (v := .ref (z + 6)) C (by omega) ((va_up_ne _ _ (by omega)).trans ((va_up_ne _ _ (by omega)).trans h5)) rfl inX9 0 (by decide) q1_48 rfl rfl dX9_keep_1 ?_
  refine j_iload_n C dX9_keep_4 2 rfl rfl ?_
  obtain ⟨r1, hr1, hg⟩ := ob hg
  refine j_callV C [.int x1] (tX8_blankAt ⟨by omega, ((va_up_ne _ _ (by omega)).trans ((va_up_ne _ _ (by omega)).trans h6)), ((va_up_ne _ _ (by omega)).trans ((va_up_ne _ _ (by omega)).trans h7)), ((va_up_ne _ _ (by omega)).trans ((va_up_ne _ _ (by omega)).trans h8))⟩ x1 hr1) (by omega) ((va_up_ne _ _ (by omega)).trans ((va_up_ne _ _ (by omega)).trans h6)) rfl q1_193 q1_2 q1_191 q1_192 q2_99 hd_X8_blankAt rfl dX9_keep_5 rfl (Nat.le_of_ble_eq_true rfl) ⟨(Nat.le_of_ble_eq_true rfl), (Nat.le_of_ble_eq_true rfl)⟩ ⟨(Nat.le_of_ble_eq_true rfl), (Nat.le_of_ble_eq_true rfl)⟩ ?_
  refine j_if_ne C 41 hg dX9_keep_8 (by decide) (fun hg => ?_) (fun hg => ?_)
  · exact j_vret C dX9_keep_41 rfl (by rw [← Option.some.inj hg] <;> rfl) rfl
  · refine j_iload_n C dX9_keep_11 3 rfl rfl ?_
    refine j_aload_n C dX9_keep_12 0 rfl rfl ?_
    refine j_get (fs := [.ref (z + 6), .ref (z + 9)]) (v := .ref (z + 6)) C (by omega) ((va_up_ne _ _ (by omega)).trans ((va_up_ne _ _ (by omega)).trans h5)) rfl inX9 0 (by decide) q1_48 rfl rfl dX9_keep_13 ?_
    refine j_iload_n C dX9_keep_16 2 rfl rfl ?_
    refine j_aload_n C dX9_keep_17 0 rfl rfl ?_
    refine j_get (fs := [.ref (z + 6), .ref (z + 9)]) (v := .ref (z + 9)) C (by omega) ((va_up_ne _ _ (by omega)).trans ((va_up_ne _ _ (by omega)).trans h5)) rfl inX9 1 (by decide) q1_50 rfl rfl dX9_keep_18 ?_
    refine j_iload_n C dX9_keep_21 2 rfl rfl ?_
    obtain ⟨r2, hr2, hg⟩ := ob hg
    refine j_callS C [.int x2, .ref (z + 6), .int x1, .ref (z + 9), .int x1] (tX5_isSo ⟨by omega, ((va_up_ne _ _ (by omega)).trans ((va_up_ne _ _ (by omega)).trans h6)), ((va_up_ne _ _ (by omega)).trans ((va_up_ne _ _ (by omega)).trans h7)), ((va_up_ne _ _ (by omega)).trans ((va_up_ne _ _ (by omega)).trans h8))⟩ ⟨by omega, ((va_up_ne _ _ (by omega)).trans ((va_up_ne _ _ (by omega)).trans h9)), ((va_up_ne _ _ (by omega)).trans ((va_up_ne _ _ (by omega)).trans h10)), ((va_up_ne _ _ (by omega)).trans ((va_up_ne _ _ (by omega)).trans h11))⟩ x2 x1 x1 hr2) q2_192 q1_13 q2_191 q2_190 hd_X5_isSo rfl dX9_keep_22 rfl (Nat.le_of_ble_eq_true rfl) ⟨(Nat.le_of_ble_eq_true rfl), (Nat.le_of_ble_eq_true rfl)⟩ ⟨(Nat.le_of_ble_eq_true rfl), (Nat.le_of_ble_eq_true rfl)⟩ ?_
    refine j_if_eq C 41 hg dX9_keep_25 (by decide) (fun hg => ?_) (fun hg => ?_)
    · exact j_vret C dX9_keep_41 rfl (by rw [← Option.some.inj hg] <;> rfl) rfl
    · refine j_aload_n C dX9_keep_28 1 rfl rfl ?_
      refine j_iload_n C dX9_keep_29 2 rfl rfl ?_
      refine j_aload_n C dX9_keep_30 0 rfl rfl ?_
      refine j_get (fs := [.ref (z + 6), .ref (z + 9)]) (v := .ref (z + 6)) C (by omega) ((va_up_ne _ _ (by omega)).trans ((va_up_ne _ _ (by omega)).trans h5)) rfl inX9 0 (by decide) q1_48 rfl rfl dX9_keep_31 ?_
      refine j_iload_n C dX9_keep_34 2 rfl rfl ?_
      obtain ⟨r3, hr3, hg⟩ := ob hg
      refine j_callV C [.int x1] (tX8_at ⟨by omega, ((va_up_ne _ _ (by omega)).trans ((va_up_ne _ _ (by omega)).trans h6)), ((va_up_ne _ _ (by omega)).trans ((va_up_ne _ _ (by omega)).trans h7)), ((va_up_ne _ _ (by omega)).trans ((va_up_ne _ _ (by omega)).trans h8))⟩ x1 hr3) (by omega) ((va_up_ne _ _ (by omega)).trans ((va_up_ne _ _ (by omega)).trans h6)) rfl q1_189 q1_2 q1_187 q1_188 q2_100 hd_X8_at rfl dX9_keep_35 rfl (Nat.le_of_ble_eq_true rfl) ⟨(Nat.le_of_ble_eq_true rfl), (Nat.le_of_ble_eq_true rfl)⟩ ⟨(Nat.le_of_ble_eq_true rfl), (Nat.le_of_ble_eq_true rfl)⟩ ?_
      obtain ⟨r4, hr4, hg⟩ := ob hg
      refine j_ct (rdS_self (r := k + 1) (lk2_1 (by omega)) lk2_2).symm ?_
      refine j_callV C [.int x1, .double r3] (tX8_put (ct := va_up (va_up ct (k + 2) (cD G 16 F)) (k + 3) (cZ G 16 H)) (by omega) ((va_up_ne _ _ (by omega)).trans ((va_up_ne _ _ (by omega)).trans hr)) x1 r3 hr4) (by omega) ((rdS_ne (by omega) (by omega)).trans ((va_up_ne _ _ (by omega)).trans ((va_up_ne _ _ (by omega)).trans hr))) rfl q1_233 q1_2 q1_231 q1_232 q2_131 hd_X8_put rfl dX9_keep_38 rfl (Nat.le_of_ble_eq_true rfl) ⟨(Nat.le_of_ble_eq_true rfl), (Nat.le_of_ble_eq_true rfl)⟩ ⟨(Nat.le_of_ble_eq_true rfl), (Nat.le_of_ble_eq_true rfl)⟩ (j_ct ((congrArg (fun c9 => va_up c9 (k + 3) (cZ G 16 r4.2)) (un2_1 (by omega))).trans un2_2) ?_)
      exact j_vret C dX9_keep_41 rfl (by rw [← Option.some.inj hg] <;> rfl) rfl

def gX9_middle (nar : Int32) (ff : Int32) (fc : Int32) (xn : Nat → UInt64) (xb : Nat → Int32) (yn : Nat → UInt64) (yb : Nat → Int32) (F : Nat → UInt64) (H : Nat → Int32) (x1 : Int32) : Option ((Nat → UInt64) × (Nat → Int32)) := if x1 < (1 : Int32) then (some (F, H)) else (if (x1 + (1 : Int32)) < (16 : Int32) then ((gX8_blankAt 16 xn xb (x1 - (1 : Int32))).bind (fun r1 => if r1 = 0 then ((gX8_blankAt 16 xn xb x1).bind (fun r2 => if r2 = 0 then ((gX8_blankAt 16 xn xb (x1 + (1 : Int32))).bind (fun r3 => if r3 = 0 then ((gX8_at 16 xn xb (x1 - (1 : Int32))).bind (fun r4 => (gX8_at 16 xn xb x1).bind (fun r5 => (gX6_lesser r4 r5).bind (fun r6 => (gX6_greater r4 r5).bind (fun r7 => (gX8_at 16 xn xb (x1 + (1 : Int32))).bind (fun r8 => (gX6_lesser r7 r8).bind (fun r9 => (gX6_greater r6 r9).bind (fun r10 => (gX8_put 16 F H x1 r10).bind (fun r11 => some (r11.1, r11.2)))))))))) else (some (F, H)))) else (some (F, H)))) else (some (F, H)))) else (some (F, H)))
theorem hd_X9_middle : yX9_middle.cls ≠ "java/lang/invoke/MethodHandle" ∧ yX9_middle.cls ≠ "java/lang/invoke/VarHandle" ∧ (parseMethodDescriptor yX9_middle.desc).map (fun d => d.parameters.length) = some 2 := by decide +kernel
set_option maxHeartbeats 4000000 in
set_option maxRecDepth 100000 in
theorem tX9_middle {G : GG} {l : Launch} {z N : Nat} {ct : Nat → va_E} {k : Nat} {nar ff fa fb fc : Int32} {xn : Nat → UInt64} {xb : Nat → Int32} {yn : Nat → UInt64} {yb : Nat → Int32} {F : Nat → UInt64} {H : Nat → Int32} (hK : RK G z ct N k nar ff fa fb fc xn xb yn yb) (x1 : Int32) {r : (Nat → UInt64) × (Nat → Int32)} (hg : gX9_middle nar ff fc xn xb yn yb F H x1 = some r) : Ct G l yX9_middle cX9_middle 11 none ({ frames := 2, cells := 0, slots := 0, locals := 46 } : Room) [.ref (z + 5), .ref (z + (k + 1)), .int x1] z (va_up (va_up ct (k + 2) (cD G 16 F)) (k + 3) (cZ G 16 H)) N none (va_up (va_up ct (k + 2) (cD G 16 r.1)) (k + 3) (cZ G 16 r.2)) N := by
  obtain ⟨⟨hk1, hkN⟩, h5, h6, h7, h8, h9, h10, h11, hC, hr⟩ := id hK
  refine Ct.of (lv := [(0, .ref (z + 5)), (1, .ref (z + (k + 1))), (2, .int x1)]) (by decide +kernel) (Nat.le_of_ble_eq_true rfl) rfl (fun p e s m args below meth c C => ?_)
  rw [gX9_middle] at hg
  refine j_iload_n C dX9_middle_0 2 rfl rfl ?_
  refine j_iconst (v := 1) C dX9_middle_1 (by decide) ?_
  refine j_icmp_lt C 13 hg dX9_middle_2 (by decide) (fun hg => ?_) (fun hg => ?_)
  · exact j_vret C dX9_middle_13 rfl (by rw [← Option.some.inj hg] <;> rfl) rfl
  · refine j_iload_n C dX9_middle_5 2 rfl rfl ?_
    refine j_iconst (v := 1) C dX9_middle_6 (by decide) ?_
    refine j_iadd C dX9_middle_7 ?_
    refine j_bipush (v := 16) C dX9_middle_8 (by decide) ?_
    refine j_icmp_lt C 14 hg dX9_middle_10 (by decide) (fun hg => ?_) (fun hg => ?_)
    · refine j_aload_n C dX9_middle_14 0 rfl rfl ?_
      refine j_get (fs := [.ref (z + 6), .ref (z + 9)]) (v := .ref (z + 6)) C (by omega) ((va_up_ne _ _ (by omega)).trans ((va_up_ne _ _ (by omega)).trans h5)) rfl inX9 0 (by decide) q1_48 rfl rfl dX9_middle_15 ?_
      refine j_iload_n C dX9_middle_18 2 rfl rfl ?_
      refine j_iconst (v := 1) C dX9_middle_19 (by decide) ?_
      refine j_isub C dX9_middle_20 ?_
      obtain ⟨r1, hr1, hg⟩ := ob hg
      refine j_callV C [.int (x1 - (1 : Int32))] (tX8_blankAt ⟨by omega, ((va_up_ne _ _ (by omega)).trans ((va_up_ne _ _ (by omega)).trans h6)), ((va_up_ne _ _ (by omega)).trans ((va_up_ne _ _ (by omega)).trans h7)), ((va_up_ne _ _ (by omega)).trans ((va_up_ne _ _ (by omega)).trans h8))⟩ (x1 - (1 : Int32)) hr1) (by omega) ((va_up_ne _ _ (by omega)).trans ((va_up_ne _ _ (by omega)).trans h6)) rfl q1_193 q1_2 q1_191 q1_192 q2_99 hd_X8_blankAt rfl dX9_middle_21 rfl (Nat.le_of_ble_eq_true rfl) ⟨(Nat.le_of_ble_eq_true rfl), (Nat.le_of_ble_eq_true rfl)⟩ ⟨(Nat.le_of_ble_eq_true rfl), (Nat.le_of_ble_eq_true rfl)⟩ ?_
      refine j_if_ne C 51 hg dX9_middle_24 (by decide) (fun hg => ?_) (fun hg => ?_)
      · exact j_vret C dX9_middle_51 rfl (by rw [← Option.some.inj hg] <;> rfl) rfl
      · refine j_aload_n C dX9_middle_27 0 rfl rfl ?_
        refine j_get (fs := [.ref (z + 6), .ref (z + 9)]) (v := .ref (z + 6)) C (by omega) ((va_up_ne _ _ (by omega)).trans ((va_up_ne _ _ (by omega)).trans h5)) rfl inX9 0 (by decide) q1_48 rfl rfl dX9_middle_28 ?_
        refine j_iload_n C dX9_middle_31 2 rfl rfl ?_
        obtain ⟨r2, hr2, hg⟩ := ob hg
        refine j_callV C [.int x1] (tX8_blankAt ⟨by omega, ((va_up_ne _ _ (by omega)).trans ((va_up_ne _ _ (by omega)).trans h6)), ((va_up_ne _ _ (by omega)).trans ((va_up_ne _ _ (by omega)).trans h7)), ((va_up_ne _ _ (by omega)).trans ((va_up_ne _ _ (by omega)).trans h8))⟩ x1 hr2) (by omega) ((va_up_ne _ _ (by omega)).trans ((va_up_ne _ _ (by omega)).trans h6)) rfl q1_193 q1_2 q1_191 q1_192 q2_99 hd_X8_blankAt rfl dX9_middle_32 rfl (Nat.le_of_ble_eq_true rfl) ⟨(Nat.le_of_ble_eq_true rfl), (Nat.le_of_ble_eq_true rfl)⟩ ⟨(Nat.le_of_ble_eq_true rfl), (Nat.le_of_ble_eq_true rfl)⟩ ?_
        refine j_if_ne C 51 hg dX9_middle_35 (by decide) (fun hg => ?_) (fun hg => ?_)
        · exact j_vret C dX9_middle_51 rfl (by rw [← Option.some.inj hg] <;> rfl) rfl
        · refine j_aload_n C dX9_middle_38 0 rfl rfl ?_
          refine j_get (fs := [.ref (z + 6), .ref (z + 9)]) (v := .ref (z + 6)) C (by omega) ((va_up_ne _ _ (by omega)).trans ((va_up_ne _ _ (by omega)).trans h5)) rfl inX9 0 (by decide) q1_48 rfl rfl dX9_middle_39 ?_
          refine j_iload_n C dX9_middle_42 2 rfl rfl ?_
          refine j_iconst (v := 1) C dX9_middle_43 (by decide) ?_
          refine j_iadd C dX9_middle_44 ?_
          obtain ⟨r3, hr3, hg⟩ := ob hg
          refine j_callV C [.int (x1 + (1 : Int32))] (tX8_blankAt ⟨by omega, ((va_up_ne _ _ (by omega)).trans ((va_up_ne _ _ (by omega)).trans h6)), ((va_up_ne _ _ (by omega)).trans ((va_up_ne _ _ (by omega)).trans h7)), ((va_up_ne _ _ (by omega)).trans ((va_up_ne _ _ (by omega)).trans h8))⟩ (x1 + (1 : Int32)) hr3) (by omega) ((va_up_ne _ _ (by omega)).trans ((va_up_ne _ _ (by omega)).trans h6)) rfl q1_193 q1_2 q1_191 q1_192 q2_99 hd_X8_blankAt rfl dX9_middle_45 rfl (Nat.le_of_ble_eq_true rfl) ⟨(Nat.le_of_ble_eq_true rfl), (Nat.le_of_ble_eq_true rfl)⟩ ⟨(Nat.le_of_ble_eq_true rfl), (Nat.le_of_ble_eq_true rfl)⟩ ?_
          refine j_if_eq C 52 hg dX9_middle_48 (by decide) (fun hg => ?_) (fun hg => ?_)
          · refine j_aload_n C dX9_middle_52 0 rfl rfl ?_
            refine j_get (fs := [.ref (z + 6), .ref (z + 9)]) (v := .ref (z + 6)) C (by omega) ((va_up_ne _ _ (by omega)).trans ((va_up_ne _ _ (by omega)).trans h5)) rfl inX9 0 (by decide) q1_48 rfl rfl dX9_middle_53 ?_
            refine j_iload_n C dX9_middle_56 2 rfl rfl ?_
            refine j_iconst (v := 1) C dX9_middle_57 (by decide) ?_
            refine j_isub C dX9_middle_58 ?_
            obtain ⟨r4, hr4, hg⟩ := ob hg
            refine j_callV C [.int (x1 - (1 : Int32))] (tX8_at ⟨by omega, ((va_up_ne _ _ (by omega)).trans ((va_up_ne _ _ (by omega)).trans h6)), ((va_up_ne _ _ (by omega)).trans ((va_up_ne _ _ (by omega)).trans h7)), ((va_up_ne _ _ (by omega)).trans ((va_up_ne _ _ (by omega)).trans h8))⟩ (x1 - (1 : Int32)) hr4) (by omega) ((va_up_ne _ _ (by omega)).trans ((va_up_ne _ _ (by omega)).trans h6)) rfl q1_189 q1_2 q1_187 q1_188 q2_100 hd_X8_at rfl dX9_middle_59 rfl (Nat.le_of_ble_eq_true rfl) ⟨(Nat.le_of_ble_eq_true rfl), (Nat.le_of_ble_eq_true rfl)⟩ ⟨(Nat.le_of_ble_eq_true rfl), (Nat.le_of_ble_eq_true rfl)⟩ ?_
            refine j_dstore_n C [(3, .double r4), (0, .ref (z + 5)), (1, .ref (z + (k + 1))), (2, .int x1)] dX9_middle_62 rfl (by decide) rfl ?_
            refine j_aload_n C dX9_middle_63 1 rfl rfl ?_
            refine j_get (fs := [.ref (z + 6), .ref (z + 9)]) (v := .ref (z + 6)) C (by omega) ((va_up_ne _ _ (by omega)).trans ((va_up_ne _ _ (by omega)).trans h5)) rfl inX9 0 (by decide) q1_48 rfl rfl dX9_middle_64 ?_
            refine j_iload_n C dX9_middle_67 3 rfl rfl ?_
            obtain ⟨r5, hr5, hg⟩ := ob hg
            refine j_callV C [.int x1] (tX8_at ⟨by omega, ((va_up_ne _ _ (by omega)).trans ((va_up_ne _ _ (by omega)).trans h6)), ((va_up_ne _ _ (by omega)).trans ((va_up_ne _ _ (by omega)).trans h7)), ((va_up_ne _ _ (by omega)).trans ((va_up_ne _ _ (by omega)).trans h8))⟩ x1 hr5) (by omega) ((va_up_ne _ _ (by omega)).trans ((va_up_ne _ _ (by omega)).trans h6)) rfl q1_189 q1_2 q1_187 q1_188 q2_100 hd_X8_at rfl dX9_middle_68 rfl (Nat.le_of_ble_eq_true rfl) ⟨(Nat.le_of_ble_eq_true rfl), (Nat.le_of_ble_eq_true rfl)⟩ ⟨(Nat.le_of_ble_eq_true rfl), (Nat.le_of_ble_eq_true rfl)⟩ ?_
            refine j_dstore C [(5, .double r5), (3, .double r4), (0, .ref (z + 5)), (1, .ref (z + (k + 1))), (2, .int x1)] dX9_middle_71 (by decide) rfl ?_
            refine j_dload_n C dX9_middle_73 1 rfl rfl ?_
            refine j_dload C dX9_middle_74 0 rfl ?_
            obtain ⟨r6, hr6, hg⟩ := ob hg
            refine j_callS C [.double r4, .double r5] (tX6_lesser r4 r5 hr6) q2_175 q1_10 q2_174 q2_203 hd_X6_lesser rfl dX9_middle_76 rfl (Nat.le_of_ble_eq_true rfl) ⟨(Nat.le_of_ble_eq_true rfl), (Nat.le_of_ble_eq_true rfl)⟩ ⟨(Nat.le_of_ble_eq_true rfl), (Nat.le_of_ble_eq_true rfl)⟩ ?_
            refine j_dstore C [(7, .double r6), (5, .double r5), (3, .double r4), (0, .ref (z + 5)), (1, .ref (z + (k + 1))), (2, .int x1)] dX9_middle_79 (by decide) rfl ?_
            refine j_dload_n C dX9_middle_81 2 rfl rfl ?_
            refine j_dload C dX9_middle_82 1 rfl ?_
            obtain ⟨r7, hr7, hg⟩ := ob hg
            refine j_callS C [.double r4, .double r5] (tX6_greater r4 r5 hr7) q2_181 q1_10 q2_180 q2_204 hd_X6_greater rfl dX9_middle_84 rfl (Nat.le_of_ble_eq_true rfl) ⟨(Nat.le_of_ble_eq_true rfl), (Nat.le_of_ble_eq_true rfl)⟩ ⟨(Nat.le_of_ble_eq_true rfl), (Nat.le_of_ble_eq_true rfl)⟩ ?_
            refine j_dstore C [(9, .double r7), (7, .double r6), (5, .double r5), (3, .double r4), (0, .ref (z + 5)), (1, .ref (z + (k + 1))), (2, .int x1)] dX9_middle_87 (by decide) rfl ?_
            refine j_aload_n C dX9_middle_89 5 rfl rfl ?_
            refine j_iload_n C dX9_middle_90 6 rfl rfl ?_
            refine j_dload C dX9_middle_91 1 rfl ?_
            refine j_dload C dX9_middle_93 0 rfl ?_
            refine j_aload_n C dX9_middle_95 4 rfl rfl ?_
            refine j_get (fs := [.ref (z + 6), .ref (z + 9)]) (v := .ref (z + 6)) C (by omega) ((va_up_ne _ _ (by omega)).trans ((va_up_ne _ _ (by omega)).trans h5)) rfl inX9 0 (by decide) q1_48 rfl rfl dX9_middle_96 ?_
            refine j_iload_n C dX9_middle_99 6 rfl rfl ?_
            refine j_iconst (v := 1) C dX9_middle_100 (by decide) ?_
            refine j_iadd C dX9_middle_101 ?_
            obtain ⟨r8, hr8, hg⟩ := ob hg
            refine j_callV C [.int (x1 + (1 : Int32))] (tX8_at ⟨by omega, ((va_up_ne _ _ (by omega)).trans ((va_up_ne _ _ (by omega)).trans h6)), ((va_up_ne _ _ (by omega)).trans ((va_up_ne _ _ (by omega)).trans h7)), ((va_up_ne _ _ (by omega)).trans ((va_up_ne _ _ (by omega)).trans h8))⟩ (x1 + (1 : Int32)) hr8) (by omega) ((va_up_ne _ _ (by omega)).trans ((va_up_ne _ _ (by omega)).trans h6)) rfl q1_189 q1_2 q1_187 q1_188 q2_100 hd_X8_at rfl dX9_middle_102 rfl (Nat.le_of_ble_eq_true rfl) ⟨(Nat.le_of_ble_eq_true rfl), (Nat.le_of_ble_eq_true rfl)⟩ ⟨(Nat.le_of_ble_eq_true rfl), (Nat.le_of_ble_eq_true rfl)⟩ ?_
            obtain ⟨r9, hr9, hg⟩ := ob hg
            refine j_callS C [.double r7, .double r8] (tX6_lesser r7 r8 hr9) q2_175 q1_10 q2_174 q2_203 hd_X6_lesser rfl dX9_middle_105 rfl (Nat.le_of_ble_eq_true rfl) ⟨(Nat.le_of_ble_eq_true rfl), (Nat.le_of_ble_eq_true rfl)⟩ ⟨(Nat.le_of_ble_eq_true rfl), (Nat.le_of_ble_eq_true rfl)⟩ ?_
            obtain ⟨r10, hr10, hg⟩ := ob hg
            refine j_callS C [.double r6, .double r9] (tX6_greater r6 r9 hr10) q2_181 q1_10 q2_180 q2_204 hd_X6_greater rfl dX9_middle_108 rfl (Nat.le_of_ble_eq_true rfl) ⟨(Nat.le_of_ble_eq_true rfl), (Nat.le_of_ble_eq_true rfl)⟩ ⟨(Nat.le_of_ble_eq_true rfl), (Nat.le_of_ble_eq_true rfl)⟩ ?_
            obtain ⟨r11, hr11, hg⟩ := ob hg
            refine j_ct (rdS_self (r := k + 1) (lk2_1 (by omega)) lk2_2).symm ?_
            refine j_callV C [.int x1, .double r10] (tX8_put (ct := va_up (va_up ct (k + 2) (cD G 16 F)) (k + 3) (cZ G 16 H)) (by omega) ((va_up_ne _ _ (by omega)).trans ((va_up_ne _ _ (by omega)).trans hr)) x1 r10 hr11) (by omega) ((rdS_ne (by omega) (by omega)).trans ((va_up_ne _ _ (by omega)).trans ((va_up_ne _ _ (by omega)).trans hr))) rfl q1_233 q1_2 q1_231 q1_232 q2_131 hd_X8_put rfl dX9_middle_111 rfl (Nat.le_of_ble_eq_true rfl) ⟨(Nat.le_of_ble_eq_true rfl), (Nat.le_of_ble_eq_true rfl)⟩ ⟨(Nat.le_of_ble_eq_true rfl), (Nat.le_of_ble_eq_true rfl)⟩ (j_ct ((congrArg (fun c9 => va_up c9 (k + 3) (cZ G 16 r11.2)) (un2_1 (by omega))).trans un2_2) ?_)
            exact j_vret C dX9_middle_114 rfl (by rw [← Option.some.inj hg] <;> rfl) rfl
          · exact j_vret C dX9_middle_51 rfl (by rw [← Option.some.inj hg] <;> rfl) rfl
    · exact j_vret C dX9_middle_13 rfl (by rw [← Option.some.inj hg] <;> rfl) rfl

def gX9_extreme_14 (nar : Int32) (ff : Int32) (fc : Int32) (xn : Nat → UInt64) (xb : Nat → Int32) (yn : Nat → UInt64) (yb : Nat → Int32) (F : Nat → UInt64) (H : Nat → Int32) (x1 : Int32) (x2 : Int32) (F9 : Nat → UInt64) (H9 : Nat → Int32) : Option ((Nat → UInt64) × (Nat → Int32)) := (gX8_blankAt 16 xn xb x1).bind (fun r2 => if r2 = 0 then ((gX8_at 16 xn xb x1).bind (fun r3 => (gX8_blankAt 16 F9 H9 x1).bind (fun r4 => if r4 = 0 then (if x2 = 0 then ((gX8_at 16 F9 H9 x1).bind (fun r5 => (gX6_lesser r5 r3).bind (fun r6 => (gX8_put 16 F9 H9 x1 r6).bind (fun r7 => some (r7.1, r7.2))))) else ((gX8_at 16 F9 H9 x1).bind (fun r8 => (gX6_greater r8 r3).bind (fun r9 => (gX8_put 16 F9 H9 x1 r9).bind (fun r10 => some (r10.1, r10.2)))))) else ((gX8_put 16 F9 H9 x1 r3).bind (fun r11 => some (r11.1, r11.2)))))) else (some (F9, H9)))
def gX9_extreme (nar : Int32) (ff : Int32) (fc : Int32) (xn : Nat → UInt64) (xb : Nat → Int32) (yn : Nat → UInt64) (yb : Nat → Int32) (F : Nat → UInt64) (H : Nat → Int32) (x1 : Int32) (x2 : Int32) : Option ((Nat → UInt64) × (Nat → Int32)) := if x1 ≤ 0 then (gX9_extreme_14 nar ff fc xn xb yn yb F H x1 x2 F H) else ((gX8_putBroughtS 16 F H x1 (x1 - (1 : Int32)) (0 : Int32)).bind (fun r1 => gX9_extreme_14 nar ff fc xn xb yn yb F H x1 x2 r1.1 r1.2))
theorem hd_X9_extreme : yX9_extreme.cls ≠ "java/lang/invoke/MethodHandle" ∧ yX9_extreme.cls ≠ "java/lang/invoke/VarHandle" ∧ (parseMethodDescriptor yX9_extreme.desc).map (fun d => d.parameters.length) = some 3 := by decide +kernel
set_option maxHeartbeats 4000000 in
set_option maxRecDepth 100000 in
theorem tX9_extreme {G : GG} {l : Launch} {z N : Nat} {ct : Nat → va_E} {k : Nat} {nar ff fa fb fc : Int32} {xn : Nat → UInt64} {xb : Nat → Int32} {yn : Nat → UInt64} {yb : Nat → Int32} {F : Nat → UInt64} {H : Nat → Int32} (hK : RK G z ct N k nar ff fa fb fc xn xb yn yb) (x1 : Int32) (x2 : Int32) {r : (Nat → UInt64) × (Nat → Int32)} (hg : gX9_extreme nar ff fc xn xb yn yb F H x1 x2 = some r) : Ct G l yX9_extreme cX9_extreme 6 none ({ frames := 2, cells := 0, slots := 0, locals := 46 } : Room) [.ref (z + 5), .ref (z + (k + 1)), .int x1, .int x2] z (va_up (va_up ct (k + 2) (cD G 16 F)) (k + 3) (cZ G 16 H)) N none (va_up (va_up ct (k + 2) (cD G 16 r.1)) (k + 3) (cZ G 16 r.2)) N := by
  obtain ⟨⟨hk1, hkN⟩, h5, h6, h7, h8, h9, h10, h11, hC, hr⟩ := id hK
  refine Ct.of (lv := [(0, .ref (z + 5)), (1, .ref (z + (k + 1))), (2, .int x1), (3, .int x2)]) (by decide +kernel) (Nat.le_of_ble_eq_true rfl) rfl (fun p e s m args below meth c C => ?_)
  have L_14 : ∀ (F9 : Nat → UInt64) (H9 : Nat → Int32), gX9_extreme_14 nar ff fc xn xb yn yb F H x1 x2 F9 H9 = some r → J G p l e ({ frames := 2, cells := 0, slots := 0, locals := 46 } : Room) s m args below meth c z 6 (MQ below (Qd G z none (va_up (va_up ct (k + 2) (cD G 16 r.1)) (k + 3) (cZ G 16 r.2)) N) args s 0 0 (zA z)) (va_up (va_up ct (k + 2) (cD G 16 F9)) (k + 3) (cZ G 16 H9)) N 0 0 14 [(0, .ref (z + 5)), (1, .ref (z + (k + 1))), (2, .int x1), (3, .int x2)] [] := by
    intro F9 H9 hg
    rw [gX9_extreme_14] at hg
    refine j_aload_n C dX9_extreme_14 0 rfl rfl ?_
    refine j_get (fs := [.ref (z + 6), .ref (z + 9)]) (v := .ref (z + 6)) C (by omega) ((va_up_ne _ _ (by omega)).trans ((va_up_ne _ _ (by omega)).trans h5)) rfl inX9 0 (by decide) q1_48 rfl rfl dX9_extreme_15 ?_
    refine j_iload_n C dX9_extreme_18 2 rfl rfl ?_
    obtain ⟨r2, hr2, hg⟩ := ob hg
    refine j_callV C [.int x1] (tX8_blankAt ⟨by omega, ((va_up_ne _ _ (by omega)).trans ((va_up_ne _ _ (by omega)).trans h6)), ((va_up_ne _ _ (by omega)).trans ((va_up_ne _ _ (by omega)).trans h7)), ((va_up_ne _ _ (by omega)).trans ((va_up_ne _ _ (by omega)).trans h8))⟩ x1 hr2) (by omega) ((va_up_ne _ _ (by omega)).trans ((va_up_ne _ _ (by omega)).trans h6)) rfl q1_193 q1_2 q1_191 q1_192 q2_99 hd_X8_blankAt rfl dX9_extreme_19 rfl (Nat.le_of_ble_eq_true rfl) ⟨(Nat.le_of_ble_eq_true rfl), (Nat.le_of_ble_eq_true rfl)⟩ ⟨(Nat.le_of_ble_eq_true rfl), (Nat.le_of_ble_eq_true rfl)⟩ ?_
    refine j_if_eq C 26 hg dX9_extreme_22 (by decide) (fun hg => ?_) (fun hg => ?_)
    · refine j_aload_n C dX9_extreme_26 0 rfl rfl ?_
      refine j_get (fs := [.ref (z + 6), .ref (z + 9)]) (v := .ref (z + 6)) C (by omega) ((va_up_ne _ _ (by omega)).trans ((va_up_ne _ _ (by omega)).trans h5)) rfl inX9 0 (by decide) q1_48 rfl rfl dX9_extreme_27 ?_
      refine j_iload_n C dX9_extreme_30 2 rfl rfl ?_
      obtain ⟨r3, hr3, hg⟩ := ob hg
      refine j_callV C [.int x1] (tX8_at ⟨by omega, ((va_up_ne _ _ (by omega)).trans ((va_up_ne _ _ (by omega)).trans h6)), ((va_up_ne _ _ (by omega)).trans ((va_up_ne _ _ (by omega)).trans h7)), ((va_up_ne _ _ (by omega)).trans ((va_up_ne _ _ (by omega)).trans h8))⟩ x1 hr3) (by omega) ((va_up_ne _ _ (by omega)).trans ((va_up_ne _ _ (by omega)).trans h6)) rfl q1_189 q1_2 q1_187 q1_188 q2_100 hd_X8_at rfl dX9_extreme_31 rfl (Nat.le_of_ble_eq_true rfl) ⟨(Nat.le_of_ble_eq_true rfl), (Nat.le_of_ble_eq_true rfl)⟩ ⟨(Nat.le_of_ble_eq_true rfl), (Nat.le_of_ble_eq_true rfl)⟩ ?_
      refine j_dstore C [(4, .double r3), (0, .ref (z + 5)), (1, .ref (z + (k + 1))), (2, .int x1), (3, .int x2)] dX9_extreme_34 (by decide) rfl ?_
      refine j_aload_n C dX9_extreme_36 2 rfl rfl ?_
      refine j_iload_n C dX9_extreme_37 3 rfl rfl ?_
      obtain ⟨r4, hr4, hg⟩ := ob hg
      refine j_callV C [.int x1] (tX8_blankAt ⟨by omega, ((va_up_ne _ _ (by omega)).trans ((va_up_ne _ _ (by omega)).trans hr)), (lk2_1 (by omega)), lk2_2⟩ x1 hr4) (by omega) ((va_up_ne _ _ (by omega)).trans ((va_up_ne _ _ (by omega)).trans hr)) rfl q1_193 q1_2 q1_191 q1_192 q2_99 hd_X8_blankAt rfl dX9_extreme_38 rfl (Nat.le_of_ble_eq_true rfl) ⟨(Nat.le_of_ble_eq_true rfl), (Nat.le_of_ble_eq_true rfl)⟩ ⟨(Nat.le_of_ble_eq_true rfl), (Nat.le_of_ble_eq_true rfl)⟩ ?_
      refine j_if_eq C 54 hg dX9_extreme_41 (by decide) (fun hg => ?_) (fun hg => ?_)
      · refine j_iload_n C dX9_extreme_54 4 rfl rfl ?_
        refine j_if_eq C 76 hg dX9_extreme_55 (by decide) (fun hg => ?_) (fun hg => ?_)
        · refine j_aload_n C dX9_extreme_76 2 rfl rfl ?_
          refine j_iload_n C dX9_extreme_77 3 rfl rfl ?_
          refine j_aload_n C dX9_extreme_78 2 rfl rfl ?_
          refine j_iload_n C dX9_extreme_79 3 rfl rfl ?_
          obtain ⟨r5, hr5, hg⟩ := ob hg
          refine j_callV C [.int x1] (tX8_at ⟨by omega, ((va_up_ne _ _ (by omega)).trans ((va_up_ne _ _ (by omega)).trans hr)), (lk2_1 (by omega)), lk2_2⟩ x1 hr5) (by omega) ((va_up_ne _ _ (by omega)).trans ((va_up_ne _ _ (by omega)).trans hr)) rfl q1_189 q1_2 q1_187 q1_188 q2_100 hd_X8_at rfl dX9_extreme_80 rfl (Nat.le_of_ble_eq_true rfl) ⟨(Nat.le_of_ble_eq_true rfl), (Nat.le_of_ble_eq_true rfl)⟩ ⟨(Nat.le_of_ble_eq_true rfl), (Nat.le_of_ble_eq_true rfl)⟩ ?_
          refine j_dload C dX9_extreme_83 0 rfl ?_
          obtain ⟨r6, hr6, hg⟩ := ob hg
          refine j_callS C [.double r5, .double r3] (tX6_lesser r5 r3 hr6) q2_175 q1_10 q2_174 q2_203 hd_X6_lesser rfl dX9_extreme_85 rfl (Nat.le_of_ble_eq_true rfl) ⟨(Nat.le_of_ble_eq_true rfl), (Nat.le_of_ble_eq_true rfl)⟩ ⟨(Nat.le_of_ble_eq_true rfl), (Nat.le_of_ble_eq_true rfl)⟩ ?_
          obtain ⟨r7, hr7, hg⟩ := ob hg
          refine j_ct (rdS_self (r := k + 1) (lk2_1 (by omega)) lk2_2).symm ?_
          refine j_callV C [.int x1, .double r6] (tX8_put (ct := va_up (va_up ct (k + 2) (cD G 16 F9)) (k + 3) (cZ G 16 H9)) (by omega) ((va_up_ne _ _ (by omega)).trans ((va_up_ne _ _ (by omega)).trans hr)) x1 r6 hr7) (by omega) ((rdS_ne (by omega) (by omega)).trans ((va_up_ne _ _ (by omega)).trans ((va_up_ne _ _ (by omega)).trans hr))) rfl q1_233 q1_2 q1_231 q1_232 q2_131 hd_X8_put rfl dX9_extreme_88 rfl (Nat.le_of_ble_eq_true rfl) ⟨(Nat.le_of_ble_eq_true rfl), (Nat.le_of_ble_eq_true rfl)⟩ ⟨(Nat.le_of_ble_eq_true rfl), (Nat.le_of_ble_eq_true rfl)⟩ (j_ct ((congrArg (fun c9 => va_up c9 (k + 3) (cZ G 16 r7.2)) (un2_1 (by omega))).trans un2_2) ?_)
          exact j_vret C dX9_extreme_91 rfl (by rw [← Option.some.inj hg] <;> rfl) rfl
        · refine j_aload_n C dX9_extreme_58 2 rfl rfl ?_
          refine j_iload_n C dX9_extreme_59 3 rfl rfl ?_
          refine j_aload_n C dX9_extreme_60 2 rfl rfl ?_
          refine j_iload_n C dX9_extreme_61 3 rfl rfl ?_
          obtain ⟨r8, hr8, hg⟩ := ob hg
          refine j_callV C [.int x1] (tX8_at ⟨by omega, ((va_up_ne _ _ (by omega)).trans ((va_up_ne _ _ (by omega)).trans hr)), (lk2_1 (by omega)), lk2_2⟩ x1 hr8) (by omega) ((va_up_ne _ _ (by omega)).trans ((va_up_ne _ _ (by omega)).trans hr)) rfl q1_189 q1_2 q1_187 q1_188 q2_100 hd_X8_at rfl dX9_extreme_62 rfl (Nat.le_of_ble_eq_true rfl) ⟨(Nat.le_of_ble_eq_true rfl), (Nat.le_of_ble_eq_true rfl)⟩ ⟨(Nat.le_of_ble_eq_true rfl), (Nat.le_of_ble_eq_true rfl)⟩ ?_
          refine j_dload C dX9_extreme_65 0 rfl ?_
          obtain ⟨r9, hr9, hg⟩ := ob hg
          refine j_callS C [.double r8, .double r3] (tX6_greater r8 r3 hr9) q2_181 q1_10 q2_180 q2_204 hd_X6_greater rfl dX9_extreme_67 rfl (Nat.le_of_ble_eq_true rfl) ⟨(Nat.le_of_ble_eq_true rfl), (Nat.le_of_ble_eq_true rfl)⟩ ⟨(Nat.le_of_ble_eq_true rfl), (Nat.le_of_ble_eq_true rfl)⟩ ?_
          obtain ⟨r10, hr10, hg⟩ := ob hg
          refine j_ct (rdS_self (r := k + 1) (lk2_1 (by omega)) lk2_2).symm ?_
          refine j_callV C [.int x1, .double r9] (tX8_put (ct := va_up (va_up ct (k + 2) (cD G 16 F9)) (k + 3) (cZ G 16 H9)) (by omega) ((va_up_ne _ _ (by omega)).trans ((va_up_ne _ _ (by omega)).trans hr)) x1 r9 hr10) (by omega) ((rdS_ne (by omega) (by omega)).trans ((va_up_ne _ _ (by omega)).trans ((va_up_ne _ _ (by omega)).trans hr))) rfl q1_233 q1_2 q1_231 q1_232 q2_131 hd_X8_put rfl dX9_extreme_70 rfl (Nat.le_of_ble_eq_true rfl) ⟨(Nat.le_of_ble_eq_true rfl), (Nat.le_of_ble_eq_true rfl)⟩ ⟨(Nat.le_of_ble_eq_true rfl), (Nat.le_of_ble_eq_true rfl)⟩ (j_ct ((congrArg (fun c9 => va_up c9 (k + 3) (cZ G 16 r10.2)) (un2_1 (by omega))).trans un2_2) ?_)
          refine j_goto C 91 dX9_extreme_73 (by decide) ?_
          exact j_vret C dX9_extreme_91 rfl (by rw [← Option.some.inj hg] <;> rfl) rfl
      · refine j_aload_n C dX9_extreme_44 2 rfl rfl ?_
        refine j_iload_n C dX9_extreme_45 3 rfl rfl ?_
        refine j_dload C dX9_extreme_46 0 rfl ?_
        obtain ⟨r11, hr11, hg⟩ := ob hg
        refine j_ct (rdS_self (r := k + 1) (lk2_1 (by omega)) lk2_2).symm ?_
        refine j_callV C [.int x1, .double r3] (tX8_put (ct := va_up (va_up ct (k + 2) (cD G 16 F9)) (k + 3) (cZ G 16 H9)) (by omega) ((va_up_ne _ _ (by omega)).trans ((va_up_ne _ _ (by omega)).trans hr)) x1 r3 hr11) (by omega) ((rdS_ne (by omega) (by omega)).trans ((va_up_ne _ _ (by omega)).trans ((va_up_ne _ _ (by omega)).trans hr))) rfl q1_233 q1_2 q1_231 q1_232 q2_131 hd_X8_put rfl dX9_extreme_48 rfl (Nat.le_of_ble_eq_true rfl) ⟨(Nat.le_of_ble_eq_true rfl), (Nat.le_of_ble_eq_true rfl)⟩ ⟨(Nat.le_of_ble_eq_true rfl), (Nat.le_of_ble_eq_true rfl)⟩ (j_ct ((congrArg (fun c9 => va_up c9 (k + 3) (cZ G 16 r11.2)) (un2_1 (by omega))).trans un2_2) ?_)
        refine j_goto C 91 dX9_extreme_51 (by decide) ?_
        exact j_vret C dX9_extreme_91 rfl (by rw [← Option.some.inj hg] <;> rfl) rfl
    · exact j_vret C dX9_extreme_25 rfl (by rw [← Option.some.inj hg] <;> rfl) rfl
  rw [gX9_extreme] at hg
  refine j_iload_n C dX9_extreme_0 2 rfl rfl ?_
  refine j_if_le C 14 hg dX9_extreme_1 (by decide) (fun hg => ?_) (fun hg => ?_)
  · exact L_14 F H hg
  · refine j_aload_n C dX9_extreme_4 1 rfl rfl ?_
    refine j_iload_n C dX9_extreme_5 2 rfl rfl ?_
    refine j_aload_n C dX9_extreme_6 1 rfl rfl ?_
    refine j_iload_n C dX9_extreme_7 2 rfl rfl ?_
    refine j_iconst (v := 1) C dX9_extreme_8 (by decide) ?_
    refine j_isub C dX9_extreme_9 ?_
    refine j_iconst (v := 0) C dX9_extreme_10 (by decide) ?_
    obtain ⟨r1, hr1, hg⟩ := ob hg
    refine j_ct (rdS_self (r := k + 1) (lk2_1 (by omega)) lk2_2).symm ?_
    refine j_callV C [.int x1, .ref (z + (k + 1)), .int (x1 - (1 : Int32)), .int (0 : Int32)] (tX8_putBroughtS (ct := va_up (va_up ct (k + 2) (cD G 16 F)) (k + 3) (cZ G 16 H)) (by omega) ((va_up_ne _ _ (by omega)).trans ((va_up_ne _ _ (by omega)).trans hr)) x1 (x1 - (1 : Int32)) (0 : Int32) hr1) (by omega) ((rdS_ne (by omega) (by omega)).trans ((va_up_ne _ _ (by omega)).trans ((va_up_ne _ _ (by omega)).trans hr))) rfl q2_56 q1_2 q2_54 q2_55 q2_198 hd_X8_putBrought rfl dX9_extreme_11 rfl (Nat.le_of_ble_eq_true rfl) ⟨(Nat.le_of_ble_eq_true rfl), (Nat.le_of_ble_eq_true rfl)⟩ ⟨(Nat.le_of_ble_eq_true rfl), (Nat.le_of_ble_eq_true rfl)⟩ (j_ct ((congrArg (fun c9 => va_up c9 (k + 3) (cZ G 16 r1.2)) (un2_1 (by omega))).trans un2_2) ?_)
    exact L_14 r1.1 r1.2 hg

def gX9_insert_73 (nar : Int32) (ff : Int32) (fc : Int32) (xn : Nat → UInt64) (xb : Nat → Int32) (yn : Nat → UInt64) (yb : Nat → Int32) (F : Nat → UInt64) (H : Nat → Int32) (x1 : Int32) (F9 : Nat → UInt64) (H9 : Nat → Int32) (v3 : UInt64) (v5 : Int32) : Option ((Nat → UInt64) × (Nat → Int32)) := (gX8_put 16 F9 H9 v5 v3).bind (fun r6 => some (r6.1, r6.2))
def gX9_insert_55 (nar : Int32) (ff : Int32) (fc : Int32) (xn : Nat → UInt64) (xb : Nat → Int32) (yn : Nat → UInt64) (yb : Nat → Int32) (F : Nat → UInt64) (H : Nat → Int32) (x1 : Int32) (k24 : (Nat → UInt64) → (Nat → Int32) → UInt64 → Int32 → Option ((Nat → UInt64) × (Nat → Int32))) (F9 : Nat → UInt64) (H9 : Nat → Int32) (v3 : UInt64) (v5 : Int32) : Option ((Nat → UInt64) × (Nat → Int32)) := (gX8_putBroughtS 16 F9 H9 v5 (v5 - (1 : Int32)) (0 : Int32)).bind (fun r7 => k24 r7.1 r7.2 v3 (v5 + (-1 : Int32)))
def gX9_insert_24 (nar : Int32) (ff : Int32) (fc : Int32) (xn : Nat → UInt64) (xb : Nat → Int32) (yn : Nat → UInt64) (yb : Nat → Int32) (F : Nat → UInt64) (H : Nat → Int32) (x1 : Int32) (k24 : (Nat → UInt64) → (Nat → Int32) → UInt64 → Int32 → Option ((Nat → UInt64) × (Nat → Int32))) (F9 : Nat → UInt64) (H9 : Nat → Int32) (v3 : UInt64) (v5 : Int32) : Option ((Nat → UInt64) × (Nat → Int32)) := if v5 ≤ 0 then (gX9_insert_73 nar ff fc xn xb yn yb F H x1 F9 H9 v3 v5) else ((gX8_blankAt 16 F9 H9 (v5 - (1 : Int32))).bind (fun r3 => if r3 = 0 then ((gX8_at 16 F9 H9 (v5 - (1 : Int32))).bind (fun r4 => (gX6_isBelow v3 r4).bind (fun r5 => if r5 = 0 then (gX9_insert_73 nar ff fc xn xb yn yb F H x1 F9 H9 v3 v5) else (gX9_insert_55 nar ff fc xn xb yn yb F H x1 k24 F9 H9 v3 v5)))) else (gX9_insert_55 nar ff fc xn xb yn yb F H x1 k24 F9 H9 v3 v5)))
def gX9_insert (nar : Int32) (ff : Int32) (fc : Int32) (xn : Nat → UInt64) (xb : Nat → Int32) (yn : Nat → UInt64) (yb : Nat → Int32) (F : Nat → UInt64) (H : Nat → Int32) (x1 : Int32) : Option ((Nat → UInt64) × (Nat → Int32)) := (gX8_blankAt 16 xn xb x1).bind (fun r1 => if r1 = 0 then ((gX8_at 16 xn xb x1).bind (fun r2 => lq4 (gX9_insert_24 nar ff fc xn xb yn yb F H x1) 20 F H r2 x1)) else (some (F, H)))
theorem hd_X9_insert : yX9_insert.cls ≠ "java/lang/invoke/MethodHandle" ∧ yX9_insert.cls ≠ "java/lang/invoke/VarHandle" ∧ (parseMethodDescriptor yX9_insert.desc).map (fun d => d.parameters.length) = some 2 := by decide +kernel
set_option maxHeartbeats 4000000 in
set_option maxRecDepth 100000 in
theorem tX9_insert {G : GG} {l : Launch} {z N : Nat} {ct : Nat → va_E} {k : Nat} {nar ff fa fb fc : Int32} {xn : Nat → UInt64} {xb : Nat → Int32} {yn : Nat → UInt64} {yb : Nat → Int32} {F : Nat → UInt64} {H : Nat → Int32} (hK : RK G z ct N k nar ff fa fb fc xn xb yn yb) (x1 : Int32) {r : (Nat → UInt64) × (Nat → Int32)} (hg : gX9_insert nar ff fc xn xb yn yb F H x1 = some r) : Ct G l yX9_insert cX9_insert 6 none ({ frames := 2, cells := 0, slots := 0, locals := 46 } : Room) [.ref (z + 5), .ref (z + (k + 1)), .int x1] z (va_up (va_up ct (k + 2) (cD G 16 F)) (k + 3) (cZ G 16 H)) N none (va_up (va_up ct (k + 2) (cD G 16 r.1)) (k + 3) (cZ G 16 r.2)) N := by
  obtain ⟨⟨hk1, hkN⟩, h5, h6, h7, h8, h9, h10, h11, hC, hr⟩ := id hK
  refine Ct.of (lv := [(0, .ref (z + 5)), (1, .ref (z + (k + 1))), (2, .int x1)]) (by decide +kernel) (Nat.le_of_ble_eq_true rfl) rfl (fun p e s m args below meth c C => ?_)
  have L_73 : ∀ (F9 : Nat → UInt64) (H9 : Nat → Int32) (v3 : UInt64) (v5 : Int32), gX9_insert_73 nar ff fc xn xb yn yb F H x1 F9 H9 v3 v5 = some r → J G p l e ({ frames := 2, cells := 0, slots := 0, locals := 46 } : Room) s m args below meth c z 6 (MQ below (Qd G z none (va_up (va_up ct (k + 2) (cD G 16 r.1)) (k + 3) (cZ G 16 r.2)) N) args s 0 0 (zA z)) (va_up (va_up ct (k + 2) (cD G 16 F9)) (k + 3) (cZ G 16 H9)) N 0 0 73 [(1, .ref (z + (k + 1))), (3, .double v3), (5, .int v5)] [] := by
    intro F9 H9 v3 v5 hg
    rw [gX9_insert_73] at hg
    refine j_aload_n C dX9_insert_73 0 rfl rfl ?_
    refine j_iload C dX9_insert_74 2 rfl ?_
    refine j_dload_n C dX9_insert_76 1 rfl rfl ?_
    obtain ⟨r6, hr6, hg⟩ := ob hg
    refine j_ct (rdS_self (r := k + 1) (lk2_1 (by omega)) lk2_2).symm ?_
    refine j_callV C [.int v5, .double v3] (tX8_put (ct := va_up (va_up ct (k + 2) (cD G 16 F9)) (k + 3) (cZ G 16 H9)) (by omega) ((va_up_ne _ _ (by omega)).trans ((va_up_ne _ _ (by omega)).trans hr)) v5 v3 hr6) (by omega) ((rdS_ne (by omega) (by omega)).trans ((va_up_ne _ _ (by omega)).trans ((va_up_ne _ _ (by omega)).trans hr))) rfl q1_233 q1_2 q1_231 q1_232 q2_131 hd_X8_put rfl dX9_insert_77 rfl (Nat.le_of_ble_eq_true rfl) ⟨(Nat.le_of_ble_eq_true rfl), (Nat.le_of_ble_eq_true rfl)⟩ ⟨(Nat.le_of_ble_eq_true rfl), (Nat.le_of_ble_eq_true rfl)⟩ (j_ct ((congrArg (fun c9 => va_up c9 (k + 3) (cZ G 16 r6.2)) (un2_1 (by omega))).trans un2_2) ?_)
    exact j_vret C dX9_insert_80 rfl (by rw [← Option.some.inj hg] <;> rfl) rfl
  have L_24 : ∀ (n24 : Nat) (F9 : Nat → UInt64) (H9 : Nat → Int32) (v3 : UInt64) (v5 : Int32), lq4 (gX9_insert_24 nar ff fc xn xb yn yb F H x1) n24 F9 H9 v3 v5 = some r → J G p l e ({ frames := 2, cells := 0, slots := 0, locals := 46 } : Room) s m args below meth c z 6 (MQ below (Qd G z none (va_up (va_up ct (k + 2) (cD G 16 r.1)) (k + 3) (cZ G 16 r.2)) N) args s 0 0 (zA z)) (va_up (va_up ct (k + 2) (cD G 16 F9)) (k + 3) (cZ G 16 H9)) N 0 0 24 [(1, .ref (z + (k + 1))), (3, .double v3), (5, .int v5)] [] := by
    intro n24
    induction n24 with
    | zero => intro F9 H9 v3 v5 hg; cases hg
    | succ n24 ih24 =>
      have L_55 : ∀ (F9 : Nat → UInt64) (H9 : Nat → Int32) (v3 : UInt64) (v5 : Int32), gX9_insert_55 nar ff fc xn xb yn yb F H x1 (lq4 (gX9_insert_24 nar ff fc xn xb yn yb F H x1) n24) F9 H9 v3 v5 = some r → J G p l e ({ frames := 2, cells := 0, slots := 0, locals := 46 } : Room) s m args below meth c z 6 (MQ below (Qd G z none (va_up (va_up ct (k + 2) (cD G 16 r.1)) (k + 3) (cZ G 16 r.2)) N) args s 0 0 (zA z)) (va_up (va_up ct (k + 2) (cD G 16 F9)) (k + 3) (cZ G 16 H9)) N 0 0 55 [(1, .ref (z + (k + 1))), (3, .double v3), (5, .int v5)] [] := by
        intro F9 H9 v3 v5 hg
        rw [gX9_insert_55] at hg
        refine j_aload_n C dX9_insert_55 0 rfl rfl ?_
        refine j_iload C dX9_insert_56 2 rfl ?_
        refine j_aload_n C dX9_insert_58 0 rfl rfl ?_
        refine j_iload C dX9_insert_59 2 rfl ?_
        refine j_iconst (v := 1) C dX9_insert_61 (by decide) ?_
        refine j_isub C dX9_insert_62 ?_
        refine j_iconst (v := 0) C dX9_insert_63 (by decide) ?_
        obtain ⟨r7, hr7, hg⟩ := ob hg
        refine j_ct (rdS_self (r := k + 1) (lk2_1 (by omega)) lk2_2).symm ?_
        refine j_callV C [.int v5, .ref (z + (k + 1)), .int (v5 - (1 : Int32)), .int (0 : Int32)] (tX8_putBroughtS (ct := va_up (va_up ct (k + 2) (cD G 16 F9)) (k + 3) (cZ G 16 H9)) (by omega) ((va_up_ne _ _ (by omega)).trans ((va_up_ne _ _ (by omega)).trans hr)) v5 (v5 - (1 : Int32)) (0 : Int32) hr7) (by omega) ((rdS_ne (by omega) (by omega)).trans ((va_up_ne _ _ (by omega)).trans ((va_up_ne _ _ (by omega)).trans hr))) rfl q2_56 q1_2 q2_54 q2_55 q2_198 hd_X8_putBrought rfl dX9_insert_64 rfl (Nat.le_of_ble_eq_true rfl) ⟨(Nat.le_of_ble_eq_true rfl), (Nat.le_of_ble_eq_true rfl)⟩ ⟨(Nat.le_of_ble_eq_true rfl), (Nat.le_of_ble_eq_true rfl)⟩ (j_ct ((congrArg (fun c9 => va_up c9 (k + 3) (cZ G 16 r7.2)) (un2_1 (by omega))).trans un2_2) ?_)
        refine j_iinc C [(5, .int (v5 + (-1 : Int32))), (1, .ref (z + (k + 1))), (3, .double v3)] dX9_insert_67 2 rfl rfl (by decide) rfl ?_
        refine j_goto C 24 dX9_insert_70 (by decide) ?_
        exact j_re [1, 2, 0] rfl (ih24 r7.1 r7.2 v3 (v5 + (-1 : Int32)) hg)
      intro F9 H9 v3 v5 hg
      replace hg : gX9_insert_24 nar ff fc xn xb yn yb F H x1 (lq4 (gX9_insert_24 nar ff fc xn xb yn yb F H x1) n24) F9 H9 v3 v5 = some r := hg
      rw [gX9_insert_24] at hg
      refine j_iload C dX9_insert_24 2 rfl ?_
      refine j_if_le C 73 hg dX9_insert_26 (by decide) (fun hg => ?_) (fun hg => ?_)
      · exact L_73 F9 H9 v3 v5 hg
      · refine j_aload_n C dX9_insert_29 0 rfl rfl ?_
        refine j_iload C dX9_insert_30 2 rfl ?_
        refine j_iconst (v := 1) C dX9_insert_32 (by decide) ?_
        refine j_isub C dX9_insert_33 ?_
        obtain ⟨r3, hr3, hg⟩ := ob hg
        refine j_callV C [.int (v5 - (1 : Int32))] (tX8_blankAt ⟨by omega, ((va_up_ne _ _ (by omega)).trans ((va_up_ne _ _ (by omega)).trans hr)), (lk2_1 (by omega)), lk2_2⟩ (v5 - (1 : Int32)) hr3) (by omega) ((va_up_ne _ _ (by omega)).trans ((va_up_ne _ _ (by omega)).trans hr)) rfl q1_193 q1_2 q1_191 q1_192 q2_99 hd_X8_blankAt rfl dX9_insert_34 rfl (Nat.le_of_ble_eq_true rfl) ⟨(Nat.le_of_ble_eq_true rfl), (Nat.le_of_ble_eq_true rfl)⟩ ⟨(Nat.le_of_ble_eq_true rfl), (Nat.le_of_ble_eq_true rfl)⟩ ?_
        refine j_if_ne C 55 hg dX9_insert_37 (by decide) (fun hg => ?_) (fun hg => ?_)
        · exact L_55 F9 H9 v3 v5 hg
        · refine j_dload_n C dX9_insert_40 1 rfl rfl ?_
          refine j_aload_n C dX9_insert_41 0 rfl rfl ?_
          refine j_iload C dX9_insert_42 2 rfl ?_
          refine j_iconst (v := 1) C dX9_insert_44 (by decide) ?_
          refine j_isub C dX9_insert_45 ?_
          obtain ⟨r4, hr4, hg⟩ := ob hg
          refine j_callV C [.int (v5 - (1 : Int32))] (tX8_at ⟨by omega, ((va_up_ne _ _ (by omega)).trans ((va_up_ne _ _ (by omega)).trans hr)), (lk2_1 (by omega)), lk2_2⟩ (v5 - (1 : Int32)) hr4) (by omega) ((va_up_ne _ _ (by omega)).trans ((va_up_ne _ _ (by omega)).trans hr)) rfl q1_189 q1_2 q1_187 q1_188 q2_100 hd_X8_at rfl dX9_insert_46 rfl (Nat.le_of_ble_eq_true rfl) ⟨(Nat.le_of_ble_eq_true rfl), (Nat.le_of_ble_eq_true rfl)⟩ ⟨(Nat.le_of_ble_eq_true rfl), (Nat.le_of_ble_eq_true rfl)⟩ ?_
          obtain ⟨r5, hr5, hg⟩ := ob hg
          refine j_callS C [.double v3, .double r4] (tX6_isBelow v3 r4 hr5) q2_178 q1_10 q2_177 q2_213 hd_X6_isBelow rfl dX9_insert_49 rfl (Nat.le_of_ble_eq_true rfl) ⟨(Nat.le_of_ble_eq_true rfl), (Nat.le_of_ble_eq_true rfl)⟩ ⟨(Nat.le_of_ble_eq_true rfl), (Nat.le_of_ble_eq_true rfl)⟩ ?_
          refine j_if_eq C 73 hg dX9_insert_52 (by decide) (fun hg => ?_) (fun hg => ?_)
          · exact L_73 F9 H9 v3 v5 hg
          · exact L_55 F9 H9 v3 v5 hg
  rw [gX9_insert] at hg
  refine j_aload_n C dX9_insert_0 0 rfl rfl ?_
  refine j_get (fs := [.ref (z + 6), .ref (z + 9)]) (v := .ref (z + 6)) C (by omega) ((va_up_ne _ _ (by omega)).trans ((va_up_ne _ _ (by omega)).trans h5)) rfl inX9 0 (by decide) q1_48 rfl rfl dX9_insert_1 ?_
  refine j_iload_n C dX9_insert_4 2 rfl rfl ?_
  obtain ⟨r1, hr1, hg⟩ := ob hg
  refine j_callV C [.int x1] (tX8_blankAt ⟨by omega, ((va_up_ne _ _ (by omega)).trans ((va_up_ne _ _ (by omega)).trans h6)), ((va_up_ne _ _ (by omega)).trans ((va_up_ne _ _ (by omega)).trans h7)), ((va_up_ne _ _ (by omega)).trans ((va_up_ne _ _ (by omega)).trans h8))⟩ x1 hr1) (by omega) ((va_up_ne _ _ (by omega)).trans ((va_up_ne _ _ (by omega)).trans h6)) rfl q1_193 q1_2 q1_191 q1_192 q2_99 hd_X8_blankAt rfl dX9_insert_5 rfl (Nat.le_of_ble_eq_true rfl) ⟨(Nat.le_of_ble_eq_true rfl), (Nat.le_of_ble_eq_true rfl)⟩ ⟨(Nat.le_of_ble_eq_true rfl), (Nat.le_of_ble_eq_true rfl)⟩ ?_
  refine j_if_eq C 12 hg dX9_insert_8 (by decide) (fun hg => ?_) (fun hg => ?_)
  · refine j_aload_n C dX9_insert_12 0 rfl rfl ?_
    refine j_get (fs := [.ref (z + 6), .ref (z + 9)]) (v := .ref (z + 6)) C (by omega) ((va_up_ne _ _ (by omega)).trans ((va_up_ne _ _ (by omega)).trans h5)) rfl inX9 0 (by decide) q1_48 rfl rfl dX9_insert_13 ?_
    refine j_iload_n C dX9_insert_16 2 rfl rfl ?_
    obtain ⟨r2, hr2, hg⟩ := ob hg
    refine j_callV C [.int x1] (tX8_at ⟨by omega, ((va_up_ne _ _ (by omega)).trans ((va_up_ne _ _ (by omega)).trans h6)), ((va_up_ne _ _ (by omega)).trans ((va_up_ne _ _ (by omega)).trans h7)), ((va_up_ne _ _ (by omega)).trans ((va_up_ne _ _ (by omega)).trans h8))⟩ x1 hr2) (by omega) ((va_up_ne _ _ (by omega)).trans ((va_up_ne _ _ (by omega)).trans h6)) rfl q1_189 q1_2 q1_187 q1_188 q2_100 hd_X8_at rfl dX9_insert_17 rfl (Nat.le_of_ble_eq_true rfl) ⟨(Nat.le_of_ble_eq_true rfl), (Nat.le_of_ble_eq_true rfl)⟩ ⟨(Nat.le_of_ble_eq_true rfl), (Nat.le_of_ble_eq_true rfl)⟩ ?_
    refine j_dstore_n C [(3, .double r2), (0, .ref (z + 5)), (1, .ref (z + (k + 1))), (2, .int x1)] dX9_insert_20 rfl (by decide) rfl ?_
    refine j_iload_n C dX9_insert_21 3 rfl rfl ?_
    refine j_istore C [(5, .int x1), (3, .double r2), (0, .ref (z + 5)), (1, .ref (z + (k + 1))), (2, .int x1)] dX9_insert_22 (by decide) rfl ?_
    exact j_re [3, 1, 0] rfl (L_24 20 F H r2 x1 hg)
  · exact j_vret C dX9_insert_11 rfl (by rw [← Option.some.inj hg] <;> rfl) rfl

def gX9_countLess_60 (nar : Int32) (ff : Int32) (fc : Int32) (xn : Nat → UInt64) (xb : Nat → Int32) (yn : Nat → UInt64) (yb : Nat → Int32) (F : Nat → UInt64) (H : Nat → Int32) (x1 : Int32) (k17 : (Nat → UInt64) → (Nat → Int32) → Int32 → Int32 → Option ((Nat → UInt64) × (Nat → Int32))) (F9 : Nat → UInt64) (H9 : Nat → Int32) (v3 : Int32) (v4 : Int32) : Option ((Nat → UInt64) × (Nat → Int32)) := k17 F9 H9 v3 (v4 + (1 : Int32))
def gX9_countLess_17 (nar : Int32) (ff : Int32) (fc : Int32) (xn : Nat → UInt64) (xb : Nat → Int32) (yn : Nat → UInt64) (yb : Nat → Int32) (F : Nat → UInt64) (H : Nat → Int32) (x1 : Int32) (k17 : (Nat → UInt64) → (Nat → Int32) → Int32 → Int32 → Option ((Nat → UInt64) × (Nat → Int32))) (F9 : Nat → UInt64) (H9 : Nat → Int32) (v3 : Int32) (v4 : Int32) : Option ((Nat → UInt64) × (Nat → Int32)) := if (16 : Int32) ≤ v4 then ((gX8_put 16 F9 H9 x1 (FP.i2d v3)).bind (fun r2 => some (r2.1, r2.2))) else ((gX8_blankAt 16 xn xb v4).bind (fun r3 => if r3 = 0 then ((gX8_at 16 xn xb v4).bind (fun r4 => (gX8_at 16 xn xb x1).bind (fun r5 => if 0 ≤ (Op.cmpValue (FP.dcmp r4 r5) CmpOp.g) then (gX9_countLess_60 nar ff fc xn xb yn yb F H x1 k17 F9 H9 v3 v4) else (gX9_countLess_60 nar ff fc xn xb yn yb F H x1 k17 F9 H9 (v3 + (1 : Int32)) v4)))) else (gX9_countLess_60 nar ff fc xn xb yn yb F H x1 k17 F9 H9 v3 v4)))
def gX9_countLess (nar : Int32) (ff : Int32) (fc : Int32) (xn : Nat → UInt64) (xb : Nat → Int32) (yn : Nat → UInt64) (yb : Nat → Int32) (F : Nat → UInt64) (H : Nat → Int32) (x1 : Int32) : Option ((Nat → UInt64) × (Nat → Int32)) := (gX8_blankAt 16 xn xb x1).bind (fun r1 => if r1 = 0 then (lq4 (gX9_countLess_17 nar ff fc xn xb yn yb F H x1) 20 F H (0 : Int32) (0 : Int32)) else (some (F, H)))
theorem hd_X9_countLess : yX9_countLess.cls ≠ "java/lang/invoke/MethodHandle" ∧ yX9_countLess.cls ≠ "java/lang/invoke/VarHandle" ∧ (parseMethodDescriptor yX9_countLess.desc).map (fun d => d.parameters.length) = some 2 := by decide +kernel
set_option maxHeartbeats 4000000 in
set_option maxRecDepth 100000 in
theorem tX9_countLess {G : GG} {l : Launch} {z N : Nat} {ct : Nat → va_E} {k : Nat} {nar ff fa fb fc : Int32} {xn : Nat → UInt64} {xb : Nat → Int32} {yn : Nat → UInt64} {yb : Nat → Int32} {F : Nat → UInt64} {H : Nat → Int32} (hK : RK G z ct N k nar ff fa fb fc xn xb yn yb) (x1 : Int32) {r : (Nat → UInt64) × (Nat → Int32)} (hg : gX9_countLess nar ff fc xn xb yn yb F H x1 = some r) : Ct G l yX9_countLess cX9_countLess 5 none ({ frames := 1, cells := 0, slots := 0, locals := 23 } : Room) [.ref (z + 5), .ref (z + (k + 1)), .int x1] z (va_up (va_up ct (k + 2) (cD G 16 F)) (k + 3) (cZ G 16 H)) N none (va_up (va_up ct (k + 2) (cD G 16 r.1)) (k + 3) (cZ G 16 r.2)) N := by
  obtain ⟨⟨hk1, hkN⟩, h5, h6, h7, h8, h9, h10, h11, hC, hr⟩ := id hK
  refine Ct.of (lv := [(0, .ref (z + 5)), (1, .ref (z + (k + 1))), (2, .int x1)]) (by decide +kernel) (Nat.le_of_ble_eq_true rfl) rfl (fun p e s m args below meth c C => ?_)
  have L_17 : ∀ (n17 : Nat) (F9 : Nat → UInt64) (H9 : Nat → Int32) (v3 : Int32) (v4 : Int32), lq4 (gX9_countLess_17 nar ff fc xn xb yn yb F H x1) n17 F9 H9 v3 v4 = some r → J G p l e ({ frames := 1, cells := 0, slots := 0, locals := 23 } : Room) s m args below meth c z 5 (MQ below (Qd G z none (va_up (va_up ct (k + 2) (cD G 16 r.1)) (k + 3) (cZ G 16 r.2)) N) args s 0 0 (zA z)) (va_up (va_up ct (k + 2) (cD G 16 F9)) (k + 3) (cZ G 16 H9)) N 0 0 17 [(0, .ref (z + 5)), (1, .ref (z + (k + 1))), (2, .int x1), (3, .int v3), (4, .int v4)] [] := by
    intro n17
    induction n17 with
    | zero => intro F9 H9 v3 v4 hg; cases hg
    | succ n17 ih17 =>
      have L_60 : ∀ (F9 : Nat → UInt64) (H9 : Nat → Int32) (v3 : Int32) (v4 : Int32), gX9_countLess_60 nar ff fc xn xb yn yb F H x1 (lq4 (gX9_countLess_17 nar ff fc xn xb yn yb F H x1) n17) F9 H9 v3 v4 = some r → J G p l e ({ frames := 1, cells := 0, slots := 0, locals := 23 } : Room) s m args below meth c z 5 (MQ below (Qd G z none (va_up (va_up ct (k + 2) (cD G 16 r.1)) (k + 3) (cZ G 16 r.2)) N) args s 0 0 (zA z)) (va_up (va_up ct (k + 2) (cD G 16 F9)) (k + 3) (cZ G 16 H9)) N 0 0 60 [(0, .ref (z + 5)), (1, .ref (z + (k + 1))), (2, .int x1), (3, .int v3), (4, .int v4)] [] := by
        intro F9 H9 v3 v4 hg
        rw [gX9_countLess_60] at hg
        refine j_iinc C [(4, .int (v4 + (1 : Int32))), (0, .ref (z + 5)), (1, .ref (z + (k + 1))), (2, .int x1), (3, .int v3)] dX9_countLess_60 4 rfl rfl (by decide) rfl ?_
        refine j_goto C 17 dX9_countLess_63 (by decide) ?_
        exact j_re [1, 2, 3, 4, 0] rfl (ih17 F9 H9 v3 (v4 + (1 : Int32)) hg)
      intro F9 H9 v3 v4 hg
      replace hg : gX9_countLess_17 nar ff fc xn xb yn yb F H x1 (lq4 (gX9_countLess_17 nar ff fc xn xb yn yb F H x1) n17) F9 H9 v3 v4 = some r := hg
      rw [gX9_countLess_17] at hg
      refine j_iload C dX9_countLess_17 4 rfl ?_
      refine j_bipush (v := 16) C dX9_countLess_19 (by decide) ?_
      refine j_icmp_ge C 66 hg dX9_countLess_21 (by decide) (fun hg => ?_) (fun hg => ?_)
      · refine j_aload_n C dX9_countLess_66 1 rfl rfl ?_
        refine j_iload_n C dX9_countLess_67 2 rfl rfl ?_
        refine j_iload_n C dX9_countLess_68 3 rfl rfl ?_
        refine j_i2d C dX9_countLess_69 ?_
        obtain ⟨r2, hr2, hg⟩ := ob hg
        refine j_ct (rdS_self (r := k + 1) (lk2_1 (by omega)) lk2_2).symm ?_
        refine j_callV C [.int x1, .double (FP.i2d v3)] (tX8_put (ct := va_up (va_up ct (k + 2) (cD G 16 F9)) (k + 3) (cZ G 16 H9)) (by omega) ((va_up_ne _ _ (by omega)).trans ((va_up_ne _ _ (by omega)).trans hr)) x1 (FP.i2d v3) hr2) (by omega) ((rdS_ne (by omega) (by omega)).trans ((va_up_ne _ _ (by omega)).trans ((va_up_ne _ _ (by omega)).trans hr))) rfl q1_233 q1_2 q1_231 q1_232 q2_131 hd_X8_put rfl dX9_countLess_70 rfl (Nat.le_of_ble_eq_true rfl) ⟨(Nat.le_of_ble_eq_true rfl), (Nat.le_of_ble_eq_true rfl)⟩ ⟨(Nat.le_of_ble_eq_true rfl), (Nat.le_of_ble_eq_true rfl)⟩ (j_ct ((congrArg (fun c9 => va_up c9 (k + 3) (cZ G 16 r2.2)) (un2_1 (by omega))).trans un2_2) ?_)
        exact j_vret C dX9_countLess_73 rfl (by rw [← Option.some.inj hg] <;> rfl) rfl
      · refine j_aload_n C dX9_countLess_24 0 rfl rfl ?_
        refine j_get (fs := [.ref (z + 6), .ref (z + 9)]) (v := .ref (z + 6)) C (by omega) ((va_up_ne _ _ (by omega)).trans ((va_up_ne _ _ (by omega)).trans h5)) rfl inX9 0 (by decide) q1_48 rfl rfl dX9_countLess_25 ?_
        refine j_iload C dX9_countLess_28 4 rfl ?_
        obtain ⟨r3, hr3, hg⟩ := ob hg
        refine j_callV C [.int v4] (tX8_blankAt ⟨by omega, ((va_up_ne _ _ (by omega)).trans ((va_up_ne _ _ (by omega)).trans h6)), ((va_up_ne _ _ (by omega)).trans ((va_up_ne _ _ (by omega)).trans h7)), ((va_up_ne _ _ (by omega)).trans ((va_up_ne _ _ (by omega)).trans h8))⟩ v4 hr3) (by omega) ((va_up_ne _ _ (by omega)).trans ((va_up_ne _ _ (by omega)).trans h6)) rfl q1_193 q1_2 q1_191 q1_192 q2_99 hd_X8_blankAt rfl dX9_countLess_30 rfl (Nat.le_of_ble_eq_true rfl) ⟨(Nat.le_of_ble_eq_true rfl), (Nat.le_of_ble_eq_true rfl)⟩ ⟨(Nat.le_of_ble_eq_true rfl), (Nat.le_of_ble_eq_true rfl)⟩ ?_
        refine j_if_ne C 60 hg dX9_countLess_33 (by decide) (fun hg => ?_) (fun hg => ?_)
        · exact L_60 F9 H9 v3 v4 hg
        · refine j_aload_n C dX9_countLess_36 0 rfl rfl ?_
          refine j_get (fs := [.ref (z + 6), .ref (z + 9)]) (v := .ref (z + 6)) C (by omega) ((va_up_ne _ _ (by omega)).trans ((va_up_ne _ _ (by omega)).trans h5)) rfl inX9 0 (by decide) q1_48 rfl rfl dX9_countLess_37 ?_
          refine j_iload C dX9_countLess_40 4 rfl ?_
          obtain ⟨r4, hr4, hg⟩ := ob hg
          refine j_callV C [.int v4] (tX8_at ⟨by omega, ((va_up_ne _ _ (by omega)).trans ((va_up_ne _ _ (by omega)).trans h6)), ((va_up_ne _ _ (by omega)).trans ((va_up_ne _ _ (by omega)).trans h7)), ((va_up_ne _ _ (by omega)).trans ((va_up_ne _ _ (by omega)).trans h8))⟩ v4 hr4) (by omega) ((va_up_ne _ _ (by omega)).trans ((va_up_ne _ _ (by omega)).trans h6)) rfl q1_189 q1_2 q1_187 q1_188 q2_100 hd_X8_at rfl dX9_countLess_42 rfl (Nat.le_of_ble_eq_true rfl) ⟨(Nat.le_of_ble_eq_true rfl), (Nat.le_of_ble_eq_true rfl)⟩ ⟨(Nat.le_of_ble_eq_true rfl), (Nat.le_of_ble_eq_true rfl)⟩ ?_
          refine j_aload_n C dX9_countLess_45 0 rfl rfl ?_
          refine j_get (fs := [.ref (z + 6), .ref (z + 9)]) (v := .ref (z + 6)) C (by omega) ((va_up_ne _ _ (by omega)).trans ((va_up_ne _ _ (by omega)).trans h5)) rfl inX9 0 (by decide) q1_48 rfl rfl dX9_countLess_46 ?_
          refine j_iload_n C dX9_countLess_49 2 rfl rfl ?_
          obtain ⟨r5, hr5, hg⟩ := ob hg
          refine j_callV C [.int x1] (tX8_at ⟨by omega, ((va_up_ne _ _ (by omega)).trans ((va_up_ne _ _ (by omega)).trans h6)), ((va_up_ne _ _ (by omega)).trans ((va_up_ne _ _ (by omega)).trans h7)), ((va_up_ne _ _ (by omega)).trans ((va_up_ne _ _ (by omega)).trans h8))⟩ x1 hr5) (by omega) ((va_up_ne _ _ (by omega)).trans ((va_up_ne _ _ (by omega)).trans h6)) rfl q1_189 q1_2 q1_187 q1_188 q2_100 hd_X8_at rfl dX9_countLess_50 rfl (Nat.le_of_ble_eq_true rfl) ⟨(Nat.le_of_ble_eq_true rfl), (Nat.le_of_ble_eq_true rfl)⟩ ⟨(Nat.le_of_ble_eq_true rfl), (Nat.le_of_ble_eq_true rfl)⟩ ?_
          refine j_dcmp C dX9_countLess_53 ?_
          refine j_if_ge C 60 hg dX9_countLess_54 (by decide) (fun hg => ?_) (fun hg => ?_)
          · exact L_60 F9 H9 v3 v4 hg
          · refine j_iinc C [(3, .int (v3 + (1 : Int32))), (0, .ref (z + 5)), (1, .ref (z + (k + 1))), (2, .int x1), (4, .int v4)] dX9_countLess_57 3 rfl rfl (by decide) rfl ?_
            exact j_re [1, 2, 3, 0, 4] rfl (L_60 F9 H9 (v3 + (1 : Int32)) v4 hg)
  rw [gX9_countLess] at hg
  refine j_aload_n C dX9_countLess_0 0 rfl rfl ?_
  refine j_get (fs := [.ref (z + 6), .ref (z + 9)]) (v := .ref (z + 6)) C (by omega) ((va_up_ne _ _ (by omega)).trans ((va_up_ne _ _ (by omega)).trans h5)) rfl inX9 0 (by decide) q1_48 rfl rfl dX9_countLess_1 ?_
  refine j_iload_n C dX9_countLess_4 2 rfl rfl ?_
  obtain ⟨r1, hr1, hg⟩ := ob hg
  refine j_callV C [.int x1] (tX8_blankAt ⟨by omega, ((va_up_ne _ _ (by omega)).trans ((va_up_ne _ _ (by omega)).trans h6)), ((va_up_ne _ _ (by omega)).trans ((va_up_ne _ _ (by omega)).trans h7)), ((va_up_ne _ _ (by omega)).trans ((va_up_ne _ _ (by omega)).trans h8))⟩ x1 hr1) (by omega) ((va_up_ne _ _ (by omega)).trans ((va_up_ne _ _ (by omega)).trans h6)) rfl q1_193 q1_2 q1_191 q1_192 q2_99 hd_X8_blankAt rfl dX9_countLess_5 rfl (Nat.le_of_ble_eq_true rfl) ⟨(Nat.le_of_ble_eq_true rfl), (Nat.le_of_ble_eq_true rfl)⟩ ⟨(Nat.le_of_ble_eq_true rfl), (Nat.le_of_ble_eq_true rfl)⟩ ?_
  refine j_if_eq C 12 hg dX9_countLess_8 (by decide) (fun hg => ?_) (fun hg => ?_)
  · refine j_iconst (v := 0) C dX9_countLess_12 (by decide) ?_
    refine j_istore_n C [(3, .int (0 : Int32)), (0, .ref (z + 5)), (1, .ref (z + (k + 1))), (2, .int x1)] dX9_countLess_13 rfl (by decide) rfl ?_
    refine j_iconst (v := 0) C dX9_countLess_14 (by decide) ?_
    refine j_istore C [(4, .int (0 : Int32)), (3, .int (0 : Int32)), (0, .ref (z + 5)), (1, .ref (z + (k + 1))), (2, .int x1)] dX9_countLess_15 (by decide) rfl ?_
    exact j_re [2, 3, 4, 1, 0] rfl (L_17 20 F H (0 : Int32) (0 : Int32) hg)
  · exact j_vret C dX9_countLess_11 rfl (by rw [← Option.some.inj hg] <;> rfl) rfl

def gX9_step (nar : Int32) (ff : Int32) (fc : Int32) (xn : Nat → UInt64) (xb : Nat → Int32) (yn : Nat → UInt64) (yb : Nat → Int32) (F : Nat → UInt64) (H : Nat → Int32) (x1 : Int32) (x2 : Int32) : Option ((Nat → UInt64) × (Nat → Int32)) := if x1 < (1 : Int32) then (some (F, H)) else ((gX8_blankAt 16 xn xb x1).bind (fun r1 => if r1 = 0 then ((gX8_blankAt 16 xn xb (x1 - (1 : Int32))).bind (fun r2 => if r2 = 0 then ((gX8_at 16 xn xb x1).bind (fun r3 => (gX8_at 16 xn xb (x1 - (1 : Int32))).bind (fun r4 => (gX6_isVoid (10 : Int32) r3 r4).bind (fun r5 => if r5 = 0 then ((gX6_sum r3 (FP.dneg r4) x2).bind (fun r6 => (gX8_put 16 F H x1 r6).bind (fun r7 => some (r7.1, r7.2)))) else (some (F, H)))))) else (some (F, H)))) else (some (F, H))))
theorem hd_X9_step : yX9_step.cls ≠ "java/lang/invoke/MethodHandle" ∧ yX9_step.cls ≠ "java/lang/invoke/VarHandle" ∧ (parseMethodDescriptor yX9_step.desc).map (fun d => d.parameters.length) = some 3 := by decide +kernel
set_option maxHeartbeats 4000000 in
set_option maxRecDepth 100000 in
theorem tX9_step {G : GG} {l : Launch} {z N : Nat} {ct : Nat → va_E} {k : Nat} {nar ff fa fb fc : Int32} {xn : Nat → UInt64} {xb : Nat → Int32} {yn : Nat → UInt64} {yb : Nat → Int32} {F : Nat → UInt64} {H : Nat → Int32} (hK : RK G z ct N k nar ff fa fb fc xn xb yn yb) (x1 : Int32) (x2 : Int32) {r : (Nat → UInt64) × (Nat → Int32)} (hg : gX9_step nar ff fc xn xb yn yb F H x1 x2 = some r) : Ct G l yX9_step cX9_step 8 none ({ frames := 2, cells := 0, slots := 0, locals := 45 } : Room) [.ref (z + 5), .ref (z + (k + 1)), .int x1, .int x2] z (va_up (va_up ct (k + 2) (cD G 16 F)) (k + 3) (cZ G 16 H)) N none (va_up (va_up ct (k + 2) (cD G 16 r.1)) (k + 3) (cZ G 16 r.2)) N := by
  obtain ⟨⟨hk1, hkN⟩, h5, h6, h7, h8, h9, h10, h11, hC, hr⟩ := id hK
  refine Ct.of (lv := [(0, .ref (z + 5)), (1, .ref (z + (k + 1))), (2, .int x1), (3, .int x2)]) (by decide +kernel) (Nat.le_of_ble_eq_true rfl) rfl (fun p e s m args below meth c C => ?_)
  rw [gX9_step] at hg
  refine j_iload_n C dX9_step_0 2 rfl rfl ?_
  refine j_iconst (v := 1) C dX9_step_1 (by decide) ?_
  refine j_icmp_lt C 29 hg dX9_step_2 (by decide) (fun hg => ?_) (fun hg => ?_)
  · exact j_vret C dX9_step_29 rfl (by rw [← Option.some.inj hg] <;> rfl) rfl
  · refine j_aload_n C dX9_step_5 0 rfl rfl ?_
    refine j_get (fs := [.ref (z + 6), .ref (z + 9)]) (v := .ref (z + 6)) C (by omega) ((va_up_ne _ _ (by omega)).trans ((va_up_ne _ _ (by omega)).trans h5)) rfl inX9 0 (by decide) q1_48 rfl rfl dX9_step_6 ?_
    refine j_iload_n C dX9_step_9 2 rfl rfl ?_
    obtain ⟨r1, hr1, hg⟩ := ob hg
    refine j_callV C [.int x1] (tX8_blankAt ⟨by omega, ((va_up_ne _ _ (by omega)).trans ((va_up_ne _ _ (by omega)).trans h6)), ((va_up_ne _ _ (by omega)).trans ((va_up_ne _ _ (by omega)).trans h7)), ((va_up_ne _ _ (by omega)).trans ((va_up_ne _ _ (by omega)).trans h8))⟩ x1 hr1) (by omega) ((va_up_ne _ _ (by omega)).trans ((va_up_ne _ _ (by omega)).trans h6)) rfl q1_193 q1_2 q1_191 q1_192 q2_99 hd_X8_blankAt rfl dX9_step_10 rfl (Nat.le_of_ble_eq_true rfl) ⟨(Nat.le_of_ble_eq_true rfl), (Nat.le_of_ble_eq_true rfl)⟩ ⟨(Nat.le_of_ble_eq_true rfl), (Nat.le_of_ble_eq_true rfl)⟩ ?_
    refine j_if_ne C 29 hg dX9_step_13 (by decide) (fun hg => ?_) (fun hg => ?_)
    · exact j_vret C dX9_step_29 rfl (by rw [← Option.some.inj hg] <;> rfl) rfl
    · refine j_aload_n C dX9_step_16 0 rfl rfl ?_
      refine j_get (fs := [.ref (z + 6), .ref (z + 9)]) (v := .ref (z + 6)) C (by omega) ((va_up_ne _ _ (by omega)).trans ((va_up_ne _ _ (by omega)).trans h5)) rfl inX9 0 (by decide) q1_48 rfl rfl dX9_step_17 ?_
      refine j_iload_n C dX9_step_20 2 rfl rfl ?_
      refine j_iconst (v := 1) C dX9_step_21 (by decide) ?_
      refine j_isub C dX9_step_22 ?_
      obtain ⟨r2, hr2, hg⟩ := ob hg
      refine j_callV C [.int (x1 - (1 : Int32))] (tX8_blankAt ⟨by omega, ((va_up_ne _ _ (by omega)).trans ((va_up_ne _ _ (by omega)).trans h6)), ((va_up_ne _ _ (by omega)).trans ((va_up_ne _ _ (by omega)).trans h7)), ((va_up_ne _ _ (by omega)).trans ((va_up_ne _ _ (by omega)).trans h8))⟩ (x1 - (1 : Int32)) hr2) (by omega) ((va_up_ne _ _ (by omega)).trans ((va_up_ne _ _ (by omega)).trans h6)) rfl q1_193 q1_2 q1_191 q1_192 q2_99 hd_X8_blankAt rfl dX9_step_23 rfl (Nat.le_of_ble_eq_true rfl) ⟨(Nat.le_of_ble_eq_true rfl), (Nat.le_of_ble_eq_true rfl)⟩ ⟨(Nat.le_of_ble_eq_true rfl), (Nat.le_of_ble_eq_true rfl)⟩ ?_
      refine j_if_eq C 30 hg dX9_step_26 (by decide) (fun hg => ?_) (fun hg => ?_)
      · refine j_aload_n C dX9_step_30 0 rfl rfl ?_
        refine j_get (fs := [.ref (z + 6), .ref (z + 9)]) (v := .ref (z + 6)) C (by omega) ((va_up_ne _ _ (by omega)).trans ((va_up_ne _ _ (by omega)).trans h5)) rfl inX9 0 (by decide) q1_48 rfl rfl dX9_step_31 ?_
        refine j_iload_n C dX9_step_34 2 rfl rfl ?_
        obtain ⟨r3, hr3, hg⟩ := ob hg
        refine j_callV C [.int x1] (tX8_at ⟨by omega, ((va_up_ne _ _ (by omega)).trans ((va_up_ne _ _ (by omega)).trans h6)), ((va_up_ne _ _ (by omega)).trans ((va_up_ne _ _ (by omega)).trans h7)), ((va_up_ne _ _ (by omega)).trans ((va_up_ne _ _ (by omega)).trans h8))⟩ x1 hr3) (by omega) ((va_up_ne _ _ (by omega)).trans ((va_up_ne _ _ (by omega)).trans h6)) rfl q1_189 q1_2 q1_187 q1_188 q2_100 hd_X8_at rfl dX9_step_35 rfl (Nat.le_of_ble_eq_true rfl) ⟨(Nat.le_of_ble_eq_true rfl), (Nat.le_of_ble_eq_true rfl)⟩ ⟨(Nat.le_of_ble_eq_true rfl), (Nat.le_of_ble_eq_true rfl)⟩ ?_
        refine j_dstore C [(4, .double r3), (0, .ref (z + 5)), (1, .ref (z + (k + 1))), (2, .int x1), (3, .int x2)] dX9_step_38 (by decide) rfl ?_
        refine j_aload_n C dX9_step_40 1 rfl rfl ?_
        refine j_get (fs := [.ref (z + 6), .ref (z + 9)]) (v := .ref (z + 6)) C (by omega) ((va_up_ne _ _ (by omega)).trans ((va_up_ne _ _ (by omega)).trans h5)) rfl inX9 0 (by decide) q1_48 rfl rfl dX9_step_41 ?_
        refine j_iload_n C dX9_step_44 3 rfl rfl ?_
        refine j_iconst (v := 1) C dX9_step_45 (by decide) ?_
        refine j_isub C dX9_step_46 ?_
        obtain ⟨r4, hr4, hg⟩ := ob hg
        refine j_callV C [.int (x1 - (1 : Int32))] (tX8_at ⟨by omega, ((va_up_ne _ _ (by omega)).trans ((va_up_ne _ _ (by omega)).trans h6)), ((va_up_ne _ _ (by omega)).trans ((va_up_ne _ _ (by omega)).trans h7)), ((va_up_ne _ _ (by omega)).trans ((va_up_ne _ _ (by omega)).trans h8))⟩ (x1 - (1 : Int32)) hr4) (by omega) ((va_up_ne _ _ (by omega)).trans ((va_up_ne _ _ (by omega)).trans h6)) rfl q1_189 q1_2 q1_187 q1_188 q2_100 hd_X8_at rfl dX9_step_47 rfl (Nat.le_of_ble_eq_true rfl) ⟨(Nat.le_of_ble_eq_true rfl), (Nat.le_of_ble_eq_true rfl)⟩ ⟨(Nat.le_of_ble_eq_true rfl), (Nat.le_of_ble_eq_true rfl)⟩ ?_
        refine j_dstore C [(6, .double r4), (4, .double r3), (0, .ref (z + 5)), (1, .ref (z + (k + 1))), (2, .int x1), (3, .int x2)] dX9_step_50 (by decide) rfl ?_
        refine j_bipush (v := 10) C dX9_step_52 (by decide) ?_
        refine j_dload C dX9_step_54 1 rfl ?_
        refine j_dload C dX9_step_56 0 rfl ?_
        obtain ⟨r5, hr5, hg⟩ := ob hg
        refine j_callS C [.int (10 : Int32), .double r3, .double r4] (tX6_isVoid (10 : Int32) r3 r4 hr5) q2_138 q1_10 q2_137 q2_136 hd_X6_isVoid rfl dX9_step_58 rfl (Nat.le_of_ble_eq_true rfl) ⟨(Nat.le_of_ble_eq_true rfl), (Nat.le_of_ble_eq_true rfl)⟩ ⟨(Nat.le_of_ble_eq_true rfl), (Nat.le_of_ble_eq_true rfl)⟩ ?_
        refine j_if_ne C 78 hg dX9_step_61 (by decide) (fun hg => ?_) (fun hg => ?_)
        · exact j_vret C dX9_step_78 rfl (by rw [← Option.some.inj hg] <;> rfl) rfl
        · refine j_aload_n C dX9_step_64 3 rfl rfl ?_
          refine j_iload_n C dX9_step_65 4 rfl rfl ?_
          refine j_dload C dX9_step_66 1 rfl ?_
          refine j_dload C dX9_step_68 0 rfl ?_
          refine j_dneg C dX9_step_70 ?_
          refine j_iload_n C dX9_step_71 5 rfl rfl ?_
          obtain ⟨r6, hr6, hg⟩ := ob hg
          refine j_callS C [.double r3, .double (FP.dneg r4), .int x2] (tX6_sum r3 (FP.dneg r4) x2 hr6) q2_148 q1_10 q2_147 q2_222 hd_X6_sum rfl dX9_step_72 rfl (Nat.le_of_ble_eq_true rfl) ⟨(Nat.le_of_ble_eq_true rfl), (Nat.le_of_ble_eq_true rfl)⟩ ⟨(Nat.le_of_ble_eq_true rfl), (Nat.le_of_ble_eq_true rfl)⟩ ?_
          obtain ⟨r7, hr7, hg⟩ := ob hg
          refine j_ct (rdS_self (r := k + 1) (lk2_1 (by omega)) lk2_2).symm ?_
          refine j_callV C [.int x1, .double r6] (tX8_put (ct := va_up (va_up ct (k + 2) (cD G 16 F)) (k + 3) (cZ G 16 H)) (by omega) ((va_up_ne _ _ (by omega)).trans ((va_up_ne _ _ (by omega)).trans hr)) x1 r6 hr7) (by omega) ((rdS_ne (by omega) (by omega)).trans ((va_up_ne _ _ (by omega)).trans ((va_up_ne _ _ (by omega)).trans hr))) rfl q1_233 q1_2 q1_231 q1_232 q2_131 hd_X8_put rfl dX9_step_75 rfl (Nat.le_of_ble_eq_true rfl) ⟨(Nat.le_of_ble_eq_true rfl), (Nat.le_of_ble_eq_true rfl)⟩ ⟨(Nat.le_of_ble_eq_true rfl), (Nat.le_of_ble_eq_true rfl)⟩ (j_ct ((congrArg (fun c9 => va_up c9 (k + 3) (cZ G 16 r7.2)) (un2_1 (by omega))).trans un2_2) ?_)
          exact j_vret C dX9_step_78 rfl (by rw [← Option.some.inj hg] <;> rfl) rfl
      · exact j_vret C dX9_step_29 rfl (by rw [← Option.some.inj hg] <;> rfl) rfl

def gX9_countSo_45 (nar : Int32) (ff : Int32) (fc : Int32) (xn : Nat → UInt64) (xb : Nat → Int32) (yn : Nat → UInt64) (yb : Nat → Int32) (F : Nat → UInt64) (H : Nat → Int32) (x1 : Int32) (x2 : Int32) (F9 : Nat → UInt64) (H9 : Nat → Int32) (s0 : UInt64) (s1 : Int32) : Option ((Nat → UInt64) × (Nat → Int32)) := (gX8_put 16 F9 H9 s1 s0).bind (fun r3 => some (r3.1, r3.2))
def gX9_countSo_15 (nar : Int32) (ff : Int32) (fc : Int32) (xn : Nat → UInt64) (xb : Nat → Int32) (yn : Nat → UInt64) (yb : Nat → Int32) (F : Nat → UInt64) (H : Nat → Int32) (x1 : Int32) (x2 : Int32) (F9 : Nat → UInt64) (H9 : Nat → Int32) (s0 : UInt64) : Option ((Nat → UInt64) × (Nat → Int32)) := (gX5_isSo 16 xn xb 16 yn yb x2 x1 x1).bind (fun r2 => if r2 = 0 then (gX9_countSo_45 nar ff fc xn xb yn yb F H x1 x2 F9 H9 s0 x1) else (if FP.dIsNaN (FP.dadd s0 FP.dconst1) = false then (gX9_countSo_45 nar ff fc xn xb yn yb F H x1 x2 F9 H9 (FP.dadd s0 FP.dconst1) x1) else none))
def gX9_countSo (nar : Int32) (ff : Int32) (fc : Int32) (xn : Nat → UInt64) (xb : Nat → Int32) (yn : Nat → UInt64) (yb : Nat → Int32) (F : Nat → UInt64) (H : Nat → Int32) (x1 : Int32) (x2 : Int32) : Option ((Nat → UInt64) × (Nat → Int32)) := if x1 ≤ 0 then (gX9_countSo_15 nar ff fc xn xb yn yb F H x1 x2 F H FP.dconst0) else ((gX8_at 16 F H (x1 - (1 : Int32))).bind (fun r1 => gX9_countSo_15 nar ff fc xn xb yn yb F H x1 x2 F H r1))
theorem hd_X9_countSo : yX9_countSo.cls ≠ "java/lang/invoke/MethodHandle" ∧ yX9_countSo.cls ≠ "java/lang/invoke/VarHandle" ∧ (parseMethodDescriptor yX9_countSo.desc).map (fun d => d.parameters.length) = some 3 := by decide +kernel
set_option maxHeartbeats 4000000 in
set_option maxRecDepth 100000 in
theorem tX9_countSo {G : GG} {l : Launch} {z N : Nat} {ct : Nat → va_E} {k : Nat} {nar ff fa fb fc : Int32} {xn : Nat → UInt64} {xb : Nat → Int32} {yn : Nat → UInt64} {yb : Nat → Int32} {F : Nat → UInt64} {H : Nat → Int32} (hK : RK G z ct N k nar ff fa fb fc xn xb yn yb) (x1 : Int32) (x2 : Int32) {r : (Nat → UInt64) × (Nat → Int32)} (hg : gX9_countSo nar ff fc xn xb yn yb F H x1 x2 = some r) : Ct G l yX9_countSo cX9_countSo 6 none ({ frames := 2, cells := 0, slots := 0, locals := 52 } : Room) [.ref (z + 5), .ref (z + (k + 1)), .int x1, .int x2] z (va_up (va_up ct (k + 2) (cD G 16 F)) (k + 3) (cZ G 16 H)) N none (va_up (va_up ct (k + 2) (cD G 16 r.1)) (k + 3) (cZ G 16 r.2)) N := by
  obtain ⟨⟨hk1, hkN⟩, h5, h6, h7, h8, h9, h10, h11, hC, hr⟩ := id hK
  refine Ct.of (lv := [(0, .ref (z + 5)), (1, .ref (z + (k + 1))), (2, .int x1), (3, .int x2)]) (by decide +kernel) (Nat.le_of_ble_eq_true rfl) rfl (fun p e s m args below meth c C => ?_)
  have L_45 : ∀ (F9 : Nat → UInt64) (H9 : Nat → Int32) (s0 : UInt64) (s1 : Int32), gX9_countSo_45 nar ff fc xn xb yn yb F H x1 x2 F9 H9 s0 s1 = some r → J G p l e ({ frames := 2, cells := 0, slots := 0, locals := 52 } : Room) s m args below meth c z 6 (MQ below (Qd G z none (va_up (va_up ct (k + 2) (cD G 16 r.1)) (k + 3) (cZ G 16 r.2)) N) args s 0 0 (zA z)) (va_up (va_up ct (k + 2) (cD G 16 F9)) (k + 3) (cZ G 16 H9)) N 0 0 45 [] [.double s0, .int s1, .ref (z + (k + 1))] := by
    intro F9 H9 s0 s1 hg
    rw [gX9_countSo_45] at hg
    obtain ⟨r3, hr3, hg⟩ := ob hg
    refine j_ct (rdS_self (r := k + 1) (lk2_1 (by omega)) lk2_2).symm ?_
    refine j_callV C [.int s1, .double s0] (tX8_put (ct := va_up (va_up ct (k + 2) (cD G 16 F9)) (k + 3) (cZ G 16 H9)) (by omega) ((va_up_ne _ _ (by omega)).trans ((va_up_ne _ _ (by omega)).trans hr)) s1 s0 hr3) (by omega) ((rdS_ne (by omega) (by omega)).trans ((va_up_ne _ _ (by omega)).trans ((va_up_ne _ _ (by omega)).trans hr))) rfl q1_233 q1_2 q1_231 q1_232 q2_131 hd_X8_put rfl dX9_countSo_45 rfl (Nat.le_of_ble_eq_true rfl) ⟨(Nat.le_of_ble_eq_true rfl), (Nat.le_of_ble_eq_true rfl)⟩ ⟨(Nat.le_of_ble_eq_true rfl), (Nat.le_of_ble_eq_true rfl)⟩ (j_ct ((congrArg (fun c9 => va_up c9 (k + 3) (cZ G 16 r3.2)) (un2_1 (by omega))).trans un2_2) ?_)
    exact j_vret C dX9_countSo_48 rfl (by rw [← Option.some.inj hg] <;> rfl) rfl
  have L_15 : ∀ (F9 : Nat → UInt64) (H9 : Nat → Int32) (s0 : UInt64), gX9_countSo_15 nar ff fc xn xb yn yb F H x1 x2 F9 H9 s0 = some r → J G p l e ({ frames := 2, cells := 0, slots := 0, locals := 52 } : Room) s m args below meth c z 6 (MQ below (Qd G z none (va_up (va_up ct (k + 2) (cD G 16 r.1)) (k + 3) (cZ G 16 r.2)) N) args s 0 0 (zA z)) (va_up (va_up ct (k + 2) (cD G 16 F9)) (k + 3) (cZ G 16 H9)) N 0 0 15 [(0, .ref (z + 5)), (1, .ref (z + (k + 1))), (2, .int x1), (3, .int x2)] [.double s0] := by
    intro F9 H9 s0 hg
    rw [gX9_countSo_15] at hg
    refine j_dstore C [(4, .double s0), (0, .ref (z + 5)), (1, .ref (z + (k + 1))), (2, .int x1), (3, .int x2)] dX9_countSo_15 (by decide) rfl ?_
    refine j_aload_n C dX9_countSo_17 2 rfl rfl ?_
    refine j_iload_n C dX9_countSo_18 3 rfl rfl ?_
    refine j_iload_n C dX9_countSo_19 4 rfl rfl ?_
    refine j_aload_n C dX9_countSo_20 1 rfl rfl ?_
    refine j_get (fs := [.ref (z + 6), .ref (z + 9)]) (v := .ref (z + 6)) C (by omega) ((va_up_ne _ _ (by omega)).trans ((va_up_ne _ _ (by omega)).trans h5)) rfl inX9 0 (by decide) q1_48 rfl rfl dX9_countSo_21 ?_
    refine j_iload_n C dX9_countSo_24 3 rfl rfl ?_
    refine j_aload_n C dX9_countSo_25 1 rfl rfl ?_
    refine j_get (fs := [.ref (z + 6), .ref (z + 9)]) (v := .ref (z + 9)) C (by omega) ((va_up_ne _ _ (by omega)).trans ((va_up_ne _ _ (by omega)).trans h5)) rfl inX9 1 (by decide) q1_50 rfl rfl dX9_countSo_26 ?_
    refine j_iload_n C dX9_countSo_29 3 rfl rfl ?_
    obtain ⟨r2, hr2, hg⟩ := ob hg
    refine j_callS C [.int x2, .ref (z + 6), .int x1, .ref (z + 9), .int x1] (tX5_isSo ⟨by omega, ((va_up_ne _ _ (by omega)).trans ((va_up_ne _ _ (by omega)).trans h6)), ((va_up_ne _ _ (by omega)).trans ((va_up_ne _ _ (by omega)).trans h7)), ((va_up_ne _ _ (by omega)).trans ((va_up_ne _ _ (by omega)).trans h8))⟩ ⟨by omega, ((va_up_ne _ _ (by omega)).trans ((va_up_ne _ _ (by omega)).trans h9)), ((va_up_ne _ _ (by omega)).trans ((va_up_ne _ _ (by omega)).trans h10)), ((va_up_ne _ _ (by omega)).trans ((va_up_ne _ _ (by omega)).trans h11))⟩ x2 x1 x1 hr2) q2_192 q1_13 q2_191 q2_190 hd_X5_isSo rfl dX9_countSo_30 rfl (Nat.le_of_ble_eq_true rfl) ⟨(Nat.le_of_ble_eq_true rfl), (Nat.le_of_ble_eq_true rfl)⟩ ⟨(Nat.le_of_ble_eq_true rfl), (Nat.le_of_ble_eq_true rfl)⟩ ?_
    refine j_if_eq C 43 hg dX9_countSo_33 (by decide) (fun hg => ?_) (fun hg => ?_)
    · refine j_dload C dX9_countSo_43 0 rfl ?_
      exact j_re [] rfl (L_45 F9 H9 s0 x1 hg)
    · refine j_dload C dX9_countSo_36 0 rfl ?_
      refine j_dconst1 C dX9_countSo_38 ?_
      refine j_dadd C hg dX9_countSo_39 (fun hg => ?_)
      refine j_goto C 45 dX9_countSo_40 (by decide) ?_
      exact j_re [] rfl (L_45 F9 H9 (FP.dadd s0 FP.dconst1) x1 hg)
  rw [gX9_countSo] at hg
  refine j_iload_n C dX9_countSo_0 2 rfl rfl ?_
  refine j_if_le C 14 hg dX9_countSo_1 (by decide) (fun hg => ?_) (fun hg => ?_)
  · refine j_dconst0 C dX9_countSo_14 ?_
    exact L_15 F H FP.dconst0 hg
  · refine j_aload_n C dX9_countSo_4 1 rfl rfl ?_
    refine j_iload_n C dX9_countSo_5 2 rfl rfl ?_
    refine j_iconst (v := 1) C dX9_countSo_6 (by decide) ?_
    refine j_isub C dX9_countSo_7 ?_
    obtain ⟨r1, hr1, hg⟩ := ob hg
    refine j_callV C [.int (x1 - (1 : Int32))] (tX8_at ⟨by omega, ((va_up_ne _ _ (by omega)).trans ((va_up_ne _ _ (by omega)).trans hr)), (lk2_1 (by omega)), lk2_2⟩ (x1 - (1 : Int32)) hr1) (by omega) ((va_up_ne _ _ (by omega)).trans ((va_up_ne _ _ (by omega)).trans hr)) rfl q1_189 q1_2 q1_187 q1_188 q2_100 hd_X8_at rfl dX9_countSo_8 rfl (Nat.le_of_ble_eq_true rfl) ⟨(Nat.le_of_ble_eq_true rfl), (Nat.le_of_ble_eq_true rfl)⟩ ⟨(Nat.le_of_ble_eq_true rfl), (Nat.le_of_ble_eq_true rfl)⟩ ?_
    refine j_goto C 15 dX9_countSo_11 (by decide) ?_
    exact L_15 F H r1 hg

def gX9_fromRow (nar : Int32) (ff : Int32) (fc : Int32) (xn : Nat → UInt64) (xb : Nat → Int32) (yn : Nat → UInt64) (yb : Nat → Int32) (F : Nat → UInt64) (H : Nat → Int32) (x1 : Int32) : Option ((Nat → UInt64) × (Nat → Int32)) := if ff = (17 : Int32) then ((gX9_keep nar ff fc xn xb yn yb F H x1 fc).bind (fun r12 => some (r12.1, r12.2))) else (if ff = (18 : Int32) then ((gX8_blankAt 16 xn xb x1).bind (fun r9 => if r9 = 0 then ((gX8_putBrought 16 F H 16 xn xb x1 x1 (0 : Int32)).bind (fun r10 => some (r10.1, r10.2))) else ((gX8_putBrought 16 F H 16 yn yb x1 x1 (0 : Int32)).bind (fun r11 => some (r11.1, r11.2))))) else (if ff = (19 : Int32) then ((gX9_middle nar ff fc xn xb yn yb F H x1).bind (fun r8 => some (r8.1, r8.2))) else (if ff = (20 : Int32) then ((gX9_extreme nar ff fc xn xb yn yb F H x1 (1 : Int32)).bind (fun r7 => some (r7.1, r7.2))) else (if ff = (21 : Int32) then ((gX9_extreme nar ff fc xn xb yn yb F H x1 (0 : Int32)).bind (fun r6 => some (r6.1, r6.2))) else (if ff = (22 : Int32) then ((gX9_insert nar ff fc xn xb yn yb F H x1).bind (fun r5 => some (r5.1, r5.2))) else (if ff = (23 : Int32) then ((gX9_countLess nar ff fc xn xb yn yb F H x1).bind (fun r4 => some (r4.1, r4.2))) else (if ff = (24 : Int32) then ((gX9_step nar ff fc xn xb yn yb F H x1 nar).bind (fun r3 => some (r3.1, r3.2))) else ((gX9_countSo nar ff fc xn xb yn yb F H x1 fc).bind (fun r2 => some (r2.1, r2.2))))))))))
theorem hd_X9_fromRow : yX9_fromRow.cls ≠ "java/lang/invoke/MethodHandle" ∧ yX9_fromRow.cls ≠ "java/lang/invoke/VarHandle" ∧ (parseMethodDescriptor yX9_fromRow.desc).map (fun d => d.parameters.length) = some 2 := by decide +kernel
set_option maxHeartbeats 4000000 in
set_option maxRecDepth 100000 in
theorem tX9_fromRow {G : GG} {l : Launch} {z N : Nat} {ct : Nat → va_E} {k : Nat} {nar ff fa fb fc : Int32} {xn : Nat → UInt64} {xb : Nat → Int32} {yn : Nat → UInt64} {yb : Nat → Int32} {F : Nat → UInt64} {H : Nat → Int32} (hK : RK G z ct N k nar ff fa fb fc xn xb yn yb) (x1 : Int32) {r : (Nat → UInt64) × (Nat → Int32)} (hg : gX9_fromRow nar ff fc xn xb yn yb F H x1 = some r) : Ct G l yX9_fromRow cX9_fromRow 4 none ({ frames := 3, cells := 0, slots := 0, locals := 77 } : Room) [.ref (z + 5), .ref (z + k), .int x1] z (va_up (va_up ct (k + 2) (cD G 16 F)) (k + 3) (cZ G 16 H)) N none (va_up (va_up ct (k + 2) (cD G 16 r.1)) (k + 3) (cZ G 16 r.2)) N := by
  obtain ⟨⟨hk1, hkN⟩, h5, h6, h7, h8, h9, h10, h11, hC, hr⟩ := id hK
  refine Ct.of (lv := [(0, .ref (z + 5)), (1, .ref (z + k)), (2, .int x1)]) (by decide +kernel) (Nat.le_of_ble_eq_true rfl) rfl (fun p e s m args below meth c C => ?_)
  rw [gX9_fromRow] at hg
  refine j_aload_n C dX9_fromRow_0 1 rfl rfl ?_
  refine j_get (fs := [.ref (z + (k + 1)), .int nar, .int ff, .int fa, .int fb, .int fc]) (v := .ref (z + (k + 1))) C (by omega) ((va_up_ne _ _ (by omega)).trans ((va_up_ne _ _ (by omega)).trans hC)) rfl inX3 0 (by decide) q1_67 rfl rfl dX9_fromRow_1 ?_
  refine j_astore_n C [(3, .ref (z + (k + 1))), (0, .ref (z + 5)), (1, .ref (z + k)), (2, .int x1)] dX9_fromRow_4 rfl (by decide) rfl ?_
  refine j_aload_n C dX9_fromRow_5 2 rfl rfl ?_
  refine j_get (fs := [.ref (z + (k + 1)), .int nar, .int ff, .int fa, .int fb, .int fc]) (v := .int ff) C (by omega) ((va_up_ne _ _ (by omega)).trans ((va_up_ne _ _ (by omega)).trans hC)) rfl inX3 2 (by decide) q1_73 rfl rfl dX9_fromRow_6 ?_
  by_cases c1_0 : ff = (17 : Int32)
  · replace hg := (if_pos c1_0).symm.trans hg
    refine j_tableIn (off := 47) C 56 dX9_fromRow_9 (by rw [c1_0]; decide) (by rw [c1_0]; decide) (by rw [c1_0]; rfl) (by decide) ?_
    refine j_aload_n C dX9_fromRow_56 1 rfl rfl ?_
    refine j_aload_n C dX9_fromRow_57 0 rfl rfl ?_
    refine j_iload_n C dX9_fromRow_58 3 rfl rfl ?_
    refine j_aload_n C dX9_fromRow_59 2 rfl rfl ?_
    refine j_get (fs := [.ref (z + (k + 1)), .int nar, .int ff, .int fa, .int fb, .int fc]) (v := .int fc) C (by omega) ((va_up_ne _ _ (by omega)).trans ((va_up_ne _ _ (by omega)).trans hC)) rfl inX3 5 (by decide) q1_80 rfl rfl dX9_fromRow_60 ?_
    obtain ⟨r12, hr12, hg⟩ := ob hg
    refine j_callV C [.ref (z + (k + 1)), .int x1, .int fc] (tX9_keep hK x1 fc hr12) (by omega) ((va_up_ne _ _ (by omega)).trans ((va_up_ne _ _ (by omega)).trans h5)) rfl q2_189 q1_3 q2_188 qp_9 q2_186 hd_X9_keep rfl dX9_fromRow_63 rfl (Nat.le_of_ble_eq_true rfl) ⟨(Nat.le_of_ble_eq_true rfl), (Nat.le_of_ble_eq_true rfl)⟩ ⟨(Nat.le_of_ble_eq_true rfl), (Nat.le_of_ble_eq_true rfl)⟩ ?_
    refine j_goto C 171 dX9_fromRow_66 (by decide) ?_
    exact j_vret C dX9_fromRow_171 rfl (by rw [← Option.some.inj hg] <;> rfl) rfl
  · replace hg := (if_neg c1_0).symm.trans hg
    by_cases c1_1 : ff = (18 : Int32)
    · replace hg := (if_pos c1_1).symm.trans hg
      refine j_tableIn (off := 60) C 69 dX9_fromRow_9 (by rw [c1_1]; decide) (by rw [c1_1]; decide) (by rw [c1_1]; rfl) (by decide) ?_
      refine j_aload_n C dX9_fromRow_69 0 rfl rfl ?_
      refine j_iload_n C dX9_fromRow_70 3 rfl rfl ?_
      refine j_aload_n C dX9_fromRow_71 1 rfl rfl ?_
      refine j_get (fs := [.ref (z + 6), .ref (z + 9)]) (v := .ref (z + 6)) C (by omega) ((va_up_ne _ _ (by omega)).trans ((va_up_ne _ _ (by omega)).trans h5)) rfl inX9 0 (by decide) q1_48 rfl rfl dX9_fromRow_72 ?_
      refine j_iload_n C dX9_fromRow_75 3 rfl rfl ?_
      obtain ⟨r9, hr9, hg⟩ := ob hg
      refine j_callV C [.int x1] (tX8_blankAt ⟨by omega, ((va_up_ne _ _ (by omega)).trans ((va_up_ne _ _ (by omega)).trans h6)), ((va_up_ne _ _ (by omega)).trans ((va_up_ne _ _ (by omega)).trans h7)), ((va_up_ne _ _ (by omega)).trans ((va_up_ne _ _ (by omega)).trans h8))⟩ x1 hr9) (by omega) ((va_up_ne _ _ (by omega)).trans ((va_up_ne _ _ (by omega)).trans h6)) rfl q1_193 q1_2 q1_191 q1_192 q2_99 hd_X8_blankAt rfl dX9_fromRow_76 rfl (Nat.le_of_ble_eq_true rfl) ⟨(Nat.le_of_ble_eq_true rfl), (Nat.le_of_ble_eq_true rfl)⟩ ⟨(Nat.le_of_ble_eq_true rfl), (Nat.le_of_ble_eq_true rfl)⟩ ?_
      refine j_if_eq C 89 hg dX9_fromRow_79 (by decide) (fun hg => ?_) (fun hg => ?_)
      · refine j_aload_n C dX9_fromRow_89 1 rfl rfl ?_
        refine j_get (fs := [.ref (z + 6), .ref (z + 9)]) (v := .ref (z + 6)) C (by omega) ((va_up_ne _ _ (by omega)).trans ((va_up_ne _ _ (by omega)).trans h5)) rfl inX9 0 (by decide) q1_48 rfl rfl dX9_fromRow_90 ?_
        refine j_iload_n C dX9_fromRow_93 3 rfl rfl ?_
        refine j_iconst (v := 0) C dX9_fromRow_94 (by decide) ?_
        obtain ⟨r10, hr10, hg⟩ := ob hg
        refine j_ct (rdS_self (r := k + 1) (lk2_1 (by omega)) lk2_2).symm ?_
        refine j_callV C [.int x1, .ref (z + 6), .int x1, .int (0 : Int32)] (tX8_putBrought (ct := va_up (va_up ct (k + 2) (cD G 16 F)) (k + 3) (cZ G 16 H)) (by omega) ((va_up_ne _ _ (by omega)).trans ((va_up_ne _ _ (by omega)).trans hr)) ⟨by omega, ((va_up_ne _ _ (by omega)).trans ((va_up_ne _ _ (by omega)).trans h6)), ((va_up_ne _ _ (by omega)).trans ((va_up_ne _ _ (by omega)).trans h7)), ((va_up_ne _ _ (by omega)).trans ((va_up_ne _ _ (by omega)).trans h8))⟩ (by omega) x1 x1 (0 : Int32) hr10) (by omega) ((rdS_ne (by omega) (by omega)).trans ((va_up_ne _ _ (by omega)).trans ((va_up_ne _ _ (by omega)).trans hr))) rfl q2_56 q1_2 q2_54 q2_55 q2_198 hd_X8_putBrought rfl dX9_fromRow_95 rfl (Nat.le_of_ble_eq_true rfl) ⟨(Nat.le_of_ble_eq_true rfl), (Nat.le_of_ble_eq_true rfl)⟩ ⟨(Nat.le_of_ble_eq_true rfl), (Nat.le_of_ble_eq_true rfl)⟩ (j_ct ((congrArg (fun c9 => va_up c9 (k + 3) (cZ G 16 r10.2)) (un2_1 (by omega))).trans un2_2) ?_)
        refine j_goto C 171 dX9_fromRow_98 (by decide) ?_
        exact j_vret C dX9_fromRow_171 rfl (by rw [← Option.some.inj hg] <;> rfl) rfl
      · refine j_aload_n C dX9_fromRow_82 1 rfl rfl ?_
        refine j_get (fs := [.ref (z + 6), .ref (z + 9)]) (v := .ref (z + 9)) C (by omega) ((va_up_ne _ _ (by omega)).trans ((va_up_ne _ _ (by omega)).trans h5)) rfl inX9 1 (by decide) q1_50 rfl rfl dX9_fromRow_83 ?_
        refine j_goto C 93 dX9_fromRow_86 (by decide) ?_
        refine j_iload_n C dX9_fromRow_93 3 rfl rfl ?_
        refine j_iconst (v := 0) C dX9_fromRow_94 (by decide) ?_
        obtain ⟨r11, hr11, hg⟩ := ob hg
        refine j_ct (rdS_self (r := k + 1) (lk2_1 (by omega)) lk2_2).symm ?_
        refine j_callV C [.int x1, .ref (z + 9), .int x1, .int (0 : Int32)] (tX8_putBrought (ct := va_up (va_up ct (k + 2) (cD G 16 F)) (k + 3) (cZ G 16 H)) (by omega) ((va_up_ne _ _ (by omega)).trans ((va_up_ne _ _ (by omega)).trans hr)) ⟨by omega, ((va_up_ne _ _ (by omega)).trans ((va_up_ne _ _ (by omega)).trans h9)), ((va_up_ne _ _ (by omega)).trans ((va_up_ne _ _ (by omega)).trans h10)), ((va_up_ne _ _ (by omega)).trans ((va_up_ne _ _ (by omega)).trans h11))⟩ (by omega) x1 x1 (0 : Int32) hr11) (by omega) ((rdS_ne (by omega) (by omega)).trans ((va_up_ne _ _ (by omega)).trans ((va_up_ne _ _ (by omega)).trans hr))) rfl q2_56 q1_2 q2_54 q2_55 q2_198 hd_X8_putBrought rfl dX9_fromRow_95 rfl (Nat.le_of_ble_eq_true rfl) ⟨(Nat.le_of_ble_eq_true rfl), (Nat.le_of_ble_eq_true rfl)⟩ ⟨(Nat.le_of_ble_eq_true rfl), (Nat.le_of_ble_eq_true rfl)⟩ (j_ct ((congrArg (fun c9 => va_up c9 (k + 3) (cZ G 16 r11.2)) (un2_1 (by omega))).trans un2_2) ?_)
        refine j_goto C 171 dX9_fromRow_98 (by decide) ?_
        exact j_vret C dX9_fromRow_171 rfl (by rw [← Option.some.inj hg] <;> rfl) rfl
    · replace hg := (if_neg c1_1).symm.trans hg
      by_cases c1_2 : ff = (19 : Int32)
      · replace hg := (if_pos c1_2).symm.trans hg
        refine j_tableIn (off := 92) C 101 dX9_fromRow_9 (by rw [c1_2]; decide) (by rw [c1_2]; decide) (by rw [c1_2]; rfl) (by decide) ?_
        refine j_aload_n C dX9_fromRow_101 1 rfl rfl ?_
        refine j_aload_n C dX9_fromRow_102 0 rfl rfl ?_
        refine j_iload_n C dX9_fromRow_103 3 rfl rfl ?_
        obtain ⟨r8, hr8, hg⟩ := ob hg
        refine j_callV C [.ref (z + (k + 1)), .int x1] (tX9_middle hK x1 hr8) (by omega) ((va_up_ne _ _ (by omega)).trans ((va_up_ne _ _ (by omega)).trans h5)) rfl q2_202 q1_3 q2_201 qp_10 q2_199 hd_X9_middle rfl dX9_fromRow_104 rfl (Nat.le_of_ble_eq_true rfl) ⟨(Nat.le_of_ble_eq_true rfl), (Nat.le_of_ble_eq_true rfl)⟩ ⟨(Nat.le_of_ble_eq_true rfl), (Nat.le_of_ble_eq_true rfl)⟩ ?_
        refine j_goto C 171 dX9_fromRow_107 (by decide) ?_
        exact j_vret C dX9_fromRow_171 rfl (by rw [← Option.some.inj hg] <;> rfl) rfl
      · replace hg := (if_neg c1_2).symm.trans hg
        by_cases c1_3 : ff = (20 : Int32)
        · replace hg := (if_pos c1_3).symm.trans hg
          refine j_tableIn (off := 101) C 110 dX9_fromRow_9 (by rw [c1_3]; decide) (by rw [c1_3]; decide) (by rw [c1_3]; rfl) (by decide) ?_
          refine j_aload_n C dX9_fromRow_110 1 rfl rfl ?_
          refine j_aload_n C dX9_fromRow_111 0 rfl rfl ?_
          refine j_iload_n C dX9_fromRow_112 3 rfl rfl ?_
          refine j_iconst (v := 1) C dX9_fromRow_113 (by decide) ?_
          obtain ⟨r7, hr7, hg⟩ := ob hg
          refine j_callV C [.ref (z + (k + 1)), .int x1, .int (1 : Int32)] (tX9_extreme hK x1 (1 : Int32) hr7) (by omega) ((va_up_ne _ _ (by omega)).trans ((va_up_ne _ _ (by omega)).trans h5)) rfl q2_208 q1_3 q2_207 qp_11 q2_205 hd_X9_extreme rfl dX9_fromRow_114 rfl (Nat.le_of_ble_eq_true rfl) ⟨(Nat.le_of_ble_eq_true rfl), (Nat.le_of_ble_eq_true rfl)⟩ ⟨(Nat.le_of_ble_eq_true rfl), (Nat.le_of_ble_eq_true rfl)⟩ ?_
          refine j_goto C 171 dX9_fromRow_117 (by decide) ?_
          exact j_vret C dX9_fromRow_171 rfl (by rw [← Option.some.inj hg] <;> rfl) rfl
        · replace hg := (if_neg c1_3).symm.trans hg
          by_cases c1_4 : ff = (21 : Int32)
          · replace hg := (if_pos c1_4).symm.trans hg
            refine j_tableIn (off := 111) C 120 dX9_fromRow_9 (by rw [c1_4]; decide) (by rw [c1_4]; decide) (by rw [c1_4]; rfl) (by decide) ?_
            refine j_aload_n C dX9_fromRow_120 1 rfl rfl ?_
            refine j_aload_n C dX9_fromRow_121 0 rfl rfl ?_
            refine j_iload_n C dX9_fromRow_122 3 rfl rfl ?_
            refine j_iconst (v := 0) C dX9_fromRow_123 (by decide) ?_
            obtain ⟨r6, hr6, hg⟩ := ob hg
            refine j_callV C [.ref (z + (k + 1)), .int x1, .int (0 : Int32)] (tX9_extreme hK x1 (0 : Int32) hr6) (by omega) ((va_up_ne _ _ (by omega)).trans ((va_up_ne _ _ (by omega)).trans h5)) rfl q2_208 q1_3 q2_207 qp_11 q2_205 hd_X9_extreme rfl dX9_fromRow_124 rfl (Nat.le_of_ble_eq_true rfl) ⟨(Nat.le_of_ble_eq_true rfl), (Nat.le_of_ble_eq_true rfl)⟩ ⟨(Nat.le_of_ble_eq_true rfl), (Nat.le_of_ble_eq_true rfl)⟩ ?_
            refine j_goto C 171 dX9_fromRow_127 (by decide) ?_
            exact j_vret C dX9_fromRow_171 rfl (by rw [← Option.some.inj hg] <;> rfl) rfl
          · replace hg := (if_neg c1_4).symm.trans hg
            by_cases c1_5 : ff = (22 : Int32)
            · replace hg := (if_pos c1_5).symm.trans hg
              refine j_tableIn (off := 121) C 130 dX9_fromRow_9 (by rw [c1_5]; decide) (by rw [c1_5]; decide) (by rw [c1_5]; rfl) (by decide) ?_
              refine j_aload_n C dX9_fromRow_130 1 rfl rfl ?_
              refine j_aload_n C dX9_fromRow_131 0 rfl rfl ?_
              refine j_iload_n C dX9_fromRow_132 3 rfl rfl ?_
              obtain ⟨r5, hr5, hg⟩ := ob hg
              refine j_callV C [.ref (z + (k + 1)), .int x1] (tX9_insert hK x1 hr5) (by omega) ((va_up_ne _ _ (by omega)).trans ((va_up_ne _ _ (by omega)).trans h5)) rfl q2_212 q1_3 q2_211 qp_12 q2_209 hd_X9_insert rfl dX9_fromRow_133 rfl (Nat.le_of_ble_eq_true rfl) ⟨(Nat.le_of_ble_eq_true rfl), (Nat.le_of_ble_eq_true rfl)⟩ ⟨(Nat.le_of_ble_eq_true rfl), (Nat.le_of_ble_eq_true rfl)⟩ ?_
              refine j_goto C 171 dX9_fromRow_136 (by decide) ?_
              exact j_vret C dX9_fromRow_171 rfl (by rw [← Option.some.inj hg] <;> rfl) rfl
            · replace hg := (if_neg c1_5).symm.trans hg
              by_cases c1_6 : ff = (23 : Int32)
              · replace hg := (if_pos c1_6).symm.trans hg
                refine j_tableIn (off := 130) C 139 dX9_fromRow_9 (by rw [c1_6]; decide) (by rw [c1_6]; decide) (by rw [c1_6]; rfl) (by decide) ?_
                refine j_aload_n C dX9_fromRow_139 1 rfl rfl ?_
                refine j_aload_n C dX9_fromRow_140 0 rfl rfl ?_
                refine j_iload_n C dX9_fromRow_141 3 rfl rfl ?_
                obtain ⟨r4, hr4, hg⟩ := ob hg
                refine j_callV C [.ref (z + (k + 1)), .int x1] (tX9_countLess hK x1 hr4) (by omega) ((va_up_ne _ _ (by omega)).trans ((va_up_ne _ _ (by omega)).trans h5)) rfl q2_217 q1_3 q2_216 qp_13 q2_214 hd_X9_countLess rfl dX9_fromRow_142 rfl (Nat.le_of_ble_eq_true rfl) ⟨(Nat.le_of_ble_eq_true rfl), (Nat.le_of_ble_eq_true rfl)⟩ ⟨(Nat.le_of_ble_eq_true rfl), (Nat.le_of_ble_eq_true rfl)⟩ ?_
                refine j_goto C 171 dX9_fromRow_145 (by decide) ?_
                exact j_vret C dX9_fromRow_171 rfl (by rw [← Option.some.inj hg] <;> rfl) rfl
              · replace hg := (if_neg c1_6).symm.trans hg
                by_cases c1_7 : ff = (24 : Int32)
                · replace hg := (if_pos c1_7).symm.trans hg
                  refine j_tableIn (off := 139) C 148 dX9_fromRow_9 (by rw [c1_7]; decide) (by rw [c1_7]; decide) (by rw [c1_7]; rfl) (by decide) ?_
                  refine j_aload_n C dX9_fromRow_148 1 rfl rfl ?_
                  refine j_aload_n C dX9_fromRow_149 0 rfl rfl ?_
                  refine j_iload_n C dX9_fromRow_150 3 rfl rfl ?_
                  refine j_aload_n C dX9_fromRow_151 2 rfl rfl ?_
                  refine j_get (fs := [.ref (z + (k + 1)), .int nar, .int ff, .int fa, .int fb, .int fc]) (v := .int nar) C (by omega) ((va_up_ne _ _ (by omega)).trans ((va_up_ne _ _ (by omega)).trans hC)) rfl inX3 1 (by decide) q1_71 rfl rfl dX9_fromRow_152 ?_
                  obtain ⟨r3, hr3, hg⟩ := ob hg
                  refine j_callV C [.ref (z + (k + 1)), .int x1, .int nar] (tX9_step hK x1 nar hr3) (by omega) ((va_up_ne _ _ (by omega)).trans ((va_up_ne _ _ (by omega)).trans h5)) rfl q2_221 q1_3 q2_220 qp_14 q2_218 hd_X9_step rfl dX9_fromRow_155 rfl (Nat.le_of_ble_eq_true rfl) ⟨(Nat.le_of_ble_eq_true rfl), (Nat.le_of_ble_eq_true rfl)⟩ ⟨(Nat.le_of_ble_eq_true rfl), (Nat.le_of_ble_eq_true rfl)⟩ ?_
                  refine j_goto C 171 dX9_fromRow_158 (by decide) ?_
                  exact j_vret C dX9_fromRow_171 rfl (by rw [← Option.some.inj hg] <;> rfl) rfl
                · replace hg := (if_neg c1_7).symm.trans hg
                  have ho : ff.toInt < 17 ∨ 24 < ff.toInt := by
                    by_cases ho : ff.toInt < 17 ∨ 24 < ff.toInt
                    · exact ho
                    · obtain ⟨k, hk, hx⟩ := sw_in ho
                      match k, hk, hx with
                      | 0, _, hx => exact absurd (Int32.toInt_inj.mp (hx.trans (by decide))) c1_0
                      | 1, _, hx => exact absurd (Int32.toInt_inj.mp (hx.trans (by decide))) c1_1
                      | 2, _, hx => exact absurd (Int32.toInt_inj.mp (hx.trans (by decide))) c1_2
                      | 3, _, hx => exact absurd (Int32.toInt_inj.mp (hx.trans (by decide))) c1_3
                      | 4, _, hx => exact absurd (Int32.toInt_inj.mp (hx.trans (by decide))) c1_4
                      | 5, _, hx => exact absurd (Int32.toInt_inj.mp (hx.trans (by decide))) c1_5
                      | 6, _, hx => exact absurd (Int32.toInt_inj.mp (hx.trans (by decide))) c1_6
                      | 7, _, hx => exact absurd (Int32.toInt_inj.mp (hx.trans (by decide))) c1_7
                      | k + 8, hk, _ => exact absurd hk (Nat.not_lt.mpr (Nat.le_add_left _ _))
                  refine j_tableOut C 161 dX9_fromRow_9 ho (by decide) ?_
                  refine j_aload_n C dX9_fromRow_161 1 rfl rfl ?_
                  refine j_aload_n C dX9_fromRow_162 0 rfl rfl ?_
                  refine j_iload_n C dX9_fromRow_163 3 rfl rfl ?_
                  refine j_aload_n C dX9_fromRow_164 2 rfl rfl ?_
                  refine j_get (fs := [.ref (z + (k + 1)), .int nar, .int ff, .int fa, .int fb, .int fc]) (v := .int fc) C (by omega) ((va_up_ne _ _ (by omega)).trans ((va_up_ne _ _ (by omega)).trans hC)) rfl inX3 5 (by decide) q1_80 rfl rfl dX9_fromRow_165 ?_
                  obtain ⟨r2, hr2, hg⟩ := ob hg
                  refine j_callV C [.ref (z + (k + 1)), .int x1, .int fc] (tX9_countSo hK x1 fc hr2) (by omega) ((va_up_ne _ _ (by omega)).trans ((va_up_ne _ _ (by omega)).trans h5)) rfl q2_226 q1_3 q2_225 qp_15 q2_223 hd_X9_countSo rfl dX9_fromRow_168 rfl (Nat.le_of_ble_eq_true rfl) ⟨(Nat.le_of_ble_eq_true rfl), (Nat.le_of_ble_eq_true rfl)⟩ ⟨(Nat.le_of_ble_eq_true rfl), (Nat.le_of_ble_eq_true rfl)⟩ ?_
                  exact j_vret C dX9_fromRow_171 rfl (by rw [← Option.some.inj hg] <;> rfl) rfl

def gX9_reckon_67 (nar : Int32) (ff : Int32) (fc : Int32) (xn : Nat → UInt64) (xb : Nat → Int32) (yn : Nat → UInt64) (yb : Nat → Int32) (F : Nat → UInt64) (H : Nat → Int32) (k2 : (Nat → UInt64) → (Nat → Int32) → Int32 → Option ((Nat → UInt64) × (Nat → Int32))) (F9 : Nat → UInt64) (H9 : Nat → Int32) (v2 : Int32) : Option ((Nat → UInt64) × (Nat → Int32)) := k2 F9 H9 (v2 + (1 : Int32))
def gX9_reckon_52 (nar : Int32) (ff : Int32) (fc : Int32) (xn : Nat → UInt64) (xb : Nat → Int32) (yn : Nat → UInt64) (yb : Nat → Int32) (F : Nat → UInt64) (H : Nat → Int32) (k2 : (Nat → UInt64) → (Nat → Int32) → Int32 → Option ((Nat → UInt64) × (Nat → Int32))) (F9 : Nat → UInt64) (H9 : Nat → Int32) (v2 : Int32) : Option ((Nat → UInt64) × (Nat → Int32)) := (gX9_fromBoth nar ff fc xn xb yn yb F9 H9 v2).bind (fun r4 => gX9_reckon_67 nar ff fc xn xb yn yb F H k2 r4.1 r4.2 v2)
def gX9_reckon_2 (nar : Int32) (ff : Int32) (fc : Int32) (xn : Nat → UInt64) (xb : Nat → Int32) (yn : Nat → UInt64) (yb : Nat → Int32) (F : Nat → UInt64) (H : Nat → Int32) (k2 : (Nat → UInt64) → (Nat → Int32) → Int32 → Option ((Nat → UInt64) × (Nat → Int32))) (F9 : Nat → UInt64) (H9 : Nat → Int32) (v2 : Int32) : Option ((Nat → UInt64) × (Nat → Int32)) := if (16 : Int32) ≤ v2 then (some (F9, H9)) else ((gX8_clear 16 F9 H9 v2).bind (fun r1 => if (8 : Int32) < ff then (if ff ≤ (16 : Int32) then (gX9_reckon_52 nar ff fc xn xb yn yb F H k2 r1.1 r1.2 v2) else (if ff = (26 : Int32) then (gX9_reckon_52 nar ff fc xn xb yn yb F H k2 r1.1 r1.2 v2) else ((gX9_fromRow nar ff fc xn xb yn yb r1.1 r1.2 v2).bind (fun r2 => gX9_reckon_67 nar ff fc xn xb yn yb F H k2 r2.1 r2.2 v2)))) else ((gX9_fromX nar ff fc xn xb yn yb r1.1 r1.2 v2).bind (fun r3 => gX9_reckon_67 nar ff fc xn xb yn yb F H k2 r3.1 r3.2 v2))))
def gX9_reckon (nar : Int32) (ff : Int32) (fc : Int32) (xn : Nat → UInt64) (xb : Nat → Int32) (yn : Nat → UInt64) (yb : Nat → Int32) (F : Nat → UInt64) (H : Nat → Int32) : Option ((Nat → UInt64) × (Nat → Int32)) := lq3 (gX9_reckon_2 nar ff fc xn xb yn yb F H) 20 F H (0 : Int32)
theorem hd_X9_reckon : yX9_reckon.cls ≠ "java/lang/invoke/MethodHandle" ∧ yX9_reckon.cls ≠ "java/lang/invoke/VarHandle" ∧ (parseMethodDescriptor yX9_reckon.desc).map (fun d => d.parameters.length) = some 1 := by decide +kernel
set_option maxHeartbeats 4000000 in
set_option maxRecDepth 100000 in
theorem tX9_reckon {G : GG} {l : Launch} {z N : Nat} {ct : Nat → va_E} {k : Nat} {nar ff fa fb fc : Int32} {xn : Nat → UInt64} {xb : Nat → Int32} {yn : Nat → UInt64} {yb : Nat → Int32} {F : Nat → UInt64} {H : Nat → Int32} (hK : RK G z ct N k nar ff fa fb fc xn xb yn yb) {r : (Nat → UInt64) × (Nat → Int32)} (hg : gX9_reckon nar ff fc xn xb yn yb F H = some r) : Ct G l yX9_reckon cX9_reckon 3 none ({ frames := 4, cells := 0, slots := 0, locals := 122 } : Room) [.ref (z + 5), .ref (z + k)] z (va_up (va_up ct (k + 2) (cD G 16 F)) (k + 3) (cZ G 16 H)) N none (va_up (va_up ct (k + 2) (cD G 16 r.1)) (k + 3) (cZ G 16 r.2)) N := by
  obtain ⟨⟨hk1, hkN⟩, h5, h6, h7, h8, h9, h10, h11, hC, hr⟩ := id hK
  refine Ct.of (lv := [(0, .ref (z + 5)), (1, .ref (z + k))]) (by decide +kernel) (Nat.le_of_ble_eq_true rfl) rfl (fun p e s m args below meth c C => ?_)
  have L_2 : ∀ (n2 : Nat) (F9 : Nat → UInt64) (H9 : Nat → Int32) (v2 : Int32), lq3 (gX9_reckon_2 nar ff fc xn xb yn yb F H) n2 F9 H9 v2 = some r → J G p l e ({ frames := 4, cells := 0, slots := 0, locals := 122 } : Room) s m args below meth c z 3 (MQ below (Qd G z none (va_up (va_up ct (k + 2) (cD G 16 r.1)) (k + 3) (cZ G 16 r.2)) N) args s 0 0 (zA z)) (va_up (va_up ct (k + 2) (cD G 16 F9)) (k + 3) (cZ G 16 H9)) N 0 0 2 [(0, .ref (z + 5)), (1, .ref (z + k)), (2, .int v2)] [] := by
    intro n2
    induction n2 with
    | zero => intro F9 H9 v2 hg; cases hg
    | succ n2 ih2 =>
      have L_67 : ∀ (F9 : Nat → UInt64) (H9 : Nat → Int32) (v2 : Int32), gX9_reckon_67 nar ff fc xn xb yn yb F H (lq3 (gX9_reckon_2 nar ff fc xn xb yn yb F H) n2) F9 H9 v2 = some r → J G p l e ({ frames := 4, cells := 0, slots := 0, locals := 122 } : Room) s m args below meth c z 3 (MQ below (Qd G z none (va_up (va_up ct (k + 2) (cD G 16 r.1)) (k + 3) (cZ G 16 r.2)) N) args s 0 0 (zA z)) (va_up (va_up ct (k + 2) (cD G 16 F9)) (k + 3) (cZ G 16 H9)) N 0 0 67 [(0, .ref (z + 5)), (1, .ref (z + k)), (2, .int v2)] [] := by
        intro F9 H9 v2 hg
        rw [gX9_reckon_67] at hg
        refine j_iinc C [(2, .int (v2 + (1 : Int32))), (0, .ref (z + 5)), (1, .ref (z + k))] dX9_reckon_67 2 rfl rfl (by decide) rfl ?_
        refine j_goto C 2 dX9_reckon_70 (by decide) ?_
        exact j_re [1, 2, 0] rfl (ih2 F9 H9 (v2 + (1 : Int32)) hg)
      have L_52 : ∀ (F9 : Nat → UInt64) (H9 : Nat → Int32) (v2 : Int32), gX9_reckon_52 nar ff fc xn xb yn yb F H (lq3 (gX9_reckon_2 nar ff fc xn xb yn yb F H) n2) F9 H9 v2 = some r → J G p l e ({ frames := 4, cells := 0, slots := 0, locals := 122 } : Room) s m args below meth c z 3 (MQ below (Qd G z none (va_up (va_up ct (k + 2) (cD G 16 r.1)) (k + 3) (cZ G 16 r.2)) N) args s 0 0 (zA z)) (va_up (va_up ct (k + 2) (cD G 16 F9)) (k + 3) (cZ G 16 H9)) N 0 0 52 [(0, .ref (z + 5)), (1, .ref (z + k)), (2, .int v2)] [] := by
        intro F9 H9 v2 hg
        rw [gX9_reckon_52] at hg
        refine j_aload_n C dX9_reckon_52 0 rfl rfl ?_
        refine j_aload_n C dX9_reckon_53 1 rfl rfl ?_
        refine j_iload_n C dX9_reckon_54 2 rfl rfl ?_
        obtain ⟨r4, hr4, hg⟩ := ob hg
        refine j_callV C [.ref (z + k), .int v2] (tX9_fromBoth hK v2 hr4) (by omega) ((va_up_ne _ _ (by omega)).trans ((va_up_ne _ _ (by omega)).trans h5)) rfl q2_135 q1_3 q2_134 qp_7 q2_132 hd_X9_fromBoth rfl dX9_reckon_55 rfl (Nat.le_of_ble_eq_true rfl) ⟨(Nat.le_of_ble_eq_true rfl), (Nat.le_of_ble_eq_true rfl)⟩ ⟨(Nat.le_of_ble_eq_true rfl), (Nat.le_of_ble_eq_true rfl)⟩ ?_
        refine j_goto C 67 dX9_reckon_58 (by decide) ?_
        exact L_67 r4.1 r4.2 v2 hg
      intro F9 H9 v2 hg
      replace hg : gX9_reckon_2 nar ff fc xn xb yn yb F H (lq3 (gX9_reckon_2 nar ff fc xn xb yn yb F H) n2) F9 H9 v2 = some r := hg
      rw [gX9_reckon_2] at hg
      refine j_iload_n C dX9_reckon_2 2 rfl rfl ?_
      refine j_bipush (v := 16) C dX9_reckon_3 (by decide) ?_
      refine j_icmp_ge C 73 hg dX9_reckon_5 (by decide) (fun hg => ?_) (fun hg => ?_)
      · exact j_vret C dX9_reckon_73 rfl (by rw [← Option.some.inj hg] <;> rfl) rfl
      · refine j_aload_n C dX9_reckon_8 1 rfl rfl ?_
        refine j_get (fs := [.ref (z + (k + 1)), .int nar, .int ff, .int fa, .int fb, .int fc]) (v := .ref (z + (k + 1))) C (by omega) ((va_up_ne _ _ (by omega)).trans ((va_up_ne _ _ (by omega)).trans hC)) rfl inX3 0 (by decide) q1_67 rfl rfl dX9_reckon_9 ?_
        refine j_iload_n C dX9_reckon_12 2 rfl rfl ?_
        obtain ⟨r1, hr1, hg⟩ := ob hg
        refine j_ct (rdS_self (r := k + 1) (lk2_1 (by omega)) lk2_2).symm ?_
        refine j_callV C [.int v2] (tX8_clear (ct := va_up (va_up ct (k + 2) (cD G 16 F9)) (k + 3) (cZ G 16 H9)) (by omega) ((va_up_ne _ _ (by omega)).trans ((va_up_ne _ _ (by omega)).trans hr)) v2 hr1) (by omega) ((rdS_ne (by omega) (by omega)).trans ((va_up_ne _ _ (by omega)).trans ((va_up_ne _ _ (by omega)).trans hr))) rfl q2_8 q1_2 q2_6 q2_7 q2_94 hd_X8_clear rfl dX9_reckon_13 rfl (Nat.le_of_ble_eq_true rfl) ⟨(Nat.le_of_ble_eq_true rfl), (Nat.le_of_ble_eq_true rfl)⟩ ⟨(Nat.le_of_ble_eq_true rfl), (Nat.le_of_ble_eq_true rfl)⟩ (j_ct ((congrArg (fun c9 => va_up c9 (k + 3) (cZ G 16 r1.2)) (un2_1 (by omega))).trans un2_2) ?_)
        refine j_aload_n C dX9_reckon_16 1 rfl rfl ?_
        refine j_get (fs := [.ref (z + (k + 1)), .int nar, .int ff, .int fa, .int fb, .int fc]) (v := .int ff) C (by omega) ((va_up_ne _ _ (by omega)).trans ((va_up_ne _ _ (by omega)).trans hC)) rfl inX3 2 (by decide) q1_73 rfl rfl dX9_reckon_17 ?_
        refine j_bipush (v := 8) C dX9_reckon_20 (by decide) ?_
        refine j_icmp_gt C 34 hg dX9_reckon_22 (by decide) (fun hg => ?_) (fun hg => ?_)
        · refine j_aload_n C dX9_reckon_34 1 rfl rfl ?_
          refine j_get (fs := [.ref (z + (k + 1)), .int nar, .int ff, .int fa, .int fb, .int fc]) (v := .int ff) C (by omega) ((va_up_ne _ _ (by omega)).trans ((va_up_ne _ _ (by omega)).trans hC)) rfl inX3 2 (by decide) q1_73 rfl rfl dX9_reckon_35 ?_
          refine j_bipush (v := 16) C dX9_reckon_38 (by decide) ?_
          refine j_icmp_le C 52 hg dX9_reckon_40 (by decide) (fun hg => ?_) (fun hg => ?_)
          · exact L_52 r1.1 r1.2 v2 hg
          · refine j_aload_n C dX9_reckon_43 1 rfl rfl ?_
            refine j_get (fs := [.ref (z + (k + 1)), .int nar, .int ff, .int fa, .int fb, .int fc]) (v := .int ff) C (by omega) ((va_up_ne _ _ (by omega)).trans ((va_up_ne _ _ (by omega)).trans hC)) rfl inX3 2 (by decide) q1_73 rfl rfl dX9_reckon_44 ?_
            refine j_bipush (v := 26) C dX9_reckon_47 (by decide) ?_
            refine j_icmp_ne C 61 hg dX9_reckon_49 (by decide) (fun hg => ?_) (fun hg => ?_)
            · refine j_aload_n C dX9_reckon_61 0 rfl rfl ?_
              refine j_aload_n C dX9_reckon_62 1 rfl rfl ?_
              refine j_iload_n C dX9_reckon_63 2 rfl rfl ?_
              obtain ⟨r2, hr2, hg⟩ := ob hg
              refine j_callV C [.ref (z + k), .int v2] (tX9_fromRow hK v2 hr2) (by omega) ((va_up_ne _ _ (by omega)).trans ((va_up_ne _ _ (by omega)).trans h5)) rfl q2_185 q1_3 q2_184 qp_8 q2_182 hd_X9_fromRow rfl dX9_reckon_64 rfl (Nat.le_of_ble_eq_true rfl) ⟨(Nat.le_of_ble_eq_true rfl), (Nat.le_of_ble_eq_true rfl)⟩ ⟨(Nat.le_of_ble_eq_true rfl), (Nat.le_of_ble_eq_true rfl)⟩ ?_
              exact L_67 r2.1 r2.2 v2 hg
            · exact L_52 r1.1 r1.2 v2 hg
        · refine j_aload_n C dX9_reckon_25 0 rfl rfl ?_
          refine j_aload_n C dX9_reckon_26 1 rfl rfl ?_
          refine j_iload_n C dX9_reckon_27 2 rfl rfl ?_
          obtain ⟨r3, hr3, hg⟩ := ob hg
          refine j_callV C [.ref (z + k), .int v2] (tX9_fromX hK v2 hr3) (by omega) ((va_up_ne _ _ (by omega)).trans ((va_up_ne _ _ (by omega)).trans h5)) rfl q2_98 q1_3 q2_97 qp_6 q2_95 hd_X9_fromX rfl dX9_reckon_28 rfl (Nat.le_of_ble_eq_true rfl) ⟨(Nat.le_of_ble_eq_true rfl), (Nat.le_of_ble_eq_true rfl)⟩ ⟨(Nat.le_of_ble_eq_true rfl), (Nat.le_of_ble_eq_true rfl)⟩ ?_
          refine j_goto C 67 dX9_reckon_31 (by decide) ?_
          exact L_67 r3.1 r3.2 v2 hg
  rw [gX9_reckon] at hg
  refine j_iconst (v := 0) C dX9_reckon_0 (by decide) ?_
  refine j_istore_n C [(2, .int (0 : Int32)), (0, .ref (z + 5)), (1, .ref (z + k))] dX9_reckon_1 rfl (by decide) rfl ?_
  exact j_re [1, 2, 0] rfl (L_2 20 F H (0 : Int32) hg)
