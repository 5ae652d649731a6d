def gX11_gives (σ : MS) (x0 : UInt64) : Option MS := some (m_isNone_ (m_worth_ σ x0) (0 : Int32))
theorem hd_X11_gives : yX11_gives.cls ≠ "java/lang/invoke/MethodHandle" ∧ yX11_gives.cls ≠ "java/lang/invoke/VarHandle" ∧ (parseMethodDescriptor yX11_gives.desc).map (fun d => d.parameters.length) = some 1 := by decide +kernel
set_option maxHeartbeats 4000000 in
set_option maxRecDepth 100000 in
theorem tX11_gives {G : GG} {l : Launch} {z N : Nat} {b : Nat → va_E} (hN : 86 ≤ N) (σ : MS) (x0 : UInt64) {r : MS} (hg : gX11_gives σ x0 = some r) : Ct G l yX11_gives cX11_gives 3 none ({ frames := 0, cells := 0, slots := 0, locals := 0 } : Room) [.ref (z + 71), .double x0] z (ctM G z b σ) N none (ctM G z b r) N := by
  refine Ct.of (lv := [(0, .ref (z + 71)), (1, .double x0)]) (by decide +kernel) (Nat.le_of_ble_eq_true rfl) rfl (fun p e s m args below meth c C => ?_)
  rw [gX11_gives] at hg
  refine j_aload_n C dX11_gives_0 0 rfl rfl ?_
  refine j_dload_n C dX11_gives_1 1 rfl rfl ?_
  refine j_put (fs := mF z σ) C tyX11 tyX11_ok nmX11 (Nat.lt_of_lt_of_le (by decide) hN) cq_obj rfl inX11 17 (by decide) q3_120 rfl rfl (tyX11_ok 17 (by decide)) rfl rfl (Nat.le_of_ble_eq_true rfl) dX11_gives_2 (j_ct cs_worth ?_)
  refine j_aload_n C dX11_gives_5 0 rfl rfl ?_
  refine j_iconst (v := 0) C dX11_gives_6 (by decide) ?_
  refine j_put (fs := mF z (m_worth_ σ x0)) C tyX11 tyX11_ok nmX11 (Nat.lt_of_lt_of_le (by decide) hN) cq_obj rfl inX11 18 (by decide) q3_121 rfl rfl (tyX11_ok 18 (by decide)) rfl rfl (Nat.le_of_ble_eq_true rfl) dX11_gives_7 (j_ct cs_isNone ?_)
  exact j_vret C dX11_gives_10 rfl (by rw [← Option.some.inj hg]) rfl

def gX11_givesNothing (σ : MS) : Option MS := some (m_isNone_ (m_worth_ σ FP.dconst0) (1 : Int32))
theorem hd_X11_givesNothing : yX11_givesNothing.cls ≠ "java/lang/invoke/MethodHandle" ∧ yX11_givesNothing.cls ≠ "java/lang/invoke/VarHandle" ∧ (parseMethodDescriptor yX11_givesNothing.desc).map (fun d => d.parameters.length) = some 0 := by decide +kernel
set_option maxHeartbeats 4000000 in
set_option maxRecDepth 100000 in
theorem tX11_givesNothing {G : GG} {l : Launch} {z N : Nat} {b : Nat → va_E} (hN : 86 ≤ N) (σ : MS) {r : MS} (hg : gX11_givesNothing σ = some r) : Ct G l yX11_givesNothing cX11_givesNothing 1 none ({ frames := 0, cells := 0, slots := 0, locals := 0 } : Room) [.ref (z + 71)] z (ctM G z b σ) N none (ctM G z b r) N := by
  refine Ct.of (lv := [(0, .ref (z + 71))]) (by decide +kernel) (Nat.le_of_ble_eq_true rfl) rfl (fun p e s m args below meth c C => ?_)
  rw [gX11_givesNothing] at hg
  refine j_aload_n C dX11_givesNothing_0 0 rfl rfl ?_
  refine j_dconst0 C dX11_givesNothing_1 ?_
  refine j_put (fs := mF z σ) C tyX11 tyX11_ok nmX11 (Nat.lt_of_lt_of_le (by decide) hN) cq_obj rfl inX11 17 (by decide) q3_120 rfl rfl (tyX11_ok 17 (by decide)) rfl rfl (Nat.le_of_ble_eq_true rfl) dX11_givesNothing_2 (j_ct cs_worth ?_)
  refine j_aload_n C dX11_givesNothing_5 0 rfl rfl ?_
  refine j_iconst (v := 1) C dX11_givesNothing_6 (by decide) ?_
  refine j_put (fs := mF z (m_worth_ σ FP.dconst0)) C tyX11 tyX11_ok nmX11 (Nat.lt_of_lt_of_le (by decide) hN) cq_obj rfl inX11 18 (by decide) q3_121 rfl rfl (tyX11_ok 18 (by decide)) rfl rfl (Nat.le_of_ble_eq_true rfl) dX11_givesNothing_7 (j_ct cs_isNone ?_)
  exact j_vret C dX11_givesNothing_10 rfl (by rw [← Option.some.inj hg]) rfl

def gX11_single_136 (σ : MS) (x0 : Int32) (x1 : UInt64) (x2 : Int32) (τ : MS) (s0 : UInt64) : Option MS := (gX11_gives τ s0).bind (fun r15 => some r15)
def gX11_single_70 (σ : MS) (x0 : Int32) (x1 : UInt64) (x2 : Int32) (τ : MS) (s0 : UInt64) : Option MS := (gX11_gives τ s0).bind (fun r16 => some r16)
def gX11_single (σ : MS) (x0 : Int32) (x1 : UInt64) (x2 : Int32) : Option MS := if x0 = (0 : Int32) then ((gX11_gives σ x1).bind (fun r14 => some r14)) else (if x0 = (1 : Int32) then ((gX11_hasMinus x1).bind (fun r13 => if r13 = 0 then (gX11_single_70 σ x0 x1 x2 σ x1) else (gX11_single_70 σ x0 x1 x2 σ (FP.dneg x1)))) else (if x0 = (2 : Int32) then ((gX11_whole x1 (0 : Int32)).bind (fun r11 => (gX11_gives σ r11).bind (fun r12 => some r12))) else (if x0 = (3 : Int32) then ((gX11_whole x1 (1 : Int32)).bind (fun r9 => (gX11_gives σ r9).bind (fun r10 => some r10))) else (if x0 = (4 : Int32) then ((gX11_whole x1 (2 : Int32)).bind (fun r7 => (gX11_gives σ r7).bind (fun r8 => some r8))) else (if x0 = (5 : Int32) then (if (Op.cmpValue (FP.dcmp x1 FP.dconst0) CmpOp.l) ≤ 0 then (if 0 ≤ (Op.cmpValue (FP.dcmp x1 FP.dconst0) CmpOp.g) then (gX11_single_136 σ x0 x1 x2 σ x1) else (gX11_single_136 σ x0 x1 x2 σ (13830554455654793216 : UInt64))) else (gX11_single_136 σ x0 x1 x2 σ FP.dconst1)) else (if x0 = (6 : Int32) then ((gX11_quotient x1 (4611686018427387904 : UInt64) x2).bind (fun r5 => (gX11_gives σ r5).bind (fun r6 => some r6))) else (if x0 = (7 : Int32) then ((gX11_product (4611686018427387904 : UInt64) x1 x2).bind (fun r3 => (gX11_gives σ r3).bind (fun r4 => some r4))) else ((gX11_gives σ (FP.dneg x1)).bind (fun r2 => some r2)))))))))
theorem hd_X11_single : yX11_single.cls ≠ "java/lang/invoke/MethodHandle" ∧ yX11_single.cls ≠ "java/lang/invoke/VarHandle" ∧ (parseMethodDescriptor yX11_single.desc).map (fun d => d.parameters.length) = some 3 := by decide +kernel
set_option maxHeartbeats 4000000 in
set_option maxRecDepth 100000 in
theorem tX11_single {G : GG} {l : Launch} {z N : Nat} {b : Nat → va_E} (hN : 86 ≤ N) (σ : MS) (x0 : Int32) (x1 : UInt64) (x2 : Int32) {r : MS} (hg : gX11_single σ x0 x1 x2 = some r) : Ct G l yX11_single cX11_single 5 none ({ frames := 3, cells := 0, slots := 0, locals := 69 } : Room) [.ref (z + 71), .int x0, .double x1, .int x2] z (ctM G z b σ) N none (ctM G z b r) N := by
  refine Ct.of (lv := [(0, .ref (z + 71)), (1, .int x0), (2, .double x1), (4, .int x2)]) (by decide +kernel) (Nat.le_of_ble_eq_true rfl) rfl (fun p e s m args below meth c C => ?_)
  have L_136 : ∀ (τ : MS) (s0 : UInt64), gX11_single_136 σ x0 x1 x2 τ s0 = some r → J G p l e ({ frames := 3, cells := 0, slots := 0, locals := 69 } : Room) s m args below meth c z 5 (MQ below (Qd G z none (ctM G z b r) N) args s 0 0 (zA z)) (ctM G z b τ) N 0 0 136 [] [.double s0, .ref (z + 71)] := by
    intro τ s0 hg
    rw [gX11_single_136] at hg
    obtain ⟨r15, hr15, hg⟩ := ob hg
    refine j_callV C [.double s0] (tX11_gives hN τ s0 hr15) (Nat.lt_of_lt_of_le (by decide) hN) cq_obj rfl q4_21 q1_6 q4_20 qp_31 q4_18 hd_X11_gives rfl dX11_single_136 rfl (Nat.le_of_ble_eq_true rfl) ⟨(Nat.le_of_ble_eq_true rfl), (Nat.le_of_ble_eq_true rfl)⟩ ⟨(Nat.le_of_ble_eq_true rfl), (Nat.le_of_ble_eq_true rfl)⟩ ?_
    refine j_goto C 180 dX11_single_139 (by decide) ?_
    exact j_vret C dX11_single_180 rfl (by rw [← Option.some.inj hg]) rfl
  have L_70 : ∀ (τ : MS) (s0 : UInt64), gX11_single_70 σ x0 x1 x2 τ s0 = some r → J G p l e ({ frames := 3, cells := 0, slots := 0, locals := 69 } : Room) s m args below meth c z 5 (MQ below (Qd G z none (ctM G z b r) N) args s 0 0 (zA z)) (ctM G z b τ) N 0 0 70 [] [.double s0, .ref (z + 71)] := by
    intro τ s0 hg
    rw [gX11_single_70] at hg
    obtain ⟨r16, hr16, hg⟩ := ob hg
    refine j_callV C [.double s0] (tX11_gives hN τ s0 hr16) (Nat.lt_of_lt_of_le (by decide) hN) cq_obj rfl q4_21 q1_6 q4_20 qp_31 q4_18 hd_X11_gives rfl dX11_single_70 rfl (Nat.le_of_ble_eq_true rfl) ⟨(Nat.le_of_ble_eq_true rfl), (Nat.le_of_ble_eq_true rfl)⟩ ⟨(Nat.le_of_ble_eq_true rfl), (Nat.le_of_ble_eq_true rfl)⟩ ?_
    refine j_goto C 180 dX11_single_73 (by decide) ?_
    exact j_vret C dX11_single_180 rfl (by rw [← Option.some.inj hg]) rfl
  rw [gX11_single] at hg
  refine j_iload_n C dX11_single_0 1 rfl rfl ?_
  by_cases c1_0 : x0 = (0 : Int32)
  · replace hg := (if_pos c1_0).symm.trans hg
    refine j_tableIn (off := 47) C 48 dX11_single_1 (by rw [c1_0]; decide) (by rw [c1_0]; decide) (by rw [c1_0]; rfl) (by decide) ?_
    refine j_aload_n C dX11_single_48 0 rfl rfl ?_
    refine j_dload_n C dX11_single_49 2 rfl rfl ?_
    obtain ⟨r14, hr14, hg⟩ := ob hg
    refine j_callV C [.double x1] (tX11_gives hN σ x1 hr14) (Nat.lt_of_lt_of_le (by decide) hN) cq_obj rfl q4_21 q1_6 q4_20 qp_31 q4_18 hd_X11_gives rfl dX11_single_50 rfl (Nat.le_of_ble_eq_true rfl) ⟨(Nat.le_of_ble_eq_true rfl), (Nat.le_of_ble_eq_true rfl)⟩ ⟨(Nat.le_of_ble_eq_true rfl), (Nat.le_of_ble_eq_true rfl)⟩ ?_
    refine j_goto C 180 dX11_single_53 (by decide) ?_
    exact j_vret C dX11_single_180 rfl (by rw [← Option.some.inj hg]) rfl
  · replace hg := (if_neg c1_0).symm.trans hg
    by_cases c1_1 : x0 = (1 : Int32)
    · replace hg := (if_pos c1_1).symm.trans hg
      refine j_tableIn (off := 55) C 56 dX11_single_1 (by rw [c1_1]; decide) (by rw [c1_1]; decide) (by rw [c1_1]; rfl) (by decide) ?_
      refine j_aload_n C dX11_single_56 0 rfl rfl ?_
      refine j_dload_n C dX11_single_57 2 rfl rfl ?_
      obtain ⟨r13, hr13, hg⟩ := ob hg
      refine j_callS C [.double x1] (tX11_hasMinus x1 hr13) q4_24 q1_6 q4_23 q4_22 hd_X11_hasMinus rfl dX11_single_58 rfl (Nat.le_of_ble_eq_true rfl) ⟨(Nat.le_of_ble_eq_true rfl), (Nat.le_of_ble_eq_true rfl)⟩ ⟨(Nat.le_of_ble_eq_true rfl), (Nat.le_of_ble_eq_true rfl)⟩ ?_
      refine j_if_eq C 69 hg dX11_single_61 (by decide) (fun hg => ?_) (fun hg => ?_)
      · refine j_dload_n C dX11_single_69 2 rfl rfl ?_
        exact j_re [] rfl (L_70 σ x1 hg)
      · refine j_dload_n C dX11_single_64 2 rfl rfl ?_
        refine j_dneg C dX11_single_65 ?_
        refine j_goto C 70 dX11_single_66 (by decide) ?_
        exact j_re [] rfl (L_70 σ (FP.dneg x1) hg)
    · replace hg := (if_neg c1_1).symm.trans hg
      by_cases c1_2 : x0 = (2 : Int32)
      · replace hg := (if_pos c1_2).symm.trans hg
        refine j_tableIn (off := 75) C 76 dX11_single_1 (by rw [c1_2]; decide) (by rw [c1_2]; decide) (by rw [c1_2]; rfl) (by decide) ?_
        refine j_aload_n C dX11_single_76 0 rfl rfl ?_
        refine j_dload_n C dX11_single_77 2 rfl rfl ?_
        refine j_iconst (v := 0) C dX11_single_78 (by decide) ?_
        obtain ⟨r11, hr11, hg⟩ := ob hg
        refine j_callS C [.double x1, .int (0 : Int32)] (tX11_whole x1 (0 : Int32) hr11) q4_30 q1_6 q4_29 q4_28 hd_X11_whole rfl dX11_single_79 rfl (Nat.le_of_ble_eq_true rfl) ⟨(Nat.le_of_ble_eq_true rfl), (Nat.le_of_ble_eq_true rfl)⟩ ⟨(Nat.le_of_ble_eq_true rfl), (Nat.le_of_ble_eq_true rfl)⟩ ?_
        obtain ⟨r12, hr12, hg⟩ := ob hg
        refine j_callV C [.double r11] (tX11_gives hN σ r11 hr12) (Nat.lt_of_lt_of_le (by decide) hN) cq_obj rfl q4_21 q1_6 q4_20 qp_31 q4_18 hd_X11_gives rfl dX11_single_82 rfl (Nat.le_of_ble_eq_true rfl) ⟨(Nat.le_of_ble_eq_true rfl), (Nat.le_of_ble_eq_true rfl)⟩ ⟨(Nat.le_of_ble_eq_true rfl), (Nat.le_of_ble_eq_true rfl)⟩ ?_
        refine j_goto C 180 dX11_single_85 (by decide) ?_
        exact j_vret C dX11_single_180 rfl (by rw [← Option.some.inj hg]) rfl
      · replace hg := (if_neg c1_2).symm.trans hg
        by_cases c1_3 : x0 = (3 : Int32)
        · replace hg := (if_pos c1_3).symm.trans hg
          refine j_tableIn (off := 87) C 88 dX11_single_1 (by rw [c1_3]; decide) (by rw [c1_3]; decide) (by rw [c1_3]; rfl) (by decide) ?_
          refine j_aload_n C dX11_single_88 0 rfl rfl ?_
          refine j_dload_n C dX11_single_89 2 rfl rfl ?_
          refine j_iconst (v := 1) C dX11_single_90 (by decide) ?_
          obtain ⟨r9, hr9, hg⟩ := ob hg
          refine j_callS C [.double x1, .int (1 : Int32)] (tX11_whole x1 (1 : Int32) hr9) q4_30 q1_6 q4_29 q4_28 hd_X11_whole rfl dX11_single_91 rfl (Nat.le_of_ble_eq_true rfl) ⟨(Nat.le_of_ble_eq_true rfl), (Nat.le_of_ble_eq_true rfl)⟩ ⟨(Nat.le_of_ble_eq_true rfl), (Nat.le_of_ble_eq_true rfl)⟩ ?_
          obtain ⟨r10, hr10, hg⟩ := ob hg
          refine j_callV C [.double r9] (tX11_gives hN σ r9 hr10) (Nat.lt_of_lt_of_le (by decide) hN) cq_obj rfl q4_21 q1_6 q4_20 qp_31 q4_18 hd_X11_gives rfl dX11_single_94 rfl (Nat.le_of_ble_eq_true rfl) ⟨(Nat.le_of_ble_eq_true rfl), (Nat.le_of_ble_eq_true rfl)⟩ ⟨(Nat.le_of_ble_eq_true rfl), (Nat.le_of_ble_eq_true rfl)⟩ ?_
          refine j_goto C 180 dX11_single_97 (by decide) ?_
          exact j_vret C dX11_single_180 rfl (by rw [← Option.some.inj hg]) rfl
        · replace hg := (if_neg c1_3).symm.trans hg
          by_cases c1_4 : x0 = (4 : Int32)
          · replace hg := (if_pos c1_4).symm.trans hg
            refine j_tableIn (off := 99) C 100 dX11_single_1 (by rw [c1_4]; decide) (by rw [c1_4]; decide) (by rw [c1_4]; rfl) (by decide) ?_
            refine j_aload_n C dX11_single_100 0 rfl rfl ?_
            refine j_dload_n C dX11_single_101 2 rfl rfl ?_
            refine j_iconst (v := 2) C dX11_single_102 (by decide) ?_
            obtain ⟨r7, hr7, hg⟩ := ob hg
            refine j_callS C [.double x1, .int (2 : Int32)] (tX11_whole x1 (2 : Int32) hr7) q4_30 q1_6 q4_29 q4_28 hd_X11_whole rfl dX11_single_103 rfl (Nat.le_of_ble_eq_true rfl) ⟨(Nat.le_of_ble_eq_true rfl), (Nat.le_of_ble_eq_true rfl)⟩ ⟨(Nat.le_of_ble_eq_true rfl), (Nat.le_of_ble_eq_true rfl)⟩ ?_
            obtain ⟨r8, hr8, hg⟩ := ob hg
            refine j_callV C [.double r7] (tX11_gives hN σ r7 hr8) (Nat.lt_of_lt_of_le (by decide) hN) cq_obj rfl q4_21 q1_6 q4_20 qp_31 q4_18 hd_X11_gives rfl dX11_single_106 rfl (Nat.le_of_ble_eq_true rfl) ⟨(Nat.le_of_ble_eq_true rfl), (Nat.le_of_ble_eq_true rfl)⟩ ⟨(Nat.le_of_ble_eq_true rfl), (Nat.le_of_ble_eq_true rfl)⟩ ?_
            refine j_goto C 180 dX11_single_109 (by decide) ?_
            exact j_vret C dX11_single_180 rfl (by rw [← Option.some.inj hg]) rfl
          · replace hg := (if_neg c1_4).symm.trans hg
            by_cases c1_5 : x0 = (5 : Int32)
            · replace hg := (if_pos c1_5).symm.trans hg
              refine j_tableIn (off := 111) C 112 dX11_single_1 (by rw [c1_5]; decide) (by rw [c1_5]; decide) (by rw [c1_5]; rfl) (by decide) ?_
              refine j_aload_n C dX11_single_112 0 rfl rfl ?_
              refine j_dload_n C dX11_single_113 2 rfl rfl ?_
              refine j_dconst0 C dX11_single_114 ?_
              refine j_dcmp C dX11_single_115 ?_
              refine j_if_le C 123 hg dX11_single_116 (by decide) (fun hg => ?_) (fun hg => ?_)
              · refine j_dload_n C dX11_single_123 2 rfl rfl ?_
                refine j_dconst0 C dX11_single_124 ?_
                refine j_dcmp C dX11_single_125 ?_
                refine j_if_ge C 135 hg dX11_single_126 (by decide) (fun hg => ?_) (fun hg => ?_)
                · refine j_dload_n C dX11_single_135 2 rfl rfl ?_
                  exact j_re [] rfl (L_136 σ x1 hg)
                · refine j_ldc2d C q4_39 dX11_single_129 ?_
                  refine j_goto C 136 dX11_single_132 (by decide) ?_
                  exact j_re [] rfl (L_136 σ (13830554455654793216 : UInt64) hg)
              · refine j_dconst1 C dX11_single_119 ?_
                refine j_goto C 136 dX11_single_120 (by decide) ?_
                exact j_re [] rfl (L_136 σ FP.dconst1 hg)
            · replace hg := (if_neg c1_5).symm.trans hg
              by_cases c1_6 : x0 = (6 : Int32)
              · replace hg := (if_pos c1_6).symm.trans hg
                refine j_tableIn (off := 141) C 142 dX11_single_1 (by rw [c1_6]; decide) (by rw [c1_6]; decide) (by rw [c1_6]; rfl) (by decide) ?_
                refine j_aload_n C dX11_single_142 0 rfl rfl ?_
                refine j_dload_n C dX11_single_143 2 rfl rfl ?_
                refine j_ldc2d C q3_184 dX11_single_144 ?_
                refine j_iload C dX11_single_147 3 rfl ?_
                obtain ⟨r5, hr5, hg⟩ := ob hg
                refine j_callS C [.double x1, .double (4611686018427387904 : UInt64), .int x2] (tX11_quotient x1 (4611686018427387904 : UInt64) x2 hr5) q4_42 q1_6 q4_41 q4_40 hd_X11_quotient rfl dX11_single_149 rfl (Nat.le_of_ble_eq_true rfl) ⟨(Nat.le_of_ble_eq_true rfl), (Nat.le_of_ble_eq_true rfl)⟩ ⟨(Nat.le_of_ble_eq_true rfl), (Nat.le_of_ble_eq_true rfl)⟩ ?_
                obtain ⟨r6, hr6, hg⟩ := ob hg
                refine j_callV C [.double r5] (tX11_gives hN σ r5 hr6) (Nat.lt_of_lt_of_le (by decide) hN) cq_obj rfl q4_21 q1_6 q4_20 qp_31 q4_18 hd_X11_gives rfl dX11_single_152 rfl (Nat.le_of_ble_eq_true rfl) ⟨(Nat.le_of_ble_eq_true rfl), (Nat.le_of_ble_eq_true rfl)⟩ ⟨(Nat.le_of_ble_eq_true rfl), (Nat.le_of_ble_eq_true rfl)⟩ ?_
                refine j_goto C 180 dX11_single_155 (by decide) ?_
                exact j_vret C dX11_single_180 rfl (by rw [← Option.some.inj hg]) rfl
              · replace hg := (if_neg c1_6).symm.trans hg
                by_cases c1_7 : x0 = (7 : Int32)
                · replace hg := (if_pos c1_7).symm.trans hg
                  refine j_tableIn (off := 157) C 158 dX11_single_1 (by rw [c1_7]; decide) (by rw [c1_7]; decide) (by rw [c1_7]; rfl) (by decide) ?_
                  refine j_aload_n C dX11_single_158 0 rfl rfl ?_
                  refine j_ldc2d C q3_184 dX11_single_159 ?_
                  refine j_dload_n C dX11_single_162 2 rfl rfl ?_
                  refine j_iload C dX11_single_163 3 rfl ?_
                  obtain ⟨r3, hr3, hg⟩ := ob hg
                  refine j_callS C [.double (4611686018427387904 : UInt64), .double x1, .int x2] (tX11_product (4611686018427387904 : UInt64) x1 x2 hr3) q4_45 q1_6 q4_44 q4_43 hd_X11_product rfl dX11_single_165 rfl (Nat.le_of_ble_eq_true rfl) ⟨(Nat.le_of_ble_eq_true rfl), (Nat.le_of_ble_eq_true rfl)⟩ ⟨(Nat.le_of_ble_eq_true rfl), (Nat.le_of_ble_eq_true rfl)⟩ ?_
                  obtain ⟨r4, hr4, hg⟩ := ob hg
                  refine j_callV C [.double r3] (tX11_gives hN σ r3 hr4) (Nat.lt_of_lt_of_le (by decide) hN) cq_obj rfl q4_21 q1_6 q4_20 qp_31 q4_18 hd_X11_gives rfl dX11_single_168 rfl (Nat.le_of_ble_eq_true rfl) ⟨(Nat.le_of_ble_eq_true rfl), (Nat.le_of_ble_eq_true rfl)⟩ ⟨(Nat.le_of_ble_eq_true rfl), (Nat.le_of_ble_eq_true rfl)⟩ ?_
                  refine j_goto C 180 dX11_single_171 (by decide) ?_
                  exact j_vret C dX11_single_180 rfl (by rw [← Option.some.inj hg]) rfl
                · replace hg := (if_neg c1_7).symm.trans hg
                  have ho : x0.toInt < 0 ∨ 7 < x0.toInt := by
                    by_cases ho : x0.toInt < 0 ∨ 7 < x0.toInt
                    · exact ho
                    · obtain ⟨k, hk, hx⟩ := sw_in ho
                      match k, hk, hx with
                      | 0, _, hx => exact absurd (Int32.toInt_inj.mp (hx.trans (by decide))) c1_0
                      | 1, _, hx => exact absurd (Int32.toInt_inj.mp (hx.trans (by decide))) c1_1
                      | 2, _, hx => exact absurd (Int32.toInt_inj.mp (hx.trans (by decide))) c1_2
                      | 3, _, hx => exact absurd (Int32.toInt_inj.mp (hx.trans (by decide))) c1_3
                      | 4, _, hx => exact absurd (Int32.toInt_inj.mp (hx.trans (by decide))) c1_4
                      | 5, _, hx => exact absurd (Int32.toInt_inj.mp (hx.trans (by decide))) c1_5
                      | 6, _, hx => exact absurd (Int32.toInt_inj.mp (hx.trans (by decide))) c1_6
                      | 7, _, hx => exact absurd (Int32.toInt_inj.mp (hx.trans (by decide))) c1_7
                      | k + 8, hk, _ => exact absurd hk (Nat.not_lt.mpr (Nat.le_add_left _ _))
                  refine j_tableOut C 174 dX11_single_1 ho (by decide) ?_
                  refine j_aload_n C dX11_single_174 0 rfl rfl ?_
                  refine j_dload_n C dX11_single_175 2 rfl rfl ?_
                  refine j_dneg C dX11_single_176 ?_
                  obtain ⟨r2, hr2, hg⟩ := ob hg
                  refine j_callV C [.double (FP.dneg x1)] (tX11_gives hN σ (FP.dneg x1) hr2) (Nat.lt_of_lt_of_le (by decide) hN) cq_obj rfl q4_21 q1_6 q4_20 qp_31 q4_18 hd_X11_gives rfl dX11_single_177 rfl (Nat.le_of_ble_eq_true rfl) ⟨(Nat.le_of_ble_eq_true rfl), (Nat.le_of_ble_eq_true rfl)⟩ ⟨(Nat.le_of_ble_eq_true rfl), (Nat.le_of_ble_eq_true rfl)⟩ ?_
                  exact j_vret C dX11_single_180 rfl (by rw [← Option.some.inj hg]) rfl

def gX11_difference_20 (σ : MS) (x0 : UInt64) (x1 : UInt64) (x2 : Int32) (τ : MS) : Option MS := (gX11_sum x0 (FP.dneg x1) x2).bind (fun r3 => (gX11_gives τ r3).bind (fun r4 => some r4))
def gX11_difference (σ : MS) (x0 : UInt64) (x1 : UInt64) (x2 : Int32) : Option MS := (gX11_isInfinite x0).bind (fun r1 => if r1 = 0 then (gX11_difference_20 σ x0 x1 x2 σ) else (if (Op.cmpValue (FP.dcmp x0 x1) CmpOp.l) = 0 then ((gX11_givesNothing σ ).bind (fun r2 => some r2)) else (gX11_difference_20 σ x0 x1 x2 σ)))
theorem hd_X11_difference : yX11_difference.cls ≠ "java/lang/invoke/MethodHandle" ∧ yX11_difference.cls ≠ "java/lang/invoke/VarHandle" ∧ (parseMethodDescriptor yX11_difference.desc).map (fun d => d.parameters.length) = some 3 := by decide +kernel
set_option maxHeartbeats 4000000 in
set_option maxRecDepth 100000 in
theorem tX11_difference {G : GG} {l : Launch} {z N : Nat} {b : Nat → va_E} (hN : 86 ≤ N) (σ : MS) (x0 : UInt64) (x1 : UInt64) (x2 : Int32) {r : MS} (hg : gX11_difference σ x0 x1 x2 = some r) : Ct G l yX11_difference cX11_difference 6 none ({ frames := 1, cells := 0, slots := 0, locals := 24 } : Room) [.ref (z + 71), .double x0, .double x1, .int x2] z (ctM G z b σ) N none (ctM G z b r) N := by
  refine Ct.of (lv := [(0, .ref (z + 71)), (1, .double x0), (3, .double x1), (5, .int x2)]) (by decide +kernel) (Nat.le_of_ble_eq_true rfl) rfl (fun p e s m args below meth c C => ?_)
  have L_20 : ∀ (τ : MS), gX11_difference_20 σ x0 x1 x2 τ = some r → J G p l e ({ frames := 1, cells := 0, slots := 0, locals := 24 } : Room) s m args below meth c z 6 (MQ below (Qd G z none (ctM G z b r) N) args s 0 0 (zA z)) (ctM G z b τ) N 0 0 20 [(0, .ref (z + 71)), (1, .double x0), (3, .double x1), (5, .int x2)] [] := by
    intro τ hg
    rw [gX11_difference_20] at hg
    refine j_aload_n C dX11_difference_20 0 rfl rfl ?_
    refine j_dload_n C dX11_difference_21 1 rfl rfl ?_
    refine j_dload_n C dX11_difference_22 2 rfl rfl ?_
    refine j_dneg C dX11_difference_23 ?_
    refine j_iload C dX11_difference_24 3 rfl ?_
    obtain ⟨r3, hr3, hg⟩ := ob hg
    refine j_callS C [.double x0, .double (FP.dneg x1), .int x2] (tX11_sum x0 (FP.dneg x1) x2 hr3) q4_59 q1_6 q4_58 q4_57 hd_X11_sum rfl dX11_difference_26 rfl (Nat.le_of_ble_eq_true rfl) ⟨(Nat.le_of_ble_eq_true rfl), (Nat.le_of_ble_eq_true rfl)⟩ ⟨(Nat.le_of_ble_eq_true rfl), (Nat.le_of_ble_eq_true rfl)⟩ ?_
    obtain ⟨r4, hr4, hg⟩ := ob hg
    refine j_callV C [.double r3] (tX11_gives hN τ r3 hr4) (Nat.lt_of_lt_of_le (by decide) hN) cq_obj rfl q4_21 q1_6 q4_20 qp_31 q4_18 hd_X11_gives rfl dX11_difference_29 rfl (Nat.le_of_ble_eq_true rfl) ⟨(Nat.le_of_ble_eq_true rfl), (Nat.le_of_ble_eq_true rfl)⟩ ⟨(Nat.le_of_ble_eq_true rfl), (Nat.le_of_ble_eq_true rfl)⟩ ?_
    exact j_vret C dX11_difference_32 rfl (by rw [← Option.some.inj hg]) rfl
  rw [gX11_difference] at hg
  refine j_dload_n C dX11_difference_0 1 rfl rfl ?_
  obtain ⟨r1, hr1, hg⟩ := ob hg
  refine j_callS C [.double x0] (tX11_isInfinite x0 hr1) q4_56 q1_6 q4_55 q4_54 hd_X11_isInfinite rfl dX11_difference_1 rfl (Nat.le_of_ble_eq_true rfl) ⟨(Nat.le_of_ble_eq_true rfl), (Nat.le_of_ble_eq_true rfl)⟩ ⟨(Nat.le_of_ble_eq_true rfl), (Nat.le_of_ble_eq_true rfl)⟩ ?_
  refine j_if_eq C 20 hg dX11_difference_4 (by decide) (fun hg => ?_) (fun hg => ?_)
  · exact L_20 σ hg
  · refine j_dload_n C dX11_difference_7 1 rfl rfl ?_
    refine j_dload_n C dX11_difference_8 2 rfl rfl ?_
    refine j_dcmp C dX11_difference_9 ?_
    refine j_if_ne C 20 hg dX11_difference_10 (by decide) (fun hg => ?_) (fun hg => ?_)
    · exact L_20 σ hg
    · refine j_aload_n C dX11_difference_13 0 rfl rfl ?_
      obtain ⟨r2, hr2, hg⟩ := ob hg
      refine j_callV C [] (tX11_givesNothing hN σ  hr2) (Nat.lt_of_lt_of_le (by decide) hN) cq_obj rfl q4_9 q1_6 q4_8 qp_28 q4_6 hd_X11_givesNothing rfl dX11_difference_14 rfl (Nat.le_of_ble_eq_true rfl) ⟨(Nat.le_of_ble_eq_true rfl), (Nat.le_of_ble_eq_true rfl)⟩ ⟨(Nat.le_of_ble_eq_true rfl), (Nat.le_of_ble_eq_true rfl)⟩ ?_
      refine j_goto C 32 dX11_difference_17 (by decide) ?_
      exact j_vret C dX11_difference_32 rfl (by rw [← Option.some.inj hg]) rfl

def gX11_both_419 (σ : MS) (x0 : Int32) (x1 : UInt64) (x2 : UInt64) (x3 : Int32) (τ : MS) (s0 : UInt64) : Option MS := (gX11_gives τ s0).bind (fun r34 => some r34)
def gX11_both_394 (σ : MS) (x0 : Int32) (x1 : UInt64) (x2 : UInt64) (x3 : Int32) (τ : MS) (s0 : UInt64) : Option MS := (gX11_gives τ s0).bind (fun r35 => some r35)
def gX11_both_372 (σ : MS) (x0 : Int32) (x1 : UInt64) (x2 : UInt64) (x3 : Int32) (τ : MS) (s0 : UInt64) : Option MS := (gX11_gives τ s0).bind (fun r36 => some r36)
def gX11_both_350 (σ : MS) (x0 : Int32) (x1 : UInt64) (x2 : UInt64) (x3 : Int32) (τ : MS) (s0 : UInt64) : Option MS := (gX11_gives τ s0).bind (fun r37 => some r37)
def gX11_both_218 (σ : MS) (x0 : Int32) (x1 : UInt64) (x2 : UInt64) (x3 : Int32) (τ : MS) (v7 : Int32) : Option MS := if v7 = 0 then (if x0 = (9 : Int32) then ((gX11_sum x1 x2 x3).bind (fun r27 => (gX11_gives τ r27).bind (fun r28 => some r28))) else (if x0 = (10 : Int32) then ((gX11_difference τ x1 x2 x3).bind (fun r26 => some r26)) else (if x0 = (11 : Int32) then ((gX11_product x1 x2 x3).bind (fun r24 => (gX11_gives τ r24).bind (fun r25 => some r25))) else (if x0 = (12 : Int32) then ((gX11_quotient x1 x2 x3).bind (fun r22 => (gX11_gives τ r22).bind (fun r23 => some r23))) else (if x0 = (13 : Int32) then ((gX11_isInfinite x2).bind (fun r21 => if r21 = 0 then (if FP.dIsNaN (FP.drem x1 x2) = false then (gX11_both_350 σ x0 x1 x2 x3 τ (FP.drem x1 x2)) else none) else (gX11_both_350 σ x0 x1 x2 x3 τ x1))) else (if x0 = (14 : Int32) then ((gX11_isLower x2 x1).bind (fun r20 => if r20 = 0 then (gX11_both_372 σ x0 x1 x2 x3 τ x1) else (gX11_both_372 σ x0 x1 x2 x3 τ x2))) else (if x0 = (15 : Int32) then ((gX11_isLower x1 x2).bind (fun r19 => if r19 = 0 then (gX11_both_394 σ x0 x1 x2 x3 τ x1) else (gX11_both_394 σ x0 x1 x2 x3 τ x2))) else (if x0 = (16 : Int32) then ((gX11_hasMinus x1).bind (fun r17 => (gX11_hasMinus x2).bind (fun r18 => if r17 = r18 then (gX11_both_419 σ x0 x1 x2 x3 τ x1) else (gX11_both_419 σ x0 x1 x2 x3 τ (FP.dneg x1))))) else ((gX11_quotient x1 x2 x3).bind (fun r13 => (gX11_whole r13 (2 : Int32)).bind (fun r14 => (gX11_product r14 x2 x3).bind (fun r15 => (gX11_gives τ r15).bind (fun r16 => some r16))))))))))))) else ((gX11_givesNothing τ ).bind (fun r29 => some r29))
def gX11_both_210 (σ : MS) (x0 : Int32) (x1 : UInt64) (x2 : UInt64) (x3 : Int32) (τ : MS) (s0 : Int32) : Option MS := gX11_both_218 σ x0 x1 x2 x3 τ s0
def gX11_both_205 (σ : MS) (x0 : Int32) (x1 : UInt64) (x2 : UInt64) (x3 : Int32) (τ : MS) : Option MS := gX11_both_210 σ x0 x1 x2 x3 τ (1 : Int32)
def gX11_both_184 (σ : MS) (x0 : Int32) (x1 : UInt64) (x2 : UInt64) (x3 : Int32) (τ : MS) (s0 : Int32) : Option MS := gX11_both_218 σ x0 x1 x2 x3 τ s0
def gX11_both_179 (σ : MS) (x0 : Int32) (x1 : UInt64) (x2 : UInt64) (x3 : Int32) (τ : MS) : Option MS := gX11_both_184 σ x0 x1 x2 x3 τ (1 : Int32)
def gX11_both_159 (σ : MS) (x0 : Int32) (x1 : UInt64) (x2 : UInt64) (x3 : Int32) (τ : MS) (s0 : Int32) : Option MS := gX11_both_218 σ x0 x1 x2 x3 τ s0
def gX11_both_158 (σ : MS) (x0 : Int32) (x1 : UInt64) (x2 : UInt64) (x3 : Int32) (τ : MS) : Option MS := gX11_both_159 σ x0 x1 x2 x3 τ (0 : Int32)
def gX11_both_154 (σ : MS) (x0 : Int32) (x1 : UInt64) (x2 : UInt64) (x3 : Int32) (τ : MS) : Option MS := gX11_both_159 σ x0 x1 x2 x3 τ (1 : Int32)
def gX11_both_139 (σ : MS) (x0 : Int32) (x1 : UInt64) (x2 : UInt64) (x3 : Int32) (τ : MS) : Option MS := (gX11_isInfinite x1).bind (fun r30 => if r30 = 0 then (gX11_both_158 σ x0 x1 x2 x3 τ) else ((gX11_isInfinite x2).bind (fun r31 => if r31 = 0 then (gX11_both_158 σ x0 x1 x2 x3 τ) else (gX11_both_154 σ x0 x1 x2 x3 τ))))
def gX11_both_119 (σ : MS) (x0 : Int32) (x1 : UInt64) (x2 : UInt64) (x3 : Int32) (τ : MS) (s0 : Int32) : Option MS := gX11_both_218 σ x0 x1 x2 x3 τ s0
def gX11_both_118 (σ : MS) (x0 : Int32) (x1 : UInt64) (x2 : UInt64) (x3 : Int32) (τ : MS) : Option MS := gX11_both_119 σ x0 x1 x2 x3 τ (0 : Int32)
def gX11_both_114 (σ : MS) (x0 : Int32) (x1 : UInt64) (x2 : UInt64) (x3 : Int32) (τ : MS) : Option MS := gX11_both_119 σ x0 x1 x2 x3 τ (1 : Int32)
def gX11_both_99 (σ : MS) (x0 : Int32) (x1 : UInt64) (x2 : UInt64) (x3 : Int32) (τ : MS) : Option MS := (gX11_isInfinite x1).bind (fun r32 => if r32 = 0 then (gX11_both_118 σ x0 x1 x2 x3 τ) else ((gX11_isZero x2).bind (fun r33 => if r33 = 0 then (gX11_both_118 σ x0 x1 x2 x3 τ) else (gX11_both_114 σ x0 x1 x2 x3 τ))))
def gX11_both_79 (σ : MS) (x0 : Int32) (x1 : UInt64) (x2 : UInt64) (x3 : Int32) (τ : MS) (s0 : Int32) : Option MS := gX11_both_218 σ x0 x1 x2 x3 τ s0
def gX11_both_78 (σ : MS) (x0 : Int32) (x1 : UInt64) (x2 : UInt64) (x3 : Int32) (τ : MS) : Option MS := gX11_both_79 σ x0 x1 x2 x3 τ (0 : Int32)
def gX11_both (σ : MS) (x0 : Int32) (x1 : UInt64) (x2 : UInt64) (x3 : Int32) : Option MS := if x0 = (9 : Int32) then ((gX11_isInfinite x1).bind (fun r10 => if r10 = 0 then (gX11_both_78 σ x0 x1 x2 x3 σ) else ((gX11_isInfinite x2).bind (fun r11 => if r11 = 0 then (gX11_both_78 σ x0 x1 x2 x3 σ) else (if (Op.cmpValue (FP.dcmp x1 x2) CmpOp.l) = 0 then (gX11_both_78 σ x0 x1 x2 x3 σ) else (gX11_both_79 σ x0 x1 x2 x3 σ (1 : Int32))))))) else (if x0 = (11 : Int32) then ((gX11_isZero x1).bind (fun r8 => if r8 = 0 then (gX11_both_99 σ x0 x1 x2 x3 σ) else ((gX11_isInfinite x2).bind (fun r9 => if r9 = 0 then (gX11_both_99 σ x0 x1 x2 x3 σ) else (gX11_both_114 σ x0 x1 x2 x3 σ))))) else (if x0 = (12 : Int32) then ((gX11_isZero x1).bind (fun r6 => if r6 = 0 then (gX11_both_139 σ x0 x1 x2 x3 σ) else ((gX11_isZero x2).bind (fun r7 => if r7 = 0 then (gX11_both_139 σ x0 x1 x2 x3 σ) else (gX11_both_154 σ x0 x1 x2 x3 σ))))) else (if x0 = (13 : Int32) then ((gX11_isZero x2).bind (fun r4 => if r4 = 0 then ((gX11_isInfinite x1).bind (fun r5 => if r5 = 0 then (gX11_both_184 σ x0 x1 x2 x3 σ (0 : Int32)) else (gX11_both_179 σ x0 x1 x2 x3 σ))) else (gX11_both_179 σ x0 x1 x2 x3 σ))) else (if x0 = (26 : Int32) then ((gX11_isZero x2).bind (fun r2 => if r2 = 0 then ((gX11_isInfinite x2).bind (fun r3 => if r3 = 0 then (gX11_both_210 σ x0 x1 x2 x3 σ (0 : Int32)) else (gX11_both_205 σ x0 x1 x2 x3 σ))) else (gX11_both_205 σ x0 x1 x2 x3 σ))) else (gX11_both_218 σ x0 x1 x2 x3 σ (0 : Int32))))))
theorem hd_X11_both : yX11_both.cls ≠ "java/lang/invoke/MethodHandle" ∧ yX11_both.cls ≠ "java/lang/invoke/VarHandle" ∧ (parseMethodDescriptor yX11_both.desc).map (fun d => d.parameters.length) = some 4 := by decide +kernel
set_option maxHeartbeats 4000000 in
set_option maxRecDepth 100000 in
theorem tX11_both {G : GG} {l : Launch} {z N : Nat} {b : Nat → va_E} (hN : 86 ≤ N) (σ : MS) (x0 : Int32) (x1 : UInt64) (x2 : UInt64) (x3 : Int32) {r : MS} (hg : gX11_both σ x0 x1 x2 x3 = some r) : Ct G l yX11_both cX11_both 8 none ({ frames := 3, cells := 0, slots := 0, locals := 69 } : Room) [.ref (z + 71), .int x0, .double x1, .double x2, .int x3] z (ctM G z b σ) N none (ctM G z b r) N := by
  refine Ct.of (lv := [(0, .ref (z + 71)), (1, .int x0), (2, .double x1), (4, .double x2), (6, .int x3)]) (by decide +kernel) (Nat.le_of_ble_eq_true rfl) rfl (fun p e s m args below meth c C => ?_)
  have L_419 : ∀ (τ : MS) (s0 : UInt64), gX11_both_419 σ x0 x1 x2 x3 τ s0 = some r → J G p l e ({ frames := 3, cells := 0, slots := 0, locals := 69 } : Room) s m args below meth c z 8 (MQ below (Qd G z none (ctM G z b r) N) args s 0 0 (zA z)) (ctM G z b τ) N 0 0 419 [] [.double s0, .ref (z + 71)] := by
    intro τ s0 hg
    rw [gX11_both_419] at hg
    obtain ⟨r34, hr34, hg⟩ := ob hg
    refine j_callV C [.double s0] (tX11_gives hN τ s0 hr34) (Nat.lt_of_lt_of_le (by decide) hN) cq_obj rfl q4_21 q1_6 q4_20 qp_31 q4_18 hd_X11_gives rfl dX11_both_419 rfl (Nat.le_of_ble_eq_true rfl) ⟨(Nat.le_of_ble_eq_true rfl), (Nat.le_of_ble_eq_true rfl)⟩ ⟨(Nat.le_of_ble_eq_true rfl), (Nat.le_of_ble_eq_true rfl)⟩ ?_
    refine j_goto C 448 dX11_both_422 (by decide) ?_
    exact j_vret C dX11_both_448 rfl (by rw [← Option.some.inj hg]) rfl
  have L_394 : ∀ (τ : MS) (s0 : UInt64), gX11_both_394 σ x0 x1 x2 x3 τ s0 = some r → J G p l e ({ frames := 3, cells := 0, slots := 0, locals := 69 } : Room) s m args below meth c z 8 (MQ below (Qd G z none (ctM G z b r) N) args s 0 0 (zA z)) (ctM G z b τ) N 0 0 394 [] [.double s0, .ref (z + 71)] := by
    intro τ s0 hg
    rw [gX11_both_394] at hg
    obtain ⟨r35, hr35, hg⟩ := ob hg
    refine j_callV C [.double s0] (tX11_gives hN τ s0 hr35) (Nat.lt_of_lt_of_le (by decide) hN) cq_obj rfl q4_21 q1_6 q4_20 qp_31 q4_18 hd_X11_gives rfl dX11_both_394 rfl (Nat.le_of_ble_eq_true rfl) ⟨(Nat.le_of_ble_eq_true rfl), (Nat.le_of_ble_eq_true rfl)⟩ ⟨(Nat.le_of_ble_eq_true rfl), (Nat.le_of_ble_eq_true rfl)⟩ ?_
    refine j_goto C 448 dX11_both_397 (by decide) ?_
    exact j_vret C dX11_both_448 rfl (by rw [← Option.some.inj hg]) rfl
  have L_372 : ∀ (τ : MS) (s0 : UInt64), gX11_both_372 σ x0 x1 x2 x3 τ s0 = some r → J G p l e ({ frames := 3, cells := 0, slots := 0, locals := 69 } : Room) s m args below meth c z 8 (MQ below (Qd G z none (ctM G z b r) N) args s 0 0 (zA z)) (ctM G z b τ) N 0 0 372 [] [.double s0, .ref (z + 71)] := by
    intro τ s0 hg
    rw [gX11_both_372] at hg
    obtain ⟨r36, hr36, hg⟩ := ob hg
    refine j_callV C [.double s0] (tX11_gives hN τ s0 hr36) (Nat.lt_of_lt_of_le (by decide) hN) cq_obj rfl q4_21 q1_6 q4_20 qp_31 q4_18 hd_X11_gives rfl dX11_both_372 rfl (Nat.le_of_ble_eq_true rfl) ⟨(Nat.le_of_ble_eq_true rfl), (Nat.le_of_ble_eq_true rfl)⟩ ⟨(Nat.le_of_ble_eq_true rfl), (Nat.le_of_ble_eq_true rfl)⟩ ?_
    refine j_goto C 448 dX11_both_375 (by decide) ?_
    exact j_vret C dX11_both_448 rfl (by rw [← Option.some.inj hg]) rfl
  have L_350 : ∀ (τ : MS) (s0 : UInt64), gX11_both_350 σ x0 x1 x2 x3 τ s0 = some r → J G p l e ({ frames := 3, cells := 0, slots := 0, locals := 69 } : Room) s m args below meth c z 8 (MQ below (Qd G z none (ctM G z b r) N) args s 0 0 (zA z)) (ctM G z b τ) N 0 0 350 [] [.double s0, .ref (z + 71)] := by
    intro τ s0 hg
    rw [gX11_both_350] at hg
    obtain ⟨r37, hr37, hg⟩ := ob hg
    refine j_callV C [.double s0] (tX11_gives hN τ s0 hr37) (Nat.lt_of_lt_of_le (by decide) hN) cq_obj rfl q4_21 q1_6 q4_20 qp_31 q4_18 hd_X11_gives rfl dX11_both_350 rfl (Nat.le_of_ble_eq_true rfl) ⟨(Nat.le_of_ble_eq_true rfl), (Nat.le_of_ble_eq_true rfl)⟩ ⟨(Nat.le_of_ble_eq_true rfl), (Nat.le_of_ble_eq_true rfl)⟩ ?_
    refine j_goto C 448 dX11_both_353 (by decide) ?_
    exact j_vret C dX11_both_448 rfl (by rw [← Option.some.inj hg]) rfl
  have L_218 : ∀ (τ : MS) (v7 : Int32), gX11_both_218 σ x0 x1 x2 x3 τ v7 = some r → J G p l e ({ frames := 3, cells := 0, slots := 0, locals := 69 } : Room) s m args below meth c z 8 (MQ below (Qd G z none (ctM G z b r) N) args s 0 0 (zA z)) (ctM G z b τ) N 0 0 218 [(0, .ref (z + 71)), (1, .int x0), (2, .double x1), (4, .double x2), (6, .int x3), (7, .int v7)] [] := by
    intro τ v7 hg
    rw [gX11_both_218] at hg
    refine j_iload C dX11_both_218 5 rfl ?_
    refine j_if_eq C 228 hg dX11_both_220 (by decide) (fun hg => ?_) (fun hg => ?_)
    · refine j_iload_n C dX11_both_228 1 rfl rfl ?_
      by_cases c12_0 : x0 = (9 : Int32)
      · replace hg := (if_pos c12_0).symm.trans hg
        refine j_tableIn (off := 47) C 276 dX11_both_229 (by rw [c12_0]; decide) (by rw [c12_0]; decide) (by rw [c12_0]; rfl) (by decide) ?_
        refine j_aload_n C dX11_both_276 0 rfl rfl ?_
        refine j_dload_n C dX11_both_277 2 rfl rfl ?_
        refine j_dload C dX11_both_278 3 rfl ?_
        refine j_iload C dX11_both_280 4 rfl ?_
        obtain ⟨r27, hr27, hg⟩ := ob hg
        refine j_callS C [.double x1, .double x2, .int x3] (tX11_sum x1 x2 x3 hr27) q4_59 q1_6 q4_58 q4_57 hd_X11_sum rfl dX11_both_282 rfl (Nat.le_of_ble_eq_true rfl) ⟨(Nat.le_of_ble_eq_true rfl), (Nat.le_of_ble_eq_true rfl)⟩ ⟨(Nat.le_of_ble_eq_true rfl), (Nat.le_of_ble_eq_true rfl)⟩ ?_
        obtain ⟨r28, hr28, hg⟩ := ob hg
        refine j_callV C [.double r27] (tX11_gives hN τ r27 hr28) (Nat.lt_of_lt_of_le (by decide) hN) cq_obj rfl q4_21 q1_6 q4_20 qp_31 q4_18 hd_X11_gives rfl dX11_both_285 rfl (Nat.le_of_ble_eq_true rfl) ⟨(Nat.le_of_ble_eq_true rfl), (Nat.le_of_ble_eq_true rfl)⟩ ⟨(Nat.le_of_ble_eq_true rfl), (Nat.le_of_ble_eq_true rfl)⟩ ?_
        refine j_goto C 448 dX11_both_288 (by decide) ?_
        exact j_vret C dX11_both_448 rfl (by rw [← Option.some.inj hg]) rfl
      · replace hg := (if_neg c12_0).symm.trans hg
        by_cases c12_1 : x0 = (10 : Int32)
        · replace hg := (if_pos c12_1).symm.trans hg
          refine j_tableIn (off := 62) C 291 dX11_both_229 (by rw [c12_1]; decide) (by rw [c12_1]; decide) (by rw [c12_1]; rfl) (by decide) ?_
          refine j_aload_n C dX11_both_291 0 rfl rfl ?_
          refine j_dload_n C dX11_both_292 2 rfl rfl ?_
          refine j_dload C dX11_both_293 3 rfl ?_
          refine j_iload C dX11_both_295 4 rfl ?_
          obtain ⟨r26, hr26, hg⟩ := ob hg
          refine j_callV C [.double x1, .double x2, .int x3] (tX11_difference hN τ x1 x2 x3 hr26) (Nat.lt_of_lt_of_le (by decide) hN) cq_obj rfl q4_63 q1_6 q4_62 qp_34 q4_60 hd_X11_difference rfl dX11_both_297 rfl (Nat.le_of_ble_eq_true rfl) ⟨(Nat.le_of_ble_eq_true rfl), (Nat.le_of_ble_eq_true rfl)⟩ ⟨(Nat.le_of_ble_eq_true rfl), (Nat.le_of_ble_eq_true rfl)⟩ ?_
          refine j_goto C 448 dX11_both_300 (by decide) ?_
          exact j_vret C dX11_both_448 rfl (by rw [← Option.some.inj hg]) rfl
        · replace hg := (if_neg c12_1).symm.trans hg
          by_cases c12_2 : x0 = (11 : Int32)
          · replace hg := (if_pos c12_2).symm.trans hg
            refine j_tableIn (off := 74) C 303 dX11_both_229 (by rw [c12_2]; decide) (by rw [c12_2]; decide) (by rw [c12_2]; rfl) (by decide) ?_
            refine j_aload_n C dX11_both_303 0 rfl rfl ?_
            refine j_dload_n C dX11_both_304 2 rfl rfl ?_
            refine j_dload C dX11_both_305 3 rfl ?_
            refine j_iload C dX11_both_307 4 rfl ?_
            obtain ⟨r24, hr24, hg⟩ := ob hg
            refine j_callS C [.double x1, .double x2, .int x3] (tX11_product x1 x2 x3 hr24) q4_45 q1_6 q4_44 q4_43 hd_X11_product rfl dX11_both_309 rfl (Nat.le_of_ble_eq_true rfl) ⟨(Nat.le_of_ble_eq_true rfl), (Nat.le_of_ble_eq_true rfl)⟩ ⟨(Nat.le_of_ble_eq_true rfl), (Nat.le_of_ble_eq_true rfl)⟩ ?_
            obtain ⟨r25, hr25, hg⟩ := ob hg
            refine j_callV C [.double r24] (tX11_gives hN τ r24 hr25) (Nat.lt_of_lt_of_le (by decide) hN) cq_obj rfl q4_21 q1_6 q4_20 qp_31 q4_18 hd_X11_gives rfl dX11_both_312 rfl (Nat.le_of_ble_eq_true rfl) ⟨(Nat.le_of_ble_eq_true rfl), (Nat.le_of_ble_eq_true rfl)⟩ ⟨(Nat.le_of_ble_eq_true rfl), (Nat.le_of_ble_eq_true rfl)⟩ ?_
            refine j_goto C 448 dX11_both_315 (by decide) ?_
            exact j_vret C dX11_both_448 rfl (by rw [← Option.some.inj hg]) rfl
          · replace hg := (if_neg c12_2).symm.trans hg
            by_cases c12_3 : x0 = (12 : Int32)
            · replace hg := (if_pos c12_3).symm.trans hg
              refine j_tableIn (off := 89) C 318 dX11_both_229 (by rw [c12_3]; decide) (by rw [c12_3]; decide) (by rw [c12_3]; rfl) (by decide) ?_
              refine j_aload_n C dX11_both_318 0 rfl rfl ?_
              refine j_dload_n C dX11_both_319 2 rfl rfl ?_
              refine j_dload C dX11_both_320 3 rfl ?_
              refine j_iload C dX11_both_322 4 rfl ?_
              obtain ⟨r22, hr22, hg⟩ := ob hg
              refine j_callS C [.double x1, .double x2, .int x3] (tX11_quotient x1 x2 x3 hr22) q4_42 q1_6 q4_41 q4_40 hd_X11_quotient rfl dX11_both_324 rfl (Nat.le_of_ble_eq_true rfl) ⟨(Nat.le_of_ble_eq_true rfl), (Nat.le_of_ble_eq_true rfl)⟩ ⟨(Nat.le_of_ble_eq_true rfl), (Nat.le_of_ble_eq_true rfl)⟩ ?_
              obtain ⟨r23, hr23, hg⟩ := ob hg
              refine j_callV C [.double r22] (tX11_gives hN τ r22 hr23) (Nat.lt_of_lt_of_le (by decide) hN) cq_obj rfl q4_21 q1_6 q4_20 qp_31 q4_18 hd_X11_gives rfl dX11_both_327 rfl (Nat.le_of_ble_eq_true rfl) ⟨(Nat.le_of_ble_eq_true rfl), (Nat.le_of_ble_eq_true rfl)⟩ ⟨(Nat.le_of_ble_eq_true rfl), (Nat.le_of_ble_eq_true rfl)⟩ ?_
              refine j_goto C 448 dX11_both_330 (by decide) ?_
              exact j_vret C dX11_both_448 rfl (by rw [← Option.some.inj hg]) rfl
            · replace hg := (if_neg c12_3).symm.trans hg
              by_cases c12_4 : x0 = (13 : Int32)
              · replace hg := (if_pos c12_4).symm.trans hg
                refine j_tableIn (off := 104) C 333 dX11_both_229 (by rw [c12_4]; decide) (by rw [c12_4]; decide) (by rw [c12_4]; rfl) (by decide) ?_
                refine j_aload_n C dX11_both_333 0 rfl rfl ?_
                refine j_dload C dX11_both_334 3 rfl ?_
                obtain ⟨r21, hr21, hg⟩ := ob hg
                refine j_callS C [.double x2] (tX11_isInfinite x2 hr21) q4_56 q1_6 q4_55 q4_54 hd_X11_isInfinite rfl dX11_both_336 rfl (Nat.le_of_ble_eq_true rfl) ⟨(Nat.le_of_ble_eq_true rfl), (Nat.le_of_ble_eq_true rfl)⟩ ⟨(Nat.le_of_ble_eq_true rfl), (Nat.le_of_ble_eq_true rfl)⟩ ?_
                refine j_if_eq C 346 hg dX11_both_339 (by decide) (fun hg => ?_) (fun hg => ?_)
                · refine j_dload_n C dX11_both_346 2 rfl rfl ?_
                  refine j_dload C dX11_both_347 3 rfl ?_
                  refine j_drem C hg dX11_both_349 (fun hg => ?_)
                  exact j_re [] rfl (L_350 τ (FP.drem x1 x2) hg)
                · refine j_dload_n C dX11_both_342 2 rfl rfl ?_
                  refine j_goto C 350 dX11_both_343 (by decide) ?_
                  exact j_re [] rfl (L_350 τ x1 hg)
              · replace hg := (if_neg c12_4).symm.trans hg
                by_cases c12_5 : x0 = (14 : Int32)
                · replace hg := (if_pos c12_5).symm.trans hg
                  refine j_tableIn (off := 127) C 356 dX11_both_229 (by rw [c12_5]; decide) (by rw [c12_5]; decide) (by rw [c12_5]; rfl) (by decide) ?_
                  refine j_aload_n C dX11_both_356 0 rfl rfl ?_
                  refine j_dload C dX11_both_357 3 rfl ?_
                  refine j_dload_n C dX11_both_359 2 rfl rfl ?_
                  obtain ⟨r20, hr20, hg⟩ := ob hg
                  refine j_callS C [.double x2, .double x1] (tX11_isLower x2 x1 hr20) q4_66 q1_6 q4_65 q4_64 hd_X11_isLower rfl dX11_both_360 rfl (Nat.le_of_ble_eq_true rfl) ⟨(Nat.le_of_ble_eq_true rfl), (Nat.le_of_ble_eq_true rfl)⟩ ⟨(Nat.le_of_ble_eq_true rfl), (Nat.le_of_ble_eq_true rfl)⟩ ?_
                  refine j_if_eq C 371 hg dX11_both_363 (by decide) (fun hg => ?_) (fun hg => ?_)
                  · refine j_dload_n C dX11_both_371 2 rfl rfl ?_
                    exact j_re [] rfl (L_372 τ x1 hg)
                  · refine j_dload C dX11_both_366 3 rfl ?_
                    refine j_goto C 372 dX11_both_368 (by decide) ?_
                    exact j_re [] rfl (L_372 τ x2 hg)
                · replace hg := (if_neg c12_5).symm.trans hg
                  by_cases c12_6 : x0 = (15 : Int32)
                  · replace hg := (if_pos c12_6).symm.trans hg
                    refine j_tableIn (off := 149) C 378 dX11_both_229 (by rw [c12_6]; decide) (by rw [c12_6]; decide) (by rw [c12_6]; rfl) (by decide) ?_
                    refine j_aload_n C dX11_both_378 0 rfl rfl ?_
                    refine j_dload_n C dX11_both_379 2 rfl rfl ?_
                    refine j_dload C dX11_both_380 3 rfl ?_
                    obtain ⟨r19, hr19, hg⟩ := ob hg
                    refine j_callS C [.double x1, .double x2] (tX11_isLower x1 x2 hr19) q4_66 q1_6 q4_65 q4_64 hd_X11_isLower rfl dX11_both_382 rfl (Nat.le_of_ble_eq_true rfl) ⟨(Nat.le_of_ble_eq_true rfl), (Nat.le_of_ble_eq_true rfl)⟩ ⟨(Nat.le_of_ble_eq_true rfl), (Nat.le_of_ble_eq_true rfl)⟩ ?_
                    refine j_if_eq C 393 hg dX11_both_385 (by decide) (fun hg => ?_) (fun hg => ?_)
                    · refine j_dload_n C dX11_both_393 2 rfl rfl ?_
                      exact j_re [] rfl (L_394 τ x1 hg)
                    · refine j_dload C dX11_both_388 3 rfl ?_
                      refine j_goto C 394 dX11_both_390 (by decide) ?_
                      exact j_re [] rfl (L_394 τ x2 hg)
                  · replace hg := (if_neg c12_6).symm.trans hg
                    by_cases c12_7 : x0 = (16 : Int32)
                    · replace hg := (if_pos c12_7).symm.trans hg
                      refine j_tableIn (off := 171) C 400 dX11_both_229 (by rw [c12_7]; decide) (by rw [c12_7]; decide) (by rw [c12_7]; rfl) (by decide) ?_
                      refine j_aload_n C dX11_both_400 0 rfl rfl ?_
                      refine j_dload_n C dX11_both_401 2 rfl rfl ?_
                      obtain ⟨r17, hr17, hg⟩ := ob hg
                      refine j_callS C [.double x1] (tX11_hasMinus x1 hr17) q4_24 q1_6 q4_23 q4_22 hd_X11_hasMinus rfl dX11_both_402 rfl (Nat.le_of_ble_eq_true rfl) ⟨(Nat.le_of_ble_eq_true rfl), (Nat.le_of_ble_eq_true rfl)⟩ ⟨(Nat.le_of_ble_eq_true rfl), (Nat.le_of_ble_eq_true rfl)⟩ ?_
                      refine j_dload C dX11_both_405 3 rfl ?_
                      obtain ⟨r18, hr18, hg⟩ := ob hg
                      refine j_callS C [.double x2] (tX11_hasMinus x2 hr18) q4_24 q1_6 q4_23 q4_22 hd_X11_hasMinus rfl dX11_both_407 rfl (Nat.le_of_ble_eq_true rfl) ⟨(Nat.le_of_ble_eq_true rfl), (Nat.le_of_ble_eq_true rfl)⟩ ⟨(Nat.le_of_ble_eq_true rfl), (Nat.le_of_ble_eq_true rfl)⟩ ?_
                      refine j_icmp_ne C 417 hg dX11_both_410 (by decide) (fun hg => ?_) (fun hg => ?_)
                      · refine j_dload_n C dX11_both_417 2 rfl rfl ?_
                        refine j_dneg C dX11_both_418 ?_
                        exact j_re [] rfl (L_419 τ (FP.dneg x1) hg)
                      · refine j_dload_n C dX11_both_413 2 rfl rfl ?_
                        refine j_goto C 419 dX11_both_414 (by decide) ?_
                        exact j_re [] rfl (L_419 τ x1 hg)
                    · replace hg := (if_neg c12_7).symm.trans hg
                      have ho : x0.toInt < 9 ∨ 16 < x0.toInt := by
                        by_cases ho : x0.toInt < 9 ∨ 16 < x0.toInt
                        · exact ho
                        · obtain ⟨k, hk, hx⟩ := sw_in ho
                          match k, hk, hx with
                          | 0, _, hx => exact absurd (Int32.toInt_inj.mp (hx.trans (by decide))) c12_0
                          | 1, _, hx => exact absurd (Int32.toInt_inj.mp (hx.trans (by decide))) c12_1
                          | 2, _, hx => exact absurd (Int32.toInt_inj.mp (hx.trans (by decide))) c12_2
                          | 3, _, hx => exact absurd (Int32.toInt_inj.mp (hx.trans (by decide))) c12_3
                          | 4, _, hx => exact absurd (Int32.toInt_inj.mp (hx.trans (by decide))) c12_4
                          | 5, _, hx => exact absurd (Int32.toInt_inj.mp (hx.trans (by decide))) c12_5
                          | 6, _, hx => exact absurd (Int32.toInt_inj.mp (hx.trans (by decide))) c12_6
                          | 7, _, hx => exact absurd (Int32.toInt_inj.mp (hx.trans (by decide))) c12_7
                          | k + 8, hk, _ => exact absurd hk (Nat.not_lt.mpr (Nat.le_add_left _ _))
                      refine j_tableOut C 425 dX11_both_229 ho (by decide) ?_
                      refine j_aload_n C dX11_both_425 0 rfl rfl ?_
                      refine j_dload_n C dX11_both_426 2 rfl rfl ?_
                      refine j_dload C dX11_both_427 3 rfl ?_
                      refine j_iload C dX11_both_429 4 rfl ?_
                      obtain ⟨r13, hr13, hg⟩ := ob hg
                      refine j_callS C [.double x1, .double x2, .int x3] (tX11_quotient x1 x2 x3 hr13) q4_42 q1_6 q4_41 q4_40 hd_X11_quotient rfl dX11_both_431 rfl (Nat.le_of_ble_eq_true rfl) ⟨(Nat.le_of_ble_eq_true rfl), (Nat.le_of_ble_eq_true rfl)⟩ ⟨(Nat.le_of_ble_eq_true rfl), (Nat.le_of_ble_eq_true rfl)⟩ ?_
                      refine j_iconst (v := 2) C dX11_both_434 (by decide) ?_
                      obtain ⟨r14, hr14, hg⟩ := ob hg
                      refine j_callS C [.double r13, .int (2 : Int32)] (tX11_whole r13 (2 : Int32) hr14) q4_30 q1_6 q4_29 q4_28 hd_X11_whole rfl dX11_both_435 rfl (Nat.le_of_ble_eq_true rfl) ⟨(Nat.le_of_ble_eq_true rfl), (Nat.le_of_ble_eq_true rfl)⟩ ⟨(Nat.le_of_ble_eq_true rfl), (Nat.le_of_ble_eq_true rfl)⟩ ?_
                      refine j_dload C dX11_both_438 3 rfl ?_
                      refine j_iload C dX11_both_440 4 rfl ?_
                      obtain ⟨r15, hr15, hg⟩ := ob hg
                      refine j_callS C [.double r14, .double x2, .int x3] (tX11_product r14 x2 x3 hr15) q4_45 q1_6 q4_44 q4_43 hd_X11_product rfl dX11_both_442 rfl (Nat.le_of_ble_eq_true rfl) ⟨(Nat.le_of_ble_eq_true rfl), (Nat.le_of_ble_eq_true rfl)⟩ ⟨(Nat.le_of_ble_eq_true rfl), (Nat.le_of_ble_eq_true rfl)⟩ ?_
                      obtain ⟨r16, hr16, hg⟩ := ob hg
                      refine j_callV C [.double r15] (tX11_gives hN τ r15 hr16) (Nat.lt_of_lt_of_le (by decide) hN) cq_obj rfl q4_21 q1_6 q4_20 qp_31 q4_18 hd_X11_gives rfl dX11_both_445 rfl (Nat.le_of_ble_eq_true rfl) ⟨(Nat.le_of_ble_eq_true rfl), (Nat.le_of_ble_eq_true rfl)⟩ ⟨(Nat.le_of_ble_eq_true rfl), (Nat.le_of_ble_eq_true rfl)⟩ ?_
                      exact j_vret C dX11_both_448 rfl (by rw [← Option.some.inj hg]) rfl
    · refine j_aload_n C dX11_both_223 0 rfl rfl ?_
      obtain ⟨r29, hr29, hg⟩ := ob hg
      refine j_callV C [] (tX11_givesNothing hN τ  hr29) (Nat.lt_of_lt_of_le (by decide) hN) cq_obj rfl q4_9 q1_6 q4_8 qp_28 q4_6 hd_X11_givesNothing rfl dX11_both_224 rfl (Nat.le_of_ble_eq_true rfl) ⟨(Nat.le_of_ble_eq_true rfl), (Nat.le_of_ble_eq_true rfl)⟩ ⟨(Nat.le_of_ble_eq_true rfl), (Nat.le_of_ble_eq_true rfl)⟩ ?_
      exact j_vret C dX11_both_227 rfl (by rw [← Option.some.inj hg]) rfl
  have L_210 : ∀ (τ : MS) (s0 : Int32), gX11_both_210 σ x0 x1 x2 x3 τ s0 = some r → J G p l e ({ frames := 3, cells := 0, slots := 0, locals := 69 } : Room) s m args below meth c z 8 (MQ below (Qd G z none (ctM G z b r) N) args s 0 0 (zA z)) (ctM G z b τ) N 0 0 210 [(0, .ref (z + 71)), (1, .int x0), (2, .double x1), (4, .double x2), (6, .int x3)] [.int s0] := by
    intro τ s0 hg
    rw [gX11_both_210] at hg
    refine j_istore C [(7, .int s0), (0, .ref (z + 71)), (1, .int x0), (2, .double x1), (4, .double x2), (6, .int x3)] dX11_both_210 (by decide) rfl ?_
    refine j_goto C 218 dX11_both_212 (by decide) ?_
    exact j_re [1, 2, 3, 4, 5, 0] rfl (L_218 τ s0 hg)
  have L_205 : ∀ (τ : MS), gX11_both_205 σ x0 x1 x2 x3 τ = some r → J G p l e ({ frames := 3, cells := 0, slots := 0, locals := 69 } : Room) s m args below meth c z 8 (MQ below (Qd G z none (ctM G z b r) N) args s 0 0 (zA z)) (ctM G z b τ) N 0 0 205 [(0, .ref (z + 71)), (1, .int x0), (2, .double x1), (4, .double x2), (6, .int x3)] [] := by
    intro τ hg
    rw [gX11_both_205] at hg
    refine j_iconst (v := 1) C dX11_both_205 (by decide) ?_
    refine j_goto C 210 dX11_both_206 (by decide) ?_
    exact L_210 τ (1 : Int32) hg
  have L_184 : ∀ (τ : MS) (s0 : Int32), gX11_both_184 σ x0 x1 x2 x3 τ s0 = some r → J G p l e ({ frames := 3, cells := 0, slots := 0, locals := 69 } : Room) s m args below meth c z 8 (MQ below (Qd G z none (ctM G z b r) N) args s 0 0 (zA z)) (ctM G z b τ) N 0 0 184 [(0, .ref (z + 71)), (1, .int x0), (2, .double x1), (4, .double x2), (6, .int x3)] [.int s0] := by
    intro τ s0 hg
    rw [gX11_both_184] at hg
    refine j_istore C [(7, .int s0), (0, .ref (z + 71)), (1, .int x0), (2, .double x1), (4, .double x2), (6, .int x3)] dX11_both_184 (by decide) rfl ?_
    refine j_goto C 218 dX11_both_186 (by decide) ?_
    exact j_re [1, 2, 3, 4, 5, 0] rfl (L_218 τ s0 hg)
  have L_179 : ∀ (τ : MS), gX11_both_179 σ x0 x1 x2 x3 τ = some r → J G p l e ({ frames := 3, cells := 0, slots := 0, locals := 69 } : Room) s m args below meth c z 8 (MQ below (Qd G z none (ctM G z b r) N) args s 0 0 (zA z)) (ctM G z b τ) N 0 0 179 [(0, .ref (z + 71)), (1, .int x0), (2, .double x1), (4, .double x2), (6, .int x3)] [] := by
    intro τ hg
    rw [gX11_both_179] at hg
    refine j_iconst (v := 1) C dX11_both_179 (by decide) ?_
    refine j_goto C 184 dX11_both_180 (by decide) ?_
    exact L_184 τ (1 : Int32) hg
  have L_159 : ∀ (τ : MS) (s0 : Int32), gX11_both_159 σ x0 x1 x2 x3 τ s0 = some r → J G p l e ({ frames := 3, cells := 0, slots := 0, locals := 69 } : Room) s m args below meth c z 8 (MQ below (Qd G z none (ctM G z b r) N) args s 0 0 (zA z)) (ctM G z b τ) N 0 0 159 [(0, .ref (z + 71)), (1, .int x0), (2, .double x1), (4, .double x2), (6, .int x3)] [.int s0] := by
    intro τ s0 hg
    rw [gX11_both_159] at hg
    refine j_istore C [(7, .int s0), (0, .ref (z + 71)), (1, .int x0), (2, .double x1), (4, .double x2), (6, .int x3)] dX11_both_159 (by decide) rfl ?_
    refine j_goto C 218 dX11_both_161 (by decide) ?_
    exact j_re [1, 2, 3, 4, 5, 0] rfl (L_218 τ s0 hg)
  have L_158 : ∀ (τ : MS), gX11_both_158 σ x0 x1 x2 x3 τ = some r → J G p l e ({ frames := 3, cells := 0, slots := 0, locals := 69 } : Room) s m args below meth c z 8 (MQ below (Qd G z none (ctM G z b r) N) args s 0 0 (zA z)) (ctM G z b τ) N 0 0 158 [(0, .ref (z + 71)), (1, .int x0), (2, .double x1), (4, .double x2), (6, .int x3)] [] := by
    intro τ hg
    rw [gX11_both_158] at hg
    refine j_iconst (v := 0) C dX11_both_158 (by decide) ?_
    exact L_159 τ (0 : Int32) hg
  have L_154 : ∀ (τ : MS), gX11_both_154 σ x0 x1 x2 x3 τ = some r → J G p l e ({ frames := 3, cells := 0, slots := 0, locals := 69 } : Room) s m args below meth c z 8 (MQ below (Qd G z none (ctM G z b r) N) args s 0 0 (zA z)) (ctM G z b τ) N 0 0 154 [(0, .ref (z + 71)), (1, .int x0), (2, .double x1), (4, .double x2), (6, .int x3)] [] := by
    intro τ hg
    rw [gX11_both_154] at hg
    refine j_iconst (v := 1) C dX11_both_154 (by decide) ?_
    refine j_goto C 159 dX11_both_155 (by decide) ?_
    exact L_159 τ (1 : Int32) hg
  have L_139 : ∀ (τ : MS), gX11_both_139 σ x0 x1 x2 x3 τ = some r → J G p l e ({ frames := 3, cells := 0, slots := 0, locals := 69 } : Room) s m args below meth c z 8 (MQ below (Qd G z none (ctM G z b r) N) args s 0 0 (zA z)) (ctM G z b τ) N 0 0 139 [(0, .ref (z + 71)), (1, .int x0), (2, .double x1), (4, .double x2), (6, .int x3)] [] := by
    intro τ hg
    rw [gX11_both_139] at hg
    refine j_dload_n C dX11_both_139 2 rfl rfl ?_
    obtain ⟨r30, hr30, hg⟩ := ob hg
    refine j_callS C [.double x1] (tX11_isInfinite x1 hr30) q4_56 q1_6 q4_55 q4_54 hd_X11_isInfinite rfl dX11_both_140 rfl (Nat.le_of_ble_eq_true rfl) ⟨(Nat.le_of_ble_eq_true rfl), (Nat.le_of_ble_eq_true rfl)⟩ ⟨(Nat.le_of_ble_eq_true rfl), (Nat.le_of_ble_eq_true rfl)⟩ ?_
    refine j_if_eq C 158 hg dX11_both_143 (by decide) (fun hg => ?_) (fun hg => ?_)
    · exact L_158 τ hg
    · refine j_dload C dX11_both_146 3 rfl ?_
      obtain ⟨r31, hr31, hg⟩ := ob hg
      refine j_callS C [.double x2] (tX11_isInfinite x2 hr31) q4_56 q1_6 q4_55 q4_54 hd_X11_isInfinite rfl dX11_both_148 rfl (Nat.le_of_ble_eq_true rfl) ⟨(Nat.le_of_ble_eq_true rfl), (Nat.le_of_ble_eq_true rfl)⟩ ⟨(Nat.le_of_ble_eq_true rfl), (Nat.le_of_ble_eq_true rfl)⟩ ?_
      refine j_if_eq C 158 hg dX11_both_151 (by decide) (fun hg => ?_) (fun hg => ?_)
      · exact L_158 τ hg
      · exact L_154 τ hg
  have L_119 : ∀ (τ : MS) (s0 : Int32), gX11_both_119 σ x0 x1 x2 x3 τ s0 = some r → J G p l e ({ frames := 3, cells := 0, slots := 0, locals := 69 } : Room) s m args below meth c z 8 (MQ below (Qd G z none (ctM G z b r) N) args s 0 0 (zA z)) (ctM G z b τ) N 0 0 119 [(0, .ref (z + 71)), (1, .int x0), (2, .double x1), (4, .double x2), (6, .int x3)] [.int s0] := by
    intro τ s0 hg
    rw [gX11_both_119] at hg
    refine j_istore C [(7, .int s0), (0, .ref (z + 71)), (1, .int x0), (2, .double x1), (4, .double x2), (6, .int x3)] dX11_both_119 (by decide) rfl ?_
    refine j_goto C 218 dX11_both_121 (by decide) ?_
    exact j_re [1, 2, 3, 4, 5, 0] rfl (L_218 τ s0 hg)
  have L_118 : ∀ (τ : MS), gX11_both_118 σ x0 x1 x2 x3 τ = some r → J G p l e ({ frames := 3, cells := 0, slots := 0, locals := 69 } : Room) s m args below meth c z 8 (MQ below (Qd G z none (ctM G z b r) N) args s 0 0 (zA z)) (ctM G z b τ) N 0 0 118 [(0, .ref (z + 71)), (1, .int x0), (2, .double x1), (4, .double x2), (6, .int x3)] [] := by
    intro τ hg
    rw [gX11_both_118] at hg
    refine j_iconst (v := 0) C dX11_both_118 (by decide) ?_
    exact L_119 τ (0 : Int32) hg
  have L_114 : ∀ (τ : MS), gX11_both_114 σ x0 x1 x2 x3 τ = some r → J G p l e ({ frames := 3, cells := 0, slots := 0, locals := 69 } : Room) s m args below meth c z 8 (MQ below (Qd G z none (ctM G z b r) N) args s 0 0 (zA z)) (ctM G z b τ) N 0 0 114 [(0, .ref (z + 71)), (1, .int x0), (2, .double x1), (4, .double x2), (6, .int x3)] [] := by
    intro τ hg
    rw [gX11_both_114] at hg
    refine j_iconst (v := 1) C dX11_both_114 (by decide) ?_
    refine j_goto C 119 dX11_both_115 (by decide) ?_
    exact L_119 τ (1 : Int32) hg
  have L_99 : ∀ (τ : MS), gX11_both_99 σ x0 x1 x2 x3 τ = some r → J G p l e ({ frames := 3, cells := 0, slots := 0, locals := 69 } : Room) s m args below meth c z 8 (MQ below (Qd G z none (ctM G z b r) N) args s 0 0 (zA z)) (ctM G z b τ) N 0 0 99 [(0, .ref (z + 71)), (1, .int x0), (2, .double x1), (4, .double x2), (6, .int x3)] [] := by
    intro τ hg
    rw [gX11_both_99] at hg
    refine j_dload_n C dX11_both_99 2 rfl rfl ?_
    obtain ⟨r32, hr32, hg⟩ := ob hg
    refine j_callS C [.double x1] (tX11_isInfinite x1 hr32) q4_56 q1_6 q4_55 q4_54 hd_X11_isInfinite rfl dX11_both_100 rfl (Nat.le_of_ble_eq_true rfl) ⟨(Nat.le_of_ble_eq_true rfl), (Nat.le_of_ble_eq_true rfl)⟩ ⟨(Nat.le_of_ble_eq_true rfl), (Nat.le_of_ble_eq_true rfl)⟩ ?_
    refine j_if_eq C 118 hg dX11_both_103 (by decide) (fun hg => ?_) (fun hg => ?_)
    · exact L_118 τ hg
    · refine j_dload C dX11_both_106 3 rfl ?_
      obtain ⟨r33, hr33, hg⟩ := ob hg
      refine j_callS C [.double x2] (tX11_isZero x2 hr33) q4_27 q1_6 q4_26 q4_25 hd_X11_isZero rfl dX11_both_108 rfl (Nat.le_of_ble_eq_true rfl) ⟨(Nat.le_of_ble_eq_true rfl), (Nat.le_of_ble_eq_true rfl)⟩ ⟨(Nat.le_of_ble_eq_true rfl), (Nat.le_of_ble_eq_true rfl)⟩ ?_
      refine j_if_eq C 118 hg dX11_both_111 (by decide) (fun hg => ?_) (fun hg => ?_)
      · exact L_118 τ hg
      · exact L_114 τ hg
  have L_79 : ∀ (τ : MS) (s0 : Int32), gX11_both_79 σ x0 x1 x2 x3 τ s0 = some r → J G p l e ({ frames := 3, cells := 0, slots := 0, locals := 69 } : Room) s m args below meth c z 8 (MQ below (Qd G z none (ctM G z b r) N) args s 0 0 (zA z)) (ctM G z b τ) N 0 0 79 [(0, .ref (z + 71)), (1, .int x0), (2, .double x1), (4, .double x2), (6, .int x3)] [.int s0] := by
    intro τ s0 hg
    rw [gX11_both_79] at hg
    refine j_istore C [(7, .int s0), (0, .ref (z + 71)), (1, .int x0), (2, .double x1), (4, .double x2), (6, .int x3)] dX11_both_79 (by decide) rfl ?_
    refine j_goto C 218 dX11_both_81 (by decide) ?_
    exact j_re [1, 2, 3, 4, 5, 0] rfl (L_218 τ s0 hg)
  have L_78 : ∀ (τ : MS), gX11_both_78 σ x0 x1 x2 x3 τ = some r → J G p l e ({ frames := 3, cells := 0, slots := 0, locals := 69 } : Room) s m args below meth c z 8 (MQ below (Qd G z none (ctM G z b r) N) args s 0 0 (zA z)) (ctM G z b τ) N 0 0 78 [(0, .ref (z + 71)), (1, .int x0), (2, .double x1), (4, .double x2), (6, .int x3)] [] := by
    intro τ hg
    rw [gX11_both_78] at hg
    refine j_iconst (v := 0) C dX11_both_78 (by decide) ?_
    exact L_79 τ (0 : Int32) hg
  rw [gX11_both] at hg
  refine j_iload_n C dX11_both_0 1 rfl rfl ?_
  by_cases c1_0 : x0 = (9 : Int32)
  · replace hg := (if_pos c1_0).symm.trans hg
    refine j_lookup (off := 51) C 52 dX11_both_1 (by decide) (by rw [c1_0]; rfl) (by decide) ?_
    refine j_dload_n C dX11_both_52 2 rfl rfl ?_
    obtain ⟨r10, hr10, hg⟩ := ob hg
    refine j_callS C [.double x1] (tX11_isInfinite x1 hr10) q4_56 q1_6 q4_55 q4_54 hd_X11_isInfinite rfl dX11_both_53 rfl (Nat.le_of_ble_eq_true rfl) ⟨(Nat.le_of_ble_eq_true rfl), (Nat.le_of_ble_eq_true rfl)⟩ ⟨(Nat.le_of_ble_eq_true rfl), (Nat.le_of_ble_eq_true rfl)⟩ ?_
    refine j_if_eq C 78 hg dX11_both_56 (by decide) (fun hg => ?_) (fun hg => ?_)
    · exact L_78 σ hg
    · refine j_dload C dX11_both_59 3 rfl ?_
      obtain ⟨r11, hr11, hg⟩ := ob hg
      refine j_callS C [.double x2] (tX11_isInfinite x2 hr11) q4_56 q1_6 q4_55 q4_54 hd_X11_isInfinite rfl dX11_both_61 rfl (Nat.le_of_ble_eq_true rfl) ⟨(Nat.le_of_ble_eq_true rfl), (Nat.le_of_ble_eq_true rfl)⟩ ⟨(Nat.le_of_ble_eq_true rfl), (Nat.le_of_ble_eq_true rfl)⟩ ?_
      refine j_if_eq C 78 hg dX11_both_64 (by decide) (fun hg => ?_) (fun hg => ?_)
      · exact L_78 σ hg
      · refine j_dload_n C dX11_both_67 2 rfl rfl ?_
        refine j_dload C dX11_both_68 3 rfl ?_
        refine j_dcmp C dX11_both_70 ?_
        refine j_if_eq C 78 hg dX11_both_71 (by decide) (fun hg => ?_) (fun hg => ?_)
        · exact L_78 σ hg
        · refine j_iconst (v := 1) C dX11_both_74 (by decide) ?_
          refine j_goto C 79 dX11_both_75 (by decide) ?_
          exact L_79 σ (1 : Int32) hg
  · replace hg := (if_neg c1_0).symm.trans hg
    by_cases c1_1 : x0 = (11 : Int32)
    · replace hg := (if_pos c1_1).symm.trans hg
      refine j_lookup (off := 83) C 84 dX11_both_1 (by decide) (by rw [c1_1]; rfl) (by decide) ?_
      refine j_dload_n C dX11_both_84 2 rfl rfl ?_
      obtain ⟨r8, hr8, hg⟩ := ob hg
      refine j_callS C [.double x1] (tX11_isZero x1 hr8) q4_27 q1_6 q4_26 q4_25 hd_X11_isZero rfl dX11_both_85 rfl (Nat.le_of_ble_eq_true rfl) ⟨(Nat.le_of_ble_eq_true rfl), (Nat.le_of_ble_eq_true rfl)⟩ ⟨(Nat.le_of_ble_eq_true rfl), (Nat.le_of_ble_eq_true rfl)⟩ ?_
      refine j_if_eq C 99 hg dX11_both_88 (by decide) (fun hg => ?_) (fun hg => ?_)
      · exact L_99 σ hg
      · refine j_dload C dX11_both_91 3 rfl ?_
        obtain ⟨r9, hr9, hg⟩ := ob hg
        refine j_callS C [.double x2] (tX11_isInfinite x2 hr9) q4_56 q1_6 q4_55 q4_54 hd_X11_isInfinite rfl dX11_both_93 rfl (Nat.le_of_ble_eq_true rfl) ⟨(Nat.le_of_ble_eq_true rfl), (Nat.le_of_ble_eq_true rfl)⟩ ⟨(Nat.le_of_ble_eq_true rfl), (Nat.le_of_ble_eq_true rfl)⟩ ?_
        refine j_if_ne C 114 hg dX11_both_96 (by decide) (fun hg => ?_) (fun hg => ?_)
        · exact L_114 σ hg
        · exact L_99 σ hg
    · replace hg := (if_neg c1_1).symm.trans hg
      by_cases c1_2 : x0 = (12 : Int32)
      · replace hg := (if_pos c1_2).symm.trans hg
        refine j_lookup (off := 123) C 124 dX11_both_1 (by decide) (by rw [c1_2]; rfl) (by decide) ?_
        refine j_dload_n C dX11_both_124 2 rfl rfl ?_
        obtain ⟨r6, hr6, hg⟩ := ob hg
        refine j_callS C [.double x1] (tX11_isZero x1 hr6) q4_27 q1_6 q4_26 q4_25 hd_X11_isZero rfl dX11_both_125 rfl (Nat.le_of_ble_eq_true rfl) ⟨(Nat.le_of_ble_eq_true rfl), (Nat.le_of_ble_eq_true rfl)⟩ ⟨(Nat.le_of_ble_eq_true rfl), (Nat.le_of_ble_eq_true rfl)⟩ ?_
        refine j_if_eq C 139 hg dX11_both_128 (by decide) (fun hg => ?_) (fun hg => ?_)
        · exact L_139 σ hg
        · refine j_dload C dX11_both_131 3 rfl ?_
          obtain ⟨r7, hr7, hg⟩ := ob hg
          refine j_callS C [.double x2] (tX11_isZero x2 hr7) q4_27 q1_6 q4_26 q4_25 hd_X11_isZero rfl dX11_both_133 rfl (Nat.le_of_ble_eq_true rfl) ⟨(Nat.le_of_ble_eq_true rfl), (Nat.le_of_ble_eq_true rfl)⟩ ⟨(Nat.le_of_ble_eq_true rfl), (Nat.le_of_ble_eq_true rfl)⟩ ?_
          refine j_if_ne C 154 hg dX11_both_136 (by decide) (fun hg => ?_) (fun hg => ?_)
          · exact L_154 σ hg
          · exact L_139 σ hg
      · replace hg := (if_neg c1_2).symm.trans hg
        by_cases c1_3 : x0 = (13 : Int32)
        · replace hg := (if_pos c1_3).symm.trans hg
          refine j_lookup (off := 163) C 164 dX11_both_1 (by decide) (by rw [c1_3]; rfl) (by decide) ?_
          refine j_dload C dX11_both_164 3 rfl ?_
          obtain ⟨r4, hr4, hg⟩ := ob hg
          refine j_callS C [.double x2] (tX11_isZero x2 hr4) q4_27 q1_6 q4_26 q4_25 hd_X11_isZero rfl dX11_both_166 rfl (Nat.le_of_ble_eq_true rfl) ⟨(Nat.le_of_ble_eq_true rfl), (Nat.le_of_ble_eq_true rfl)⟩ ⟨(Nat.le_of_ble_eq_true rfl), (Nat.le_of_ble_eq_true rfl)⟩ ?_
          refine j_if_ne C 179 hg dX11_both_169 (by decide) (fun hg => ?_) (fun hg => ?_)
          · exact L_179 σ hg
          · refine j_dload_n C dX11_both_172 2 rfl rfl ?_
            obtain ⟨r5, hr5, hg⟩ := ob hg
            refine j_callS C [.double x1] (tX11_isInfinite x1 hr5) q4_56 q1_6 q4_55 q4_54 hd_X11_isInfinite rfl dX11_both_173 rfl (Nat.le_of_ble_eq_true rfl) ⟨(Nat.le_of_ble_eq_true rfl), (Nat.le_of_ble_eq_true rfl)⟩ ⟨(Nat.le_of_ble_eq_true rfl), (Nat.le_of_ble_eq_true rfl)⟩ ?_
            refine j_if_eq C 183 hg dX11_both_176 (by decide) (fun hg => ?_) (fun hg => ?_)
            · refine j_iconst (v := 0) C dX11_both_183 (by decide) ?_
              exact L_184 σ (0 : Int32) hg
            · exact L_179 σ hg
        · replace hg := (if_neg c1_3).symm.trans hg
          by_cases c1_4 : x0 = (26 : Int32)
          · replace hg := (if_pos c1_4).symm.trans hg
            refine j_lookup (off := 188) C 189 dX11_both_1 (by decide) (by rw [c1_4]; rfl) (by decide) ?_
            refine j_dload C dX11_both_189 3 rfl ?_
            obtain ⟨r2, hr2, hg⟩ := ob hg
            refine j_callS C [.double x2] (tX11_isZero x2 hr2) q4_27 q1_6 q4_26 q4_25 hd_X11_isZero rfl dX11_both_191 rfl (Nat.le_of_ble_eq_true rfl) ⟨(Nat.le_of_ble_eq_true rfl), (Nat.le_of_ble_eq_true rfl)⟩ ⟨(Nat.le_of_ble_eq_true rfl), (Nat.le_of_ble_eq_true rfl)⟩ ?_
            refine j_if_ne C 205 hg dX11_both_194 (by decide) (fun hg => ?_) (fun hg => ?_)
            · exact L_205 σ hg
            · refine j_dload C dX11_both_197 3 rfl ?_
              obtain ⟨r3, hr3, hg⟩ := ob hg
              refine j_callS C [.double x2] (tX11_isInfinite x2 hr3) q4_56 q1_6 q4_55 q4_54 hd_X11_isInfinite rfl dX11_both_199 rfl (Nat.le_of_ble_eq_true rfl) ⟨(Nat.le_of_ble_eq_true rfl), (Nat.le_of_ble_eq_true rfl)⟩ ⟨(Nat.le_of_ble_eq_true rfl), (Nat.le_of_ble_eq_true rfl)⟩ ?_
              refine j_if_eq C 209 hg dX11_both_202 (by decide) (fun hg => ?_) (fun hg => ?_)
              · refine j_iconst (v := 0) C dX11_both_209 (by decide) ?_
                exact L_210 σ (0 : Int32) hg
              · exact L_205 σ hg
          · replace hg := (if_neg c1_4).symm.trans hg
            have nc1_0 : ¬ x0.toInt = 9 := fun h => c1_0 (Int32.toInt_inj.mp (h.trans (by decide)))
            have nc1_1 : ¬ x0.toInt = 11 := fun h => c1_1 (Int32.toInt_inj.mp (h.trans (by decide)))
            have nc1_2 : ¬ x0.toInt = 12 := fun h => c1_2 (Int32.toInt_inj.mp (h.trans (by decide)))
            have nc1_3 : ¬ x0.toInt = 13 := fun h => c1_3 (Int32.toInt_inj.mp (h.trans (by decide)))
            have nc1_4 : ¬ x0.toInt = 26 := fun h => c1_4 (Int32.toInt_inj.mp (h.trans (by decide)))
            refine j_lookup (off := 214) C 215 dX11_both_1 (by decide) (by simp only [Op.lookupswitch.offset, List.find?]; simp [Ne.symm nc1_0, nc1_0, Ne.symm nc1_1, nc1_1, Ne.symm nc1_2, nc1_2, Ne.symm nc1_3, nc1_3, Ne.symm nc1_4, nc1_4]) (by decide) ?_
            refine j_iconst (v := 0) C dX11_both_215 (by decide) ?_
            refine j_istore C [(7, .int (0 : Int32)), (0, .ref (z + 71)), (1, .int x0), (2, .double x1), (4, .double x2), (6, .int x3)] dX11_both_216 (by decide) rfl ?_
            exact j_re [1, 2, 3, 4, 5, 0] rfl (L_218 σ (0 : Int32) hg)

def gX11_x (σ : MS) (x0 : Int32) (x1 : Int32) : Option UInt64 := if ix (((4 : Int32) * x0) + (1 : Int32)) 48 then ((gX11_at (m_made σ (((4 : Int32) * x0) + (1 : Int32)).toNatClampNeg) x1).bind (fun r1 => if ix r1 200 then (if ix x0 12 then ((gX11_brought (m_now σ r1.toNatClampNeg) (m_narrow σ x0.toNatClampNeg)).bind (fun r2 => some r2)) else none) else none)) else none
theorem hd_X11_x : yX11_x.cls ≠ "java/lang/invoke/MethodHandle" ∧ yX11_x.cls ≠ "java/lang/invoke/VarHandle" ∧ (parseMethodDescriptor yX11_x.desc).map (fun d => d.parameters.length) = some 2 := by decide +kernel
set_option maxHeartbeats 4000000 in
set_option maxRecDepth 100000 in
theorem tX11_x {G : GG} {l : Launch} {z N : Nat} {b : Nat → va_E} (hN : 86 ≤ N) (σ : MS) (x0 : Int32) (x1 : Int32) {r : UInt64} (hg : gX11_x σ x0 x1 = some r) : Ct G l yX11_x cX11_x 3 (some .double) ({ frames := 1, cells := 0, slots := 0, locals := 22 } : Room) [.ref (z + 71), .int x0, .int x1] z (ctM G z b σ) N (some (.double r)) (ctM G z b σ) N := by
  refine Ct.of (lv := [(0, .ref (z + 71)), (1, .int x0), (2, .int x1)]) (by decide +kernel) (Nat.le_of_ble_eq_true rfl) rfl (fun p e s m args below meth c C => ?_)
  rw [gX11_x] at hg
  refine j_aload_n C dX11_x_0 0 rfl rfl ?_
  refine j_get (v := .ref (z + 76)) C (Nat.lt_of_lt_of_le (by decide) hN) cq_obj rfl inX11 4 (by decide) q3_107 rfl rfl dX11_x_1 ?_
  refine j_aload_n C dX11_x_4 0 rfl rfl ?_
  refine j_get (v := .ref (z + 75)) C (Nat.lt_of_lt_of_le (by decide) hN) cq_obj rfl inX11 3 (by decide) q3_106 rfl rfl dX11_x_5 ?_
  refine j_iconst (v := 4) C dX11_x_8 (by decide) ?_
  refine j_iload_n C dX11_x_9 1 rfl rfl ?_
  refine j_imul C dX11_x_10 ?_
  refine j_iconst (v := 1) C dX11_x_11 (by decide) ?_
  refine j_iadd C dX11_x_12 ?_
  refine j_iald C hg (Nat.lt_of_lt_of_le (by decide) hN) cq_made dX11_x_13 (fun hg => ?_)
  refine j_iload_n C dX11_x_14 2 rfl rfl ?_
  obtain ⟨r1, hr1, hg⟩ := ob hg
  refine j_callS C [.int (m_made σ (((4 : Int32) * x0) + (1 : Int32)).toNatClampNeg), .int x1] (tX11_at (m_made σ (((4 : Int32) * x0) + (1 : Int32)).toNatClampNeg) x1 hr1) q4_1 q1_6 q4_0 q3_239 hd_X11_at rfl dX11_x_15 rfl (Nat.le_of_ble_eq_true rfl) ⟨(Nat.le_of_ble_eq_true rfl), (Nat.le_of_ble_eq_true rfl)⟩ ⟨(Nat.le_of_ble_eq_true rfl), (Nat.le_of_ble_eq_true rfl)⟩ ?_
  refine j_dald C hg (Nat.lt_of_lt_of_le (by decide) hN) cq_now dX11_x_18 (fun hg => ?_)
  refine j_aload_n C dX11_x_19 0 rfl rfl ?_
  refine j_get (v := .ref (z + 74)) C (Nat.lt_of_lt_of_le (by decide) hN) cq_obj rfl inX11 2 (by decide) q3_105 rfl rfl dX11_x_20 ?_
  refine j_iload_n C dX11_x_23 1 rfl rfl ?_
  refine j_zald C hg (Nat.lt_of_lt_of_le (by decide) hN) cq_narrow dX11_x_24 (fun hg => ?_)
  obtain ⟨r2, hr2, hg⟩ := ob hg
  refine j_callS C [.double (m_now σ r1.toNatClampNeg), .int (m_narrow σ x0.toNatClampNeg)] (tX11_brought (m_now σ r1.toNatClampNeg) (m_narrow σ x0.toNatClampNeg) hr2) q3_187 q1_6 q3_186 q3_185 hd_X11_brought rfl dX11_x_25 rfl (Nat.le_of_ble_eq_true rfl) ⟨(Nat.le_of_ble_eq_true rfl), (Nat.le_of_ble_eq_true rfl)⟩ ⟨(Nat.le_of_ble_eq_true rfl), (Nat.le_of_ble_eq_true rfl)⟩ ?_
  exact j_dret C dX11_x_28 (by rw [← Option.some.inj hg]) rfl rfl

def gX11_noX (σ : MS) (x0 : Int32) (x1 : Int32) : Option Int32 := if ix (((4 : Int32) * x0) + (1 : Int32)) 48 then ((gX11_at (m_made σ (((4 : Int32) * x0) + (1 : Int32)).toNatClampNeg) x1).bind (fun r1 => if ix r1 200 then (if vp_nar .boolean (m_none σ r1.toNatClampNeg) = (m_none σ r1.toNatClampNeg) then some (m_none σ r1.toNatClampNeg) else none) else none)) else none
theorem hd_X11_noX : yX11_noX.cls ≠ "java/lang/invoke/MethodHandle" ∧ yX11_noX.cls ≠ "java/lang/invoke/VarHandle" ∧ (parseMethodDescriptor yX11_noX.desc).map (fun d => d.parameters.length) = some 2 := by decide +kernel
set_option maxHeartbeats 4000000 in
set_option maxRecDepth 100000 in
theorem tX11_noX {G : GG} {l : Launch} {z N : Nat} {b : Nat → va_E} (hN : 86 ≤ N) (σ : MS) (x0 : Int32) (x1 : Int32) {r : Int32} (hg : gX11_noX σ x0 x1 = some r) : Ct G l yX11_noX cX11_noX 3 (some .boolean) ({ frames := 1, cells := 0, slots := 0, locals := 21 } : Room) [.ref (z + 71), .int x0, .int x1] z (ctM G z b σ) N (some (.int r)) (ctM G z b σ) N := by
  refine Ct.of (lv := [(0, .ref (z + 71)), (1, .int x0), (2, .int x1)]) (by decide +kernel) (Nat.le_of_ble_eq_true rfl) rfl (fun p e s m args below meth c C => ?_)
  rw [gX11_noX] at hg
  refine j_aload_n C dX11_noX_0 0 rfl rfl ?_
  refine j_get (v := .ref (z + 77)) C (Nat.lt_of_lt_of_le (by decide) hN) cq_obj rfl inX11 5 (by decide) q3_108 rfl rfl dX11_noX_1 ?_
  refine j_aload_n C dX11_noX_4 0 rfl rfl ?_
  refine j_get (v := .ref (z + 75)) C (Nat.lt_of_lt_of_le (by decide) hN) cq_obj rfl inX11 3 (by decide) q3_106 rfl rfl dX11_noX_5 ?_
  refine j_iconst (v := 4) C dX11_noX_8 (by decide) ?_
  refine j_iload_n C dX11_noX_9 1 rfl rfl ?_
  refine j_imul C dX11_noX_10 ?_
  refine j_iconst (v := 1) C dX11_noX_11 (by decide) ?_
  refine j_iadd C dX11_noX_12 ?_
  refine j_iald C hg (Nat.lt_of_lt_of_le (by decide) hN) cq_made dX11_noX_13 (fun hg => ?_)
  refine j_iload_n C dX11_noX_14 2 rfl rfl ?_
  obtain ⟨r1, hr1, hg⟩ := ob hg
  refine j_callS C [.int (m_made σ (((4 : Int32) * x0) + (1 : Int32)).toNatClampNeg), .int x1] (tX11_at (m_made σ (((4 : Int32) * x0) + (1 : Int32)).toNatClampNeg) x1 hr1) q4_1 q1_6 q4_0 q3_239 hd_X11_at rfl dX11_noX_15 rfl (Nat.le_of_ble_eq_true rfl) ⟨(Nat.le_of_ble_eq_true rfl), (Nat.le_of_ble_eq_true rfl)⟩ ⟨(Nat.le_of_ble_eq_true rfl), (Nat.le_of_ble_eq_true rfl)⟩ ?_
  refine j_zald C hg (Nat.lt_of_lt_of_le (by decide) hN) cq_none dX11_noX_18 (fun hg => ?_)
  obtain ⟨hz, hg⟩ := gd hg
  exact j_zret C dX11_noX_19 hz (by rw [← Option.some.inj hg]) rfl rfl

def gX11_y (σ : MS) (x0 : Int32) (x1 : Int32) : Option UInt64 := if ix (((4 : Int32) * x0) + (2 : Int32)) 48 then ((gX11_at (m_made σ (((4 : Int32) * x0) + (2 : Int32)).toNatClampNeg) x1).bind (fun r1 => if ix r1 200 then (if ix x0 12 then ((gX11_brought (m_now σ r1.toNatClampNeg) (m_narrow σ x0.toNatClampNeg)).bind (fun r2 => some r2)) else none) else none)) else none
theorem hd_X11_y : yX11_y.cls ≠ "java/lang/invoke/MethodHandle" ∧ yX11_y.cls ≠ "java/lang/invoke/VarHandle" ∧ (parseMethodDescriptor yX11_y.desc).map (fun d => d.parameters.length) = some 2 := by decide +kernel
set_option maxHeartbeats 4000000 in
set_option maxRecDepth 100000 in
theorem tX11_y {G : GG} {l : Launch} {z N : Nat} {b : Nat → va_E} (hN : 86 ≤ N) (σ : MS) (x0 : Int32) (x1 : Int32) {r : UInt64} (hg : gX11_y σ x0 x1 = some r) : Ct G l yX11_y cX11_y 3 (some .double) ({ frames := 1, cells := 0, slots := 0, locals := 22 } : Room) [.ref (z + 71), .int x0, .int x1] z (ctM G z b σ) N (some (.double r)) (ctM G z b σ) N := by
  refine Ct.of (lv := [(0, .ref (z + 71)), (1, .int x0), (2, .int x1)]) (by decide +kernel) (Nat.le_of_ble_eq_true rfl) rfl (fun p e s m args below meth c C => ?_)
  rw [gX11_y] at hg
  refine j_aload_n C dX11_y_0 0 rfl rfl ?_
  refine j_get (v := .ref (z + 76)) C (Nat.lt_of_lt_of_le (by decide) hN) cq_obj rfl inX11 4 (by decide) q3_107 rfl rfl dX11_y_1 ?_
  refine j_aload_n C dX11_y_4 0 rfl rfl ?_
  refine j_get (v := .ref (z + 75)) C (Nat.lt_of_lt_of_le (by decide) hN) cq_obj rfl inX11 3 (by decide) q3_106 rfl rfl dX11_y_5 ?_
  refine j_iconst (v := 4) C dX11_y_8 (by decide) ?_
  refine j_iload_n C dX11_y_9 1 rfl rfl ?_
  refine j_imul C dX11_y_10 ?_
  refine j_iconst (v := 2) C dX11_y_11 (by decide) ?_
  refine j_iadd C dX11_y_12 ?_
  refine j_iald C hg (Nat.lt_of_lt_of_le (by decide) hN) cq_made dX11_y_13 (fun hg => ?_)
  refine j_iload_n C dX11_y_14 2 rfl rfl ?_
  obtain ⟨r1, hr1, hg⟩ := ob hg
  refine j_callS C [.int (m_made σ (((4 : Int32) * x0) + (2 : Int32)).toNatClampNeg), .int x1] (tX11_at (m_made σ (((4 : Int32) * x0) + (2 : Int32)).toNatClampNeg) x1 hr1) q4_1 q1_6 q4_0 q3_239 hd_X11_at rfl dX11_y_15 rfl (Nat.le_of_ble_eq_true rfl) ⟨(Nat.le_of_ble_eq_true rfl), (Nat.le_of_ble_eq_true rfl)⟩ ⟨(Nat.le_of_ble_eq_true rfl), (Nat.le_of_ble_eq_true rfl)⟩ ?_
  refine j_dald C hg (Nat.lt_of_lt_of_le (by decide) hN) cq_now dX11_y_18 (fun hg => ?_)
  refine j_aload_n C dX11_y_19 0 rfl rfl ?_
  refine j_get (v := .ref (z + 74)) C (Nat.lt_of_lt_of_le (by decide) hN) cq_obj rfl inX11 2 (by decide) q3_105 rfl rfl dX11_y_20 ?_
  refine j_iload_n C dX11_y_23 1 rfl rfl ?_
  refine j_zald C hg (Nat.lt_of_lt_of_le (by decide) hN) cq_narrow dX11_y_24 (fun hg => ?_)
  obtain ⟨r2, hr2, hg⟩ := ob hg
  refine j_callS C [.double (m_now σ r1.toNatClampNeg), .int (m_narrow σ x0.toNatClampNeg)] (tX11_brought (m_now σ r1.toNatClampNeg) (m_narrow σ x0.toNatClampNeg) hr2) q3_187 q1_6 q3_186 q3_185 hd_X11_brought rfl dX11_y_25 rfl (Nat.le_of_ble_eq_true rfl) ⟨(Nat.le_of_ble_eq_true rfl), (Nat.le_of_ble_eq_true rfl)⟩ ⟨(Nat.le_of_ble_eq_true rfl), (Nat.le_of_ble_eq_true rfl)⟩ ?_
  exact j_dret C dX11_y_28 (by rw [← Option.some.inj hg]) rfl rfl

def gX11_noY (σ : MS) (x0 : Int32) (x1 : Int32) : Option Int32 := if ix (((4 : Int32) * x0) + (2 : Int32)) 48 then ((gX11_at (m_made σ (((4 : Int32) * x0) + (2 : Int32)).toNatClampNeg) x1).bind (fun r1 => if ix r1 200 then (if vp_nar .boolean (m_none σ r1.toNatClampNeg) = (m_none σ r1.toNatClampNeg) then some (m_none σ r1.toNatClampNeg) else none) else none)) else none
theorem hd_X11_noY : yX11_noY.cls ≠ "java/lang/invoke/MethodHandle" ∧ yX11_noY.cls ≠ "java/lang/invoke/VarHandle" ∧ (parseMethodDescriptor yX11_noY.desc).map (fun d => d.parameters.length) = some 2 := by decide +kernel
set_option maxHeartbeats 4000000 in
set_option maxRecDepth 100000 in
theorem tX11_noY {G : GG} {l : Launch} {z N : Nat} {b : Nat → va_E} (hN : 86 ≤ N) (σ : MS) (x0 : Int32) (x1 : Int32) {r : Int32} (hg : gX11_noY σ x0 x1 = some r) : Ct G l yX11_noY cX11_noY 3 (some .boolean) ({ frames := 1, cells := 0, slots := 0, locals := 21 } : Room) [.ref (z + 71), .int x0, .int x1] z (ctM G z b σ) N (some (.int r)) (ctM G z b σ) N := by
  refine Ct.of (lv := [(0, .ref (z + 71)), (1, .int x0), (2, .int x1)]) (by decide +kernel) (Nat.le_of_ble_eq_true rfl) rfl (fun p e s m args below meth c C => ?_)
  rw [gX11_noY] at hg
  refine j_aload_n C dX11_noY_0 0 rfl rfl ?_
  refine j_get (v := .ref (z + 77)) C (Nat.lt_of_lt_of_le (by decide) hN) cq_obj rfl inX11 5 (by decide) q3_108 rfl rfl dX11_noY_1 ?_
  refine j_aload_n C dX11_noY_4 0 rfl rfl ?_
  refine j_get (v := .ref (z + 75)) C (Nat.lt_of_lt_of_le (by decide) hN) cq_obj rfl inX11 3 (by decide) q3_106 rfl rfl dX11_noY_5 ?_
  refine j_iconst (v := 4) C dX11_noY_8 (by decide) ?_
  refine j_iload_n C dX11_noY_9 1 rfl rfl ?_
  refine j_imul C dX11_noY_10 ?_
  refine j_iconst (v := 2) C dX11_noY_11 (by decide) ?_
  refine j_iadd C dX11_noY_12 ?_
  refine j_iald C hg (Nat.lt_of_lt_of_le (by decide) hN) cq_made dX11_noY_13 (fun hg => ?_)
  refine j_iload_n C dX11_noY_14 2 rfl rfl ?_
  obtain ⟨r1, hr1, hg⟩ := ob hg
  refine j_callS C [.int (m_made σ (((4 : Int32) * x0) + (2 : Int32)).toNatClampNeg), .int x1] (tX11_at (m_made σ (((4 : Int32) * x0) + (2 : Int32)).toNatClampNeg) x1 hr1) q4_1 q1_6 q4_0 q3_239 hd_X11_at rfl dX11_noY_15 rfl (Nat.le_of_ble_eq_true rfl) ⟨(Nat.le_of_ble_eq_true rfl), (Nat.le_of_ble_eq_true rfl)⟩ ⟨(Nat.le_of_ble_eq_true rfl), (Nat.le_of_ble_eq_true rfl)⟩ ?_
  refine j_zald C hg (Nat.lt_of_lt_of_le (by decide) hN) cq_none dX11_noY_18 (fun hg => ?_)
  obtain ⟨hz, hg⟩ := gd hg
  exact j_zret C dX11_noY_19 hz (by rw [← Option.some.inj hg]) rfl rfl

def gX11_compares (σ : MS) (x0 : Int32) (x1 : Int32) : Option Int32 := if ix (((4 : Int32) * x0) + (3 : Int32)) 48 then ((gX11_x σ x0 x1).bind (fun r1 => (gX11_noX σ x0 x1).bind (fun r2 => (gX11_y σ x0 x1).bind (fun r3 => (gX11_noY σ x0 x1).bind (fun r4 => (gX11_isSo (m_made σ (((4 : Int32) * x0) + (3 : Int32)).toNatClampNeg) r1 r2 r3 r4).bind (fun r5 => if vp_nar .boolean r5 = r5 then some r5 else none)))))) else none
theorem hd_X11_compares : yX11_compares.cls ≠ "java/lang/invoke/MethodHandle" ∧ yX11_compares.cls ≠ "java/lang/invoke/VarHandle" ∧ (parseMethodDescriptor yX11_compares.desc).map (fun d => d.parameters.length) = some 2 := by decide +kernel
set_option maxHeartbeats 4000000 in
set_option maxRecDepth 100000 in
theorem tX11_compares {G : GG} {l : Launch} {z N : Nat} {b : Nat → va_E} (hN : 86 ≤ N) (σ : MS) (x0 : Int32) (x1 : Int32) {r : Int32} (hg : gX11_compares σ x0 x1 = some r) : Ct G l yX11_compares cX11_compares 3 (some .boolean) ({ frames := 2, cells := 0, slots := 0, locals := 44 } : Room) [.ref (z + 71), .int x0, .int x1] z (ctM G z b σ) N (some (.int r)) (ctM G z b σ) N := by
  refine Ct.of (lv := [(0, .ref (z + 71)), (1, .int x0), (2, .int x1)]) (by decide +kernel) (Nat.le_of_ble_eq_true rfl) rfl (fun p e s m args below meth c C => ?_)
  rw [gX11_compares] at hg
  refine j_aload_n C dX11_compares_0 0 rfl rfl ?_
  refine j_get (v := .ref (z + 75)) C (Nat.lt_of_lt_of_le (by decide) hN) cq_obj rfl inX11 3 (by decide) q3_106 rfl rfl dX11_compares_1 ?_
  refine j_iconst (v := 4) C dX11_compares_4 (by decide) ?_
  refine j_iload_n C dX11_compares_5 1 rfl rfl ?_
  refine j_imul C dX11_compares_6 ?_
  refine j_iconst (v := 3) C dX11_compares_7 (by decide) ?_
  refine j_iadd C dX11_compares_8 ?_
  refine j_iald C hg (Nat.lt_of_lt_of_le (by decide) hN) cq_made dX11_compares_9 (fun hg => ?_)
  refine j_aload_n C dX11_compares_10 0 rfl rfl ?_
  refine j_iload_n C dX11_compares_11 1 rfl rfl ?_
  refine j_iload_n C dX11_compares_12 2 rfl rfl ?_
  obtain ⟨r1, hr1, hg⟩ := ob hg
  refine j_callV C [.int x0, .int x1] (tX11_x hN σ x0 x1 hr1) (Nat.lt_of_lt_of_le (by decide) hN) cq_obj rfl q4_13 q1_6 q4_12 qp_29 q4_10 hd_X11_x rfl dX11_compares_13 rfl (Nat.le_of_ble_eq_true rfl) ⟨(Nat.le_of_ble_eq_true rfl), (Nat.le_of_ble_eq_true rfl)⟩ ⟨(Nat.le_of_ble_eq_true rfl), (Nat.le_of_ble_eq_true rfl)⟩ ?_
  refine j_aload_n C dX11_compares_16 0 rfl rfl ?_
  refine j_iload_n C dX11_compares_17 1 rfl rfl ?_
  refine j_iload_n C dX11_compares_18 2 rfl rfl ?_
  obtain ⟨r2, hr2, hg⟩ := ob hg
  refine j_callV C [.int x0, .int x1] (tX11_noX hN σ x0 x1 hr2) (Nat.lt_of_lt_of_le (by decide) hN) cq_obj rfl q3_238 q1_6 q3_237 qp_26 q3_235 hd_X11_noX rfl dX11_compares_19 rfl (Nat.le_of_ble_eq_true rfl) ⟨(Nat.le_of_ble_eq_true rfl), (Nat.le_of_ble_eq_true rfl)⟩ ⟨(Nat.le_of_ble_eq_true rfl), (Nat.le_of_ble_eq_true rfl)⟩ ?_
  refine j_aload_n C dX11_compares_22 0 rfl rfl ?_
  refine j_iload_n C dX11_compares_23 1 rfl rfl ?_
  refine j_iload_n C dX11_compares_24 2 rfl rfl ?_
  obtain ⟨r3, hr3, hg⟩ := ob hg
  refine j_callV C [.int x0, .int x1] (tX11_y hN σ x0 x1 hr3) (Nat.lt_of_lt_of_le (by decide) hN) cq_obj rfl q4_49 q1_6 q4_48 qp_32 q4_46 hd_X11_y rfl dX11_compares_25 rfl (Nat.le_of_ble_eq_true rfl) ⟨(Nat.le_of_ble_eq_true rfl), (Nat.le_of_ble_eq_true rfl)⟩ ⟨(Nat.le_of_ble_eq_true rfl), (Nat.le_of_ble_eq_true rfl)⟩ ?_
  refine j_aload_n C dX11_compares_28 0 rfl rfl ?_
  refine j_iload_n C dX11_compares_29 1 rfl rfl ?_
  refine j_iload_n C dX11_compares_30 2 rfl rfl ?_
  obtain ⟨r4, hr4, hg⟩ := ob hg
  refine j_callV C [.int x0, .int x1] (tX11_noY hN σ x0 x1 hr4) (Nat.lt_of_lt_of_le (by decide) hN) cq_obj rfl q4_5 q1_6 q4_4 qp_27 q4_2 hd_X11_noY rfl dX11_compares_31 rfl (Nat.le_of_ble_eq_true rfl) ⟨(Nat.le_of_ble_eq_true rfl), (Nat.le_of_ble_eq_true rfl)⟩ ⟨(Nat.le_of_ble_eq_true rfl), (Nat.le_of_ble_eq_true rfl)⟩ ?_
  obtain ⟨r5, hr5, hg⟩ := ob hg
  refine j_callS C [.int (m_made σ (((4 : Int32) * x0) + (3 : Int32)).toNatClampNeg), .double r1, .int r2, .double r3, .int r4] (tX11_isSo (m_made σ (((4 : Int32) * x0) + (3 : Int32)).toNatClampNeg) r1 r2 r3 r4 hr5) q4_73 q1_6 q4_72 q4_71 hd_X11_isSo rfl dX11_compares_34 rfl (Nat.le_of_ble_eq_true rfl) ⟨(Nat.le_of_ble_eq_true rfl), (Nat.le_of_ble_eq_true rfl)⟩ ⟨(Nat.le_of_ble_eq_true rfl), (Nat.le_of_ble_eq_true rfl)⟩ ?_
  obtain ⟨hz, hg⟩ := gd hg
  exact j_zret C dX11_compares_37 hz (by rw [← Option.some.inj hg]) rfl rfl

def gX11_rank_77 (σ : MS) (x0 : Int32) (x1 : Int32) (x2 : Int32) (x3 : Int32) (k15 : Int32 → UInt64 → Int32 → Option Int32) (v5 : Int32) (v6 : UInt64) (v8 : Int32) : Option Int32 := k15 v5 v6 (v8 + (1 : Int32))
def gX11_rank_74 (σ : MS) (x0 : Int32) (x1 : Int32) (x2 : Int32) (x3 : Int32) (k15 : Int32 → UInt64 → Int32 → Option Int32) (v6 : UInt64) (v8 : Int32) (s0 : Int32) (s1 : Int32) : Option Int32 := gX11_rank_77 σ x0 x1 x2 x3 k15 (s1 + s0) v6 v8
def gX11_rank_73 (σ : MS) (x0 : Int32) (x1 : Int32) (x2 : Int32) (x3 : Int32) (k15 : Int32 → UInt64 → Int32 → Option Int32) (v6 : UInt64) (v8 : Int32) (s0 : Int32) : Option Int32 := gX11_rank_74 σ x0 x1 x2 x3 k15 v6 v8 (0 : Int32) s0
def gX11_rank_69 (σ : MS) (x0 : Int32) (x1 : Int32) (x2 : Int32) (x3 : Int32) (k15 : Int32 → UInt64 → Int32 → Option Int32) (v6 : UInt64) (v8 : Int32) (s0 : Int32) : Option Int32 := gX11_rank_74 σ x0 x1 x2 x3 k15 v6 v8 (1 : Int32) s0
def gX11_rank_15 (σ : MS) (x0 : Int32) (x1 : Int32) (x2 : Int32) (x3 : Int32) (k15 : Int32 → UInt64 → Int32 → Option Int32) (v5 : Int32) (v6 : UInt64) (v8 : Int32) : Option Int32 := if x2 < v8 then (some v5) else ((gX11_noX σ x0 v8).bind (fun r2 => if r2 = 0 then ((gX11_x σ x0 v8).bind (fun r3 => (gX11_isLower r3 v6).bind (fun r4 => if r4 = 0 then (if x3 ≤ v8 then (gX11_rank_73 σ x0 x1 x2 x3 k15 v6 v8 v5) else ((gX11_isLower v6 r3).bind (fun r5 => if r5 = 0 then (gX11_rank_69 σ x0 x1 x2 x3 k15 v6 v8 v5) else (gX11_rank_73 σ x0 x1 x2 x3 k15 v6 v8 v5)))) else (gX11_rank_69 σ x0 x1 x2 x3 k15 v6 v8 v5)))) else (gX11_rank_77 σ x0 x1 x2 x3 k15 v5 v6 v8)))
def gX11_rank (σ : MS) (x0 : Int32) (x1 : Int32) (x2 : Int32) (x3 : Int32) : Option Int32 := (gX11_x σ x0 x3).bind (fun r1 => lq3 (gX11_rank_15 σ x0 x1 x2 x3) 20 (0 : Int32) r1 x1)
theorem hd_X11_rank : yX11_rank.cls ≠ "java/lang/invoke/MethodHandle" ∧ yX11_rank.cls ≠ "java/lang/invoke/VarHandle" ∧ (parseMethodDescriptor yX11_rank.desc).map (fun d => d.parameters.length) = some 4 := by decide +kernel
set_option maxHeartbeats 4000000 in
set_option maxRecDepth 100000 in
theorem tX11_rank {G : GG} {l : Launch} {z N : Nat} {b : Nat → va_E} (hN : 86 ≤ N) (σ : MS) (x0 : Int32) (x1 : Int32) (x2 : Int32) (x3 : Int32) {r : Int32} (hg : gX11_rank σ x0 x1 x2 x3 = some r) : Ct G l yX11_rank cX11_rank 11 (some .int) ({ frames := 3, cells := 0, slots := 0, locals := 65 } : Room) [.ref (z + 71), .int x0, .int x1, .int x2, .int x3] z (ctM G z b σ) N (some (.int r)) (ctM G z b σ) N := by
  refine Ct.of (lv := [(0, .ref (z + 71)), (1, .int x0), (2, .int x1), (3, .int x2), (4, .int x3)]) (by decide +kernel) (Nat.le_of_ble_eq_true rfl) rfl (fun p e s m args below meth c C => ?_)
  have L_15 : ∀ (n15 : Nat) (v5 : Int32) (v6 : UInt64) (v8 : Int32), lq3 (gX11_rank_15 σ x0 x1 x2 x3) n15 v5 v6 v8 = some r → J G p l e ({ frames := 3, cells := 0, slots := 0, locals := 65 } : Room) s m args below meth c z 11 (MQ below (Qd G z (some (.int r)) (ctM G z b σ) N) args s 0 0 (zA z)) (ctM G z b σ) N 0 0 15 [(0, .ref (z + 71)), (1, .int x0), (3, .int x2), (4, .int x3), (5, .int v5), (6, .double v6), (8, .int v8)] [] := by
    intro n15
    induction n15 with
    | zero => intro v5 v6 v8 hg; cases hg
    | succ n15 ih15 =>
      have L_77 : ∀ (v5 : Int32) (v6 : UInt64) (v8 : Int32), gX11_rank_77 σ x0 x1 x2 x3 (lq3 (gX11_rank_15 σ x0 x1 x2 x3) n15) v5 v6 v8 = some r → J G p l e ({ frames := 3, cells := 0, slots := 0, locals := 65 } : Room) s m args below meth c z 11 (MQ below (Qd G z (some (.int r)) (ctM G z b σ) N) args s 0 0 (zA z)) (ctM G z b σ) N 0 0 77 [(0, .ref (z + 71)), (1, .int x0), (3, .int x2), (4, .int x3), (5, .int v5), (6, .double v6), (8, .int v8)] [] := by
        intro v5 v6 v8 hg
        rw [gX11_rank_77] at hg
        refine j_iinc C [(8, .int (v8 + (1 : Int32))), (0, .ref (z + 71)), (1, .int x0), (3, .int x2), (4, .int x3), (5, .int v5), (6, .double v6)] dX11_rank_77 6 rfl rfl (by decide) rfl ?_
        refine j_goto C 15 dX11_rank_80 (by decide) ?_
        exact j_re [1, 2, 3, 4, 5, 6, 0] rfl (ih15 v5 v6 (v8 + (1 : Int32)) hg)
      have L_74 : ∀ (v6 : UInt64) (v8 : Int32) (s0 : Int32) (s1 : Int32), gX11_rank_74 σ x0 x1 x2 x3 (lq3 (gX11_rank_15 σ x0 x1 x2 x3) n15) v6 v8 s0 s1 = some r → J G p l e ({ frames := 3, cells := 0, slots := 0, locals := 65 } : Room) s m args below meth c z 11 (MQ below (Qd G z (some (.int r)) (ctM G z b σ) N) args s 0 0 (zA z)) (ctM G z b σ) N 0 0 74 [(0, .ref (z + 71)), (1, .int x0), (3, .int x2), (4, .int x3), (6, .double v6), (8, .int v8)] [.int s0, .int s1] := by
        intro v6 v8 s0 s1 hg
        rw [gX11_rank_74] at hg
        refine j_iadd C dX11_rank_74 ?_
        refine j_istore C [(5, .int (s1 + s0)), (0, .ref (z + 71)), (1, .int x0), (3, .int x2), (4, .int x3), (6, .double v6), (8, .int v8)] dX11_rank_75 (by decide) rfl ?_
        exact j_re [1, 2, 3, 4, 0, 5, 6] rfl (L_77 (s1 + s0) v6 v8 hg)
      have L_73 : ∀ (v6 : UInt64) (v8 : Int32) (s0 : Int32), gX11_rank_73 σ x0 x1 x2 x3 (lq3 (gX11_rank_15 σ x0 x1 x2 x3) n15) v6 v8 s0 = some r → J G p l e ({ frames := 3, cells := 0, slots := 0, locals := 65 } : Room) s m args below meth c z 11 (MQ below (Qd G z (some (.int r)) (ctM G z b σ) N) args s 0 0 (zA z)) (ctM G z b σ) N 0 0 73 [(0, .ref (z + 71)), (1, .int x0), (3, .int x2), (4, .int x3), (6, .double v6), (8, .int v8)] [.int s0] := by
        intro v6 v8 s0 hg
        rw [gX11_rank_73] at hg
        refine j_iconst (v := 0) C dX11_rank_73 (by decide) ?_
        exact L_74 v6 v8 (0 : Int32) s0 hg
      have L_69 : ∀ (v6 : UInt64) (v8 : Int32) (s0 : Int32), gX11_rank_69 σ x0 x1 x2 x3 (lq3 (gX11_rank_15 σ x0 x1 x2 x3) n15) v6 v8 s0 = some r → J G p l e ({ frames := 3, cells := 0, slots := 0, locals := 65 } : Room) s m args below meth c z 11 (MQ below (Qd G z (some (.int r)) (ctM G z b σ) N) args s 0 0 (zA z)) (ctM G z b σ) N 0 0 69 [(0, .ref (z + 71)), (1, .int x0), (3, .int x2), (4, .int x3), (6, .double v6), (8, .int v8)] [.int s0] := by
        intro v6 v8 s0 hg
        rw [gX11_rank_69] at hg
        refine j_iconst (v := 1) C dX11_rank_69 (by decide) ?_
        refine j_goto C 74 dX11_rank_70 (by decide) ?_
        exact L_74 v6 v8 (1 : Int32) s0 hg
      intro v5 v6 v8 hg
      replace hg : gX11_rank_15 σ x0 x1 x2 x3 (lq3 (gX11_rank_15 σ x0 x1 x2 x3) n15) v5 v6 v8 = some r := hg
      rw [gX11_rank_15] at hg
      refine j_iload C dX11_rank_15 6 rfl ?_
      refine j_iload_n C dX11_rank_17 2 rfl rfl ?_
      refine j_icmp_gt C 83 hg dX11_rank_18 (by decide) (fun hg => ?_) (fun hg => ?_)
      · refine j_iload C dX11_rank_83 4 rfl ?_
        exact j_iret C dX11_rank_85 (by rw [← Option.some.inj hg]) rfl rfl
      · refine j_aload_n C dX11_rank_21 0 rfl rfl ?_
        refine j_iload_n C dX11_rank_22 1 rfl rfl ?_
        refine j_iload C dX11_rank_23 6 rfl ?_
        obtain ⟨r2, hr2, hg⟩ := ob hg
        refine j_callV C [.int x0, .int v8] (tX11_noX hN σ x0 v8 hr2) (Nat.lt_of_lt_of_le (by decide) hN) cq_obj rfl q3_238 q1_6 q3_237 qp_26 q3_235 hd_X11_noX rfl dX11_rank_25 rfl (Nat.le_of_ble_eq_true rfl) ⟨(Nat.le_of_ble_eq_true rfl), (Nat.le_of_ble_eq_true rfl)⟩ ⟨(Nat.le_of_ble_eq_true rfl), (Nat.le_of_ble_eq_true rfl)⟩ ?_
        refine j_if_ne C 77 hg dX11_rank_28 (by decide) (fun hg => ?_) (fun hg => ?_)
        · exact L_77 v5 v6 v8 hg
        · refine j_aload_n C dX11_rank_31 0 rfl rfl ?_
          refine j_iload_n C dX11_rank_32 1 rfl rfl ?_
          refine j_iload C dX11_rank_33 6 rfl ?_
          obtain ⟨r3, hr3, hg⟩ := ob hg
          refine j_callV C [.int x0, .int v8] (tX11_x hN σ x0 v8 hr3) (Nat.lt_of_lt_of_le (by decide) hN) cq_obj rfl q4_13 q1_6 q4_12 qp_29 q4_10 hd_X11_x rfl dX11_rank_35 rfl (Nat.le_of_ble_eq_true rfl) ⟨(Nat.le_of_ble_eq_true rfl), (Nat.le_of_ble_eq_true rfl)⟩ ⟨(Nat.le_of_ble_eq_true rfl), (Nat.le_of_ble_eq_true rfl)⟩ ?_
          refine j_dstore C [(9, .double r3), (0, .ref (z + 71)), (1, .int x0), (3, .int x2), (4, .int x3), (5, .int v5), (6, .double v6), (8, .int v8)] dX11_rank_38 (by decide) rfl ?_
          refine j_iload C dX11_rank_40 5 rfl ?_
          refine j_dload C dX11_rank_42 0 rfl ?_
          refine j_dload C dX11_rank_44 6 rfl ?_
          obtain ⟨r4, hr4, hg⟩ := ob hg
          refine j_callS C [.double r3, .double v6] (tX11_isLower r3 v6 hr4) q4_66 q1_6 q4_65 q4_64 hd_X11_isLower rfl dX11_rank_46 rfl (Nat.le_of_ble_eq_true rfl) ⟨(Nat.le_of_ble_eq_true rfl), (Nat.le_of_ble_eq_true rfl)⟩ ⟨(Nat.le_of_ble_eq_true rfl), (Nat.le_of_ble_eq_true rfl)⟩ ?_
          refine j_if_ne C 69 hg dX11_rank_49 (by decide) (fun hg => ?_) (fun hg => ?_)
          · exact j_re [1, 2, 3, 4, 6, 7] rfl (L_69 v6 v8 v5 hg)
          · refine j_iload C dX11_rank_52 7 rfl ?_
            refine j_iload C dX11_rank_54 4 rfl ?_
            refine j_icmp_ge C 73 hg dX11_rank_56 (by decide) (fun hg => ?_) (fun hg => ?_)
            · exact j_re [1, 2, 3, 4, 6, 7] rfl (L_73 v6 v8 v5 hg)
            · refine j_dload C dX11_rank_59 6 rfl ?_
              refine j_dload C dX11_rank_61 0 rfl ?_
              obtain ⟨r5, hr5, hg⟩ := ob hg
              refine j_callS C [.double v6, .double r3] (tX11_isLower v6 r3 hr5) q4_66 q1_6 q4_65 q4_64 hd_X11_isLower rfl dX11_rank_63 rfl (Nat.le_of_ble_eq_true rfl) ⟨(Nat.le_of_ble_eq_true rfl), (Nat.le_of_ble_eq_true rfl)⟩ ⟨(Nat.le_of_ble_eq_true rfl), (Nat.le_of_ble_eq_true rfl)⟩ ?_
              refine j_if_ne C 73 hg dX11_rank_66 (by decide) (fun hg => ?_) (fun hg => ?_)
              · exact j_re [1, 2, 3, 4, 6, 7] rfl (L_73 v6 v8 v5 hg)
              · exact j_re [1, 2, 3, 4, 6, 7] rfl (L_69 v6 v8 v5 hg)
  rw [gX11_rank] at hg
  refine j_iconst (v := 0) C dX11_rank_0 (by decide) ?_
  refine j_istore C [(5, .int (0 : Int32)), (0, .ref (z + 71)), (1, .int x0), (2, .int x1), (3, .int x2), (4, .int x3)] dX11_rank_1 (by decide) rfl ?_
  refine j_aload_n C dX11_rank_3 1 rfl rfl ?_
  refine j_iload_n C dX11_rank_4 2 rfl rfl ?_
  refine j_iload C dX11_rank_5 5 rfl ?_
  obtain ⟨r1, hr1, hg⟩ := ob hg
  refine j_callV C [.int x0, .int x3] (tX11_x hN σ x0 x3 hr1) (Nat.lt_of_lt_of_le (by decide) hN) cq_obj rfl q4_13 q1_6 q4_12 qp_29 q4_10 hd_X11_x rfl dX11_rank_7 rfl (Nat.le_of_ble_eq_true rfl) ⟨(Nat.le_of_ble_eq_true rfl), (Nat.le_of_ble_eq_true rfl)⟩ ⟨(Nat.le_of_ble_eq_true rfl), (Nat.le_of_ble_eq_true rfl)⟩ ?_
  refine j_dstore C [(6, .double r1), (5, .int (0 : Int32)), (0, .ref (z + 71)), (1, .int x0), (2, .int x1), (3, .int x2), (4, .int x3)] dX11_rank_10 (by decide) rfl ?_
  refine j_iload_n C dX11_rank_12 4 rfl rfl ?_
  refine j_istore C [(8, .int x1), (6, .double r1), (5, .int (0 : Int32)), (0, .ref (z + 71)), (1, .int x0), (2, .int x1), (3, .int x2), (4, .int x3)] dX11_rank_13 (by decide) rfl ?_
  exact j_re [3, 4, 6, 7, 2, 1, 0] rfl (L_15 20 (0 : Int32) r1 x1 hg)

def gX11_ranked_48 (σ : MS) (x0 : Int32) (x1 : Int32) (x2 : Int32) (x3 : Int32) (k7 : MS → Int32 → Option MS) (τ : MS) (v5 : Int32) : Option MS := k7 τ (v5 + (1 : Int32))
def gX11_ranked_7 (σ : MS) (x0 : Int32) (x1 : Int32) (x2 : Int32) (x3 : Int32) (k7 : MS → Int32 → Option MS) (τ : MS) (v5 : Int32) : Option MS := if x2 < v5 then (some τ) else ((gX11_noX τ x0 v5).bind (fun r2 => if r2 = 0 then ((gX11_rank τ x0 x1 x2 v5).bind (fun r3 => if r3 = x3 then ((gX11_x τ x0 v5).bind (fun r4 => (gX11_gives τ r4).bind (fun r5 => gX11_ranked_48 σ x0 x1 x2 x3 k7 r5 v5))) else (gX11_ranked_48 σ x0 x1 x2 x3 k7 τ v5))) else (gX11_ranked_48 σ x0 x1 x2 x3 k7 τ v5)))
def gX11_ranked (σ : MS) (x0 : Int32) (x1 : Int32) (x2 : Int32) (x3 : Int32) : Option MS := (gX11_givesNothing σ ).bind (fun r1 => lq2 (gX11_ranked_7 σ x0 x1 x2 x3) 20 r1 x1)
theorem hd_X11_ranked : yX11_ranked.cls ≠ "java/lang/invoke/MethodHandle" ∧ yX11_ranked.cls ≠ "java/lang/invoke/VarHandle" ∧ (parseMethodDescriptor yX11_ranked.desc).map (fun d => d.parameters.length) = some 4 := by decide +kernel
set_option maxHeartbeats 4000000 in
set_option maxRecDepth 100000 in
theorem tX11_ranked {G : GG} {l : Launch} {z N : Nat} {b : Nat → va_E} (hN : 86 ≤ N) (σ : MS) (x0 : Int32) (x1 : Int32) (x2 : Int32) (x3 : Int32) {r : MS} (hg : gX11_ranked σ x0 x1 x2 x3 = some r) : Ct G l yX11_ranked cX11_ranked 6 none ({ frames := 4, cells := 0, slots := 0, locals := 95 } : Room) [.ref (z + 71), .int x0, .int x1, .int x2, .int x3] z (ctM G z b σ) N none (ctM G z b r) N := by
  refine Ct.of (lv := [(0, .ref (z + 71)), (1, .int x0), (2, .int x1), (3, .int x2), (4, .int x3)]) (by decide +kernel) (Nat.le_of_ble_eq_true rfl) rfl (fun p e s m args below meth c C => ?_)
  have L_7 : ∀ (n7 : Nat) (τ : MS) (v5 : Int32), lq2 (gX11_ranked_7 σ x0 x1 x2 x3) n7 τ v5 = some r → J G p l e ({ frames := 4, cells := 0, slots := 0, locals := 95 } : Room) s m args below meth c z 6 (MQ below (Qd G z none (ctM G z b r) N) args s 0 0 (zA z)) (ctM G z b τ) N 0 0 7 [(0, .ref (z + 71)), (1, .int x0), (2, .int x1), (3, .int x2), (4, .int x3), (5, .int v5)] [] := by
    intro n7
    induction n7 with
    | zero => intro τ v5 hg; cases hg
    | succ n7 ih7 =>
      have L_48 : ∀ (τ : MS) (v5 : Int32), gX11_ranked_48 σ x0 x1 x2 x3 (lq2 (gX11_ranked_7 σ x0 x1 x2 x3) n7) τ v5 = some r → J G p l e ({ frames := 4, cells := 0, slots := 0, locals := 95 } : Room) s m args below meth c z 6 (MQ below (Qd G z none (ctM G z b r) N) args s 0 0 (zA z)) (ctM G z b τ) N 0 0 48 [(0, .ref (z + 71)), (1, .int x0), (2, .int x1), (3, .int x2), (4, .int x3), (5, .int v5)] [] := by
        intro τ v5 hg
        rw [gX11_ranked_48] at hg
        refine j_iinc C [(5, .int (v5 + (1 : Int32))), (0, .ref (z + 71)), (1, .int x0), (2, .int x1), (3, .int x2), (4, .int x3)] dX11_ranked_48 5 rfl rfl (by decide) rfl ?_
        refine j_goto C 7 dX11_ranked_51 (by decide) ?_
        exact j_re [1, 2, 3, 4, 5, 0] rfl (ih7 τ (v5 + (1 : Int32)) hg)
      intro τ v5 hg
      replace hg : gX11_ranked_7 σ x0 x1 x2 x3 (lq2 (gX11_ranked_7 σ x0 x1 x2 x3) n7) τ v5 = some r := hg
      rw [gX11_ranked_7] at hg
      refine j_iload C dX11_ranked_7 5 rfl ?_
      refine j_iload_n C dX11_ranked_9 3 rfl rfl ?_
      refine j_icmp_gt C 54 hg dX11_ranked_10 (by decide) (fun hg => ?_) (fun hg => ?_)
      · exact j_vret C dX11_ranked_54 rfl (by rw [← Option.some.inj hg]) rfl
      · refine j_aload_n C dX11_ranked_13 0 rfl rfl ?_
        refine j_iload_n C dX11_ranked_14 1 rfl rfl ?_
        refine j_iload C dX11_ranked_15 5 rfl ?_
        obtain ⟨r2, hr2, hg⟩ := ob hg
        refine j_callV C [.int x0, .int v5] (tX11_noX hN τ x0 v5 hr2) (Nat.lt_of_lt_of_le (by decide) hN) cq_obj rfl q3_238 q1_6 q3_237 qp_26 q3_235 hd_X11_noX rfl dX11_ranked_17 rfl (Nat.le_of_ble_eq_true rfl) ⟨(Nat.le_of_ble_eq_true rfl), (Nat.le_of_ble_eq_true rfl)⟩ ⟨(Nat.le_of_ble_eq_true rfl), (Nat.le_of_ble_eq_true rfl)⟩ ?_
        refine j_if_ne C 48 hg dX11_ranked_20 (by decide) (fun hg => ?_) (fun hg => ?_)
        · exact L_48 τ v5 hg
        · refine j_aload_n C dX11_ranked_23 0 rfl rfl ?_
          refine j_iload_n C dX11_ranked_24 1 rfl rfl ?_
          refine j_iload_n C dX11_ranked_25 2 rfl rfl ?_
          refine j_iload_n C dX11_ranked_26 3 rfl rfl ?_
          refine j_iload C dX11_ranked_27 5 rfl ?_
          obtain ⟨r3, hr3, hg⟩ := ob hg
          refine j_callV C [.int x0, .int x1, .int x2, .int v5] (tX11_rank hN τ x0 x1 x2 v5 hr3) (Nat.lt_of_lt_of_le (by decide) hN) cq_obj rfl q4_85 q1_6 q4_84 qp_38 q4_82 hd_X11_rank rfl dX11_ranked_29 rfl (Nat.le_of_ble_eq_true rfl) ⟨(Nat.le_of_ble_eq_true rfl), (Nat.le_of_ble_eq_true rfl)⟩ ⟨(Nat.le_of_ble_eq_true rfl), (Nat.le_of_ble_eq_true rfl)⟩ ?_
          refine j_iload C dX11_ranked_32 4 rfl ?_
          refine j_icmp_ne C 48 hg dX11_ranked_34 (by decide) (fun hg => ?_) (fun hg => ?_)
          · exact L_48 τ v5 hg
          · refine j_aload_n C dX11_ranked_37 0 rfl rfl ?_
            refine j_aload_n C dX11_ranked_38 0 rfl rfl ?_
            refine j_iload_n C dX11_ranked_39 1 rfl rfl ?_
            refine j_iload C dX11_ranked_40 5 rfl ?_
            obtain ⟨r4, hr4, hg⟩ := ob hg
            refine j_callV C [.int x0, .int v5] (tX11_x hN τ x0 v5 hr4) (Nat.lt_of_lt_of_le (by decide) hN) cq_obj rfl q4_13 q1_6 q4_12 qp_29 q4_10 hd_X11_x rfl dX11_ranked_42 rfl (Nat.le_of_ble_eq_true rfl) ⟨(Nat.le_of_ble_eq_true rfl), (Nat.le_of_ble_eq_true rfl)⟩ ⟨(Nat.le_of_ble_eq_true rfl), (Nat.le_of_ble_eq_true rfl)⟩ ?_
            obtain ⟨r5, hr5, hg⟩ := ob hg
            refine j_callV C [.double r4] (tX11_gives hN τ r4 hr5) (Nat.lt_of_lt_of_le (by decide) hN) cq_obj rfl q4_21 q1_6 q4_20 qp_31 q4_18 hd_X11_gives rfl dX11_ranked_45 rfl (Nat.le_of_ble_eq_true rfl) ⟨(Nat.le_of_ble_eq_true rfl), (Nat.le_of_ble_eq_true rfl)⟩ ⟨(Nat.le_of_ble_eq_true rfl), (Nat.le_of_ble_eq_true rfl)⟩ ?_
            exact L_48 r5 v5 hg
  rw [gX11_ranked] at hg
  refine j_aload_n C dX11_ranked_0 0 rfl rfl ?_
  obtain ⟨r1, hr1, hg⟩ := ob hg
  refine j_callV C [] (tX11_givesNothing hN σ  hr1) (Nat.lt_of_lt_of_le (by decide) hN) cq_obj rfl q4_9 q1_6 q4_8 qp_28 q4_6 hd_X11_givesNothing rfl dX11_ranked_1 rfl (Nat.le_of_ble_eq_true rfl) ⟨(Nat.le_of_ble_eq_true rfl), (Nat.le_of_ble_eq_true rfl)⟩ ⟨(Nat.le_of_ble_eq_true rfl), (Nat.le_of_ble_eq_true rfl)⟩ ?_
  refine j_iload_n C dX11_ranked_4 2 rfl rfl ?_
  refine j_istore C [(5, .int x1), (0, .ref (z + 71)), (1, .int x0), (2, .int x1), (3, .int x2), (4, .int x3)] dX11_ranked_5 (by decide) rfl ?_
  exact j_re [1, 2, 3, 4, 5, 0] rfl (L_7 20 r1 x1 hg)

def gX11_manyX_29 (σ : MS) (x0 : Int32) (x1 : Int32) (x2 : Int32) (k6 : Int32 → Int32 → Option Int32) (v5 : Int32) (s0 : Int32) (s1 : Int32) : Option Int32 := k6 (s1 + s0) (v5 + (1 : Int32))
def gX11_manyX_6 (σ : MS) (x0 : Int32) (x1 : Int32) (x2 : Int32) (k6 : Int32 → Int32 → Option Int32) (v4 : Int32) (v5 : Int32) : Option Int32 := if x2 < v5 then (some v4) else ((gX11_noX σ x0 v5).bind (fun r1 => if r1 = 0 then (gX11_manyX_29 σ x0 x1 x2 k6 v5 (1 : Int32) v4) else (gX11_manyX_29 σ x0 x1 x2 k6 v5 (0 : Int32) v4)))
def gX11_manyX (σ : MS) (x0 : Int32) (x1 : Int32) (x2 : Int32) : Option Int32 := lq2 (gX11_manyX_6 σ x0 x1 x2) 20 (0 : Int32) x1
theorem hd_X11_manyX : yX11_manyX.cls ≠ "java/lang/invoke/MethodHandle" ∧ yX11_manyX.cls ≠ "java/lang/invoke/VarHandle" ∧ (parseMethodDescriptor yX11_manyX.desc).map (fun d => d.parameters.length) = some 3 := by decide +kernel
set_option maxHeartbeats 4000000 in
set_option maxRecDepth 100000 in
theorem tX11_manyX {G : GG} {l : Launch} {z N : Nat} {b : Nat → va_E} (hN : 86 ≤ N) (σ : MS) (x0 : Int32) (x1 : Int32) (x2 : Int32) {r : Int32} (hg : gX11_manyX σ x0 x1 x2 = some r) : Ct G l yX11_manyX cX11_manyX 6 (some .int) ({ frames := 2, cells := 0, slots := 0, locals := 43 } : Room) [.ref (z + 71), .int x0, .int x1, .int x2] z (ctM G z b σ) N (some (.int r)) (ctM G z b σ) N := by
  refine Ct.of (lv := [(0, .ref (z + 71)), (1, .int x0), (2, .int x1), (3, .int x2)]) (by decide +kernel) (Nat.le_of_ble_eq_true rfl) rfl (fun p e s m args below meth c C => ?_)
  have L_6 : ∀ (n6 : Nat) (v4 : Int32) (v5 : Int32), lq2 (gX11_manyX_6 σ x0 x1 x2) n6 v4 v5 = some r → J G p l e ({ frames := 2, cells := 0, slots := 0, locals := 43 } : Room) s m args below meth c z 6 (MQ below (Qd G z (some (.int r)) (ctM G z b σ) N) args s 0 0 (zA z)) (ctM G z b σ) N 0 0 6 [(0, .ref (z + 71)), (1, .int x0), (3, .int x2), (4, .int v4), (5, .int v5)] [] := by
    intro n6
    induction n6 with
    | zero => intro v4 v5 hg; cases hg
    | succ n6 ih6 =>
      have L_29 : ∀ (v5 : Int32) (s0 : Int32) (s1 : Int32), gX11_manyX_29 σ x0 x1 x2 (lq2 (gX11_manyX_6 σ x0 x1 x2) n6) v5 s0 s1 = some r → J G p l e ({ frames := 2, cells := 0, slots := 0, locals := 43 } : Room) s m args below meth c z 6 (MQ below (Qd G z (some (.int r)) (ctM G z b σ) N) args s 0 0 (zA z)) (ctM G z b σ) N 0 0 29 [(0, .ref (z + 71)), (1, .int x0), (3, .int x2), (5, .int v5)] [.int s0, .int s1] := by
        intro v5 s0 s1 hg
        rw [gX11_manyX_29] at hg
        refine j_iadd C dX11_manyX_29 ?_
        refine j_istore C [(4, .int (s1 + s0)), (0, .ref (z + 71)), (1, .int x0), (3, .int x2), (5, .int v5)] dX11_manyX_30 (by decide) rfl ?_
        refine j_iinc C [(5, .int (v5 + (1 : Int32))), (4, .int (s1 + s0)), (0, .ref (z + 71)), (1, .int x0), (3, .int x2)] dX11_manyX_32 4 rfl rfl (by decide) rfl ?_
        refine j_goto C 6 dX11_manyX_35 (by decide) ?_
        exact j_re [2, 3, 4, 1, 0] rfl (ih6 (s1 + s0) (v5 + (1 : Int32)) hg)
      intro v4 v5 hg
      replace hg : gX11_manyX_6 σ x0 x1 x2 (lq2 (gX11_manyX_6 σ x0 x1 x2) n6) v4 v5 = some r := hg
      rw [gX11_manyX_6] at hg
      refine j_iload C dX11_manyX_6 4 rfl ?_
      refine j_iload_n C dX11_manyX_8 2 rfl rfl ?_
      refine j_icmp_gt C 38 hg dX11_manyX_9 (by decide) (fun hg => ?_) (fun hg => ?_)
      · refine j_iload C dX11_manyX_38 3 rfl ?_
        exact j_iret C dX11_manyX_40 (by rw [← Option.some.inj hg]) rfl rfl
      · refine j_iload C dX11_manyX_12 3 rfl ?_
        refine j_aload_n C dX11_manyX_14 0 rfl rfl ?_
        refine j_iload_n C dX11_manyX_15 1 rfl rfl ?_
        refine j_iload C dX11_manyX_16 4 rfl ?_
        obtain ⟨r1, hr1, hg⟩ := ob hg
        refine j_callV C [.int x0, .int v5] (tX11_noX hN σ x0 v5 hr1) (Nat.lt_of_lt_of_le (by decide) hN) cq_obj rfl q3_238 q1_6 q3_237 qp_26 q3_235 hd_X11_noX rfl dX11_manyX_18 rfl (Nat.le_of_ble_eq_true rfl) ⟨(Nat.le_of_ble_eq_true rfl), (Nat.le_of_ble_eq_true rfl)⟩ ⟨(Nat.le_of_ble_eq_true rfl), (Nat.le_of_ble_eq_true rfl)⟩ ?_
        refine j_if_eq C 28 hg dX11_manyX_21 (by decide) (fun hg => ?_) (fun hg => ?_)
        · refine j_iconst (v := 1) C dX11_manyX_28 (by decide) ?_
          exact j_re [0, 1, 2, 4] rfl (L_29 v5 (1 : Int32) v4 hg)
        · refine j_iconst (v := 0) C dX11_manyX_24 (by decide) ?_
          refine j_goto C 29 dX11_manyX_25 (by decide) ?_
          exact j_re [0, 1, 2, 4] rfl (L_29 v5 (0 : Int32) v4 hg)
  rw [gX11_manyX] at hg
  refine j_iconst (v := 0) C dX11_manyX_0 (by decide) ?_
  refine j_istore C [(4, .int (0 : Int32)), (0, .ref (z + 71)), (1, .int x0), (2, .int x1), (3, .int x2)] dX11_manyX_1 (by decide) rfl ?_
  refine j_iload_n C dX11_manyX_3 3 rfl rfl ?_
  refine j_istore C [(5, .int x1), (4, .int (0 : Int32)), (0, .ref (z + 71)), (1, .int x0), (2, .int x1), (3, .int x2)] dX11_manyX_4 (by decide) rfl ?_
  exact j_re [2, 3, 5, 1, 0] rfl (L_6 20 (0 : Int32) x1 hg)

def gX11_lessThan_45 (σ : MS) (x0 : Int32) (x1 : Int32) (k5 : Int32 → Int32 → Option Int32) (v4 : Int32) (s0 : Int32) (s1 : Int32) : Option Int32 := k5 (s1 + s0) (v4 + (1 : Int32))
def gX11_lessThan_44 (σ : MS) (x0 : Int32) (x1 : Int32) (k5 : Int32 → Int32 → Option Int32) (v4 : Int32) (s0 : Int32) : Option Int32 := gX11_lessThan_45 σ x0 x1 k5 v4 (0 : Int32) s0
def gX11_lessThan_5 (σ : MS) (x0 : Int32) (x1 : Int32) (k5 : Int32 → Int32 → Option Int32) (v3 : Int32) (v4 : Int32) : Option Int32 := if (16 : Int32) ≤ v4 then (some v3) else ((gX11_noX σ x0 v4).bind (fun r1 => if r1 = 0 then ((gX11_x σ x0 v4).bind (fun r2 => (gX11_x σ x0 x1).bind (fun r3 => if 0 ≤ (Op.cmpValue (FP.dcmp r2 r3) CmpOp.g) then (gX11_lessThan_44 σ x0 x1 k5 v4 v3) else (gX11_lessThan_45 σ x0 x1 k5 v4 (1 : Int32) v3)))) else (gX11_lessThan_44 σ x0 x1 k5 v4 v3)))
def gX11_lessThan (σ : MS) (x0 : Int32) (x1 : Int32) : Option Int32 := lq2 (gX11_lessThan_5 σ x0 x1) 20 (0 : Int32) (0 : Int32)
theorem hd_X11_lessThan : yX11_lessThan.cls ≠ "java/lang/invoke/MethodHandle" ∧ yX11_lessThan.cls ≠ "java/lang/invoke/VarHandle" ∧ (parseMethodDescriptor yX11_lessThan.desc).map (fun d => d.parameters.length) = some 2 := by decide +kernel
set_option maxHeartbeats 4000000 in
set_option maxRecDepth 100000 in
theorem tX11_lessThan {G : GG} {l : Launch} {z N : Nat} {b : Nat → va_E} (hN : 86 ≤ N) (σ : MS) (x0 : Int32) (x1 : Int32) {r : Int32} (hg : gX11_lessThan σ x0 x1 = some r) : Ct G l yX11_lessThan cX11_lessThan 5 (some .int) ({ frames := 2, cells := 0, slots := 0, locals := 44 } : Room) [.ref (z + 71), .int x0, .int x1] z (ctM G z b σ) N (some (.int r)) (ctM G z b σ) N := by
  refine Ct.of (lv := [(0, .ref (z + 71)), (1, .int x0), (2, .int x1)]) (by decide +kernel) (Nat.le_of_ble_eq_true rfl) rfl (fun p e s m args below meth c C => ?_)
  have L_5 : ∀ (n5 : Nat) (v3 : Int32) (v4 : Int32), lq2 (gX11_lessThan_5 σ x0 x1) n5 v3 v4 = some r → J G p l e ({ frames := 2, cells := 0, slots := 0, locals := 44 } : Room) s m args below meth c z 5 (MQ below (Qd G z (some (.int r)) (ctM G z b σ) N) args s 0 0 (zA z)) (ctM G z b σ) N 0 0 5 [(0, .ref (z + 71)), (1, .int x0), (2, .int x1), (3, .int v3), (4, .int v4)] [] := by
    intro n5
    induction n5 with
    | zero => intro v3 v4 hg; cases hg
    | succ n5 ih5 =>
      have L_45 : ∀ (v4 : Int32) (s0 : Int32) (s1 : Int32), gX11_lessThan_45 σ x0 x1 (lq2 (gX11_lessThan_5 σ x0 x1) n5) v4 s0 s1 = some r → J G p l e ({ frames := 2, cells := 0, slots := 0, locals := 44 } : Room) s m args below meth c z 5 (MQ below (Qd G z (some (.int r)) (ctM G z b σ) N) args s 0 0 (zA z)) (ctM G z b σ) N 0 0 45 [(0, .ref (z + 71)), (1, .int x0), (2, .int x1), (4, .int v4)] [.int s0, .int s1] := by
        intro v4 s0 s1 hg
        rw [gX11_lessThan_45] at hg
        refine j_iadd C dX11_lessThan_45 ?_
        refine j_istore_n C [(3, .int (s1 + s0)), (0, .ref (z + 71)), (1, .int x0), (2, .int x1), (4, .int v4)] dX11_lessThan_46 rfl (by decide) rfl ?_
        refine j_iinc C [(4, .int (v4 + (1 : Int32))), (3, .int (s1 + s0)), (0, .ref (z + 71)), (1, .int x0), (2, .int x1)] dX11_lessThan_47 4 rfl rfl (by decide) rfl ?_
        refine j_goto C 5 dX11_lessThan_50 (by decide) ?_
        exact j_re [2, 3, 4, 1, 0] rfl (ih5 (s1 + s0) (v4 + (1 : Int32)) hg)
      have L_44 : ∀ (v4 : Int32) (s0 : Int32), gX11_lessThan_44 σ x0 x1 (lq2 (gX11_lessThan_5 σ x0 x1) n5) v4 s0 = some r → J G p l e ({ frames := 2, cells := 0, slots := 0, locals := 44 } : Room) s m args below meth c z 5 (MQ below (Qd G z (some (.int r)) (ctM G z b σ) N) args s 0 0 (zA z)) (ctM G z b σ) N 0 0 44 [(0, .ref (z + 71)), (1, .int x0), (2, .int x1), (4, .int v4)] [.int s0] := by
        intro v4 s0 hg
        rw [gX11_lessThan_44] at hg
        refine j_iconst (v := 0) C dX11_lessThan_44 (by decide) ?_
        exact L_45 v4 (0 : Int32) s0 hg
      intro v3 v4 hg
      replace hg : gX11_lessThan_5 σ x0 x1 (lq2 (gX11_lessThan_5 σ x0 x1) n5) v3 v4 = some r := hg
      rw [gX11_lessThan_5] at hg
      refine j_iload C dX11_lessThan_5 4 rfl ?_
      refine j_bipush (v := 16) C dX11_lessThan_7 (by decide) ?_
      refine j_icmp_ge C 53 hg dX11_lessThan_9 (by decide) (fun hg => ?_) (fun hg => ?_)
      · refine j_iload_n C dX11_lessThan_53 3 rfl rfl ?_
        exact j_iret C dX11_lessThan_54 (by rw [← Option.some.inj hg]) rfl rfl
      · refine j_iload_n C dX11_lessThan_12 3 rfl rfl ?_
        refine j_aload_n C dX11_lessThan_13 0 rfl rfl ?_
        refine j_iload_n C dX11_lessThan_14 1 rfl rfl ?_
        refine j_iload C dX11_lessThan_15 4 rfl ?_
        obtain ⟨r1, hr1, hg⟩ := ob hg
        refine j_callV C [.int x0, .int v4] (tX11_noX hN σ x0 v4 hr1) (Nat.lt_of_lt_of_le (by decide) hN) cq_obj rfl q3_238 q1_6 q3_237 qp_26 q3_235 hd_X11_noX rfl dX11_lessThan_17 rfl (Nat.le_of_ble_eq_true rfl) ⟨(Nat.le_of_ble_eq_true rfl), (Nat.le_of_ble_eq_true rfl)⟩ ⟨(Nat.le_of_ble_eq_true rfl), (Nat.le_of_ble_eq_true rfl)⟩ ?_
        refine j_if_ne C 44 hg dX11_lessThan_20 (by decide) (fun hg => ?_) (fun hg => ?_)
        · exact j_re [0, 1, 2, 4] rfl (L_44 v4 v3 hg)
        · refine j_aload_n C dX11_lessThan_23 0 rfl rfl ?_
          refine j_iload_n C dX11_lessThan_24 1 rfl rfl ?_
          refine j_iload C dX11_lessThan_25 4 rfl ?_
          obtain ⟨r2, hr2, hg⟩ := ob hg
          refine j_callV C [.int x0, .int v4] (tX11_x hN σ x0 v4 hr2) (Nat.lt_of_lt_of_le (by decide) hN) cq_obj rfl q4_13 q1_6 q4_12 qp_29 q4_10 hd_X11_x rfl dX11_lessThan_27 rfl (Nat.le_of_ble_eq_true rfl) ⟨(Nat.le_of_ble_eq_true rfl), (Nat.le_of_ble_eq_true rfl)⟩ ⟨(Nat.le_of_ble_eq_true rfl), (Nat.le_of_ble_eq_true rfl)⟩ ?_
          refine j_aload_n C dX11_lessThan_30 0 rfl rfl ?_
          refine j_iload_n C dX11_lessThan_31 1 rfl rfl ?_
          refine j_iload_n C dX11_lessThan_32 2 rfl rfl ?_
          obtain ⟨r3, hr3, hg⟩ := ob hg
          refine j_callV C [.int x0, .int x1] (tX11_x hN σ x0 x1 hr3) (Nat.lt_of_lt_of_le (by decide) hN) cq_obj rfl q4_13 q1_6 q4_12 qp_29 q4_10 hd_X11_x rfl dX11_lessThan_33 rfl (Nat.le_of_ble_eq_true rfl) ⟨(Nat.le_of_ble_eq_true rfl), (Nat.le_of_ble_eq_true rfl)⟩ ⟨(Nat.le_of_ble_eq_true rfl), (Nat.le_of_ble_eq_true rfl)⟩ ?_
          refine j_dcmp C dX11_lessThan_36 ?_
          refine j_if_ge C 44 hg dX11_lessThan_37 (by decide) (fun hg => ?_) (fun hg => ?_)
          · exact j_re [0, 1, 2, 4] rfl (L_44 v4 v3 hg)
          · refine j_iconst (v := 1) C dX11_lessThan_40 (by decide) ?_
            refine j_goto C 45 dX11_lessThan_41 (by decide) ?_
            exact j_re [0, 1, 2, 4] rfl (L_45 v4 (1 : Int32) v3 hg)
  rw [gX11_lessThan] at hg
  refine j_iconst (v := 0) C dX11_lessThan_0 (by decide) ?_
  refine j_istore_n C [(3, .int (0 : Int32)), (0, .ref (z + 71)), (1, .int x0), (2, .int x1)] dX11_lessThan_1 rfl (by decide) rfl ?_
  refine j_iconst (v := 0) C dX11_lessThan_2 (by decide) ?_
  refine j_istore C [(4, .int (0 : Int32)), (3, .int (0 : Int32)), (0, .ref (z + 71)), (1, .int x0), (2, .int x1)] dX11_lessThan_3 (by decide) rfl ?_
  exact j_re [2, 3, 4, 1, 0] rfl (L_5 20 (0 : Int32) (0 : Int32) hg)

def gX11_manySo_27 (σ : MS) (x0 : Int32) (x1 : Int32) (k5 : Int32 → Int32 → Option Int32) (v4 : Int32) (s0 : Int32) (s1 : Int32) : Option Int32 := k5 (s1 + s0) (v4 + (1 : Int32))
def gX11_manySo_5 (σ : MS) (x0 : Int32) (x1 : Int32) (k5 : Int32 → Int32 → Option Int32) (v3 : Int32) (v4 : Int32) : Option Int32 := if x1 < v4 then (some v3) else ((gX11_compares σ x0 v4).bind (fun r1 => if r1 = 0 then (gX11_manySo_27 σ x0 x1 k5 v4 (0 : Int32) v3) else (gX11_manySo_27 σ x0 x1 k5 v4 (1 : Int32) v3)))
def gX11_manySo (σ : MS) (x0 : Int32) (x1 : Int32) : Option Int32 := lq2 (gX11_manySo_5 σ x0 x1) 20 (0 : Int32) (0 : Int32)
theorem hd_X11_manySo : yX11_manySo.cls ≠ "java/lang/invoke/MethodHandle" ∧ yX11_manySo.cls ≠ "java/lang/invoke/VarHandle" ∧ (parseMethodDescriptor yX11_manySo.desc).map (fun d => d.parameters.length) = some 2 := by decide +kernel
set_option maxHeartbeats 4000000 in
set_option maxRecDepth 100000 in
theorem tX11_manySo {G : GG} {l : Launch} {z N : Nat} {b : Nat → va_E} (hN : 86 ≤ N) (σ : MS) (x0 : Int32) (x1 : Int32) {r : Int32} (hg : gX11_manySo σ x0 x1 = some r) : Ct G l yX11_manySo cX11_manySo 5 (some .int) ({ frames := 3, cells := 0, slots := 0, locals := 66 } : Room) [.ref (z + 71), .int x0, .int x1] z (ctM G z b σ) N (some (.int r)) (ctM G z b σ) N := by
  refine Ct.of (lv := [(0, .ref (z + 71)), (1, .int x0), (2, .int x1)]) (by decide +kernel) (Nat.le_of_ble_eq_true rfl) rfl (fun p e s m args below meth c C => ?_)
  have L_5 : ∀ (n5 : Nat) (v3 : Int32) (v4 : Int32), lq2 (gX11_manySo_5 σ x0 x1) n5 v3 v4 = some r → J G p l e ({ frames := 3, cells := 0, slots := 0, locals := 66 } : Room) s m args below meth c z 5 (MQ below (Qd G z (some (.int r)) (ctM G z b σ) N) args s 0 0 (zA z)) (ctM G z b σ) N 0 0 5 [(0, .ref (z + 71)), (1, .int x0), (2, .int x1), (3, .int v3), (4, .int v4)] [] := by
    intro n5
    induction n5 with
    | zero => intro v3 v4 hg; cases hg
    | succ n5 ih5 =>
      have L_27 : ∀ (v4 : Int32) (s0 : Int32) (s1 : Int32), gX11_manySo_27 σ x0 x1 (lq2 (gX11_manySo_5 σ x0 x1) n5) v4 s0 s1 = some r → J G p l e ({ frames := 3, cells := 0, slots := 0, locals := 66 } : Room) s m args below meth c z 5 (MQ below (Qd G z (some (.int r)) (ctM G z b σ) N) args s 0 0 (zA z)) (ctM G z b σ) N 0 0 27 [(0, .ref (z + 71)), (1, .int x0), (2, .int x1), (4, .int v4)] [.int s0, .int s1] := by
        intro v4 s0 s1 hg
        rw [gX11_manySo_27] at hg
        refine j_iadd C dX11_manySo_27 ?_
        refine j_istore_n C [(3, .int (s1 + s0)), (0, .ref (z + 71)), (1, .int x0), (2, .int x1), (4, .int v4)] dX11_manySo_28 rfl (by decide) rfl ?_
        refine j_iinc C [(4, .int (v4 + (1 : Int32))), (3, .int (s1 + s0)), (0, .ref (z + 71)), (1, .int x0), (2, .int x1)] dX11_manySo_29 4 rfl rfl (by decide) rfl ?_
        refine j_goto C 5 dX11_manySo_32 (by decide) ?_
        exact j_re [2, 3, 4, 1, 0] rfl (ih5 (s1 + s0) (v4 + (1 : Int32)) hg)
      intro v3 v4 hg
      replace hg : gX11_manySo_5 σ x0 x1 (lq2 (gX11_manySo_5 σ x0 x1) n5) v3 v4 = some r := hg
      rw [gX11_manySo_5] at hg
      refine j_iload C dX11_manySo_5 4 rfl ?_
      refine j_iload_n C dX11_manySo_7 2 rfl rfl ?_
      refine j_icmp_gt C 35 hg dX11_manySo_8 (by decide) (fun hg => ?_) (fun hg => ?_)
      · refine j_iload_n C dX11_manySo_35 3 rfl rfl ?_
        exact j_iret C dX11_manySo_36 (by rw [← Option.some.inj hg]) rfl rfl
      · refine j_iload_n C dX11_manySo_11 3 rfl rfl ?_
        refine j_aload_n C dX11_manySo_12 0 rfl rfl ?_
        refine j_iload_n C dX11_manySo_13 1 rfl rfl ?_
        refine j_iload C dX11_manySo_14 4 rfl ?_
        obtain ⟨r1, hr1, hg⟩ := ob hg
        refine j_callV C [.int x0, .int v4] (tX11_compares hN σ x0 v4 hr1) (Nat.lt_of_lt_of_le (by decide) hN) cq_obj rfl q4_70 q1_6 q4_69 qp_35 q4_67 hd_X11_compares rfl dX11_manySo_16 rfl (Nat.le_of_ble_eq_true rfl) ⟨(Nat.le_of_ble_eq_true rfl), (Nat.le_of_ble_eq_true rfl)⟩ ⟨(Nat.le_of_ble_eq_true rfl), (Nat.le_of_ble_eq_true rfl)⟩ ?_
        refine j_if_eq C 26 hg dX11_manySo_19 (by decide) (fun hg => ?_) (fun hg => ?_)
        · refine j_iconst (v := 0) C dX11_manySo_26 (by decide) ?_
          exact j_re [0, 1, 2, 4] rfl (L_27 v4 (0 : Int32) v3 hg)
        · refine j_iconst (v := 1) C dX11_manySo_22 (by decide) ?_
          refine j_goto C 27 dX11_manySo_23 (by decide) ?_
          exact j_re [0, 1, 2, 4] rfl (L_27 v4 (1 : Int32) v3 hg)
  rw [gX11_manySo] at hg
  refine j_iconst (v := 0) C dX11_manySo_0 (by decide) ?_
  refine j_istore_n C [(3, .int (0 : Int32)), (0, .ref (z + 71)), (1, .int x0), (2, .int x1)] dX11_manySo_1 rfl (by decide) rfl ?_
  refine j_iconst (v := 0) C dX11_manySo_2 (by decide) ?_
  refine j_istore C [(4, .int (0 : Int32)), (3, .int (0 : Int32)), (0, .ref (z + 71)), (1, .int x0), (2, .int x1)] dX11_manySo_3 (by decide) rfl ?_
  exact j_re [2, 3, 4, 1, 0] rfl (L_5 20 (0 : Int32) (0 : Int32) hg)

def gX11_reckon_368 (σ : MS) (x0 : Int32) (x1 : Int32) (τ : MS) : Option MS := (gX11_givesNothing τ ).bind (fun r28 => some r28)
def gX11_reckon_258 (σ : MS) (x0 : Int32) (x1 : Int32) (τ : MS) : Option MS := (gX11_givesNothing τ ).bind (fun r29 => some r29)
def gX11_reckon_166 (σ : MS) (x0 : Int32) (x1 : Int32) (τ : MS) : Option MS := (gX11_givesNothing τ ).bind (fun r30 => some r30)
def gX11_reckon_64 (σ : MS) (x0 : Int32) (x1 : Int32) (τ : MS) (v3 : Int32) (v4 : Int32) : Option MS := if (8 : Int32) < v3 then ((gX11_x τ x0 x1).bind (fun r32 => (gX11_y τ x0 x1).bind (fun r33 => (gX11_both τ v3 r32 r33 v4).bind (fun r34 => some r34)))) else ((gX11_x τ x0 x1).bind (fun r35 => (gX11_single τ v3 r35 v4).bind (fun r36 => some r36)))
def gX11_reckon_57 (σ : MS) (x0 : Int32) (x1 : Int32) (τ : MS) : Option MS := (gX11_givesNothing τ ).bind (fun r31 => some r31)
def gX11_reckon_37 (σ : MS) (x0 : Int32) (x1 : Int32) (τ : MS) (v3 : Int32) (v4 : Int32) (v5 : Int32) : Option MS := if v5 = 0 then (if v3 < (9 : Int32) then (gX11_reckon_64 σ x0 x1 τ v3 v4) else ((gX11_noY τ x0 x1).bind (fun r27 => if r27 = 0 then (gX11_reckon_64 σ x0 x1 τ v3 v4) else (gX11_reckon_57 σ x0 x1 τ)))) else (gX11_reckon_57 σ x0 x1 τ)
def gX11_reckon (σ : MS) (x0 : Int32) (x1 : Int32) : Option MS := if ix ((4 : Int32) * x0) 48 then (if ix x0 12 then ((gX11_noX σ x0 x1).bind (fun r1 => if (m_made σ ((4 : Int32) * x0).toNatClampNeg) ≤ (16 : Int32) then (gX11_reckon_37 σ x0 x1 σ (m_made σ ((4 : Int32) * x0).toNatClampNeg) (m_narrow σ x0.toNatClampNeg) r1) else (if (m_made σ ((4 : Int32) * x0).toNatClampNeg) = (26 : Int32) then (gX11_reckon_37 σ x0 x1 σ (m_made σ ((4 : Int32) * x0).toNatClampNeg) (m_narrow σ x0.toNatClampNeg) r1) else (if (m_made σ ((4 : Int32) * x0).toNatClampNeg) = (17 : Int32) then (if r1 = 0 then ((gX11_compares σ x0 x1).bind (fun r24 => if r24 = 0 then (gX11_reckon_166 σ x0 x1 σ) else ((gX11_x σ x0 x1).bind (fun r25 => (gX11_gives σ r25).bind (fun r26 => some r26))))) else (gX11_reckon_166 σ x0 x1 σ)) else (if (m_made σ ((4 : Int32) * x0).toNatClampNeg) = (18 : Int32) then (if r1 = 0 then ((gX11_x σ x0 x1).bind (fun r22 => (gX11_gives σ r22).bind (fun r23 => some r23))) else ((gX11_noY σ x0 x1).bind (fun r18 => if r18 = 0 then ((gX11_y σ x0 x1).bind (fun r19 => (gX11_gives σ r19).bind (fun r20 => some r20))) else ((gX11_givesNothing σ ).bind (fun r21 => some r21))))) else (if (m_made σ ((4 : Int32) * x0).toNatClampNeg) = (19 : Int32) then (if x1 = 0 then (gX11_reckon_258 σ x0 x1 σ) else (if x1 = (15 : Int32) then (gX11_reckon_258 σ x0 x1 σ) else ((gX11_manyX σ x0 (x1 - (1 : Int32)) (x1 + (1 : Int32))).bind (fun r16 => if (3 : Int32) ≤ r16 then ((gX11_ranked σ x0 (x1 - (1 : Int32)) (x1 + (1 : Int32)) (1 : Int32)).bind (fun r17 => some r17)) else (gX11_reckon_258 σ x0 x1 σ))))) else (if (m_made σ ((4 : Int32) * x0).toNatClampNeg) = (20 : Int32) then ((gX11_manyX σ x0 (0 : Int32) x1).bind (fun r14 => (gX11_ranked σ x0 (0 : Int32) x1 (r14 - (1 : Int32))).bind (fun r15 => some r15))) else (if (m_made σ ((4 : Int32) * x0).toNatClampNeg) = (21 : Int32) then ((gX11_ranked σ x0 (0 : Int32) x1 (0 : Int32)).bind (fun r13 => some r13)) else (if (m_made σ ((4 : Int32) * x0).toNatClampNeg) = (22 : Int32) then ((gX11_ranked σ x0 (0 : Int32) (15 : Int32) x1).bind (fun r12 => some r12)) else (if (m_made σ ((4 : Int32) * x0).toNatClampNeg) = (23 : Int32) then (if r1 = 0 then ((gX11_lessThan σ x0 x1).bind (fun r9 => (gX11_gives σ (FP.i2d r9)).bind (fun r10 => some r10))) else ((gX11_givesNothing σ ).bind (fun r11 => some r11))) else (if (m_made σ ((4 : Int32) * x0).toNatClampNeg) = (24 : Int32) then (if r1 = 0 then (if x1 = 0 then (gX11_reckon_368 σ x0 x1 σ) else ((gX11_noX σ x0 (x1 - (1 : Int32))).bind (fun r5 => if r5 = 0 then ((gX11_x σ x0 x1).bind (fun r6 => (gX11_x σ x0 (x1 - (1 : Int32))).bind (fun r7 => (gX11_difference σ r6 r7 (m_narrow σ x0.toNatClampNeg)).bind (fun r8 => some r8)))) else (gX11_reckon_368 σ x0 x1 σ)))) else (gX11_reckon_368 σ x0 x1 σ)) else ((gX11_manySo σ x0 x1).bind (fun r3 => (gX11_gives σ (FP.i2d r3)).bind (fun r4 => some r4)))))))))))))) else none) else none
theorem hd_X11_reckon : yX11_reckon.cls ≠ "java/lang/invoke/MethodHandle" ∧ yX11_reckon.cls ≠ "java/lang/invoke/VarHandle" ∧ (parseMethodDescriptor yX11_reckon.desc).map (fun d => d.parameters.length) = some 2 := by decide +kernel
set_option maxHeartbeats 4000000 in
set_option maxRecDepth 100000 in
theorem tX11_reckon {G : GG} {l : Launch} {z N : Nat} {b : Nat → va_E} (hN : 86 ≤ N) (σ : MS) (x0 : Int32) (x1 : Int32) {r : MS} (hg : gX11_reckon σ x0 x1 = some r) : Ct G l yX11_reckon cX11_reckon 6 none ({ frames := 5, cells := 0, slots := 0, locals := 120 } : Room) [.ref (z + 71), .int x0, .int x1] z (ctM G z b σ) N none (ctM G z b r) N := by
  refine Ct.of (lv := [(0, .ref (z + 71)), (1, .int x0), (2, .int x1)]) (by decide +kernel) (Nat.le_of_ble_eq_true rfl) rfl (fun p e s m args below meth c C => ?_)
  have L_368 : ∀ (τ : MS), gX11_reckon_368 σ x0 x1 τ = some r → J G p l e ({ frames := 5, cells := 0, slots := 0, locals := 120 } : Room) s m args below meth c z 6 (MQ below (Qd G z none (ctM G z b r) N) args s 0 0 (zA z)) (ctM G z b τ) N 0 0 368 [(0, .ref (z + 71))] [] := by
    intro τ hg
    rw [gX11_reckon_368] at hg
    refine j_aload_n C dX11_reckon_368 0 rfl rfl ?_
    obtain ⟨r28, hr28, hg⟩ := ob hg
    refine j_callV C [] (tX11_givesNothing hN τ  hr28) (Nat.lt_of_lt_of_le (by decide) hN) cq_obj rfl q4_9 q1_6 q4_8 qp_28 q4_6 hd_X11_givesNothing rfl dX11_reckon_369 rfl (Nat.le_of_ble_eq_true rfl) ⟨(Nat.le_of_ble_eq_true rfl), (Nat.le_of_ble_eq_true rfl)⟩ ⟨(Nat.le_of_ble_eq_true rfl), (Nat.le_of_ble_eq_true rfl)⟩ ?_
    refine j_goto C 409 dX11_reckon_372 (by decide) ?_
    exact j_vret C dX11_reckon_409 rfl (by rw [← Option.some.inj hg]) rfl
  have L_258 : ∀ (τ : MS), gX11_reckon_258 σ x0 x1 τ = some r → J G p l e ({ frames := 5, cells := 0, slots := 0, locals := 120 } : Room) s m args below meth c z 6 (MQ below (Qd G z none (ctM G z b r) N) args s 0 0 (zA z)) (ctM G z b τ) N 0 0 258 [(0, .ref (z + 71))] [] := by
    intro τ hg
    rw [gX11_reckon_258] at hg
    refine j_aload_n C dX11_reckon_258 0 rfl rfl ?_
    obtain ⟨r29, hr29, hg⟩ := ob hg
    refine j_callV C [] (tX11_givesNothing hN τ  hr29) (Nat.lt_of_lt_of_le (by decide) hN) cq_obj rfl q4_9 q1_6 q4_8 qp_28 q4_6 hd_X11_givesNothing rfl dX11_reckon_259 rfl (Nat.le_of_ble_eq_true rfl) ⟨(Nat.le_of_ble_eq_true rfl), (Nat.le_of_ble_eq_true rfl)⟩ ⟨(Nat.le_of_ble_eq_true rfl), (Nat.le_of_ble_eq_true rfl)⟩ ?_
    refine j_goto C 409 dX11_reckon_262 (by decide) ?_
    exact j_vret C dX11_reckon_409 rfl (by rw [← Option.some.inj hg]) rfl
  have L_166 : ∀ (τ : MS), gX11_reckon_166 σ x0 x1 τ = some r → J G p l e ({ frames := 5, cells := 0, slots := 0, locals := 120 } : Room) s m args below meth c z 6 (MQ below (Qd G z none (ctM G z b r) N) args s 0 0 (zA z)) (ctM G z b τ) N 0 0 166 [(0, .ref (z + 71))] [] := by
    intro τ hg
    rw [gX11_reckon_166] at hg
    refine j_aload_n C dX11_reckon_166 0 rfl rfl ?_
    obtain ⟨r30, hr30, hg⟩ := ob hg
    refine j_callV C [] (tX11_givesNothing hN τ  hr30) (Nat.lt_of_lt_of_le (by decide) hN) cq_obj rfl q4_9 q1_6 q4_8 qp_28 q4_6 hd_X11_givesNothing rfl dX11_reckon_167 rfl (Nat.le_of_ble_eq_true rfl) ⟨(Nat.le_of_ble_eq_true rfl), (Nat.le_of_ble_eq_true rfl)⟩ ⟨(Nat.le_of_ble_eq_true rfl), (Nat.le_of_ble_eq_true rfl)⟩ ?_
    refine j_goto C 409 dX11_reckon_170 (by decide) ?_
    exact j_vret C dX11_reckon_409 rfl (by rw [← Option.some.inj hg]) rfl
  have L_64 : ∀ (τ : MS) (v3 : Int32) (v4 : Int32), gX11_reckon_64 σ x0 x1 τ v3 v4 = some r → J G p l e ({ frames := 5, cells := 0, slots := 0, locals := 120 } : Room) s m args below meth c z 6 (MQ below (Qd G z none (ctM G z b r) N) args s 0 0 (zA z)) (ctM G z b τ) N 0 0 64 [(0, .ref (z + 71)), (1, .int x0), (2, .int x1), (3, .int v3), (4, .int v4)] [] := by
    intro τ v3 v4 hg
    rw [gX11_reckon_64] at hg
    refine j_iload_n C dX11_reckon_64 3 rfl rfl ?_
    refine j_bipush (v := 8) C dX11_reckon_65 (by decide) ?_
    refine j_icmp_gt C 86 hg dX11_reckon_67 (by decide) (fun hg => ?_) (fun hg => ?_)
    · refine j_aload_n C dX11_reckon_86 0 rfl rfl ?_
      refine j_iload_n C dX11_reckon_87 3 rfl rfl ?_
      refine j_aload_n C dX11_reckon_88 0 rfl rfl ?_
      refine j_iload_n C dX11_reckon_89 1 rfl rfl ?_
      refine j_iload_n C dX11_reckon_90 2 rfl rfl ?_
      obtain ⟨r32, hr32, hg⟩ := ob hg
      refine j_callV C [.int x0, .int x1] (tX11_x hN τ x0 x1 hr32) (Nat.lt_of_lt_of_le (by decide) hN) cq_obj rfl q4_13 q1_6 q4_12 qp_29 q4_10 hd_X11_x rfl dX11_reckon_91 rfl (Nat.le_of_ble_eq_true rfl) ⟨(Nat.le_of_ble_eq_true rfl), (Nat.le_of_ble_eq_true rfl)⟩ ⟨(Nat.le_of_ble_eq_true rfl), (Nat.le_of_ble_eq_true rfl)⟩ ?_
      refine j_aload_n C dX11_reckon_94 0 rfl rfl ?_
      refine j_iload_n C dX11_reckon_95 1 rfl rfl ?_
      refine j_iload_n C dX11_reckon_96 2 rfl rfl ?_
      obtain ⟨r33, hr33, hg⟩ := ob hg
      refine j_callV C [.int x0, .int x1] (tX11_y hN τ x0 x1 hr33) (Nat.lt_of_lt_of_le (by decide) hN) cq_obj rfl q4_49 q1_6 q4_48 qp_32 q4_46 hd_X11_y rfl dX11_reckon_97 rfl (Nat.le_of_ble_eq_true rfl) ⟨(Nat.le_of_ble_eq_true rfl), (Nat.le_of_ble_eq_true rfl)⟩ ⟨(Nat.le_of_ble_eq_true rfl), (Nat.le_of_ble_eq_true rfl)⟩ ?_
      refine j_iload C dX11_reckon_100 4 rfl ?_
      obtain ⟨r34, hr34, hg⟩ := ob hg
      refine j_callV C [.int v3, .double r32, .double r33, .int v4] (tX11_both hN τ v3 r32 r33 v4 hr34) (Nat.lt_of_lt_of_le (by decide) hN) cq_obj rfl q4_53 q1_6 q4_52 qp_33 q4_50 hd_X11_both rfl dX11_reckon_102 rfl (Nat.le_of_ble_eq_true rfl) ⟨(Nat.le_of_ble_eq_true rfl), (Nat.le_of_ble_eq_true rfl)⟩ ⟨(Nat.le_of_ble_eq_true rfl), (Nat.le_of_ble_eq_true rfl)⟩ ?_
      exact j_vret C dX11_reckon_105 rfl (by rw [← Option.some.inj hg]) rfl
    · refine j_aload_n C dX11_reckon_70 0 rfl rfl ?_
      refine j_iload_n C dX11_reckon_71 3 rfl rfl ?_
      refine j_aload_n C dX11_reckon_72 0 rfl rfl ?_
      refine j_iload_n C dX11_reckon_73 1 rfl rfl ?_
      refine j_iload_n C dX11_reckon_74 2 rfl rfl ?_
      obtain ⟨r35, hr35, hg⟩ := ob hg
      refine j_callV C [.int x0, .int x1] (tX11_x hN τ x0 x1 hr35) (Nat.lt_of_lt_of_le (by decide) hN) cq_obj rfl q4_13 q1_6 q4_12 qp_29 q4_10 hd_X11_x rfl dX11_reckon_75 rfl (Nat.le_of_ble_eq_true rfl) ⟨(Nat.le_of_ble_eq_true rfl), (Nat.le_of_ble_eq_true rfl)⟩ ⟨(Nat.le_of_ble_eq_true rfl), (Nat.le_of_ble_eq_true rfl)⟩ ?_
      refine j_iload C dX11_reckon_78 4 rfl ?_
      obtain ⟨r36, hr36, hg⟩ := ob hg
      refine j_callV C [.int v3, .double r35, .int v4] (tX11_single hN τ v3 r35 v4 hr36) (Nat.lt_of_lt_of_le (by decide) hN) cq_obj rfl q4_17 q1_6 q4_16 qp_30 q4_14 hd_X11_single rfl dX11_reckon_80 rfl (Nat.le_of_ble_eq_true rfl) ⟨(Nat.le_of_ble_eq_true rfl), (Nat.le_of_ble_eq_true rfl)⟩ ⟨(Nat.le_of_ble_eq_true rfl), (Nat.le_of_ble_eq_true rfl)⟩ ?_
      refine j_goto C 105 dX11_reckon_83 (by decide) ?_
      exact j_vret C dX11_reckon_105 rfl (by rw [← Option.some.inj hg]) rfl
  have L_57 : ∀ (τ : MS), gX11_reckon_57 σ x0 x1 τ = some r → J G p l e ({ frames := 5, cells := 0, slots := 0, locals := 120 } : Room) s m args below meth c z 6 (MQ below (Qd G z none (ctM G z b r) N) args s 0 0 (zA z)) (ctM G z b τ) N 0 0 57 [(0, .ref (z + 71))] [] := by
    intro τ hg
    rw [gX11_reckon_57] at hg
    refine j_aload_n C dX11_reckon_57 0 rfl rfl ?_
    obtain ⟨r31, hr31, hg⟩ := ob hg
    refine j_callV C [] (tX11_givesNothing hN τ  hr31) (Nat.lt_of_lt_of_le (by decide) hN) cq_obj rfl q4_9 q1_6 q4_8 qp_28 q4_6 hd_X11_givesNothing rfl dX11_reckon_58 rfl (Nat.le_of_ble_eq_true rfl) ⟨(Nat.le_of_ble_eq_true rfl), (Nat.le_of_ble_eq_true rfl)⟩ ⟨(Nat.le_of_ble_eq_true rfl), (Nat.le_of_ble_eq_true rfl)⟩ ?_
    refine j_goto C 105 dX11_reckon_61 (by decide) ?_
    exact j_vret C dX11_reckon_105 rfl (by rw [← Option.some.inj hg]) rfl
  have L_37 : ∀ (τ : MS) (v3 : Int32) (v4 : Int32) (v5 : Int32), gX11_reckon_37 σ x0 x1 τ v3 v4 v5 = some r → J G p l e ({ frames := 5, cells := 0, slots := 0, locals := 120 } : Room) s m args below meth c z 6 (MQ below (Qd G z none (ctM G z b r) N) args s 0 0 (zA z)) (ctM G z b τ) N 0 0 37 [(0, .ref (z + 71)), (1, .int x0), (2, .int x1), (3, .int v3), (4, .int v4), (5, .int v5)] [] := by
    intro τ v3 v4 v5 hg
    rw [gX11_reckon_37] at hg
    refine j_iload C dX11_reckon_37 5 rfl ?_
    refine j_if_ne C 57 hg dX11_reckon_39 (by decide) (fun hg => ?_) (fun hg => ?_)
    · exact j_re [0] rfl (L_57 τ hg)
    · refine j_iload_n C dX11_reckon_42 3 rfl rfl ?_
      refine j_bipush (v := 9) C dX11_reckon_43 (by decide) ?_
      refine j_icmp_lt C 64 hg dX11_reckon_45 (by decide) (fun hg => ?_) (fun hg => ?_)
      · exact j_re [0, 1, 2, 3, 4] rfl (L_64 τ v3 v4 hg)
      · refine j_aload_n C dX11_reckon_48 0 rfl rfl ?_
        refine j_iload_n C dX11_reckon_49 1 rfl rfl ?_
        refine j_iload_n C dX11_reckon_50 2 rfl rfl ?_
        obtain ⟨r27, hr27, hg⟩ := ob hg
        refine j_callV C [.int x0, .int x1] (tX11_noY hN τ x0 x1 hr27) (Nat.lt_of_lt_of_le (by decide) hN) cq_obj rfl q4_5 q1_6 q4_4 qp_27 q4_2 hd_X11_noY rfl dX11_reckon_51 rfl (Nat.le_of_ble_eq_true rfl) ⟨(Nat.le_of_ble_eq_true rfl), (Nat.le_of_ble_eq_true rfl)⟩ ⟨(Nat.le_of_ble_eq_true rfl), (Nat.le_of_ble_eq_true rfl)⟩ ?_
        refine j_if_eq C 64 hg dX11_reckon_54 (by decide) (fun hg => ?_) (fun hg => ?_)
        · exact j_re [0, 1, 2, 3, 4] rfl (L_64 τ v3 v4 hg)
        · exact j_re [0] rfl (L_57 τ hg)
  rw [gX11_reckon] at hg
  refine j_aload_n C dX11_reckon_0 0 rfl rfl ?_
  refine j_get (v := .ref (z + 75)) C (Nat.lt_of_lt_of_le (by decide) hN) cq_obj rfl inX11 3 (by decide) q3_106 rfl rfl dX11_reckon_1 ?_
  refine j_iconst (v := 4) C dX11_reckon_4 (by decide) ?_
  refine j_iload_n C dX11_reckon_5 1 rfl rfl ?_
  refine j_imul C dX11_reckon_6 ?_
  refine j_iald C hg (Nat.lt_of_lt_of_le (by decide) hN) cq_made dX11_reckon_7 (fun hg => ?_)
  refine j_istore_n C [(3, .int (m_made σ ((4 : Int32) * x0).toNatClampNeg)), (0, .ref (z + 71)), (1, .int x0), (2, .int x1)] dX11_reckon_8 rfl (by decide) rfl ?_
  refine j_aload_n C dX11_reckon_9 1 rfl rfl ?_
  refine j_get (v := .ref (z + 74)) C (Nat.lt_of_lt_of_le (by decide) hN) cq_obj rfl inX11 2 (by decide) q3_105 rfl rfl dX11_reckon_10 ?_
  refine j_iload_n C dX11_reckon_13 2 rfl rfl ?_
  refine j_zald C hg (Nat.lt_of_lt_of_le (by decide) hN) cq_narrow dX11_reckon_14 (fun hg => ?_)
  refine j_istore C [(4, .int (m_narrow σ x0.toNatClampNeg)), (3, .int (m_made σ ((4 : Int32) * x0).toNatClampNeg)), (0, .ref (z + 71)), (1, .int x0), (2, .int x1)] dX11_reckon_15 (by decide) rfl ?_
  refine j_aload_n C dX11_reckon_17 2 rfl rfl ?_
  refine j_iload_n C dX11_reckon_18 3 rfl rfl ?_
  refine j_iload_n C dX11_reckon_19 4 rfl rfl ?_
  obtain ⟨r1, hr1, hg⟩ := ob hg
  refine j_callV C [.int x0, .int x1] (tX11_noX hN σ x0 x1 hr1) (Nat.lt_of_lt_of_le (by decide) hN) cq_obj rfl q3_238 q1_6 q3_237 qp_26 q3_235 hd_X11_noX rfl dX11_reckon_20 rfl (Nat.le_of_ble_eq_true rfl) ⟨(Nat.le_of_ble_eq_true rfl), (Nat.le_of_ble_eq_true rfl)⟩ ⟨(Nat.le_of_ble_eq_true rfl), (Nat.le_of_ble_eq_true rfl)⟩ ?_
  refine j_istore C [(5, .int r1), (4, .int (m_narrow σ x0.toNatClampNeg)), (3, .int (m_made σ ((4 : Int32) * x0).toNatClampNeg)), (0, .ref (z + 71)), (1, .int x0), (2, .int x1)] dX11_reckon_23 (by decide) rfl ?_
  refine j_iload_n C dX11_reckon_25 2 rfl rfl ?_
  refine j_bipush (v := 16) C dX11_reckon_26 (by decide) ?_
  refine j_icmp_le C 37 hg dX11_reckon_28 (by decide) (fun hg => ?_) (fun hg => ?_)
  · exact j_re [3, 4, 5, 2, 1, 0] rfl (L_37 σ (m_made σ ((4 : Int32) * x0).toNatClampNeg) (m_narrow σ x0.toNatClampNeg) r1 hg)
  · refine j_iload_n C dX11_reckon_31 2 rfl rfl ?_
    refine j_bipush (v := 26) C dX11_reckon_32 (by decide) ?_
    refine j_icmp_ne C 106 hg dX11_reckon_34 (by decide) (fun hg => ?_) (fun hg => ?_)
    · refine j_iload_n C dX11_reckon_106 2 rfl rfl ?_
      by_cases c2_0 : (m_made σ ((4 : Int32) * x0).toNatClampNeg) = (17 : Int32)
      · replace hg := (if_pos c2_0).symm.trans hg
        refine j_tableIn (off := 45) C 152 dX11_reckon_107 (by rw [c2_0]; decide) (by rw [c2_0]; decide) (by rw [c2_0]; rfl) (by decide) ?_
        refine j_iload C dX11_reckon_152 0 rfl ?_
        refine j_if_ne C 166 hg dX11_reckon_154 (by decide) (fun hg => ?_) (fun hg => ?_)
        · exact j_re [3] rfl (L_166 σ hg)
        · refine j_aload_n C dX11_reckon_157 3 rfl rfl ?_
          refine j_iload_n C dX11_reckon_158 4 rfl rfl ?_
          refine j_iload_n C dX11_reckon_159 5 rfl rfl ?_
          obtain ⟨r24, hr24, hg⟩ := ob hg
          refine j_callV C [.int x0, .int x1] (tX11_compares hN σ x0 x1 hr24) (Nat.lt_of_lt_of_le (by decide) hN) cq_obj rfl q4_70 q1_6 q4_69 qp_35 q4_67 hd_X11_compares rfl dX11_reckon_160 rfl (Nat.le_of_ble_eq_true rfl) ⟨(Nat.le_of_ble_eq_true rfl), (Nat.le_of_ble_eq_true rfl)⟩ ⟨(Nat.le_of_ble_eq_true rfl), (Nat.le_of_ble_eq_true rfl)⟩ ?_
          refine j_if_ne C 173 hg dX11_reckon_163 (by decide) (fun hg => ?_) (fun hg => ?_)
          · refine j_aload_n C dX11_reckon_173 3 rfl rfl ?_
            refine j_aload_n C dX11_reckon_174 3 rfl rfl ?_
            refine j_iload_n C dX11_reckon_175 4 rfl rfl ?_
            refine j_iload_n C dX11_reckon_176 5 rfl rfl ?_
            obtain ⟨r25, hr25, hg⟩ := ob hg
            refine j_callV C [.int x0, .int x1] (tX11_x hN σ x0 x1 hr25) (Nat.lt_of_lt_of_le (by decide) hN) cq_obj rfl q4_13 q1_6 q4_12 qp_29 q4_10 hd_X11_x rfl dX11_reckon_177 rfl (Nat.le_of_ble_eq_true rfl) ⟨(Nat.le_of_ble_eq_true rfl), (Nat.le_of_ble_eq_true rfl)⟩ ⟨(Nat.le_of_ble_eq_true rfl), (Nat.le_of_ble_eq_true rfl)⟩ ?_
            obtain ⟨r26, hr26, hg⟩ := ob hg
            refine j_callV C [.double r25] (tX11_gives hN σ r25 hr26) (Nat.lt_of_lt_of_le (by decide) hN) cq_obj rfl q4_21 q1_6 q4_20 qp_31 q4_18 hd_X11_gives rfl dX11_reckon_180 rfl (Nat.le_of_ble_eq_true rfl) ⟨(Nat.le_of_ble_eq_true rfl), (Nat.le_of_ble_eq_true rfl)⟩ ⟨(Nat.le_of_ble_eq_true rfl), (Nat.le_of_ble_eq_true rfl)⟩ ?_
            refine j_goto C 409 dX11_reckon_183 (by decide) ?_
            exact j_vret C dX11_reckon_409 rfl (by rw [← Option.some.inj hg]) rfl
          · exact j_re [3] rfl (L_166 σ hg)
      · replace hg := (if_neg c2_0).symm.trans hg
        by_cases c2_1 : (m_made σ ((4 : Int32) * x0).toNatClampNeg) = (18 : Int32)
        · replace hg := (if_pos c2_1).symm.trans hg
          refine j_tableIn (off := 79) C 186 dX11_reckon_107 (by rw [c2_1]; decide) (by rw [c2_1]; decide) (by rw [c2_1]; rfl) (by decide) ?_
          refine j_iload C dX11_reckon_186 0 rfl ?_
          refine j_if_ne C 204 hg dX11_reckon_188 (by decide) (fun hg => ?_) (fun hg => ?_)
          · refine j_aload_n C dX11_reckon_204 3 rfl rfl ?_
            refine j_iload_n C dX11_reckon_205 4 rfl rfl ?_
            refine j_iload_n C dX11_reckon_206 5 rfl rfl ?_
            obtain ⟨r18, hr18, hg⟩ := ob hg
            refine j_callV C [.int x0, .int x1] (tX11_noY hN σ x0 x1 hr18) (Nat.lt_of_lt_of_le (by decide) hN) cq_obj rfl q4_5 q1_6 q4_4 qp_27 q4_2 hd_X11_noY rfl dX11_reckon_207 rfl (Nat.le_of_ble_eq_true rfl) ⟨(Nat.le_of_ble_eq_true rfl), (Nat.le_of_ble_eq_true rfl)⟩ ⟨(Nat.le_of_ble_eq_true rfl), (Nat.le_of_ble_eq_true rfl)⟩ ?_
            refine j_if_eq C 220 hg dX11_reckon_210 (by decide) (fun hg => ?_) (fun hg => ?_)
            · refine j_aload_n C dX11_reckon_220 3 rfl rfl ?_
              refine j_aload_n C dX11_reckon_221 3 rfl rfl ?_
              refine j_iload_n C dX11_reckon_222 4 rfl rfl ?_
              refine j_iload_n C dX11_reckon_223 5 rfl rfl ?_
              obtain ⟨r19, hr19, hg⟩ := ob hg
              refine j_callV C [.int x0, .int x1] (tX11_y hN σ x0 x1 hr19) (Nat.lt_of_lt_of_le (by decide) hN) cq_obj rfl q4_49 q1_6 q4_48 qp_32 q4_46 hd_X11_y rfl dX11_reckon_224 rfl (Nat.le_of_ble_eq_true rfl) ⟨(Nat.le_of_ble_eq_true rfl), (Nat.le_of_ble_eq_true rfl)⟩ ⟨(Nat.le_of_ble_eq_true rfl), (Nat.le_of_ble_eq_true rfl)⟩ ?_
              obtain ⟨r20, hr20, hg⟩ := ob hg
              refine j_callV C [.double r19] (tX11_gives hN σ r19 hr20) (Nat.lt_of_lt_of_le (by decide) hN) cq_obj rfl q4_21 q1_6 q4_20 qp_31 q4_18 hd_X11_gives rfl dX11_reckon_227 rfl (Nat.le_of_ble_eq_true rfl) ⟨(Nat.le_of_ble_eq_true rfl), (Nat.le_of_ble_eq_true rfl)⟩ ⟨(Nat.le_of_ble_eq_true rfl), (Nat.le_of_ble_eq_true rfl)⟩ ?_
              refine j_goto C 409 dX11_reckon_230 (by decide) ?_
              exact j_vret C dX11_reckon_409 rfl (by rw [← Option.some.inj hg]) rfl
            · refine j_aload_n C dX11_reckon_213 3 rfl rfl ?_
              obtain ⟨r21, hr21, hg⟩ := ob hg
              refine j_callV C [] (tX11_givesNothing hN σ  hr21) (Nat.lt_of_lt_of_le (by decide) hN) cq_obj rfl q4_9 q1_6 q4_8 qp_28 q4_6 hd_X11_givesNothing rfl dX11_reckon_214 rfl (Nat.le_of_ble_eq_true rfl) ⟨(Nat.le_of_ble_eq_true rfl), (Nat.le_of_ble_eq_true rfl)⟩ ⟨(Nat.le_of_ble_eq_true rfl), (Nat.le_of_ble_eq_true rfl)⟩ ?_
              refine j_goto C 409 dX11_reckon_217 (by decide) ?_
              exact j_vret C dX11_reckon_409 rfl (by rw [← Option.some.inj hg]) rfl
          · refine j_aload_n C dX11_reckon_191 3 rfl rfl ?_
            refine j_aload_n C dX11_reckon_192 3 rfl rfl ?_
            refine j_iload_n C dX11_reckon_193 4 rfl rfl ?_
            refine j_iload_n C dX11_reckon_194 5 rfl rfl ?_
            obtain ⟨r22, hr22, hg⟩ := ob hg
            refine j_callV C [.int x0, .int x1] (tX11_x hN σ x0 x1 hr22) (Nat.lt_of_lt_of_le (by decide) hN) cq_obj rfl q4_13 q1_6 q4_12 qp_29 q4_10 hd_X11_x rfl dX11_reckon_195 rfl (Nat.le_of_ble_eq_true rfl) ⟨(Nat.le_of_ble_eq_true rfl), (Nat.le_of_ble_eq_true rfl)⟩ ⟨(Nat.le_of_ble_eq_true rfl), (Nat.le_of_ble_eq_true rfl)⟩ ?_
            obtain ⟨r23, hr23, hg⟩ := ob hg
            refine j_callV C [.double r22] (tX11_gives hN σ r22 hr23) (Nat.lt_of_lt_of_le (by decide) hN) cq_obj rfl q4_21 q1_6 q4_20 qp_31 q4_18 hd_X11_gives rfl dX11_reckon_198 rfl (Nat.le_of_ble_eq_true rfl) ⟨(Nat.le_of_ble_eq_true rfl), (Nat.le_of_ble_eq_true rfl)⟩ ⟨(Nat.le_of_ble_eq_true rfl), (Nat.le_of_ble_eq_true rfl)⟩ ?_
            refine j_goto C 409 dX11_reckon_201 (by decide) ?_
            exact j_vret C dX11_reckon_409 rfl (by rw [← Option.some.inj hg]) rfl
        · replace hg := (if_neg c2_1).symm.trans hg
          by_cases c2_2 : (m_made σ ((4 : Int32) * x0).toNatClampNeg) = (19 : Int32)
          · replace hg := (if_pos c2_2).symm.trans hg
            refine j_tableIn (off := 126) C 233 dX11_reckon_107 (by rw [c2_2]; decide) (by rw [c2_2]; decide) (by rw [c2_2]; rfl) (by decide) ?_
            refine j_iload_n C dX11_reckon_233 5 rfl rfl ?_
            refine j_if_eq C 258 hg dX11_reckon_234 (by decide) (fun hg => ?_) (fun hg => ?_)
            · exact j_re [3] rfl (L_258 σ hg)
            · refine j_iload_n C dX11_reckon_237 5 rfl rfl ?_
              refine j_bipush (v := 15) C dX11_reckon_238 (by decide) ?_
              refine j_icmp_eq C 258 hg dX11_reckon_240 (by decide) (fun hg => ?_) (fun hg => ?_)
              · exact j_re [3] rfl (L_258 σ hg)
              · refine j_aload_n C dX11_reckon_243 3 rfl rfl ?_
                refine j_iload_n C dX11_reckon_244 4 rfl rfl ?_
                refine j_iload_n C dX11_reckon_245 5 rfl rfl ?_
                refine j_iconst (v := 1) C dX11_reckon_246 (by decide) ?_
                refine j_isub C dX11_reckon_247 ?_
                refine j_iload_n C dX11_reckon_248 5 rfl rfl ?_
                refine j_iconst (v := 1) C dX11_reckon_249 (by decide) ?_
                refine j_iadd C dX11_reckon_250 ?_
                obtain ⟨r16, hr16, hg⟩ := ob hg
                refine j_callV C [.int x0, .int (x1 - (1 : Int32)), .int (x1 + (1 : Int32))] (tX11_manyX hN σ x0 (x1 - (1 : Int32)) (x1 + (1 : Int32)) hr16) (Nat.lt_of_lt_of_le (by decide) hN) cq_obj rfl q4_77 q1_6 q4_76 qp_36 q4_74 hd_X11_manyX rfl dX11_reckon_251 rfl (Nat.le_of_ble_eq_true rfl) ⟨(Nat.le_of_ble_eq_true rfl), (Nat.le_of_ble_eq_true rfl)⟩ ⟨(Nat.le_of_ble_eq_true rfl), (Nat.le_of_ble_eq_true rfl)⟩ ?_
                refine j_iconst (v := 3) C dX11_reckon_254 (by decide) ?_
                refine j_icmp_ge C 265 hg dX11_reckon_255 (by decide) (fun hg => ?_) (fun hg => ?_)
                · refine j_aload_n C dX11_reckon_265 3 rfl rfl ?_
                  refine j_iload_n C dX11_reckon_266 4 rfl rfl ?_
                  refine j_iload_n C dX11_reckon_267 5 rfl rfl ?_
                  refine j_iconst (v := 1) C dX11_reckon_268 (by decide) ?_
                  refine j_isub C dX11_reckon_269 ?_
                  refine j_iload_n C dX11_reckon_270 5 rfl rfl ?_
                  refine j_iconst (v := 1) C dX11_reckon_271 (by decide) ?_
                  refine j_iadd C dX11_reckon_272 ?_
                  refine j_iconst (v := 1) C dX11_reckon_273 (by decide) ?_
                  obtain ⟨r17, hr17, hg⟩ := ob hg
                  refine j_callV C [.int x0, .int (x1 - (1 : Int32)), .int (x1 + (1 : Int32)), .int (1 : Int32)] (tX11_ranked hN σ x0 (x1 - (1 : Int32)) (x1 + (1 : Int32)) (1 : Int32) hr17) (Nat.lt_of_lt_of_le (by decide) hN) cq_obj rfl q4_81 q1_6 q4_80 qp_37 q4_78 hd_X11_ranked rfl dX11_reckon_274 rfl (Nat.le_of_ble_eq_true rfl) ⟨(Nat.le_of_ble_eq_true rfl), (Nat.le_of_ble_eq_true rfl)⟩ ⟨(Nat.le_of_ble_eq_true rfl), (Nat.le_of_ble_eq_true rfl)⟩ ?_
                  refine j_goto C 409 dX11_reckon_277 (by decide) ?_
                  exact j_vret C dX11_reckon_409 rfl (by rw [← Option.some.inj hg]) rfl
                · exact j_re [3] rfl (L_258 σ hg)
          · replace hg := (if_neg c2_2).symm.trans hg
            by_cases c2_3 : (m_made σ ((4 : Int32) * x0).toNatClampNeg) = (20 : Int32)
            · replace hg := (if_pos c2_3).symm.trans hg
              refine j_tableIn (off := 173) C 280 dX11_reckon_107 (by rw [c2_3]; decide) (by rw [c2_3]; decide) (by rw [c2_3]; rfl) (by decide) ?_
              refine j_aload_n C dX11_reckon_280 3 rfl rfl ?_
              refine j_iload_n C dX11_reckon_281 4 rfl rfl ?_
              refine j_iconst (v := 0) C dX11_reckon_282 (by decide) ?_
              refine j_iload_n C dX11_reckon_283 5 rfl rfl ?_
              refine j_aload_n C dX11_reckon_284 3 rfl rfl ?_
              refine j_iload_n C dX11_reckon_285 4 rfl rfl ?_
              refine j_iconst (v := 0) C dX11_reckon_286 (by decide) ?_
              refine j_iload_n C dX11_reckon_287 5 rfl rfl ?_
              obtain ⟨r14, hr14, hg⟩ := ob hg
              refine j_callV C [.int x0, .int (0 : Int32), .int x1] (tX11_manyX hN σ x0 (0 : Int32) x1 hr14) (Nat.lt_of_lt_of_le (by decide) hN) cq_obj rfl q4_77 q1_6 q4_76 qp_36 q4_74 hd_X11_manyX rfl dX11_reckon_288 rfl (Nat.le_of_ble_eq_true rfl) ⟨(Nat.le_of_ble_eq_true rfl), (Nat.le_of_ble_eq_true rfl)⟩ ⟨(Nat.le_of_ble_eq_true rfl), (Nat.le_of_ble_eq_true rfl)⟩ ?_
              refine j_iconst (v := 1) C dX11_reckon_291 (by decide) ?_
              refine j_isub C dX11_reckon_292 ?_
              obtain ⟨r15, hr15, hg⟩ := ob hg
              refine j_callV C [.int x0, .int (0 : Int32), .int x1, .int (r14 - (1 : Int32))] (tX11_ranked hN σ x0 (0 : Int32) x1 (r14 - (1 : Int32)) hr15) (Nat.lt_of_lt_of_le (by decide) hN) cq_obj rfl q4_81 q1_6 q4_80 qp_37 q4_78 hd_X11_ranked rfl dX11_reckon_293 rfl (Nat.le_of_ble_eq_true rfl) ⟨(Nat.le_of_ble_eq_true rfl), (Nat.le_of_ble_eq_true rfl)⟩ ⟨(Nat.le_of_ble_eq_true rfl), (Nat.le_of_ble_eq_true rfl)⟩ ?_
              refine j_goto C 409 dX11_reckon_296 (by decide) ?_
              exact j_vret C dX11_reckon_409 rfl (by rw [← Option.some.inj hg]) rfl
            · replace hg := (if_neg c2_3).symm.trans hg
              by_cases c2_4 : (m_made σ ((4 : Int32) * x0).toNatClampNeg) = (21 : Int32)
              · replace hg := (if_pos c2_4).symm.trans hg
                refine j_tableIn (off := 192) C 299 dX11_reckon_107 (by rw [c2_4]; decide) (by rw [c2_4]; decide) (by rw [c2_4]; rfl) (by decide) ?_
                refine j_aload_n C dX11_reckon_299 3 rfl rfl ?_
                refine j_iload_n C dX11_reckon_300 4 rfl rfl ?_
                refine j_iconst (v := 0) C dX11_reckon_301 (by decide) ?_
                refine j_iload_n C dX11_reckon_302 5 rfl rfl ?_
                refine j_iconst (v := 0) C dX11_reckon_303 (by decide) ?_
                obtain ⟨r13, hr13, hg⟩ := ob hg
                refine j_callV C [.int x0, .int (0 : Int32), .int x1, .int (0 : Int32)] (tX11_ranked hN σ x0 (0 : Int32) x1 (0 : Int32) hr13) (Nat.lt_of_lt_of_le (by decide) hN) cq_obj rfl q4_81 q1_6 q4_80 qp_37 q4_78 hd_X11_ranked rfl dX11_reckon_304 rfl (Nat.le_of_ble_eq_true rfl) ⟨(Nat.le_of_ble_eq_true rfl), (Nat.le_of_ble_eq_true rfl)⟩ ⟨(Nat.le_of_ble_eq_true rfl), (Nat.le_of_ble_eq_true rfl)⟩ ?_
                refine j_goto C 409 dX11_reckon_307 (by decide) ?_
                exact j_vret C dX11_reckon_409 rfl (by rw [← Option.some.inj hg]) rfl
              · replace hg := (if_neg c2_4).symm.trans hg
                by_cases c2_5 : (m_made σ ((4 : Int32) * x0).toNatClampNeg) = (22 : Int32)
                · replace hg := (if_pos c2_5).symm.trans hg
                  refine j_tableIn (off := 203) C 310 dX11_reckon_107 (by rw [c2_5]; decide) (by rw [c2_5]; decide) (by rw [c2_5]; rfl) (by decide) ?_
                  refine j_aload_n C dX11_reckon_310 3 rfl rfl ?_
                  refine j_iload_n C dX11_reckon_311 4 rfl rfl ?_
                  refine j_iconst (v := 0) C dX11_reckon_312 (by decide) ?_
                  refine j_bipush (v := 15) C dX11_reckon_313 (by decide) ?_
                  refine j_iload_n C dX11_reckon_315 5 rfl rfl ?_
                  obtain ⟨r12, hr12, hg⟩ := ob hg
                  refine j_callV C [.int x0, .int (0 : Int32), .int (15 : Int32), .int x1] (tX11_ranked hN σ x0 (0 : Int32) (15 : Int32) x1 hr12) (Nat.lt_of_lt_of_le (by decide) hN) cq_obj rfl q4_81 q1_6 q4_80 qp_37 q4_78 hd_X11_ranked rfl dX11_reckon_316 rfl (Nat.le_of_ble_eq_true rfl) ⟨(Nat.le_of_ble_eq_true rfl), (Nat.le_of_ble_eq_true rfl)⟩ ⟨(Nat.le_of_ble_eq_true rfl), (Nat.le_of_ble_eq_true rfl)⟩ ?_
                  refine j_goto C 409 dX11_reckon_319 (by decide) ?_
                  exact j_vret C dX11_reckon_409 rfl (by rw [← Option.some.inj hg]) rfl
                · replace hg := (if_neg c2_5).symm.trans hg
                  by_cases c2_6 : (m_made σ ((4 : Int32) * x0).toNatClampNeg) = (23 : Int32)
                  · replace hg := (if_pos c2_6).symm.trans hg
                    refine j_tableIn (off := 215) C 322 dX11_reckon_107 (by rw [c2_6]; decide) (by rw [c2_6]; decide) (by rw [c2_6]; rfl) (by decide) ?_
                    refine j_iload C dX11_reckon_322 0 rfl ?_
                    refine j_if_eq C 334 hg dX11_reckon_324 (by decide) (fun hg => ?_) (fun hg => ?_)
                    · refine j_aload_n C dX11_reckon_334 3 rfl rfl ?_
                      refine j_aload_n C dX11_reckon_335 3 rfl rfl ?_
                      refine j_iload_n C dX11_reckon_336 4 rfl rfl ?_
                      refine j_iload_n C dX11_reckon_337 5 rfl rfl ?_
                      obtain ⟨r9, hr9, hg⟩ := ob hg
                      refine j_callV C [.int x0, .int x1] (tX11_lessThan hN σ x0 x1 hr9) (Nat.lt_of_lt_of_le (by decide) hN) cq_obj rfl q4_89 q1_6 q4_88 qp_39 q4_86 hd_X11_lessThan rfl dX11_reckon_338 rfl (Nat.le_of_ble_eq_true rfl) ⟨(Nat.le_of_ble_eq_true rfl), (Nat.le_of_ble_eq_true rfl)⟩ ⟨(Nat.le_of_ble_eq_true rfl), (Nat.le_of_ble_eq_true rfl)⟩ ?_
                      refine j_i2d C dX11_reckon_341 ?_
                      obtain ⟨r10, hr10, hg⟩ := ob hg
                      refine j_callV C [.double (FP.i2d r9)] (tX11_gives hN σ (FP.i2d r9) hr10) (Nat.lt_of_lt_of_le (by decide) hN) cq_obj rfl q4_21 q1_6 q4_20 qp_31 q4_18 hd_X11_gives rfl dX11_reckon_342 rfl (Nat.le_of_ble_eq_true rfl) ⟨(Nat.le_of_ble_eq_true rfl), (Nat.le_of_ble_eq_true rfl)⟩ ⟨(Nat.le_of_ble_eq_true rfl), (Nat.le_of_ble_eq_true rfl)⟩ ?_
                      refine j_goto C 409 dX11_reckon_345 (by decide) ?_
                      exact j_vret C dX11_reckon_409 rfl (by rw [← Option.some.inj hg]) rfl
                    · refine j_aload_n C dX11_reckon_327 3 rfl rfl ?_
                      obtain ⟨r11, hr11, hg⟩ := ob hg
                      refine j_callV C [] (tX11_givesNothing hN σ  hr11) (Nat.lt_of_lt_of_le (by decide) hN) cq_obj rfl q4_9 q1_6 q4_8 qp_28 q4_6 hd_X11_givesNothing rfl dX11_reckon_328 rfl (Nat.le_of_ble_eq_true rfl) ⟨(Nat.le_of_ble_eq_true rfl), (Nat.le_of_ble_eq_true rfl)⟩ ⟨(Nat.le_of_ble_eq_true rfl), (Nat.le_of_ble_eq_true rfl)⟩ ?_
                      refine j_goto C 409 dX11_reckon_331 (by decide) ?_
                      exact j_vret C dX11_reckon_409 rfl (by rw [← Option.some.inj hg]) rfl
                  · replace hg := (if_neg c2_6).symm.trans hg
                    by_cases c2_7 : (m_made σ ((4 : Int32) * x0).toNatClampNeg) = (24 : Int32)
                    · replace hg := (if_pos c2_7).symm.trans hg
                      refine j_tableIn (off := 241) C 348 dX11_reckon_107 (by rw [c2_7]; decide) (by rw [c2_7]; decide) (by rw [c2_7]; rfl) (by decide) ?_
                      refine j_iload C dX11_reckon_348 0 rfl ?_
                      refine j_if_ne C 368 hg dX11_reckon_350 (by decide) (fun hg => ?_) (fun hg => ?_)
                      · exact j_re [3] rfl (L_368 σ hg)
                      · refine j_iload_n C dX11_reckon_353 5 rfl rfl ?_
                        refine j_if_eq C 368 hg dX11_reckon_354 (by decide) (fun hg => ?_) (fun hg => ?_)
                        · exact j_re [3] rfl (L_368 σ hg)
                        · refine j_aload_n C dX11_reckon_357 3 rfl rfl ?_
                          refine j_iload_n C dX11_reckon_358 4 rfl rfl ?_
                          refine j_iload_n C dX11_reckon_359 5 rfl rfl ?_
                          refine j_iconst (v := 1) C dX11_reckon_360 (by decide) ?_
                          refine j_isub C dX11_reckon_361 ?_
                          obtain ⟨r5, hr5, hg⟩ := ob hg
                          refine j_callV C [.int x0, .int (x1 - (1 : Int32))] (tX11_noX hN σ x0 (x1 - (1 : Int32)) hr5) (Nat.lt_of_lt_of_le (by decide) hN) cq_obj rfl q3_238 q1_6 q3_237 qp_26 q3_235 hd_X11_noX rfl dX11_reckon_362 rfl (Nat.le_of_ble_eq_true rfl) ⟨(Nat.le_of_ble_eq_true rfl), (Nat.le_of_ble_eq_true rfl)⟩ ⟨(Nat.le_of_ble_eq_true rfl), (Nat.le_of_ble_eq_true rfl)⟩ ?_
                          refine j_if_eq C 375 hg dX11_reckon_365 (by decide) (fun hg => ?_) (fun hg => ?_)
                          · refine j_aload_n C dX11_reckon_375 3 rfl rfl ?_
                            refine j_aload_n C dX11_reckon_376 3 rfl rfl ?_
                            refine j_iload_n C dX11_reckon_377 4 rfl rfl ?_
                            refine j_iload_n C dX11_reckon_378 5 rfl rfl ?_
                            obtain ⟨r6, hr6, hg⟩ := ob hg
                            refine j_callV C [.int x0, .int x1] (tX11_x hN σ x0 x1 hr6) (Nat.lt_of_lt_of_le (by decide) hN) cq_obj rfl q4_13 q1_6 q4_12 qp_29 q4_10 hd_X11_x rfl dX11_reckon_379 rfl (Nat.le_of_ble_eq_true rfl) ⟨(Nat.le_of_ble_eq_true rfl), (Nat.le_of_ble_eq_true rfl)⟩ ⟨(Nat.le_of_ble_eq_true rfl), (Nat.le_of_ble_eq_true rfl)⟩ ?_
                            refine j_aload_n C dX11_reckon_382 3 rfl rfl ?_
                            refine j_iload_n C dX11_reckon_383 4 rfl rfl ?_
                            refine j_iload_n C dX11_reckon_384 5 rfl rfl ?_
                            refine j_iconst (v := 1) C dX11_reckon_385 (by decide) ?_
                            refine j_isub C dX11_reckon_386 ?_
                            obtain ⟨r7, hr7, hg⟩ := ob hg
                            refine j_callV C [.int x0, .int (x1 - (1 : Int32))] (tX11_x hN σ x0 (x1 - (1 : Int32)) hr7) (Nat.lt_of_lt_of_le (by decide) hN) cq_obj rfl q4_13 q1_6 q4_12 qp_29 q4_10 hd_X11_x rfl dX11_reckon_387 rfl (Nat.le_of_ble_eq_true rfl) ⟨(Nat.le_of_ble_eq_true rfl), (Nat.le_of_ble_eq_true rfl)⟩ ⟨(Nat.le_of_ble_eq_true rfl), (Nat.le_of_ble_eq_true rfl)⟩ ?_
                            refine j_iload C dX11_reckon_390 1 rfl ?_
                            obtain ⟨r8, hr8, hg⟩ := ob hg
                            refine j_callV C [.double r6, .double r7, .int (m_narrow σ x0.toNatClampNeg)] (tX11_difference hN σ r6 r7 (m_narrow σ x0.toNatClampNeg) hr8) (Nat.lt_of_lt_of_le (by decide) hN) cq_obj rfl q4_63 q1_6 q4_62 qp_34 q4_60 hd_X11_difference rfl dX11_reckon_392 rfl (Nat.le_of_ble_eq_true rfl) ⟨(Nat.le_of_ble_eq_true rfl), (Nat.le_of_ble_eq_true rfl)⟩ ⟨(Nat.le_of_ble_eq_true rfl), (Nat.le_of_ble_eq_true rfl)⟩ ?_
                            refine j_goto C 409 dX11_reckon_395 (by decide) ?_
                            exact j_vret C dX11_reckon_409 rfl (by rw [← Option.some.inj hg]) rfl
                          · exact j_re [3] rfl (L_368 σ hg)
                    · replace hg := (if_neg c2_7).symm.trans hg
                      have ho : (m_made σ ((4 : Int32) * x0).toNatClampNeg).toInt < 17 ∨ 24 < (m_made σ ((4 : Int32) * x0).toNatClampNeg).toInt := by
                        by_cases ho : (m_made σ ((4 : Int32) * x0).toNatClampNeg).toInt < 17 ∨ 24 < (m_made σ ((4 : Int32) * x0).toNatClampNeg).toInt
                        · exact ho
                        · obtain ⟨k, hk, hx⟩ := sw_in ho
                          match k, hk, hx with
                          | 0, _, hx => exact absurd (Int32.toInt_inj.mp (hx.trans (by decide))) c2_0
                          | 1, _, hx => exact absurd (Int32.toInt_inj.mp (hx.trans (by decide))) c2_1
                          | 2, _, hx => exact absurd (Int32.toInt_inj.mp (hx.trans (by decide))) c2_2
                          | 3, _, hx => exact absurd (Int32.toInt_inj.mp (hx.trans (by decide))) c2_3
                          | 4, _, hx => exact absurd (Int32.toInt_inj.mp (hx.trans (by decide))) c2_4
                          | 5, _, hx => exact absurd (Int32.toInt_inj.mp (hx.trans (by decide))) c2_5
                          | 6, _, hx => exact absurd (Int32.toInt_inj.mp (hx.trans (by decide))) c2_6
                          | 7, _, hx => exact absurd (Int32.toInt_inj.mp (hx.trans (by decide))) c2_7
                          | k + 8, hk, _ => exact absurd hk (Nat.not_lt.mpr (Nat.le_add_left _ _))
                      refine j_tableOut C 398 dX11_reckon_107 ho (by decide) ?_
                      refine j_aload_n C dX11_reckon_398 3 rfl rfl ?_
                      refine j_aload_n C dX11_reckon_399 3 rfl rfl ?_
                      refine j_iload_n C dX11_reckon_400 4 rfl rfl ?_
                      refine j_iload_n C dX11_reckon_401 5 rfl rfl ?_
                      obtain ⟨r3, hr3, hg⟩ := ob hg
                      refine j_callV C [.int x0, .int x1] (tX11_manySo hN σ x0 x1 hr3) (Nat.lt_of_lt_of_le (by decide) hN) cq_obj rfl q4_93 q1_6 q4_92 qp_40 q4_90 hd_X11_manySo rfl dX11_reckon_402 rfl (Nat.le_of_ble_eq_true rfl) ⟨(Nat.le_of_ble_eq_true rfl), (Nat.le_of_ble_eq_true rfl)⟩ ⟨(Nat.le_of_ble_eq_true rfl), (Nat.le_of_ble_eq_true rfl)⟩ ?_
                      refine j_i2d C dX11_reckon_405 ?_
                      obtain ⟨r4, hr4, hg⟩ := ob hg
                      refine j_callV C [.double (FP.i2d r3)] (tX11_gives hN σ (FP.i2d r3) hr4) (Nat.lt_of_lt_of_le (by decide) hN) cq_obj rfl q4_21 q1_6 q4_20 qp_31 q4_18 hd_X11_gives rfl dX11_reckon_406 rfl (Nat.le_of_ble_eq_true rfl) ⟨(Nat.le_of_ble_eq_true rfl), (Nat.le_of_ble_eq_true rfl)⟩ ⟨(Nat.le_of_ble_eq_true rfl), (Nat.le_of_ble_eq_true rfl)⟩ ?_
                      exact j_vret C dX11_reckon_409 rfl (by rw [← Option.some.inj hg]) rfl
    · exact j_re [3, 4, 5, 2, 1, 0] rfl (L_37 σ (m_made σ ((4 : Int32) * x0).toNatClampNeg) (m_narrow σ x0.toNatClampNeg) r1 hg)

def gX11_reckonAll_128 (σ : MS) (k43 : MS → Int32 → Option MS) (k51 : MS → Int32 → Int32 → Option MS) (τ : MS) (v1 : Int32) (v2 : Int32) : Option MS := k51 τ v1 (v2 + (1 : Int32))
def gX11_reckonAll_51 (σ : MS) (k43 : MS → Int32 → Option MS) (k51 : MS → Int32 → Int32 → Option MS) (τ : MS) (v1 : Int32) (v2 : Int32) : Option MS := if (16 : Int32) ≤ v2 then (k43 τ (v1 + (1 : Int32))) else (if ix ((4 : Int32) * v1) 48 then (if 0 ≤ (m_made τ ((4 : Int32) * v1).toNatClampNeg) then ((gX11_reckon τ v1 v2).bind (fun r1 => if ix (((16 : Int32) * v1) + v2) 200 then (if ix (((16 : Int32) * v1) + v2) 200 then (gX11_reckonAll_128 σ k43 k51 (m_none_ (m_now_ r1 (vf_upd (m_now r1) (((16 : Int32) * v1) + v2).toNatClampNeg (m_worth r1))) (upd (m_none (m_now_ r1 (vf_upd (m_now r1) (((16 : Int32) * v1) + v2).toNatClampNeg (m_worth r1)))) (((16 : Int32) * v1) + v2).toNatClampNeg (vp_nar .boolean (m_isNone (m_now_ r1 (vf_upd (m_now r1) (((16 : Int32) * v1) + v2).toNatClampNeg (m_worth r1))))))) v1 v2) else none) else none)) else (if ix (((16 : Int32) * v1) + v2) 200 then (if ix (((16 : Int32) * v1) + v2) 200 then (if ix (((16 : Int32) * v1) + v2) 200 then (if ix (((16 : Int32) * v1) + v2) 200 then (gX11_reckonAll_128 σ k43 k51 (m_none_ (m_now_ τ (vf_upd (m_now τ) (((16 : Int32) * v1) + v2).toNatClampNeg (m_told τ (((16 : Int32) * v1) + v2).toNatClampNeg))) (upd (m_none (m_now_ τ (vf_upd (m_now τ) (((16 : Int32) * v1) + v2).toNatClampNeg (m_told τ (((16 : Int32) * v1) + v2).toNatClampNeg)))) (((16 : Int32) * v1) + v2).toNatClampNeg (vp_nar .boolean (m_blank (m_now_ τ (vf_upd (m_now τ) (((16 : Int32) * v1) + v2).toNatClampNeg (m_told τ (((16 : Int32) * v1) + v2).toNatClampNeg))) (((16 : Int32) * v1) + v2).toNatClampNeg)))) v1 v2) else none) else none) else none) else none)) else none)
def gX11_reckonAll_43 (σ : MS) (k43 : MS → Int32 → Option MS) (τ : MS) (v1 : Int32) : Option MS := if (12 : Int32) ≤ v1 then (some τ) else (lq3 (gX11_reckonAll_51 σ k43) 20 τ v1 (0 : Int32))
def gX11_reckonAll_4 (σ : MS) (k4 : MS → Int32 → Option MS) (τ : MS) (v1 : Int32) : Option MS := if (200 : Int32) ≤ v1 then (lq2 (gX11_reckonAll_43 σ) 20 τ (0 : Int32)) else (if ix v1 200 then (if ix v1 200 then (if ix v1 200 then (if ix v1 200 then (k4 (m_none_ (m_now_ τ (vf_upd (m_now τ) v1.toNatClampNeg (m_told τ v1.toNatClampNeg))) (upd (m_none (m_now_ τ (vf_upd (m_now τ) v1.toNatClampNeg (m_told τ v1.toNatClampNeg)))) v1.toNatClampNeg (vp_nar .boolean (m_blank (m_now_ τ (vf_upd (m_now τ) v1.toNatClampNeg (m_told τ v1.toNatClampNeg))) v1.toNatClampNeg)))) (v1 + (1 : Int32))) else none) else none) else none) else none)
def gX11_reckonAll (σ : MS) : Option MS := lq2 (gX11_reckonAll_4 σ) 20 σ (192 : Int32)
theorem hd_X11_reckonAll : yX11_reckonAll.cls ≠ "java/lang/invoke/MethodHandle" ∧ yX11_reckonAll.cls ≠ "java/lang/invoke/VarHandle" ∧ (parseMethodDescriptor yX11_reckonAll.desc).map (fun d => d.parameters.length) = some 0 := by decide +kernel
set_option maxHeartbeats 4000000 in
set_option maxRecDepth 100000 in
theorem tX11_reckonAll {G : GG} {l : Launch} {z N : Nat} {b : Nat → va_E} (hN : 86 ≤ N) (σ : MS) {r : MS} (hg : gX11_reckonAll σ = some r) : Ct G l yX11_reckonAll cX11_reckonAll 4 none ({ frames := 6, cells := 0, slots := 0, locals := 145 } : Room) [.ref (z + 71)] z (ctM G z b σ) N none (ctM G z b r) N := by
  refine Ct.of (lv := [(0, .ref (z + 71))]) (by decide +kernel) (Nat.le_of_ble_eq_true rfl) rfl (fun p e s m args below meth c C => ?_)
  have L_43 : ∀ (n43 : Nat) (τ : MS) (v1 : Int32), lq2 (gX11_reckonAll_43 σ) n43 τ v1 = some r → J G p l e ({ frames := 6, cells := 0, slots := 0, locals := 145 } : Room) s m args below meth c z 4 (MQ below (Qd G z none (ctM G z b r) N) args s 0 0 (zA z)) (ctM G z b τ) N 0 0 43 [(0, .ref (z + 71)), (1, .int v1)] [] := by
    intro n43
    induction n43 with
    | zero => intro τ v1 hg; cases hg
    | succ n43 ih43 =>
      have L_51 : ∀ (n51 : Nat) (τ : MS) (v1 : Int32) (v2 : Int32), lq3 (gX11_reckonAll_51 σ (lq2 (gX11_reckonAll_43 σ) n43)) n51 τ v1 v2 = some r → J G p l e ({ frames := 6, cells := 0, slots := 0, locals := 145 } : Room) s m args below meth c z 4 (MQ below (Qd G z none (ctM G z b r) N) args s 0 0 (zA z)) (ctM G z b τ) N 0 0 51 [(0, .ref (z + 71)), (1, .int v1), (2, .int v2)] [] := by
        intro n51
        induction n51 with
        | zero => intro τ v1 v2 hg; cases hg
        | succ n51 ih51 =>
          have L_128 : ∀ (τ : MS) (v1 : Int32) (v2 : Int32), gX11_reckonAll_128 σ (lq2 (gX11_reckonAll_43 σ) n43) (lq3 (gX11_reckonAll_51 σ (lq2 (gX11_reckonAll_43 σ) n43)) n51) τ v1 v2 = some r → J G p l e ({ frames := 6, cells := 0, slots := 0, locals := 145 } : Room) s m args below meth c z 4 (MQ below (Qd G z none (ctM G z b r) N) args s 0 0 (zA z)) (ctM G z b τ) N 0 0 128 [(0, .ref (z + 71)), (1, .int v1), (2, .int v2)] [] := by
            intro τ v1 v2 hg
            rw [gX11_reckonAll_128] at hg
            refine j_iinc C [(2, .int (v2 + (1 : Int32))), (0, .ref (z + 71)), (1, .int v1)] dX11_reckonAll_128 2 rfl rfl (by decide) rfl ?_
            refine j_goto C 51 dX11_reckonAll_131 (by decide) ?_
            exact j_re [1, 2, 0] rfl (ih51 τ v1 (v2 + (1 : Int32)) hg)
          intro τ v1 v2 hg
          replace hg : gX11_reckonAll_51 σ (lq2 (gX11_reckonAll_43 σ) n43) (lq3 (gX11_reckonAll_51 σ (lq2 (gX11_reckonAll_43 σ) n43)) n51) τ v1 v2 = some r := hg
          rw [gX11_reckonAll_51] at hg
          refine j_iload_n C dX11_reckonAll_51 2 rfl rfl ?_
          refine j_bipush (v := 16) C dX11_reckonAll_52 (by decide) ?_
          refine j_icmp_ge C 134 hg dX11_reckonAll_54 (by decide) (fun hg => ?_) (fun hg => ?_)
          · refine j_iinc C [(1, .int (v1 + (1 : Int32))), (0, .ref (z + 71)), (2, .int v2)] dX11_reckonAll_134 1 rfl rfl (by decide) rfl ?_
            refine j_goto C 43 dX11_reckonAll_137 (by decide) ?_
            exact j_re [1, 0] rfl (ih43 τ (v1 + (1 : Int32)) hg)
          · refine j_bipush (v := 16) C dX11_reckonAll_57 (by decide) ?_
            refine j_iload_n C dX11_reckonAll_59 1 rfl rfl ?_
            refine j_imul C dX11_reckonAll_60 ?_
            refine j_iload_n C dX11_reckonAll_61 2 rfl rfl ?_
            refine j_iadd C dX11_reckonAll_62 ?_
            refine j_istore_n C [(3, .int (((16 : Int32) * v1) + v2)), (0, .ref (z + 71)), (1, .int v1), (2, .int v2)] dX11_reckonAll_63 rfl (by decide) rfl ?_
            refine j_aload_n C dX11_reckonAll_64 1 rfl rfl ?_
            refine j_get (v := .ref (z + 75)) C (Nat.lt_of_lt_of_le (by decide) hN) cq_obj rfl inX11 3 (by decide) q3_106 rfl rfl dX11_reckonAll_65 ?_
            refine j_iconst (v := 4) C dX11_reckonAll_68 (by decide) ?_
            refine j_iload_n C dX11_reckonAll_69 2 rfl rfl ?_
            refine j_imul C dX11_reckonAll_70 ?_
            refine j_iald C hg (Nat.lt_of_lt_of_le (by decide) hN) cq_made dX11_reckonAll_71 (fun hg => ?_)
            refine j_if_ge C 102 hg dX11_reckonAll_72 (by decide) (fun hg => ?_) (fun hg => ?_)
            · refine j_aload_n C dX11_reckonAll_102 1 rfl rfl ?_
              refine j_iload_n C dX11_reckonAll_103 2 rfl rfl ?_
              refine j_iload_n C dX11_reckonAll_104 3 rfl rfl ?_
              obtain ⟨r1, hr1, hg⟩ := ob hg
              refine j_callV C [.int v1, .int v2] (tX11_reckon hN τ v1 v2 hr1) (Nat.lt_of_lt_of_le (by decide) hN) cq_obj rfl q3_234 q1_6 q3_233 qp_25 q3_231 hd_X11_reckon rfl dX11_reckonAll_105 rfl (Nat.le_of_ble_eq_true rfl) ⟨(Nat.le_of_ble_eq_true rfl), (Nat.le_of_ble_eq_true rfl)⟩ ⟨(Nat.le_of_ble_eq_true rfl), (Nat.le_of_ble_eq_true rfl)⟩ ?_
              refine j_aload_n C dX11_reckonAll_108 1 rfl rfl ?_
              refine j_get (v := .ref (z + 76)) C (Nat.lt_of_lt_of_le (by decide) hN) cq_obj rfl inX11 4 (by decide) q3_107 rfl rfl dX11_reckonAll_109 ?_
              refine j_iload_n C dX11_reckonAll_112 0 rfl rfl ?_
              refine j_aload_n C dX11_reckonAll_113 1 rfl rfl ?_
              refine j_get (v := .double (m_worth r1)) C (Nat.lt_of_lt_of_le (by decide) hN) cq_obj rfl inX11 17 (by decide) q3_120 rfl rfl dX11_reckonAll_114 ?_
              refine j_dast C hg (Nat.lt_of_lt_of_le (by decide) hN) cq_now dX11_reckonAll_117 (fun hg => j_ct cs_now ?_)
              refine j_aload_n C dX11_reckonAll_118 1 rfl rfl ?_
              refine j_get (v := .ref (z + 77)) C (Nat.lt_of_lt_of_le (by decide) hN) cq_obj rfl inX11 5 (by decide) q3_108 rfl rfl dX11_reckonAll_119 ?_
              refine j_iload_n C dX11_reckonAll_122 0 rfl rfl ?_
              refine j_aload_n C dX11_reckonAll_123 1 rfl rfl ?_
              refine j_get (v := .int (m_isNone (m_now_ r1 (vf_upd (m_now r1) (((16 : Int32) * v1) + v2).toNatClampNeg (m_worth r1))))) C (Nat.lt_of_lt_of_le (by decide) hN) cq_obj rfl inX11 18 (by decide) q3_121 rfl rfl dX11_reckonAll_124 ?_
              refine j_zast C hg (Nat.lt_of_lt_of_le (by decide) hN) cq_none dX11_reckonAll_127 (fun hg => j_ct cs_none ?_)
              exact j_re [1, 2, 3] rfl (L_128 (m_none_ (m_now_ r1 (vf_upd (m_now r1) (((16 : Int32) * v1) + v2).toNatClampNeg (m_worth r1))) (upd (m_none (m_now_ r1 (vf_upd (m_now r1) (((16 : Int32) * v1) + v2).toNatClampNeg (m_worth r1)))) (((16 : Int32) * v1) + v2).toNatClampNeg (vp_nar .boolean (m_isNone (m_now_ r1 (vf_upd (m_now r1) (((16 : Int32) * v1) + v2).toNatClampNeg (m_worth r1))))))) v1 v2 hg)
            · refine j_aload_n C dX11_reckonAll_75 1 rfl rfl ?_
              refine j_get (v := .ref (z + 76)) C (Nat.lt_of_lt_of_le (by decide) hN) cq_obj rfl inX11 4 (by decide) q3_107 rfl rfl dX11_reckonAll_76 ?_
              refine j_iload_n C dX11_reckonAll_79 0 rfl rfl ?_
              refine j_aload_n C dX11_reckonAll_80 1 rfl rfl ?_
              refine j_get (v := .ref (z + 72)) C (Nat.lt_of_lt_of_le (by decide) hN) cq_obj rfl inX11 0 (by decide) q3_103 rfl rfl dX11_reckonAll_81 ?_
              refine j_iload_n C dX11_reckonAll_84 0 rfl rfl ?_
              refine j_dald C hg (Nat.lt_of_lt_of_le (by decide) hN) cq_told dX11_reckonAll_85 (fun hg => ?_)
              refine j_dast C hg (Nat.lt_of_lt_of_le (by decide) hN) cq_now dX11_reckonAll_86 (fun hg => j_ct cs_now ?_)
              refine j_aload_n C dX11_reckonAll_87 1 rfl rfl ?_
              refine j_get (v := .ref (z + 77)) C (Nat.lt_of_lt_of_le (by decide) hN) cq_obj rfl inX11 5 (by decide) q3_108 rfl rfl dX11_reckonAll_88 ?_
              refine j_iload_n C dX11_reckonAll_91 0 rfl rfl ?_
              refine j_aload_n C dX11_reckonAll_92 1 rfl rfl ?_
              refine j_get (v := .ref (z + 73)) C (Nat.lt_of_lt_of_le (by decide) hN) cq_obj rfl inX11 1 (by decide) q3_104 rfl rfl dX11_reckonAll_93 ?_
              refine j_iload_n C dX11_reckonAll_96 0 rfl rfl ?_
              refine j_zald C hg (Nat.lt_of_lt_of_le (by decide) hN) cq_blank dX11_reckonAll_97 (fun hg => ?_)
              refine j_zast C hg (Nat.lt_of_lt_of_le (by decide) hN) cq_none dX11_reckonAll_98 (fun hg => j_ct cs_none ?_)
              refine j_goto C 128 dX11_reckonAll_99 (by decide) ?_
              exact j_re [1, 2, 3] rfl (L_128 (m_none_ (m_now_ τ (vf_upd (m_now τ) (((16 : Int32) * v1) + v2).toNatClampNeg (m_told τ (((16 : Int32) * v1) + v2).toNatClampNeg))) (upd (m_none (m_now_ τ (vf_upd (m_now τ) (((16 : Int32) * v1) + v2).toNatClampNeg (m_told τ (((16 : Int32) * v1) + v2).toNatClampNeg)))) (((16 : Int32) * v1) + v2).toNatClampNeg (vp_nar .boolean (m_blank (m_now_ τ (vf_upd (m_now τ) (((16 : Int32) * v1) + v2).toNatClampNeg (m_told τ (((16 : Int32) * v1) + v2).toNatClampNeg))) (((16 : Int32) * v1) + v2).toNatClampNeg)))) v1 v2 hg)
      intro τ v1 hg
      replace hg : gX11_reckonAll_43 σ (lq2 (gX11_reckonAll_43 σ) n43) τ v1 = some r := hg
      rw [gX11_reckonAll_43] at hg
      refine j_iload_n C dX11_reckonAll_43 1 rfl rfl ?_
      refine j_bipush (v := 12) C dX11_reckonAll_44 (by decide) ?_
      refine j_icmp_ge C 140 hg dX11_reckonAll_46 (by decide) (fun hg => ?_) (fun hg => ?_)
      · exact j_vret C dX11_reckonAll_140 rfl (by rw [← Option.some.inj hg]) rfl
      · refine j_iconst (v := 0) C dX11_reckonAll_49 (by decide) ?_
        refine j_istore_n C [(2, .int (0 : Int32)), (0, .ref (z + 71)), (1, .int v1)] dX11_reckonAll_50 rfl (by decide) rfl ?_
        exact j_re [1, 2, 0] rfl (L_51 20 τ v1 (0 : Int32) hg)
  have L_4 : ∀ (n4 : Nat) (τ : MS) (v1 : Int32), lq2 (gX11_reckonAll_4 σ) n4 τ v1 = some r → J G p l e ({ frames := 6, cells := 0, slots := 0, locals := 145 } : Room) s m args below meth c z 4 (MQ below (Qd G z none (ctM G z b r) N) args s 0 0 (zA z)) (ctM G z b τ) N 0 0 4 [(0, .ref (z + 71)), (1, .int v1)] [] := by
    intro n4
    induction n4 with
    | zero => intro τ v1 hg; cases hg
    | succ n4 ih4 =>
      intro τ v1 hg
      replace hg : gX11_reckonAll_4 σ (lq2 (gX11_reckonAll_4 σ) n4) τ v1 = some r := hg
      rw [gX11_reckonAll_4] at hg
      refine j_iload_n C dX11_reckonAll_4 1 rfl rfl ?_
      refine j_sipush (v := 200) C dX11_reckonAll_5 (by decide) ?_
      refine j_icmp_ge C 41 hg dX11_reckonAll_8 (by decide) (fun hg => ?_) (fun hg => ?_)
      · refine j_iconst (v := 0) C dX11_reckonAll_41 (by decide) ?_
        refine j_istore_n C [(1, .int (0 : Int32)), (0, .ref (z + 71))] dX11_reckonAll_42 rfl (by decide) rfl ?_
        exact j_re [1, 0] rfl (L_43 20 τ (0 : Int32) hg)
      · refine j_aload_n C dX11_reckonAll_11 0 rfl rfl ?_
        refine j_get (v := .ref (z + 76)) C (Nat.lt_of_lt_of_le (by decide) hN) cq_obj rfl inX11 4 (by decide) q3_107 rfl rfl dX11_reckonAll_12 ?_
        refine j_iload_n C dX11_reckonAll_15 1 rfl rfl ?_
        refine j_aload_n C dX11_reckonAll_16 0 rfl rfl ?_
        refine j_get (v := .ref (z + 72)) C (Nat.lt_of_lt_of_le (by decide) hN) cq_obj rfl inX11 0 (by decide) q3_103 rfl rfl dX11_reckonAll_17 ?_
        refine j_iload_n C dX11_reckonAll_20 1 rfl rfl ?_
        refine j_dald C hg (Nat.lt_of_lt_of_le (by decide) hN) cq_told dX11_reckonAll_21 (fun hg => ?_)
        refine j_dast C hg (Nat.lt_of_lt_of_le (by decide) hN) cq_now dX11_reckonAll_22 (fun hg => j_ct cs_now ?_)
        refine j_aload_n C dX11_reckonAll_23 0 rfl rfl ?_
        refine j_get (v := .ref (z + 77)) C (Nat.lt_of_lt_of_le (by decide) hN) cq_obj rfl inX11 5 (by decide) q3_108 rfl rfl dX11_reckonAll_24 ?_
        refine j_iload_n C dX11_reckonAll_27 1 rfl rfl ?_
        refine j_aload_n C dX11_reckonAll_28 0 rfl rfl ?_
        refine j_get (v := .ref (z + 73)) C (Nat.lt_of_lt_of_le (by decide) hN) cq_obj rfl inX11 1 (by decide) q3_104 rfl rfl dX11_reckonAll_29 ?_
        refine j_iload_n C dX11_reckonAll_32 1 rfl rfl ?_
        refine j_zald C hg (Nat.lt_of_lt_of_le (by decide) hN) cq_blank dX11_reckonAll_33 (fun hg => ?_)
        refine j_zast C hg (Nat.lt_of_lt_of_le (by decide) hN) cq_none dX11_reckonAll_34 (fun hg => j_ct cs_none ?_)
        refine j_iinc C [(1, .int (v1 + (1 : Int32))), (0, .ref (z + 71))] dX11_reckonAll_35 1 rfl rfl (by decide) rfl ?_
        refine j_goto C 4 dX11_reckonAll_38 (by decide) ?_
        exact j_re [1, 0] rfl (ih4 (m_none_ (m_now_ τ (vf_upd (m_now τ) v1.toNatClampNeg (m_told τ v1.toNatClampNeg))) (upd (m_none (m_now_ τ (vf_upd (m_now τ) v1.toNatClampNeg (m_told τ v1.toNatClampNeg)))) v1.toNatClampNeg (vp_nar .boolean (m_blank (m_now_ τ (vf_upd (m_now τ) v1.toNatClampNeg (m_told τ v1.toNatClampNeg))) v1.toNatClampNeg)))) (v1 + (1 : Int32)) hg)
  rw [gX11_reckonAll] at hg
  refine j_sipush (v := 192) C dX11_reckonAll_0 (by decide) ?_
  refine j_istore_n C [(1, .int (192 : Int32)), (0, .ref (z + 71))] dX11_reckonAll_3 rfl (by decide) rfl ?_
  exact j_re [1, 0] rfl (L_4 20 σ (192 : Int32) hg)
