def gX11_alarm_41 (σ : MS) (x0 : Int32) (x1 : Int32) (x2 : Int32) (τ : MS) : Option (MS × Int32) := if (m_alarmMany τ) = (10 : Int32) then (some (τ, (-1 : Int32))) else (if ix ((3 : Int32) * (m_alarmMany τ)) 30 then (if ix (((3 : Int32) * (m_alarmMany (m_alarms_ τ (upd (m_alarms τ) ((3 : Int32) * (m_alarmMany τ)).toNatClampNeg x0)))) + (1 : Int32)) 30 then (if ix (((3 : Int32) * (m_alarmMany (m_alarms_ (m_alarms_ τ (upd (m_alarms τ) ((3 : Int32) * (m_alarmMany τ)).toNatClampNeg x0)) (upd (m_alarms (m_alarms_ τ (upd (m_alarms τ) ((3 : Int32) * (m_alarmMany τ)).toNatClampNeg x0))) (((3 : Int32) * (m_alarmMany (m_alarms_ τ (upd (m_alarms τ) ((3 : Int32) * (m_alarmMany τ)).toNatClampNeg x0)))) + (1 : Int32)).toNatClampNeg x1)))) + (2 : Int32)) 30 then (some (m_alarmMany_ (m_alarms_ (m_alarms_ (m_alarms_ τ (upd (m_alarms τ) ((3 : Int32) * (m_alarmMany τ)).toNatClampNeg x0)) (upd (m_alarms (m_alarms_ τ (upd (m_alarms τ) ((3 : Int32) * (m_alarmMany τ)).toNatClampNeg x0))) (((3 : Int32) * (m_alarmMany (m_alarms_ τ (upd (m_alarms τ) ((3 : Int32) * (m_alarmMany τ)).toNatClampNeg x0)))) + (1 : Int32)).toNatClampNeg x1)) (upd (m_alarms (m_alarms_ (m_alarms_ τ (upd (m_alarms τ) ((3 : Int32) * (m_alarmMany τ)).toNatClampNeg x0)) (upd (m_alarms (m_alarms_ τ (upd (m_alarms τ) ((3 : Int32) * (m_alarmMany τ)).toNatClampNeg x0))) (((3 : Int32) * (m_alarmMany (m_alarms_ τ (upd (m_alarms τ) ((3 : Int32) * (m_alarmMany τ)).toNatClampNeg x0)))) + (1 : Int32)).toNatClampNeg x1))) (((3 : Int32) * (m_alarmMany (m_alarms_ (m_alarms_ τ (upd (m_alarms τ) ((3 : Int32) * (m_alarmMany τ)).toNatClampNeg x0)) (upd (m_alarms (m_alarms_ τ (upd (m_alarms τ) ((3 : Int32) * (m_alarmMany τ)).toNatClampNeg x0))) (((3 : Int32) * (m_alarmMany (m_alarms_ τ (upd (m_alarms τ) ((3 : Int32) * (m_alarmMany τ)).toNatClampNeg x0)))) + (1 : Int32)).toNatClampNeg x1)))) + (2 : Int32)).toNatClampNeg x2)) ((m_alarmMany (m_alarms_ (m_alarms_ (m_alarms_ τ (upd (m_alarms τ) ((3 : Int32) * (m_alarmMany τ)).toNatClampNeg x0)) (upd (m_alarms (m_alarms_ τ (upd (m_alarms τ) ((3 : Int32) * (m_alarmMany τ)).toNatClampNeg x0))) (((3 : Int32) * (m_alarmMany (m_alarms_ τ (upd (m_alarms τ) ((3 : Int32) * (m_alarmMany τ)).toNatClampNeg x0)))) + (1 : Int32)).toNatClampNeg x1)) (upd (m_alarms (m_alarms_ (m_alarms_ τ (upd (m_alarms τ) ((3 : Int32) * (m_alarmMany τ)).toNatClampNeg x0)) (upd (m_alarms (m_alarms_ τ (upd (m_alarms τ) ((3 : Int32) * (m_alarmMany τ)).toNatClampNeg x0))) (((3 : Int32) * (m_alarmMany (m_alarms_ τ (upd (m_alarms τ) ((3 : Int32) * (m_alarmMany τ)).toNatClampNeg x0)))) + (1 : Int32)).toNatClampNeg x1))) (((3 : Int32) * (m_alarmMany (m_alarms_ (m_alarms_ τ (upd (m_alarms τ) ((3 : Int32) * (m_alarmMany τ)).toNatClampNeg x0)) (upd (m_alarms (m_alarms_ τ (upd (m_alarms τ) ((3 : Int32) * (m_alarmMany τ)).toNatClampNeg x0))) (((3 : Int32) * (m_alarmMany (m_alarms_ τ (upd (m_alarms τ) ((3 : Int32) * (m_alarmMany τ)).toNatClampNeg x0)))) + (1 : Int32)).toNatClampNeg x1)))) + (2 : Int32)).toNatClampNeg x2))) + (1 : Int32)), (m_alarmMany (m_alarmMany_ (m_alarms_ (m_alarms_ (m_alarms_ τ (upd (m_alarms τ) ((3 : Int32) * (m_alarmMany τ)).toNatClampNeg x0)) (upd (m_alarms (m_alarms_ τ (upd (m_alarms τ) ((3 : Int32) * (m_alarmMany τ)).toNatClampNeg x0))) (((3 : Int32) * (m_alarmMany (m_alarms_ τ (upd (m_alarms τ) ((3 : Int32) * (m_alarmMany τ)).toNatClampNeg x0)))) + (1 : Int32)).toNatClampNeg x1)) (upd (m_alarms (m_alarms_ (m_alarms_ τ (upd (m_alarms τ) ((3 : Int32) * (m_alarmMany τ)).toNatClampNeg x0)) (upd (m_alarms (m_alarms_ τ (upd (m_alarms τ) ((3 : Int32) * (m_alarmMany τ)).toNatClampNeg x0))) (((3 : Int32) * (m_alarmMany (m_alarms_ τ (upd (m_alarms τ) ((3 : Int32) * (m_alarmMany τ)).toNatClampNeg x0)))) + (1 : Int32)).toNatClampNeg x1))) (((3 : Int32) * (m_alarmMany (m_alarms_ (m_alarms_ τ (upd (m_alarms τ) ((3 : Int32) * (m_alarmMany τ)).toNatClampNeg x0)) (upd (m_alarms (m_alarms_ τ (upd (m_alarms τ) ((3 : Int32) * (m_alarmMany τ)).toNatClampNeg x0))) (((3 : Int32) * (m_alarmMany (m_alarms_ τ (upd (m_alarms τ) ((3 : Int32) * (m_alarmMany τ)).toNatClampNeg x0)))) + (1 : Int32)).toNatClampNeg x1)))) + (2 : Int32)).toNatClampNeg x2)) ((m_alarmMany (m_alarms_ (m_alarms_ (m_alarms_ τ (upd (m_alarms τ) ((3 : Int32) * (m_alarmMany τ)).toNatClampNeg x0)) (upd (m_alarms (m_alarms_ τ (upd (m_alarms τ) ((3 : Int32) * (m_alarmMany τ)).toNatClampNeg x0))) (((3 : Int32) * (m_alarmMany (m_alarms_ τ (upd (m_alarms τ) ((3 : Int32) * (m_alarmMany τ)).toNatClampNeg x0)))) + (1 : Int32)).toNatClampNeg x1)) (upd (m_alarms (m_alarms_ (m_alarms_ τ (upd (m_alarms τ) ((3 : Int32) * (m_alarmMany τ)).toNatClampNeg x0)) (upd (m_alarms (m_alarms_ τ (upd (m_alarms τ) ((3 : Int32) * (m_alarmMany τ)).toNatClampNeg x0))) (((3 : Int32) * (m_alarmMany (m_alarms_ τ (upd (m_alarms τ) ((3 : Int32) * (m_alarmMany τ)).toNatClampNeg x0)))) + (1 : Int32)).toNatClampNeg x1))) (((3 : Int32) * (m_alarmMany (m_alarms_ (m_alarms_ τ (upd (m_alarms τ) ((3 : Int32) * (m_alarmMany τ)).toNatClampNeg x0)) (upd (m_alarms (m_alarms_ τ (upd (m_alarms τ) ((3 : Int32) * (m_alarmMany τ)).toNatClampNeg x0))) (((3 : Int32) * (m_alarmMany (m_alarms_ τ (upd (m_alarms τ) ((3 : Int32) * (m_alarmMany τ)).toNatClampNeg x0)))) + (1 : Int32)).toNatClampNeg x1)))) + (2 : Int32)).toNatClampNeg x2))) + (1 : Int32)))) - (1 : Int32))) else none) else none) else none)
def gX11_alarm (σ : MS) (x0 : Int32) (x1 : Int32) (x2 : Int32) : Option (MS × Int32) := (gX11_isIn x0 (0 : Int32) (11 : Int32)).bind (fun r1 => if r1 = 0 then (some (σ, (-1 : Int32))) else ((gX11_isIn x1 (0 : Int32) (11 : Int32)).bind (fun r2 => if r2 = 0 then (some (σ, (-1 : Int32))) else ((gX11_isIn x2 (0 : Int32) (11 : Int32)).bind (fun r3 => if r3 = 0 then ((gX11_isIn x2 (16 : Int32) (23 : Int32)).bind (fun r4 => if r4 = 0 then (some (σ, (-1 : Int32))) else (gX11_alarm_41 σ x0 x1 x2 σ))) else (gX11_alarm_41 σ x0 x1 x2 σ))))))
theorem hd_X11_alarm : yX11_alarm.cls ≠ "java/lang/invoke/MethodHandle" ∧ yX11_alarm.cls ≠ "java/lang/invoke/VarHandle" ∧ (parseMethodDescriptor yX11_alarm.desc).map (fun d => d.parameters.length) = some 3 := by decide +kernel
set_option maxHeartbeats 4000000 in
set_option maxRecDepth 100000 in
theorem tX11_alarm {G : GG} {l : Launch} {z N : Nat} {b : Nat → va_E} (hN : 86 ≤ N) (σ : MS) (x0 : Int32) (x1 : Int32) (x2 : Int32) {r : MS × Int32} (hg : gX11_alarm σ x0 x1 x2 = some r) : Ct G l yX11_alarm cX11_alarm 4 (some .int) ({ frames := 1, cells := 0, slots := 0, locals := 22 } : Room) [.ref (z + 71), .int x0, .int x1, .int x2] z (ctM G z b σ) N (some (.int r.2)) (ctM G z b r.1) N := by
  refine Ct.of (lv := [(0, .ref (z + 71)), (1, .int x0), (2, .int x1), (3, .int x2)]) (by decide +kernel) (Nat.le_of_ble_eq_true rfl) rfl (fun p e s m args below meth c C => ?_)
  have L_41 : ∀ (τ : MS), gX11_alarm_41 σ x0 x1 x2 τ = some r → J G p l e ({ frames := 1, cells := 0, slots := 0, locals := 22 } : Room) s m args below meth c z 4 (MQ below (Qd G z (some (.int r.2)) (ctM G z b r.1) N) args s 0 0 (zA z)) (ctM G z b τ) N 0 0 41 [(0, .ref (z + 71)), (1, .int x0), (2, .int x1), (3, .int x2)] [] := by
    intro τ hg
    rw [gX11_alarm_41] at hg
    refine j_aload_n C dX11_alarm_41 0 rfl rfl ?_
    refine j_get (v := .int (m_alarmMany τ)) C (Nat.lt_of_lt_of_le (by decide) hN) cq_obj rfl inX11 15 (by decide) q3_118 rfl rfl dX11_alarm_42 ?_
    refine j_bipush (v := 10) C dX11_alarm_45 (by decide) ?_
    refine j_icmp_ne C 52 hg dX11_alarm_47 (by decide) (fun hg => ?_) (fun hg => ?_)
    · refine j_aload_n C dX11_alarm_52 0 rfl rfl ?_
      refine j_get (v := .ref (z + 82)) C (Nat.lt_of_lt_of_le (by decide) hN) cq_obj rfl inX11 11 (by decide) q3_114 rfl rfl dX11_alarm_53 ?_
      refine j_iconst (v := 3) C dX11_alarm_56 (by decide) ?_
      refine j_aload_n C dX11_alarm_57 0 rfl rfl ?_
      refine j_get (v := .int (m_alarmMany τ)) C (Nat.lt_of_lt_of_le (by decide) hN) cq_obj rfl inX11 15 (by decide) q3_118 rfl rfl dX11_alarm_58 ?_
      refine j_imul C dX11_alarm_61 ?_
      refine j_iload_n C dX11_alarm_62 1 rfl rfl ?_
      refine j_iast C hg (Nat.lt_of_lt_of_le (by decide) hN) cq_alarms dX11_alarm_63 (fun hg => j_ct cs_alarms ?_)
      refine j_aload_n C dX11_alarm_64 0 rfl rfl ?_
      refine j_get (v := .ref (z + 82)) C (Nat.lt_of_lt_of_le (by decide) hN) cq_obj rfl inX11 11 (by decide) q3_114 rfl rfl dX11_alarm_65 ?_
      refine j_iconst (v := 3) C dX11_alarm_68 (by decide) ?_
      refine j_aload_n C dX11_alarm_69 0 rfl rfl ?_
      refine j_get (v := .int (m_alarmMany (m_alarms_ τ (upd (m_alarms τ) ((3 : Int32) * (m_alarmMany τ)).toNatClampNeg x0)))) C (Nat.lt_of_lt_of_le (by decide) hN) cq_obj rfl inX11 15 (by decide) q3_118 rfl rfl dX11_alarm_70 ?_
      refine j_imul C dX11_alarm_73 ?_
      refine j_iconst (v := 1) C dX11_alarm_74 (by decide) ?_
      refine j_iadd C dX11_alarm_75 ?_
      refine j_iload_n C dX11_alarm_76 2 rfl rfl ?_
      refine j_iast C hg (Nat.lt_of_lt_of_le (by decide) hN) cq_alarms dX11_alarm_77 (fun hg => j_ct cs_alarms ?_)
      refine j_aload_n C dX11_alarm_78 0 rfl rfl ?_
      refine j_get (v := .ref (z + 82)) C (Nat.lt_of_lt_of_le (by decide) hN) cq_obj rfl inX11 11 (by decide) q3_114 rfl rfl dX11_alarm_79 ?_
      refine j_iconst (v := 3) C dX11_alarm_82 (by decide) ?_
      refine j_aload_n C dX11_alarm_83 0 rfl rfl ?_
      refine j_get (v := .int (m_alarmMany (m_alarms_ (m_alarms_ τ (upd (m_alarms τ) ((3 : Int32) * (m_alarmMany τ)).toNatClampNeg x0)) (upd (m_alarms (m_alarms_ τ (upd (m_alarms τ) ((3 : Int32) * (m_alarmMany τ)).toNatClampNeg x0))) (((3 : Int32) * (m_alarmMany (m_alarms_ τ (upd (m_alarms τ) ((3 : Int32) * (m_alarmMany τ)).toNatClampNeg x0)))) + (1 : Int32)).toNatClampNeg x1)))) C (Nat.lt_of_lt_of_le (by decide) hN) cq_obj rfl inX11 15 (by decide) q3_118 rfl rfl dX11_alarm_84 ?_
      refine j_imul C dX11_alarm_87 ?_
      refine j_iconst (v := 2) C dX11_alarm_88 (by decide) ?_
      refine j_iadd C dX11_alarm_89 ?_
      refine j_iload_n C dX11_alarm_90 3 rfl rfl ?_
      refine j_iast C hg (Nat.lt_of_lt_of_le (by decide) hN) cq_alarms dX11_alarm_91 (fun hg => j_ct cs_alarms ?_)
      refine j_aload_n C dX11_alarm_92 0 rfl rfl ?_
      refine j_dup C dX11_alarm_93 rfl ?_
      refine j_get (v := .int (m_alarmMany (m_alarms_ (m_alarms_ (m_alarms_ τ (upd (m_alarms τ) ((3 : Int32) * (m_alarmMany τ)).toNatClampNeg x0)) (upd (m_alarms (m_alarms_ τ (upd (m_alarms τ) ((3 : Int32) * (m_alarmMany τ)).toNatClampNeg x0))) (((3 : Int32) * (m_alarmMany (m_alarms_ τ (upd (m_alarms τ) ((3 : Int32) * (m_alarmMany τ)).toNatClampNeg x0)))) + (1 : Int32)).toNatClampNeg x1)) (upd (m_alarms (m_alarms_ (m_alarms_ τ (upd (m_alarms τ) ((3 : Int32) * (m_alarmMany τ)).toNatClampNeg x0)) (upd (m_alarms (m_alarms_ τ (upd (m_alarms τ) ((3 : Int32) * (m_alarmMany τ)).toNatClampNeg x0))) (((3 : Int32) * (m_alarmMany (m_alarms_ τ (upd (m_alarms τ) ((3 : Int32) * (m_alarmMany τ)).toNatClampNeg x0)))) + (1 : Int32)).toNatClampNeg x1))) (((3 : Int32) * (m_alarmMany (m_alarms_ (m_alarms_ τ (upd (m_alarms τ) ((3 : Int32) * (m_alarmMany τ)).toNatClampNeg x0)) (upd (m_alarms (m_alarms_ τ (upd (m_alarms τ) ((3 : Int32) * (m_alarmMany τ)).toNatClampNeg x0))) (((3 : Int32) * (m_alarmMany (m_alarms_ τ (upd (m_alarms τ) ((3 : Int32) * (m_alarmMany τ)).toNatClampNeg x0)))) + (1 : Int32)).toNatClampNeg x1)))) + (2 : Int32)).toNatClampNeg x2)))) C (Nat.lt_of_lt_of_le (by decide) hN) cq_obj rfl inX11 15 (by decide) q3_118 rfl rfl dX11_alarm_94 ?_
      refine j_iconst (v := 1) C dX11_alarm_97 (by decide) ?_
      refine j_iadd C dX11_alarm_98 ?_
      refine j_put (fs := mF z (m_alarms_ (m_alarms_ (m_alarms_ τ (upd (m_alarms τ) ((3 : Int32) * (m_alarmMany τ)).toNatClampNeg x0)) (upd (m_alarms (m_alarms_ τ (upd (m_alarms τ) ((3 : Int32) * (m_alarmMany τ)).toNatClampNeg x0))) (((3 : Int32) * (m_alarmMany (m_alarms_ τ (upd (m_alarms τ) ((3 : Int32) * (m_alarmMany τ)).toNatClampNeg x0)))) + (1 : Int32)).toNatClampNeg x1)) (upd (m_alarms (m_alarms_ (m_alarms_ τ (upd (m_alarms τ) ((3 : Int32) * (m_alarmMany τ)).toNatClampNeg x0)) (upd (m_alarms (m_alarms_ τ (upd (m_alarms τ) ((3 : Int32) * (m_alarmMany τ)).toNatClampNeg x0))) (((3 : Int32) * (m_alarmMany (m_alarms_ τ (upd (m_alarms τ) ((3 : Int32) * (m_alarmMany τ)).toNatClampNeg x0)))) + (1 : Int32)).toNatClampNeg x1))) (((3 : Int32) * (m_alarmMany (m_alarms_ (m_alarms_ τ (upd (m_alarms τ) ((3 : Int32) * (m_alarmMany τ)).toNatClampNeg x0)) (upd (m_alarms (m_alarms_ τ (upd (m_alarms τ) ((3 : Int32) * (m_alarmMany τ)).toNatClampNeg x0))) (((3 : Int32) * (m_alarmMany (m_alarms_ τ (upd (m_alarms τ) ((3 : Int32) * (m_alarmMany τ)).toNatClampNeg x0)))) + (1 : Int32)).toNatClampNeg x1)))) + (2 : Int32)).toNatClampNeg x2))) C tyX11 tyX11_ok nmX11 (Nat.lt_of_lt_of_le (by decide) hN) cq_obj rfl inX11 15 (by decide) q3_118 rfl rfl (tyX11_ok 15 (by decide)) rfl rfl (Nat.le_of_ble_eq_true rfl) dX11_alarm_99 (j_ct cs_alarmMany ?_)
      refine j_aload_n C dX11_alarm_102 0 rfl rfl ?_
      refine j_get (v := .int (m_alarmMany (m_alarmMany_ (m_alarms_ (m_alarms_ (m_alarms_ τ (upd (m_alarms τ) ((3 : Int32) * (m_alarmMany τ)).toNatClampNeg x0)) (upd (m_alarms (m_alarms_ τ (upd (m_alarms τ) ((3 : Int32) * (m_alarmMany τ)).toNatClampNeg x0))) (((3 : Int32) * (m_alarmMany (m_alarms_ τ (upd (m_alarms τ) ((3 : Int32) * (m_alarmMany τ)).toNatClampNeg x0)))) + (1 : Int32)).toNatClampNeg x1)) (upd (m_alarms (m_alarms_ (m_alarms_ τ (upd (m_alarms τ) ((3 : Int32) * (m_alarmMany τ)).toNatClampNeg x0)) (upd (m_alarms (m_alarms_ τ (upd (m_alarms τ) ((3 : Int32) * (m_alarmMany τ)).toNatClampNeg x0))) (((3 : Int32) * (m_alarmMany (m_alarms_ τ (upd (m_alarms τ) ((3 : Int32) * (m_alarmMany τ)).toNatClampNeg x0)))) + (1 : Int32)).toNatClampNeg x1))) (((3 : Int32) * (m_alarmMany (m_alarms_ (m_alarms_ τ (upd (m_alarms τ) ((3 : Int32) * (m_alarmMany τ)).toNatClampNeg x0)) (upd (m_alarms (m_alarms_ τ (upd (m_alarms τ) ((3 : Int32) * (m_alarmMany τ)).toNatClampNeg x0))) (((3 : Int32) * (m_alarmMany (m_alarms_ τ (upd (m_alarms τ) ((3 : Int32) * (m_alarmMany τ)).toNatClampNeg x0)))) + (1 : Int32)).toNatClampNeg x1)))) + (2 : Int32)).toNatClampNeg x2)) ((m_alarmMany (m_alarms_ (m_alarms_ (m_alarms_ τ (upd (m_alarms τ) ((3 : Int32) * (m_alarmMany τ)).toNatClampNeg x0)) (upd (m_alarms (m_alarms_ τ (upd (m_alarms τ) ((3 : Int32) * (m_alarmMany τ)).toNatClampNeg x0))) (((3 : Int32) * (m_alarmMany (m_alarms_ τ (upd (m_alarms τ) ((3 : Int32) * (m_alarmMany τ)).toNatClampNeg x0)))) + (1 : Int32)).toNatClampNeg x1)) (upd (m_alarms (m_alarms_ (m_alarms_ τ (upd (m_alarms τ) ((3 : Int32) * (m_alarmMany τ)).toNatClampNeg x0)) (upd (m_alarms (m_alarms_ τ (upd (m_alarms τ) ((3 : Int32) * (m_alarmMany τ)).toNatClampNeg x0))) (((3 : Int32) * (m_alarmMany (m_alarms_ τ (upd (m_alarms τ) ((3 : Int32) * (m_alarmMany τ)).toNatClampNeg x0)))) + (1 : Int32)).toNatClampNeg x1))) (((3 : Int32) * (m_alarmMany (m_alarms_ (m_alarms_ τ (upd (m_alarms τ) ((3 : Int32) * (m_alarmMany τ)).toNatClampNeg x0)) (upd (m_alarms (m_alarms_ τ (upd (m_alarms τ) ((3 : Int32) * (m_alarmMany τ)).toNatClampNeg x0))) (((3 : Int32) * (m_alarmMany (m_alarms_ τ (upd (m_alarms τ) ((3 : Int32) * (m_alarmMany τ)).toNatClampNeg x0)))) + (1 : Int32)).toNatClampNeg x1)))) + (2 : Int32)).toNatClampNeg x2))) + (1 : Int32))))) C (Nat.lt_of_lt_of_le (by decide) hN) cq_obj rfl inX11 15 (by decide) q3_118 rfl rfl dX11_alarm_103 ?_
      refine j_iconst (v := 1) C dX11_alarm_106 (by decide) ?_
      refine j_isub C dX11_alarm_107 ?_
      exact j_iret C dX11_alarm_108 (by rw [← Option.some.inj hg]) (by rw [← Option.some.inj hg]) rfl
    · refine j_iconst (v := (-1)) C dX11_alarm_50 (by decide) ?_
      exact j_iret C dX11_alarm_51 (by rw [← Option.some.inj hg]) (by rw [← Option.some.inj hg]) rfl
  rw [gX11_alarm] at hg
  refine j_iload_n C dX11_alarm_0 1 rfl rfl ?_
  refine j_iconst (v := 0) C dX11_alarm_1 (by decide) ?_
  refine j_bipush (v := 11) C dX11_alarm_2 (by decide) ?_
  obtain ⟨r1, hr1, hg⟩ := ob hg
  refine j_callS C [.int x0, .int (0 : Int32), .int (11 : Int32)] (tX11_isIn x0 (0 : Int32) (11 : Int32) hr1) q3_176 q1_6 q3_175 q3_174 hd_X11_isIn rfl dX11_alarm_4 rfl (Nat.le_of_ble_eq_true rfl) ⟨(Nat.le_of_ble_eq_true rfl), (Nat.le_of_ble_eq_true rfl)⟩ ⟨(Nat.le_of_ble_eq_true rfl), (Nat.le_of_ble_eq_true rfl)⟩ ?_
  refine j_if_eq C 50 hg dX11_alarm_7 (by decide) (fun hg => ?_) (fun hg => ?_)
  · refine j_iconst (v := (-1)) C dX11_alarm_50 (by decide) ?_
    exact j_iret C dX11_alarm_51 (by rw [← Option.some.inj hg]) (by rw [← Option.some.inj hg]) rfl
  · refine j_iload_n C dX11_alarm_10 2 rfl rfl ?_
    refine j_iconst (v := 0) C dX11_alarm_11 (by decide) ?_
    refine j_bipush (v := 11) C dX11_alarm_12 (by decide) ?_
    obtain ⟨r2, hr2, hg⟩ := ob hg
    refine j_callS C [.int x1, .int (0 : Int32), .int (11 : Int32)] (tX11_isIn x1 (0 : Int32) (11 : Int32) hr2) q3_176 q1_6 q3_175 q3_174 hd_X11_isIn rfl dX11_alarm_14 rfl (Nat.le_of_ble_eq_true rfl) ⟨(Nat.le_of_ble_eq_true rfl), (Nat.le_of_ble_eq_true rfl)⟩ ⟨(Nat.le_of_ble_eq_true rfl), (Nat.le_of_ble_eq_true rfl)⟩ ?_
    refine j_if_eq C 50 hg dX11_alarm_17 (by decide) (fun hg => ?_) (fun hg => ?_)
    · refine j_iconst (v := (-1)) C dX11_alarm_50 (by decide) ?_
      exact j_iret C dX11_alarm_51 (by rw [← Option.some.inj hg]) (by rw [← Option.some.inj hg]) rfl
    · refine j_iload_n C dX11_alarm_20 3 rfl rfl ?_
      refine j_iconst (v := 0) C dX11_alarm_21 (by decide) ?_
      refine j_bipush (v := 11) C dX11_alarm_22 (by decide) ?_
      obtain ⟨r3, hr3, hg⟩ := ob hg
      refine j_callS C [.int x2, .int (0 : Int32), .int (11 : Int32)] (tX11_isIn x2 (0 : Int32) (11 : Int32) hr3) q3_176 q1_6 q3_175 q3_174 hd_X11_isIn rfl dX11_alarm_24 rfl (Nat.le_of_ble_eq_true rfl) ⟨(Nat.le_of_ble_eq_true rfl), (Nat.le_of_ble_eq_true rfl)⟩ ⟨(Nat.le_of_ble_eq_true rfl), (Nat.le_of_ble_eq_true rfl)⟩ ?_
      refine j_if_ne C 41 hg dX11_alarm_27 (by decide) (fun hg => ?_) (fun hg => ?_)
      · exact L_41 σ hg
      · refine j_iload_n C dX11_alarm_30 3 rfl rfl ?_
        refine j_bipush (v := 16) C dX11_alarm_31 (by decide) ?_
        refine j_bipush (v := 23) C dX11_alarm_33 (by decide) ?_
        obtain ⟨r4, hr4, hg⟩ := ob hg
        refine j_callS C [.int x2, .int (16 : Int32), .int (23 : Int32)] (tX11_isIn x2 (16 : Int32) (23 : Int32) hr4) q3_176 q1_6 q3_175 q3_174 hd_X11_isIn rfl dX11_alarm_35 rfl (Nat.le_of_ble_eq_true rfl) ⟨(Nat.le_of_ble_eq_true rfl), (Nat.le_of_ble_eq_true rfl)⟩ ⟨(Nat.le_of_ble_eq_true rfl), (Nat.le_of_ble_eq_true rfl)⟩ ?_
        refine j_if_eq C 50 hg dX11_alarm_38 (by decide) (fun hg => ?_) (fun hg => ?_)
        · refine j_iconst (v := (-1)) C dX11_alarm_50 (by decide) ?_
          exact j_iret C dX11_alarm_51 (by rw [← Option.some.inj hg]) (by rw [← Option.some.inj hg]) rfl
        · exact L_41 σ hg

def gX11_holds (σ : MS) (x0 : Int32) (x1 : Int32) : Option Int32 := if ix ((3 : Int32) * x0) 30 then ((gX11_at (m_alarms σ ((3 : Int32) * x0).toNatClampNeg) x1).bind (fun r1 => if ix (((3 : Int32) * x0) + (2 : Int32)) 30 then ((gX11_at (m_alarms σ (((3 : Int32) * x0) + (2 : Int32)).toNatClampNeg) x1).bind (fun r2 => if ix (((3 : Int32) * x0) + (1 : Int32)) 30 then (if ix r1 200 then (if ix r1 200 then (if ix r2 200 then (if ix r2 200 then ((gX11_isSo (m_alarms σ (((3 : Int32) * x0) + (1 : Int32)).toNatClampNeg) (m_now σ r1.toNatClampNeg) (m_none σ r1.toNatClampNeg) (m_now σ r2.toNatClampNeg) (m_none σ r2.toNatClampNeg)).bind (fun r3 => if vp_nar .boolean r3 = r3 then some r3 else none)) else none) else none) else none) else none) else none)) else none)) else none
theorem hd_X11_holds : yX11_holds.cls ≠ "java/lang/invoke/MethodHandle" ∧ yX11_holds.cls ≠ "java/lang/invoke/VarHandle" ∧ (parseMethodDescriptor yX11_holds.desc).map (fun d => d.parameters.length) = some 2 := by decide +kernel
set_option maxHeartbeats 4000000 in
set_option maxRecDepth 100000 in
theorem tX11_holds {G : GG} {l : Launch} {z N : Nat} {b : Nat → va_E} (hN : 86 ≤ N) (σ : MS) (x0 : Int32) (x1 : Int32) {r : Int32} (hg : gX11_holds σ x0 x1 = some r) : Ct G l yX11_holds cX11_holds 5 (some .boolean) ({ frames := 1, cells := 0, slots := 0, locals := 28 } : Room) [.ref (z + 71), .int x0, .int x1] z (ctM G z b σ) N (some (.int r)) (ctM G z b σ) N := by
  refine Ct.of (lv := [(0, .ref (z + 71)), (1, .int x0), (2, .int x1)]) (by decide +kernel) (Nat.le_of_ble_eq_true rfl) rfl (fun p e s m args below meth c C => ?_)
  rw [gX11_holds] at hg
  refine j_aload_n C dX11_holds_0 0 rfl rfl ?_
  refine j_get (v := .ref (z + 82)) C (Nat.lt_of_lt_of_le (by decide) hN) cq_obj rfl inX11 11 (by decide) q3_114 rfl rfl dX11_holds_1 ?_
  refine j_iconst (v := 3) C dX11_holds_4 (by decide) ?_
  refine j_iload_n C dX11_holds_5 1 rfl rfl ?_
  refine j_imul C dX11_holds_6 ?_
  refine j_iald C hg (Nat.lt_of_lt_of_le (by decide) hN) cq_alarms dX11_holds_7 (fun hg => ?_)
  refine j_iload_n C dX11_holds_8 2 rfl rfl ?_
  obtain ⟨r1, hr1, hg⟩ := ob hg
  refine j_callS C [.int (m_alarms σ ((3 : Int32) * x0).toNatClampNeg), .int x1] (tX11_at (m_alarms σ ((3 : Int32) * x0).toNatClampNeg) x1 hr1) q4_1 q1_6 q4_0 q3_239 hd_X11_at rfl dX11_holds_9 rfl (Nat.le_of_ble_eq_true rfl) ⟨(Nat.le_of_ble_eq_true rfl), (Nat.le_of_ble_eq_true rfl)⟩ ⟨(Nat.le_of_ble_eq_true rfl), (Nat.le_of_ble_eq_true rfl)⟩ ?_
  refine j_istore_n C [(3, .int r1), (0, .ref (z + 71)), (1, .int x0), (2, .int x1)] dX11_holds_12 rfl (by decide) rfl ?_
  refine j_aload_n C dX11_holds_13 1 rfl rfl ?_
  refine j_get (v := .ref (z + 82)) C (Nat.lt_of_lt_of_le (by decide) hN) cq_obj rfl inX11 11 (by decide) q3_114 rfl rfl dX11_holds_14 ?_
  refine j_iconst (v := 3) C dX11_holds_17 (by decide) ?_
  refine j_iload_n C dX11_holds_18 2 rfl rfl ?_
  refine j_imul C dX11_holds_19 ?_
  refine j_iconst (v := 2) C dX11_holds_20 (by decide) ?_
  refine j_iadd C dX11_holds_21 ?_
  refine j_iald C hg (Nat.lt_of_lt_of_le (by decide) hN) cq_alarms dX11_holds_22 (fun hg => ?_)
  refine j_iload_n C dX11_holds_23 3 rfl rfl ?_
  obtain ⟨r2, hr2, hg⟩ := ob hg
  refine j_callS C [.int (m_alarms σ (((3 : Int32) * x0) + (2 : Int32)).toNatClampNeg), .int x1] (tX11_at (m_alarms σ (((3 : Int32) * x0) + (2 : Int32)).toNatClampNeg) x1 hr2) q4_1 q1_6 q4_0 q3_239 hd_X11_at rfl dX11_holds_24 rfl (Nat.le_of_ble_eq_true rfl) ⟨(Nat.le_of_ble_eq_true rfl), (Nat.le_of_ble_eq_true rfl)⟩ ⟨(Nat.le_of_ble_eq_true rfl), (Nat.le_of_ble_eq_true rfl)⟩ ?_
  refine j_istore C [(4, .int r2), (3, .int r1), (0, .ref (z + 71)), (1, .int x0), (2, .int x1)] dX11_holds_27 (by decide) rfl ?_
  refine j_aload_n C dX11_holds_29 2 rfl rfl ?_
  refine j_get (v := .ref (z + 82)) C (Nat.lt_of_lt_of_le (by decide) hN) cq_obj rfl inX11 11 (by decide) q3_114 rfl rfl dX11_holds_30 ?_
  refine j_iconst (v := 3) C dX11_holds_33 (by decide) ?_
  refine j_iload_n C dX11_holds_34 3 rfl rfl ?_
  refine j_imul C dX11_holds_35 ?_
  refine j_iconst (v := 1) C dX11_holds_36 (by decide) ?_
  refine j_iadd C dX11_holds_37 ?_
  refine j_iald C hg (Nat.lt_of_lt_of_le (by decide) hN) cq_alarms dX11_holds_38 (fun hg => ?_)
  refine j_aload_n C dX11_holds_39 2 rfl rfl ?_
  refine j_get (v := .ref (z + 76)) C (Nat.lt_of_lt_of_le (by decide) hN) cq_obj rfl inX11 4 (by decide) q3_107 rfl rfl dX11_holds_40 ?_
  refine j_iload_n C dX11_holds_43 1 rfl rfl ?_
  refine j_dald C hg (Nat.lt_of_lt_of_le (by decide) hN) cq_now dX11_holds_44 (fun hg => ?_)
  refine j_aload_n C dX11_holds_45 2 rfl rfl ?_
  refine j_get (v := .ref (z + 77)) C (Nat.lt_of_lt_of_le (by decide) hN) cq_obj rfl inX11 5 (by decide) q3_108 rfl rfl dX11_holds_46 ?_
  refine j_iload_n C dX11_holds_49 1 rfl rfl ?_
  refine j_zald C hg (Nat.lt_of_lt_of_le (by decide) hN) cq_none dX11_holds_50 (fun hg => ?_)
  refine j_aload_n C dX11_holds_51 2 rfl rfl ?_
  refine j_get (v := .ref (z + 76)) C (Nat.lt_of_lt_of_le (by decide) hN) cq_obj rfl inX11 4 (by decide) q3_107 rfl rfl dX11_holds_52 ?_
  refine j_iload C dX11_holds_55 0 rfl ?_
  refine j_dald C hg (Nat.lt_of_lt_of_le (by decide) hN) cq_now dX11_holds_57 (fun hg => ?_)
  refine j_aload_n C dX11_holds_58 2 rfl rfl ?_
  refine j_get (v := .ref (z + 77)) C (Nat.lt_of_lt_of_le (by decide) hN) cq_obj rfl inX11 5 (by decide) q3_108 rfl rfl dX11_holds_59 ?_
  refine j_iload C dX11_holds_62 0 rfl ?_
  refine j_zald C hg (Nat.lt_of_lt_of_le (by decide) hN) cq_none dX11_holds_64 (fun hg => ?_)
  obtain ⟨r3, hr3, hg⟩ := ob hg
  refine j_callS C [.int (m_alarms σ (((3 : Int32) * x0) + (1 : Int32)).toNatClampNeg), .double (m_now σ r1.toNatClampNeg), .int (m_none σ r1.toNatClampNeg), .double (m_now σ r2.toNatClampNeg), .int (m_none σ r2.toNatClampNeg)] (tX11_isSo (m_alarms σ (((3 : Int32) * x0) + (1 : Int32)).toNatClampNeg) (m_now σ r1.toNatClampNeg) (m_none σ r1.toNatClampNeg) (m_now σ r2.toNatClampNeg) (m_none σ r2.toNatClampNeg) hr3) q4_73 q1_6 q4_72 q4_71 hd_X11_isSo rfl dX11_holds_65 rfl (Nat.le_of_ble_eq_true rfl) ⟨(Nat.le_of_ble_eq_true rfl), (Nat.le_of_ble_eq_true rfl)⟩ ⟨(Nat.le_of_ble_eq_true rfl), (Nat.le_of_ble_eq_true rfl)⟩ ?_
  obtain ⟨hz, hg⟩ := gd hg
  exact j_zret C dX11_holds_68 hz (by rw [← Option.some.inj hg]) rfl rfl

def gX11_ring_47 (σ : MS) (k8 : MS → Int32 → Int32 → Option (MS × Int32)) (k21 : MS → Int32 → Int32 → Int32 → Int32 → Option (MS × Int32)) (τ : MS) (v1 : Int32) (v2 : Int32) (v4 : Int32) (s0 : Int32) (s1 : Int32) : Option (MS × Int32) := k21 τ v1 v2 (s1 ||| s0) (v4 + (1 : Int32))
def gX11_ring_21 (σ : MS) (k8 : MS → Int32 → Int32 → Option (MS × Int32)) (k21 : MS → Int32 → Int32 → Int32 → Int32 → Option (MS × Int32)) (τ : MS) (v1 : Int32) (v2 : Int32) (v3 : Int32) (v4 : Int32) : Option (MS × Int32) := if (16 : Int32) ≤ v4 then (if ix v2 10 then (if ix v2 10 then (if ix v2 10 then (if ix v2 10 then (if ix v2 10 then ((gX11_manyBits (m_rang (m_looked_ (m_held_ (m_rang_ τ (upd (m_rang τ) v2.toNatClampNeg (v3 &&& ((m_held τ v2.toNatClampNeg) ^^^ (-1 : Int32))))) (upd (m_held (m_rang_ τ (upd (m_rang τ) v2.toNatClampNeg (v3 &&& ((m_held τ v2.toNatClampNeg) ^^^ (-1 : Int32)))))) v2.toNatClampNeg v3)) (upd (m_looked (m_held_ (m_rang_ τ (upd (m_rang τ) v2.toNatClampNeg (v3 &&& ((m_held τ v2.toNatClampNeg) ^^^ (-1 : Int32))))) (upd (m_held (m_rang_ τ (upd (m_rang τ) v2.toNatClampNeg (v3 &&& ((m_held τ v2.toNatClampNeg) ^^^ (-1 : Int32)))))) v2.toNatClampNeg v3))) v2.toNatClampNeg (vp_nar .boolean (1 : Int32)))) v2.toNatClampNeg)).bind (fun r2 => k8 (m_looked_ (m_held_ (m_rang_ τ (upd (m_rang τ) v2.toNatClampNeg (v3 &&& ((m_held τ v2.toNatClampNeg) ^^^ (-1 : Int32))))) (upd (m_held (m_rang_ τ (upd (m_rang τ) v2.toNatClampNeg (v3 &&& ((m_held τ v2.toNatClampNeg) ^^^ (-1 : Int32)))))) v2.toNatClampNeg v3)) (upd (m_looked (m_held_ (m_rang_ τ (upd (m_rang τ) v2.toNatClampNeg (v3 &&& ((m_held τ v2.toNatClampNeg) ^^^ (-1 : Int32))))) (upd (m_held (m_rang_ τ (upd (m_rang τ) v2.toNatClampNeg (v3 &&& ((m_held τ v2.toNatClampNeg) ^^^ (-1 : Int32)))))) v2.toNatClampNeg v3))) v2.toNatClampNeg (vp_nar .boolean (1 : Int32)))) (v1 + r2) (v2 + (1 : Int32)))) else none) else none) else none) else none) else none) else ((gX11_holds τ v2 v4).bind (fun r3 => if r3 = 0 then (gX11_ring_47 σ k8 k21 τ v1 v2 v4 (0 : Int32) v3) else (gX11_ring_47 σ k8 k21 τ v1 v2 v4 ((1 : Int32) <<< (v4 &&& 31)) v3)))
def gX11_ring_8 (σ : MS) (k8 : MS → Int32 → Int32 → Option (MS × Int32)) (τ : MS) (v1 : Int32) (v2 : Int32) : Option (MS × Int32) := if (m_alarmMany τ) ≤ v2 then (some (m_rings_ τ ((m_rings τ) + (1 : Int32)), v1)) else (lq5 (gX11_ring_21 σ k8) 20 τ v1 v2 (0 : Int32) (0 : Int32))
def gX11_ring (σ : MS) : Option (MS × Int32) := (gX11_reckonAll σ ).bind (fun r1 => lq3 (gX11_ring_8 σ) 20 r1 (0 : Int32) (0 : Int32))
theorem hd_X11_ring : yX11_ring.cls ≠ "java/lang/invoke/MethodHandle" ∧ yX11_ring.cls ≠ "java/lang/invoke/VarHandle" ∧ (parseMethodDescriptor yX11_ring.desc).map (fun d => d.parameters.length) = some 0 := by decide +kernel
set_option maxHeartbeats 4000000 in
set_option maxRecDepth 100000 in
theorem tX11_ring {G : GG} {l : Launch} {z N : Nat} {b : Nat → va_E} (hN : 86 ≤ N) (σ : MS) {r : MS × Int32} (hg : gX11_ring σ = some r) : Ct G l yX11_ring cX11_ring 5 (some .int) ({ frames := 7, cells := 0, slots := 0, locals := 168 } : Room) [.ref (z + 71)] z (ctM G z b σ) N (some (.int r.2)) (ctM G z b r.1) N := by
  refine Ct.of (lv := [(0, .ref (z + 71))]) (by decide +kernel) (Nat.le_of_ble_eq_true rfl) rfl (fun p e s m args below meth c C => ?_)
  have L_8 : ∀ (n8 : Nat) (τ : MS) (v1 : Int32) (v2 : Int32), lq3 (gX11_ring_8 σ) n8 τ v1 v2 = some r → J G p l e ({ frames := 7, cells := 0, slots := 0, locals := 168 } : Room) s m args below meth c z 5 (MQ below (Qd G z (some (.int r.2)) (ctM G z b r.1) N) args s 0 0 (zA z)) (ctM G z b τ) N 0 0 8 [(0, .ref (z + 71)), (1, .int v1), (2, .int v2)] [] := by
    intro n8
    induction n8 with
    | zero => intro τ v1 v2 hg; cases hg
    | succ n8 ih8 =>
      have L_21 : ∀ (n21 : Nat) (τ : MS) (v1 : Int32) (v2 : Int32) (v3 : Int32) (v4 : Int32), lq5 (gX11_ring_21 σ (lq3 (gX11_ring_8 σ) n8)) n21 τ v1 v2 v3 v4 = some r → J G p l e ({ frames := 7, cells := 0, slots := 0, locals := 168 } : Room) s m args below meth c z 5 (MQ below (Qd G z (some (.int r.2)) (ctM G z b r.1) N) args s 0 0 (zA z)) (ctM G z b τ) N 0 0 21 [(0, .ref (z + 71)), (1, .int v1), (2, .int v2), (3, .int v3), (4, .int v4)] [] := by
        intro n21
        induction n21 with
        | zero => intro τ v1 v2 v3 v4 hg; cases hg
        | succ n21 ih21 =>
          have L_47 : ∀ (τ : MS) (v1 : Int32) (v2 : Int32) (v4 : Int32) (s0 : Int32) (s1 : Int32), gX11_ring_47 σ (lq3 (gX11_ring_8 σ) n8) (lq5 (gX11_ring_21 σ (lq3 (gX11_ring_8 σ) n8)) n21) τ v1 v2 v4 s0 s1 = some r → J G p l e ({ frames := 7, cells := 0, slots := 0, locals := 168 } : Room) s m args below meth c z 5 (MQ below (Qd G z (some (.int r.2)) (ctM G z b r.1) N) args s 0 0 (zA z)) (ctM G z b τ) N 0 0 47 [(0, .ref (z + 71)), (1, .int v1), (2, .int v2), (4, .int v4)] [.int s0, .int s1] := by
            intro τ v1 v2 v4 s0 s1 hg
            rw [gX11_ring_47] at hg
            refine j_ior C dX11_ring_47 ?_
            refine j_istore_n C [(3, .int (s1 ||| s0)), (0, .ref (z + 71)), (1, .int v1), (2, .int v2), (4, .int v4)] dX11_ring_48 rfl (by decide) rfl ?_
            refine j_iinc C [(4, .int (v4 + (1 : Int32))), (3, .int (s1 ||| s0)), (0, .ref (z + 71)), (1, .int v1), (2, .int v2)] dX11_ring_49 4 rfl rfl (by decide) rfl ?_
            refine j_goto C 21 dX11_ring_52 (by decide) ?_
            exact j_re [2, 3, 4, 1, 0] rfl (ih21 τ v1 v2 (s1 ||| s0) (v4 + (1 : Int32)) hg)
          intro τ v1 v2 v3 v4 hg
          replace hg : gX11_ring_21 σ (lq3 (gX11_ring_8 σ) n8) (lq5 (gX11_ring_21 σ (lq3 (gX11_ring_8 σ) n8)) n21) τ v1 v2 v3 v4 = some r := hg
          rw [gX11_ring_21] at hg
          refine j_iload C dX11_ring_21 4 rfl ?_
          refine j_bipush (v := 16) C dX11_ring_23 (by decide) ?_
          refine j_icmp_ge C 55 hg dX11_ring_25 (by decide) (fun hg => ?_) (fun hg => ?_)
          · refine j_aload_n C dX11_ring_55 0 rfl rfl ?_
            refine j_get (v := .ref (z + 84)) C (Nat.lt_of_lt_of_le (by decide) hN) cq_obj rfl inX11 13 (by decide) q3_116 rfl rfl dX11_ring_56 ?_
            refine j_iload_n C dX11_ring_59 2 rfl rfl ?_
            refine j_iload_n C dX11_ring_60 3 rfl rfl ?_
            refine j_aload_n C dX11_ring_61 0 rfl rfl ?_
            refine j_get (v := .ref (z + 83)) C (Nat.lt_of_lt_of_le (by decide) hN) cq_obj rfl inX11 12 (by decide) q3_115 rfl rfl dX11_ring_62 ?_
            refine j_iload_n C dX11_ring_65 2 rfl rfl ?_
            refine j_iald C hg (Nat.lt_of_lt_of_le (by decide) hN) cq_held dX11_ring_66 (fun hg => ?_)
            refine j_iconst (v := (-1)) C dX11_ring_67 (by decide) ?_
            refine j_ixor C dX11_ring_68 ?_
            refine j_iand C dX11_ring_69 ?_
            refine j_iast C hg (Nat.lt_of_lt_of_le (by decide) hN) cq_rang dX11_ring_70 (fun hg => j_ct cs_rang ?_)
            refine j_aload_n C dX11_ring_71 0 rfl rfl ?_
            refine j_get (v := .ref (z + 83)) C (Nat.lt_of_lt_of_le (by decide) hN) cq_obj rfl inX11 12 (by decide) q3_115 rfl rfl dX11_ring_72 ?_
            refine j_iload_n C dX11_ring_75 2 rfl rfl ?_
            refine j_iload_n C dX11_ring_76 3 rfl rfl ?_
            refine j_iast C hg (Nat.lt_of_lt_of_le (by decide) hN) cq_held dX11_ring_77 (fun hg => j_ct cs_held ?_)
            refine j_aload_n C dX11_ring_78 0 rfl rfl ?_
            refine j_get (v := .ref (z + 85)) C (Nat.lt_of_lt_of_le (by decide) hN) cq_obj rfl inX11 14 (by decide) q3_117 rfl rfl dX11_ring_79 ?_
            refine j_iload_n C dX11_ring_82 2 rfl rfl ?_
            refine j_iconst (v := 1) C dX11_ring_83 (by decide) ?_
            refine j_zast C hg (Nat.lt_of_lt_of_le (by decide) hN) cq_looked dX11_ring_84 (fun hg => j_ct cs_looked ?_)
            refine j_iload_n C dX11_ring_85 1 rfl rfl ?_
            refine j_aload_n C dX11_ring_86 0 rfl rfl ?_
            refine j_get (v := .ref (z + 84)) C (Nat.lt_of_lt_of_le (by decide) hN) cq_obj rfl inX11 13 (by decide) q3_116 rfl rfl dX11_ring_87 ?_
            refine j_iload_n C dX11_ring_90 2 rfl rfl ?_
            refine j_iald C hg (Nat.lt_of_lt_of_le (by decide) hN) cq_rang dX11_ring_91 (fun hg => ?_)
            obtain ⟨r2, hr2, hg⟩ := ob hg
            refine j_callS C [.int (m_rang (m_looked_ (m_held_ (m_rang_ τ (upd (m_rang τ) v2.toNatClampNeg (v3 &&& ((m_held τ v2.toNatClampNeg) ^^^ (-1 : Int32))))) (upd (m_held (m_rang_ τ (upd (m_rang τ) v2.toNatClampNeg (v3 &&& ((m_held τ v2.toNatClampNeg) ^^^ (-1 : Int32)))))) v2.toNatClampNeg v3)) (upd (m_looked (m_held_ (m_rang_ τ (upd (m_rang τ) v2.toNatClampNeg (v3 &&& ((m_held τ v2.toNatClampNeg) ^^^ (-1 : Int32))))) (upd (m_held (m_rang_ τ (upd (m_rang τ) v2.toNatClampNeg (v3 &&& ((m_held τ v2.toNatClampNeg) ^^^ (-1 : Int32)))))) v2.toNatClampNeg v3))) v2.toNatClampNeg (vp_nar .boolean (1 : Int32)))) v2.toNatClampNeg)] (tX11_manyBits (m_rang (m_looked_ (m_held_ (m_rang_ τ (upd (m_rang τ) v2.toNatClampNeg (v3 &&& ((m_held τ v2.toNatClampNeg) ^^^ (-1 : Int32))))) (upd (m_held (m_rang_ τ (upd (m_rang τ) v2.toNatClampNeg (v3 &&& ((m_held τ v2.toNatClampNeg) ^^^ (-1 : Int32)))))) v2.toNatClampNeg v3)) (upd (m_looked (m_held_ (m_rang_ τ (upd (m_rang τ) v2.toNatClampNeg (v3 &&& ((m_held τ v2.toNatClampNeg) ^^^ (-1 : Int32))))) (upd (m_held (m_rang_ τ (upd (m_rang τ) v2.toNatClampNeg (v3 &&& ((m_held τ v2.toNatClampNeg) ^^^ (-1 : Int32)))))) v2.toNatClampNeg v3))) v2.toNatClampNeg (vp_nar .boolean (1 : Int32)))) v2.toNatClampNeg) hr2) q4_112 q1_6 q4_111 q4_110 hd_X11_manyBits rfl dX11_ring_92 rfl (Nat.le_of_ble_eq_true rfl) ⟨(Nat.le_of_ble_eq_true rfl), (Nat.le_of_ble_eq_true rfl)⟩ ⟨(Nat.le_of_ble_eq_true rfl), (Nat.le_of_ble_eq_true rfl)⟩ ?_
            refine j_iadd C dX11_ring_95 ?_
            refine j_istore_n C [(1, .int (v1 + r2)), (0, .ref (z + 71)), (2, .int v2), (3, .int v3), (4, .int v4)] dX11_ring_96 rfl (by decide) rfl ?_
            refine j_iinc C [(2, .int (v2 + (1 : Int32))), (1, .int (v1 + r2)), (0, .ref (z + 71)), (3, .int v3), (4, .int v4)] dX11_ring_97 2 rfl rfl (by decide) rfl ?_
            refine j_goto C 8 dX11_ring_100 (by decide) ?_
            exact j_re [2, 1, 0] rfl (ih8 (m_looked_ (m_held_ (m_rang_ τ (upd (m_rang τ) v2.toNatClampNeg (v3 &&& ((m_held τ v2.toNatClampNeg) ^^^ (-1 : Int32))))) (upd (m_held (m_rang_ τ (upd (m_rang τ) v2.toNatClampNeg (v3 &&& ((m_held τ v2.toNatClampNeg) ^^^ (-1 : Int32)))))) v2.toNatClampNeg v3)) (upd (m_looked (m_held_ (m_rang_ τ (upd (m_rang τ) v2.toNatClampNeg (v3 &&& ((m_held τ v2.toNatClampNeg) ^^^ (-1 : Int32))))) (upd (m_held (m_rang_ τ (upd (m_rang τ) v2.toNatClampNeg (v3 &&& ((m_held τ v2.toNatClampNeg) ^^^ (-1 : Int32)))))) v2.toNatClampNeg v3))) v2.toNatClampNeg (vp_nar .boolean (1 : Int32)))) (v1 + r2) (v2 + (1 : Int32)) hg)
          · refine j_iload_n C dX11_ring_28 3 rfl rfl ?_
            refine j_aload_n C dX11_ring_29 0 rfl rfl ?_
            refine j_iload_n C dX11_ring_30 2 rfl rfl ?_
            refine j_iload C dX11_ring_31 4 rfl ?_
            obtain ⟨r3, hr3, hg⟩ := ob hg
            refine j_callV C [.int v2, .int v4] (tX11_holds hN τ v2 v4 hr3) (Nat.lt_of_lt_of_le (by decide) hN) cq_obj rfl q4_109 q1_6 q4_108 qp_41 q4_106 hd_X11_holds rfl dX11_ring_33 rfl (Nat.le_of_ble_eq_true rfl) ⟨(Nat.le_of_ble_eq_true rfl), (Nat.le_of_ble_eq_true rfl)⟩ ⟨(Nat.le_of_ble_eq_true rfl), (Nat.le_of_ble_eq_true rfl)⟩ ?_
            refine j_if_eq C 46 hg dX11_ring_36 (by decide) (fun hg => ?_) (fun hg => ?_)
            · refine j_iconst (v := 0) C dX11_ring_46 (by decide) ?_
              exact j_re [0, 1, 2, 4] rfl (L_47 τ v1 v2 v4 (0 : Int32) v3 hg)
            · refine j_iconst (v := 1) C dX11_ring_39 (by decide) ?_
              refine j_iload C dX11_ring_40 4 rfl ?_
              refine j_ishl C dX11_ring_42 ?_
              refine j_goto C 47 dX11_ring_43 (by decide) ?_
              exact j_re [0, 1, 2, 4] rfl (L_47 τ v1 v2 v4 ((1 : Int32) <<< (v4 &&& 31)) v3 hg)
      intro τ v1 v2 hg
      replace hg : gX11_ring_8 σ (lq3 (gX11_ring_8 σ) n8) τ v1 v2 = some r := hg
      rw [gX11_ring_8] at hg
      refine j_iload_n C dX11_ring_8 2 rfl rfl ?_
      refine j_aload_n C dX11_ring_9 0 rfl rfl ?_
      refine j_get (v := .int (m_alarmMany τ)) C (Nat.lt_of_lt_of_le (by decide) hN) cq_obj rfl inX11 15 (by decide) q3_118 rfl rfl dX11_ring_10 ?_
      refine j_icmp_ge C 103 hg dX11_ring_13 (by decide) (fun hg => ?_) (fun hg => ?_)
      · refine j_aload_n C dX11_ring_103 0 rfl rfl ?_
        refine j_dup C dX11_ring_104 rfl ?_
        refine j_get (v := .int (m_rings τ)) C (Nat.lt_of_lt_of_le (by decide) hN) cq_obj rfl inX11 16 (by decide) q3_119 rfl rfl dX11_ring_105 ?_
        refine j_iconst (v := 1) C dX11_ring_108 (by decide) ?_
        refine j_iadd C dX11_ring_109 ?_
        refine j_put (fs := mF z τ) C tyX11 tyX11_ok nmX11 (Nat.lt_of_lt_of_le (by decide) hN) cq_obj rfl inX11 16 (by decide) q3_119 rfl rfl (tyX11_ok 16 (by decide)) rfl rfl (Nat.le_of_ble_eq_true rfl) dX11_ring_110 (j_ct cs_rings ?_)
        refine j_iload_n C dX11_ring_113 1 rfl rfl ?_
        exact j_iret C dX11_ring_114 (by rw [← Option.some.inj hg]) (by rw [← Option.some.inj hg]) rfl
      · refine j_iconst (v := 0) C dX11_ring_16 (by decide) ?_
        refine j_istore_n C [(3, .int (0 : Int32)), (0, .ref (z + 71)), (1, .int v1), (2, .int v2)] dX11_ring_17 rfl (by decide) rfl ?_
        refine j_iconst (v := 0) C dX11_ring_18 (by decide) ?_
        refine j_istore C [(4, .int (0 : Int32)), (3, .int (0 : Int32)), (0, .ref (z + 71)), (1, .int v1), (2, .int v2)] dX11_ring_19 (by decide) rfl ?_
        exact j_re [2, 3, 4, 1, 0] rfl (L_21 20 τ v1 v2 (0 : Int32) (0 : Int32) hg)
  rw [gX11_ring] at hg
  refine j_aload_n C dX11_ring_0 0 rfl rfl ?_
  obtain ⟨r1, hr1, hg⟩ := ob hg
  refine j_callV C [] (tX11_reckonAll hN σ  hr1) (Nat.lt_of_lt_of_le (by decide) hN) cq_obj rfl q3_230 q1_6 q3_229 qp_24 q3_227 hd_X11_reckonAll rfl dX11_ring_1 rfl (Nat.le_of_ble_eq_true rfl) ⟨(Nat.le_of_ble_eq_true rfl), (Nat.le_of_ble_eq_true rfl)⟩ ⟨(Nat.le_of_ble_eq_true rfl), (Nat.le_of_ble_eq_true rfl)⟩ ?_
  refine j_iconst (v := 0) C dX11_ring_4 (by decide) ?_
  refine j_istore_n C [(1, .int (0 : Int32)), (0, .ref (z + 71))] dX11_ring_5 rfl (by decide) rfl ?_
  refine j_iconst (v := 0) C dX11_ring_6 (by decide) ?_
  refine j_istore_n C [(2, .int (0 : Int32)), (1, .int (0 : Int32)), (0, .ref (z + 71))] dX11_ring_7 rfl (by decide) rfl ?_
  exact j_re [2, 1, 0] rfl (L_8 20 r1 (0 : Int32) (0 : Int32) hg)

def gX11_alarmed_89 (σ : MS) (x0 : Int32) (x1 : Int32) (v3 : Int32) : Option Int32 := if (16 : Int32) ≤ v3 then (some (-1 : Int32)) else (some v3)
def gX11_alarmed_64 (σ : MS) (x0 : Int32) (x1 : Int32) (k64 : Int32 → Option Int32) (v3 : Int32) : Option Int32 := if (16 : Int32) ≤ v3 then (gX11_alarmed_89 σ x0 x1 v3) else (if ix x0 10 then (if (((m_rang σ x0.toNatClampNeg) >>> (v3 &&& 31)) &&& (1 : Int32)) = 0 then (k64 (v3 + (1 : Int32))) else (gX11_alarmed_89 σ x0 x1 v3)) else none)
def gX11_alarmed_58 (σ : MS) (x0 : Int32) (x1 : Int32) (s0 : Int32) : Option Int32 := (gX11_manyBits s0).bind (fun r3 => some r3)
def gX11_alarmed (σ : MS) (x0 : Int32) (x1 : Int32) : Option Int32 := (gX11_isIn x0 (0 : Int32) ((m_alarmMany σ) - (1 : Int32))).bind (fun r1 => if r1 = 0 then (some (-1 : Int32)) else (if ix x0 10 then (if (m_looked σ x0.toNatClampNeg) = 0 then (some (-1 : Int32)) else ((gX11_isIn x1 (0 : Int32) (2 : Int32)).bind (fun r2 => if r2 = 0 then (some (-1 : Int32)) else (if (2 : Int32) ≤ x1 then (lq1 (gX11_alarmed_64 σ x0 x1) 20 (0 : Int32)) else (if x1 = 0 then (if ix x0 10 then (gX11_alarmed_58 σ x0 x1 (m_held σ x0.toNatClampNeg)) else none) else (if ix x0 10 then (gX11_alarmed_58 σ x0 x1 (m_rang σ x0.toNatClampNeg)) else none)))))) else none))
theorem hd_X11_alarmed : yX11_alarmed.cls ≠ "java/lang/invoke/MethodHandle" ∧ yX11_alarmed.cls ≠ "java/lang/invoke/VarHandle" ∧ (parseMethodDescriptor yX11_alarmed.desc).map (fun d => d.parameters.length) = some 2 := by decide +kernel
set_option maxHeartbeats 4000000 in
set_option maxRecDepth 100000 in
theorem tX11_alarmed {G : GG} {l : Launch} {z N : Nat} {b : Nat → va_E} (hN : 86 ≤ N) (σ : MS) (x0 : Int32) (x1 : Int32) {r : Int32} (hg : gX11_alarmed σ x0 x1 = some r) : Ct G l yX11_alarmed cX11_alarmed 4 (some .int) ({ frames := 1, cells := 0, slots := 0, locals := 22 } : Room) [.ref (z + 71), .int x0, .int x1] z (ctM G z b σ) N (some (.int r)) (ctM G z b σ) N := by
  refine Ct.of (lv := [(0, .ref (z + 71)), (1, .int x0), (2, .int x1)]) (by decide +kernel) (Nat.le_of_ble_eq_true rfl) rfl (fun p e s m args below meth c C => ?_)
  have L_89 : ∀ (v3 : Int32), gX11_alarmed_89 σ x0 x1 v3 = some r → J G p l e ({ frames := 1, cells := 0, slots := 0, locals := 22 } : Room) s m args below meth c z 4 (MQ below (Qd G z (some (.int r)) (ctM G z b σ) N) args s 0 0 (zA z)) (ctM G z b σ) N 0 0 89 [(3, .int v3)] [] := by
    intro v3 hg
    rw [gX11_alarmed_89] at hg
    refine j_iload_n C dX11_alarmed_89 0 rfl rfl ?_
    refine j_bipush (v := 16) C dX11_alarmed_90 (by decide) ?_
    refine j_icmp_ge C 99 hg dX11_alarmed_92 (by decide) (fun hg => ?_) (fun hg => ?_)
    · refine j_iconst (v := (-1)) C dX11_alarmed_99 (by decide) ?_
      exact j_iret C dX11_alarmed_100 (by rw [← Option.some.inj hg]) rfl rfl
    · refine j_iload_n C dX11_alarmed_95 0 rfl rfl ?_
      refine j_goto C 100 dX11_alarmed_96 (by decide) ?_
      exact j_iret C dX11_alarmed_100 (by rw [← Option.some.inj hg]) rfl rfl
  have L_64 : ∀ (n64 : Nat) (v3 : Int32), lq1 (gX11_alarmed_64 σ x0 x1) n64 v3 = some r → J G p l e ({ frames := 1, cells := 0, slots := 0, locals := 22 } : Room) s m args below meth c z 4 (MQ below (Qd G z (some (.int r)) (ctM G z b σ) N) args s 0 0 (zA z)) (ctM G z b σ) N 0 0 64 [(0, .ref (z + 71)), (1, .int x0), (3, .int v3)] [] := by
    intro n64
    induction n64 with
    | zero => intro v3 hg; cases hg
    | succ n64 ih64 =>
      intro v3 hg
      replace hg : gX11_alarmed_64 σ x0 x1 (lq1 (gX11_alarmed_64 σ x0 x1) n64) v3 = some r := hg
      rw [gX11_alarmed_64] at hg
      refine j_iload_n C dX11_alarmed_64 2 rfl rfl ?_
      refine j_bipush (v := 16) C dX11_alarmed_65 (by decide) ?_
      refine j_icmp_ge C 89 hg dX11_alarmed_67 (by decide) (fun hg => ?_) (fun hg => ?_)
      · exact j_re [2] rfl (L_89 v3 hg)
      · refine j_aload_n C dX11_alarmed_70 0 rfl rfl ?_
        refine j_get (v := .ref (z + 84)) C (Nat.lt_of_lt_of_le (by decide) hN) cq_obj rfl inX11 13 (by decide) q3_116 rfl rfl dX11_alarmed_71 ?_
        refine j_iload_n C dX11_alarmed_74 1 rfl rfl ?_
        refine j_iald C hg (Nat.lt_of_lt_of_le (by decide) hN) cq_rang dX11_alarmed_75 (fun hg => ?_)
        refine j_iload_n C dX11_alarmed_76 2 rfl rfl ?_
        refine j_ishr C dX11_alarmed_77 ?_
        refine j_iconst (v := 1) C dX11_alarmed_78 (by decide) ?_
        refine j_iand C dX11_alarmed_79 ?_
        refine j_if_ne C 89 hg dX11_alarmed_80 (by decide) (fun hg => ?_) (fun hg => ?_)
        · exact j_re [2] rfl (L_89 v3 hg)
        · refine j_iinc C [(3, .int (v3 + (1 : Int32))), (0, .ref (z + 71)), (1, .int x0)] dX11_alarmed_83 2 rfl rfl (by decide) rfl ?_
          refine j_goto C 64 dX11_alarmed_86 (by decide) ?_
          exact j_re [1, 2, 0] rfl (ih64 (v3 + (1 : Int32)) hg)
  have L_58 : ∀ (s0 : Int32), gX11_alarmed_58 σ x0 x1 s0 = some r → J G p l e ({ frames := 1, cells := 0, slots := 0, locals := 22 } : Room) s m args below meth c z 4 (MQ below (Qd G z (some (.int r)) (ctM G z b σ) N) args s 0 0 (zA z)) (ctM G z b σ) N 0 0 58 [] [.int s0] := by
    intro s0 hg
    rw [gX11_alarmed_58] at hg
    obtain ⟨r3, hr3, hg⟩ := ob hg
    refine j_callS C [.int s0] (tX11_manyBits s0 hr3) q4_112 q1_6 q4_111 q4_110 hd_X11_manyBits rfl dX11_alarmed_58 rfl (Nat.le_of_ble_eq_true rfl) ⟨(Nat.le_of_ble_eq_true rfl), (Nat.le_of_ble_eq_true rfl)⟩ ⟨(Nat.le_of_ble_eq_true rfl), (Nat.le_of_ble_eq_true rfl)⟩ ?_
    exact j_iret C dX11_alarmed_61 (by rw [← Option.some.inj hg]) rfl rfl
  rw [gX11_alarmed] at hg
  refine j_iload_n C dX11_alarmed_0 1 rfl rfl ?_
  refine j_iconst (v := 0) C dX11_alarmed_1 (by decide) ?_
  refine j_aload_n C dX11_alarmed_2 0 rfl rfl ?_
  refine j_get (v := .int (m_alarmMany σ)) C (Nat.lt_of_lt_of_le (by decide) hN) cq_obj rfl inX11 15 (by decide) q3_118 rfl rfl dX11_alarmed_3 ?_
  refine j_iconst (v := 1) C dX11_alarmed_6 (by decide) ?_
  refine j_isub C dX11_alarmed_7 ?_
  obtain ⟨r1, hr1, hg⟩ := ob hg
  refine j_callS C [.int x0, .int (0 : Int32), .int ((m_alarmMany σ) - (1 : Int32))] (tX11_isIn x0 (0 : Int32) ((m_alarmMany σ) - (1 : Int32)) hr1) q3_176 q1_6 q3_175 q3_174 hd_X11_isIn rfl dX11_alarmed_8 rfl (Nat.le_of_ble_eq_true rfl) ⟨(Nat.le_of_ble_eq_true rfl), (Nat.le_of_ble_eq_true rfl)⟩ ⟨(Nat.le_of_ble_eq_true rfl), (Nat.le_of_ble_eq_true rfl)⟩ ?_
  refine j_if_eq C 32 hg dX11_alarmed_11 (by decide) (fun hg => ?_) (fun hg => ?_)
  · refine j_iconst (v := (-1)) C dX11_alarmed_32 (by decide) ?_
    exact j_iret C dX11_alarmed_33 (by rw [← Option.some.inj hg]) rfl rfl
  · refine j_aload_n C dX11_alarmed_14 0 rfl rfl ?_
    refine j_get (v := .ref (z + 85)) C (Nat.lt_of_lt_of_le (by decide) hN) cq_obj rfl inX11 14 (by decide) q3_117 rfl rfl dX11_alarmed_15 ?_
    refine j_iload_n C dX11_alarmed_18 1 rfl rfl ?_
    refine j_zald C hg (Nat.lt_of_lt_of_le (by decide) hN) cq_looked dX11_alarmed_19 (fun hg => ?_)
    refine j_if_eq C 32 hg dX11_alarmed_20 (by decide) (fun hg => ?_) (fun hg => ?_)
    · refine j_iconst (v := (-1)) C dX11_alarmed_32 (by decide) ?_
      exact j_iret C dX11_alarmed_33 (by rw [← Option.some.inj hg]) rfl rfl
    · refine j_iload_n C dX11_alarmed_23 2 rfl rfl ?_
      refine j_iconst (v := 0) C dX11_alarmed_24 (by decide) ?_
      refine j_iconst (v := 2) C dX11_alarmed_25 (by decide) ?_
      obtain ⟨r2, hr2, hg⟩ := ob hg
      refine j_callS C [.int x1, .int (0 : Int32), .int (2 : Int32)] (tX11_isIn x1 (0 : Int32) (2 : Int32) hr2) q3_176 q1_6 q3_175 q3_174 hd_X11_isIn rfl dX11_alarmed_26 rfl (Nat.le_of_ble_eq_true rfl) ⟨(Nat.le_of_ble_eq_true rfl), (Nat.le_of_ble_eq_true rfl)⟩ ⟨(Nat.le_of_ble_eq_true rfl), (Nat.le_of_ble_eq_true rfl)⟩ ?_
      refine j_if_ne C 34 hg dX11_alarmed_29 (by decide) (fun hg => ?_) (fun hg => ?_)
      · refine j_iload_n C dX11_alarmed_34 2 rfl rfl ?_
        refine j_iconst (v := 2) C dX11_alarmed_35 (by decide) ?_
        refine j_icmp_ge C 62 hg dX11_alarmed_36 (by decide) (fun hg => ?_) (fun hg => ?_)
        · refine j_iconst (v := 0) C dX11_alarmed_62 (by decide) ?_
          refine j_istore_n C [(3, .int (0 : Int32)), (0, .ref (z + 71)), (1, .int x0), (2, .int x1)] dX11_alarmed_63 rfl (by decide) rfl ?_
          exact j_re [1, 2, 0] rfl (L_64 20 (0 : Int32) hg)
        · refine j_iload_n C dX11_alarmed_39 2 rfl rfl ?_
          refine j_if_ne C 52 hg dX11_alarmed_40 (by decide) (fun hg => ?_) (fun hg => ?_)
          · refine j_aload_n C dX11_alarmed_52 0 rfl rfl ?_
            refine j_get (v := .ref (z + 84)) C (Nat.lt_of_lt_of_le (by decide) hN) cq_obj rfl inX11 13 (by decide) q3_116 rfl rfl dX11_alarmed_53 ?_
            refine j_iload_n C dX11_alarmed_56 1 rfl rfl ?_
            refine j_iald C hg (Nat.lt_of_lt_of_le (by decide) hN) cq_rang dX11_alarmed_57 (fun hg => ?_)
            exact j_re [] rfl (L_58 (m_rang σ x0.toNatClampNeg) hg)
          · refine j_aload_n C dX11_alarmed_43 0 rfl rfl ?_
            refine j_get (v := .ref (z + 83)) C (Nat.lt_of_lt_of_le (by decide) hN) cq_obj rfl inX11 12 (by decide) q3_115 rfl rfl dX11_alarmed_44 ?_
            refine j_iload_n C dX11_alarmed_47 1 rfl rfl ?_
            refine j_iald C hg (Nat.lt_of_lt_of_le (by decide) hN) cq_held dX11_alarmed_48 (fun hg => ?_)
            refine j_goto C 58 dX11_alarmed_49 (by decide) ?_
            exact j_re [] rfl (L_58 (m_held σ x0.toNatClampNeg) hg)
      · refine j_iconst (v := (-1)) C dX11_alarmed_32 (by decide) ?_
        exact j_iret C dX11_alarmed_33 (by rw [← Option.some.inj hg]) rfl rfl

def gX11_isThere (σ : MS) (x0 : Int32) (x1 : Int32) : Option (MS × Int32) := (gX11_isIn x0 (0 : Int32) (11 : Int32)).bind (fun r1 => if r1 = 0 then (some (σ, (0 : Int32))) else ((gX11_isIn x1 (0 : Int32) (15 : Int32)).bind (fun r2 => if r2 = 0 then (some (σ, (0 : Int32))) else ((gX11_reckonAll σ ).bind (fun r3 => some (r3, (1 : Int32)))))))
theorem hd_X11_isThere : yX11_isThere.cls ≠ "java/lang/invoke/MethodHandle" ∧ yX11_isThere.cls ≠ "java/lang/invoke/VarHandle" ∧ (parseMethodDescriptor yX11_isThere.desc).map (fun d => d.parameters.length) = some 2 := by decide +kernel
set_option maxHeartbeats 4000000 in
set_option maxRecDepth 100000 in
theorem tX11_isThere {G : GG} {l : Launch} {z N : Nat} {b : Nat → va_E} (hN : 86 ≤ N) (σ : MS) (x0 : Int32) (x1 : Int32) {r : MS × Int32} (hg : gX11_isThere σ x0 x1 = some r) : Ct G l yX11_isThere cX11_isThere 3 (some .boolean) ({ frames := 7, cells := 0, slots := 0, locals := 168 } : Room) [.ref (z + 71), .int x0, .int x1] z (ctM G z b σ) N (some (.int r.2)) (ctM G z b r.1) N := by
  refine Ct.of (lv := [(0, .ref (z + 71)), (1, .int x0), (2, .int x1)]) (by decide +kernel) (Nat.le_of_ble_eq_true rfl) rfl (fun p e s m args below meth c C => ?_)
  rw [gX11_isThere] at hg
  refine j_iload_n C dX11_isThere_0 1 rfl rfl ?_
  refine j_iconst (v := 0) C dX11_isThere_1 (by decide) ?_
  refine j_bipush (v := 11) C dX11_isThere_2 (by decide) ?_
  obtain ⟨r1, hr1, hg⟩ := ob hg
  refine j_callS C [.int x0, .int (0 : Int32), .int (11 : Int32)] (tX11_isIn x0 (0 : Int32) (11 : Int32) hr1) q3_176 q1_6 q3_175 q3_174 hd_X11_isIn rfl dX11_isThere_4 rfl (Nat.le_of_ble_eq_true rfl) ⟨(Nat.le_of_ble_eq_true rfl), (Nat.le_of_ble_eq_true rfl)⟩ ⟨(Nat.le_of_ble_eq_true rfl), (Nat.le_of_ble_eq_true rfl)⟩ ?_
  refine j_if_eq C 20 hg dX11_isThere_7 (by decide) (fun hg => ?_) (fun hg => ?_)
  · refine j_iconst (v := 0) C dX11_isThere_20 (by decide) ?_
    exact j_zret C dX11_isThere_21 (by decide) (by rw [← Option.some.inj hg]) (by rw [← Option.some.inj hg]) rfl
  · refine j_iload_n C dX11_isThere_10 2 rfl rfl ?_
    refine j_iconst (v := 0) C dX11_isThere_11 (by decide) ?_
    refine j_bipush (v := 15) C dX11_isThere_12 (by decide) ?_
    obtain ⟨r2, hr2, hg⟩ := ob hg
    refine j_callS C [.int x1, .int (0 : Int32), .int (15 : Int32)] (tX11_isIn x1 (0 : Int32) (15 : Int32) hr2) q3_176 q1_6 q3_175 q3_174 hd_X11_isIn rfl dX11_isThere_14 rfl (Nat.le_of_ble_eq_true rfl) ⟨(Nat.le_of_ble_eq_true rfl), (Nat.le_of_ble_eq_true rfl)⟩ ⟨(Nat.le_of_ble_eq_true rfl), (Nat.le_of_ble_eq_true rfl)⟩ ?_
    refine j_if_ne C 22 hg dX11_isThere_17 (by decide) (fun hg => ?_) (fun hg => ?_)
    · refine j_aload_n C dX11_isThere_22 0 rfl rfl ?_
      obtain ⟨r3, hr3, hg⟩ := ob hg
      refine j_callV C [] (tX11_reckonAll hN σ  hr3) (Nat.lt_of_lt_of_le (by decide) hN) cq_obj rfl q3_230 q1_6 q3_229 qp_24 q3_227 hd_X11_reckonAll rfl dX11_isThere_23 rfl (Nat.le_of_ble_eq_true rfl) ⟨(Nat.le_of_ble_eq_true rfl), (Nat.le_of_ble_eq_true rfl)⟩ ⟨(Nat.le_of_ble_eq_true rfl), (Nat.le_of_ble_eq_true rfl)⟩ ?_
      refine j_iconst (v := 1) C dX11_isThere_26 (by decide) ?_
      exact j_zret C dX11_isThere_27 (by decide) (by rw [← Option.some.inj hg]) (by rw [← Option.some.inj hg]) rfl
    · refine j_iconst (v := 0) C dX11_isThere_20 (by decide) ?_
      exact j_zret C dX11_isThere_21 (by decide) (by rw [← Option.some.inj hg]) (by rw [← Option.some.inj hg]) rfl

def gX11_reading (σ : MS) (x0 : Int32) (x1 : Int32) : Option (MS × UInt64) := (gX11_isThere σ x0 x1).bind (fun r1 => if r1.2 = 0 then (some (r1.1, FP.dconst0)) else (if ix (((16 : Int32) * x0) + x1) 200 then (if (m_none r1.1 (((16 : Int32) * x0) + x1).toNatClampNeg) = 0 then (if ix (((16 : Int32) * x0) + x1) 200 then (some (r1.1, m_now r1.1 (((16 : Int32) * x0) + x1).toNatClampNeg)) else none) else (some (r1.1, FP.dconst0))) else none))
theorem hd_X11_reading : yX11_reading.cls ≠ "java/lang/invoke/MethodHandle" ∧ yX11_reading.cls ≠ "java/lang/invoke/VarHandle" ∧ (parseMethodDescriptor yX11_reading.desc).map (fun d => d.parameters.length) = some 2 := by decide +kernel
set_option maxHeartbeats 4000000 in
set_option maxRecDepth 100000 in
theorem tX11_reading {G : GG} {l : Launch} {z N : Nat} {b : Nat → va_E} (hN : 86 ≤ N) (σ : MS) (x0 : Int32) (x1 : Int32) {r : MS × UInt64} (hg : gX11_reading σ x0 x1 = some r) : Ct G l yX11_reading cX11_reading 3 (some .double) ({ frames := 8, cells := 0, slots := 0, locals := 190 } : Room) [.ref (z + 71), .int x0, .int x1] z (ctM G z b σ) N (some (.double r.2)) (ctM G z b r.1) N := by
  refine Ct.of (lv := [(0, .ref (z + 71)), (1, .int x0), (2, .int x1)]) (by decide +kernel) (Nat.le_of_ble_eq_true rfl) rfl (fun p e s m args below meth c C => ?_)
  rw [gX11_reading] at hg
  refine j_aload_n C dX11_reading_0 0 rfl rfl ?_
  refine j_iload_n C dX11_reading_1 1 rfl rfl ?_
  refine j_iload_n C dX11_reading_2 2 rfl rfl ?_
  obtain ⟨r1, hr1, hg⟩ := ob hg
  refine j_callV C [.int x0, .int x1] (tX11_isThere hN σ x0 x1 hr1) (Nat.lt_of_lt_of_le (by decide) hN) cq_obj rfl q4_124 q1_6 q4_123 qp_42 q4_121 hd_X11_isThere rfl dX11_reading_3 rfl (Nat.le_of_ble_eq_true rfl) ⟨(Nat.le_of_ble_eq_true rfl), (Nat.le_of_ble_eq_true rfl)⟩ ⟨(Nat.le_of_ble_eq_true rfl), (Nat.le_of_ble_eq_true rfl)⟩ ?_
  refine j_if_eq C 37 hg dX11_reading_6 (by decide) (fun hg => ?_) (fun hg => ?_)
  · refine j_dconst0 C dX11_reading_37 ?_
    exact j_dret C dX11_reading_38 (by rw [← Option.some.inj hg]) (by rw [← Option.some.inj hg]) rfl
  · refine j_aload_n C dX11_reading_9 0 rfl rfl ?_
    refine j_get (v := .ref (z + 77)) C (Nat.lt_of_lt_of_le (by decide) hN) cq_obj rfl inX11 5 (by decide) q3_108 rfl rfl dX11_reading_10 ?_
    refine j_bipush (v := 16) C dX11_reading_13 (by decide) ?_
    refine j_iload_n C dX11_reading_15 1 rfl rfl ?_
    refine j_imul C dX11_reading_16 ?_
    refine j_iload_n C dX11_reading_17 2 rfl rfl ?_
    refine j_iadd C dX11_reading_18 ?_
    refine j_zald C hg (Nat.lt_of_lt_of_le (by decide) hN) cq_none dX11_reading_19 (fun hg => ?_)
    refine j_if_ne C 37 hg dX11_reading_20 (by decide) (fun hg => ?_) (fun hg => ?_)
    · refine j_dconst0 C dX11_reading_37 ?_
      exact j_dret C dX11_reading_38 (by rw [← Option.some.inj hg]) (by rw [← Option.some.inj hg]) rfl
    · refine j_aload_n C dX11_reading_23 0 rfl rfl ?_
      refine j_get (v := .ref (z + 76)) C (Nat.lt_of_lt_of_le (by decide) hN) cq_obj rfl inX11 4 (by decide) q3_107 rfl rfl dX11_reading_24 ?_
      refine j_bipush (v := 16) C dX11_reading_27 (by decide) ?_
      refine j_iload_n C dX11_reading_29 1 rfl rfl ?_
      refine j_imul C dX11_reading_30 ?_
      refine j_iload_n C dX11_reading_31 2 rfl rfl ?_
      refine j_iadd C dX11_reading_32 ?_
      refine j_dald C hg (Nat.lt_of_lt_of_le (by decide) hN) cq_now dX11_reading_33 (fun hg => ?_)
      refine j_goto C 38 dX11_reading_34 (by decide) ?_
      exact j_dret C dX11_reading_38 (by rw [← Option.some.inj hg]) (by rw [← Option.some.inj hg]) rfl

def gX11_isBlank (σ : MS) (x0 : Int32) (x1 : Int32) : Option (MS × Int32) := (gX11_isThere σ x0 x1).bind (fun r1 => if r1.2 = 0 then (some (r1.1, (0 : Int32))) else (if ix (((16 : Int32) * x0) + x1) 200 then (if (m_none r1.1 (((16 : Int32) * x0) + x1).toNatClampNeg) = 0 then (some (r1.1, (0 : Int32))) else (some (r1.1, (1 : Int32)))) else none))
theorem hd_X11_isBlank : yX11_isBlank.cls ≠ "java/lang/invoke/MethodHandle" ∧ yX11_isBlank.cls ≠ "java/lang/invoke/VarHandle" ∧ (parseMethodDescriptor yX11_isBlank.desc).map (fun d => d.parameters.length) = some 2 := by decide +kernel
set_option maxHeartbeats 4000000 in
set_option maxRecDepth 100000 in
theorem tX11_isBlank {G : GG} {l : Launch} {z N : Nat} {b : Nat → va_E} (hN : 86 ≤ N) (σ : MS) (x0 : Int32) (x1 : Int32) {r : MS × Int32} (hg : gX11_isBlank σ x0 x1 = some r) : Ct G l yX11_isBlank cX11_isBlank 3 (some .boolean) ({ frames := 8, cells := 0, slots := 0, locals := 190 } : Room) [.ref (z + 71), .int x0, .int x1] z (ctM G z b σ) N (some (.int r.2)) (ctM G z b r.1) N := by
  refine Ct.of (lv := [(0, .ref (z + 71)), (1, .int x0), (2, .int x1)]) (by decide +kernel) (Nat.le_of_ble_eq_true rfl) rfl (fun p e s m args below meth c C => ?_)
  rw [gX11_isBlank] at hg
  refine j_aload_n C dX11_isBlank_0 0 rfl rfl ?_
  refine j_iload_n C dX11_isBlank_1 1 rfl rfl ?_
  refine j_iload_n C dX11_isBlank_2 2 rfl rfl ?_
  obtain ⟨r1, hr1, hg⟩ := ob hg
  refine j_callV C [.int x0, .int x1] (tX11_isThere hN σ x0 x1 hr1) (Nat.lt_of_lt_of_le (by decide) hN) cq_obj rfl q4_124 q1_6 q4_123 qp_42 q4_121 hd_X11_isThere rfl dX11_isBlank_3 rfl (Nat.le_of_ble_eq_true rfl) ⟨(Nat.le_of_ble_eq_true rfl), (Nat.le_of_ble_eq_true rfl)⟩ ⟨(Nat.le_of_ble_eq_true rfl), (Nat.le_of_ble_eq_true rfl)⟩ ?_
  refine j_if_eq C 27 hg dX11_isBlank_6 (by decide) (fun hg => ?_) (fun hg => ?_)
  · refine j_iconst (v := 0) C dX11_isBlank_27 (by decide) ?_
    exact j_zret C dX11_isBlank_28 (by decide) (by rw [← Option.some.inj hg]) (by rw [← Option.some.inj hg]) rfl
  · refine j_aload_n C dX11_isBlank_9 0 rfl rfl ?_
    refine j_get (v := .ref (z + 77)) C (Nat.lt_of_lt_of_le (by decide) hN) cq_obj rfl inX11 5 (by decide) q3_108 rfl rfl dX11_isBlank_10 ?_
    refine j_bipush (v := 16) C dX11_isBlank_13 (by decide) ?_
    refine j_iload_n C dX11_isBlank_15 1 rfl rfl ?_
    refine j_imul C dX11_isBlank_16 ?_
    refine j_iload_n C dX11_isBlank_17 2 rfl rfl ?_
    refine j_iadd C dX11_isBlank_18 ?_
    refine j_zald C hg (Nat.lt_of_lt_of_le (by decide) hN) cq_none dX11_isBlank_19 (fun hg => ?_)
    refine j_if_eq C 27 hg dX11_isBlank_20 (by decide) (fun hg => ?_) (fun hg => ?_)
    · refine j_iconst (v := 0) C dX11_isBlank_27 (by decide) ?_
      exact j_zret C dX11_isBlank_28 (by decide) (by rw [← Option.some.inj hg]) (by rw [← Option.some.inj hg]) rfl
    · refine j_iconst (v := 1) C dX11_isBlank_23 (by decide) ?_
      refine j_goto C 28 dX11_isBlank_24 (by decide) ?_
      exact j_zret C dX11_isBlank_28 (by decide) (by rw [← Option.some.inj hg]) (by rw [← Option.some.inj hg]) rfl

def gX11_isMinus (σ : MS) (x0 : Int32) (x1 : Int32) : Option (MS × Int32) := (gX11_isThere σ x0 x1).bind (fun r1 => if r1.2 = 0 then (some (r1.1, (0 : Int32))) else (if ix (((16 : Int32) * x0) + x1) 200 then (if (m_none r1.1 (((16 : Int32) * x0) + x1).toNatClampNeg) = 0 then (if ix (((16 : Int32) * x0) + x1) 200 then ((gX11_hasMinus (m_now r1.1 (((16 : Int32) * x0) + x1).toNatClampNeg)).bind (fun r2 => if r2 = 0 then (some (r1.1, (0 : Int32))) else (some (r1.1, (1 : Int32))))) else none) else (some (r1.1, (0 : Int32)))) else none))
theorem hd_X11_isMinus : yX11_isMinus.cls ≠ "java/lang/invoke/MethodHandle" ∧ yX11_isMinus.cls ≠ "java/lang/invoke/VarHandle" ∧ (parseMethodDescriptor yX11_isMinus.desc).map (fun d => d.parameters.length) = some 2 := by decide +kernel
set_option maxHeartbeats 4000000 in
set_option maxRecDepth 100000 in
theorem tX11_isMinus {G : GG} {l : Launch} {z N : Nat} {b : Nat → va_E} (hN : 86 ≤ N) (σ : MS) (x0 : Int32) (x1 : Int32) {r : MS × Int32} (hg : gX11_isMinus σ x0 x1 = some r) : Ct G l yX11_isMinus cX11_isMinus 3 (some .boolean) ({ frames := 8, cells := 0, slots := 0, locals := 190 } : Room) [.ref (z + 71), .int x0, .int x1] z (ctM G z b σ) N (some (.int r.2)) (ctM G z b r.1) N := by
  refine Ct.of (lv := [(0, .ref (z + 71)), (1, .int x0), (2, .int x1)]) (by decide +kernel) (Nat.le_of_ble_eq_true rfl) rfl (fun p e s m args below meth c C => ?_)
  rw [gX11_isMinus] at hg
  refine j_aload_n C dX11_isMinus_0 0 rfl rfl ?_
  refine j_iload_n C dX11_isMinus_1 1 rfl rfl ?_
  refine j_iload_n C dX11_isMinus_2 2 rfl rfl ?_
  obtain ⟨r1, hr1, hg⟩ := ob hg
  refine j_callV C [.int x0, .int x1] (tX11_isThere hN σ x0 x1 hr1) (Nat.lt_of_lt_of_le (by decide) hN) cq_obj rfl q4_124 q1_6 q4_123 qp_42 q4_121 hd_X11_isThere rfl dX11_isMinus_3 rfl (Nat.le_of_ble_eq_true rfl) ⟨(Nat.le_of_ble_eq_true rfl), (Nat.le_of_ble_eq_true rfl)⟩ ⟨(Nat.le_of_ble_eq_true rfl), (Nat.le_of_ble_eq_true rfl)⟩ ?_
  refine j_if_eq C 44 hg dX11_isMinus_6 (by decide) (fun hg => ?_) (fun hg => ?_)
  · refine j_iconst (v := 0) C dX11_isMinus_44 (by decide) ?_
    exact j_zret C dX11_isMinus_45 (by decide) (by rw [← Option.some.inj hg]) (by rw [← Option.some.inj hg]) rfl
  · refine j_aload_n C dX11_isMinus_9 0 rfl rfl ?_
    refine j_get (v := .ref (z + 77)) C (Nat.lt_of_lt_of_le (by decide) hN) cq_obj rfl inX11 5 (by decide) q3_108 rfl rfl dX11_isMinus_10 ?_
    refine j_bipush (v := 16) C dX11_isMinus_13 (by decide) ?_
    refine j_iload_n C dX11_isMinus_15 1 rfl rfl ?_
    refine j_imul C dX11_isMinus_16 ?_
    refine j_iload_n C dX11_isMinus_17 2 rfl rfl ?_
    refine j_iadd C dX11_isMinus_18 ?_
    refine j_zald C hg (Nat.lt_of_lt_of_le (by decide) hN) cq_none dX11_isMinus_19 (fun hg => ?_)
    refine j_if_ne C 44 hg dX11_isMinus_20 (by decide) (fun hg => ?_) (fun hg => ?_)
    · refine j_iconst (v := 0) C dX11_isMinus_44 (by decide) ?_
      exact j_zret C dX11_isMinus_45 (by decide) (by rw [← Option.some.inj hg]) (by rw [← Option.some.inj hg]) rfl
    · refine j_aload_n C dX11_isMinus_23 0 rfl rfl ?_
      refine j_get (v := .ref (z + 76)) C (Nat.lt_of_lt_of_le (by decide) hN) cq_obj rfl inX11 4 (by decide) q3_107 rfl rfl dX11_isMinus_24 ?_
      refine j_bipush (v := 16) C dX11_isMinus_27 (by decide) ?_
      refine j_iload_n C dX11_isMinus_29 1 rfl rfl ?_
      refine j_imul C dX11_isMinus_30 ?_
      refine j_iload_n C dX11_isMinus_31 2 rfl rfl ?_
      refine j_iadd C dX11_isMinus_32 ?_
      refine j_dald C hg (Nat.lt_of_lt_of_le (by decide) hN) cq_now dX11_isMinus_33 (fun hg => ?_)
      obtain ⟨r2, hr2, hg⟩ := ob hg
      refine j_callS C [.double (m_now r1.1 (((16 : Int32) * x0) + x1).toNatClampNeg)] (tX11_hasMinus (m_now r1.1 (((16 : Int32) * x0) + x1).toNatClampNeg) hr2) q4_24 q1_6 q4_23 q4_22 hd_X11_hasMinus rfl dX11_isMinus_34 rfl (Nat.le_of_ble_eq_true rfl) ⟨(Nat.le_of_ble_eq_true rfl), (Nat.le_of_ble_eq_true rfl)⟩ ⟨(Nat.le_of_ble_eq_true rfl), (Nat.le_of_ble_eq_true rfl)⟩ ?_
      refine j_if_eq C 44 hg dX11_isMinus_37 (by decide) (fun hg => ?_) (fun hg => ?_)
      · refine j_iconst (v := 0) C dX11_isMinus_44 (by decide) ?_
        exact j_zret C dX11_isMinus_45 (by decide) (by rw [← Option.some.inj hg]) (by rw [← Option.some.inj hg]) rfl
      · refine j_iconst (v := 1) C dX11_isMinus_40 (by decide) ?_
        refine j_goto C 45 dX11_isMinus_41 (by decide) ?_
        exact j_zret C dX11_isMinus_45 (by decide) (by rw [← Option.some.inj hg]) (by rw [← Option.some.inj hg]) rfl

def gX11_bits_50 (σ : MS) (x0 : Int32) (x1 : Int32) (τ : MS) (v3 : UInt64) (s0 : UInt64) : Option (MS × Int64) := if ix x0 12 then (if (m_narrow τ x0.toNatClampNeg) = 0 then ((gX11_digits s0 (52 : Int32) (-1022 : Int32) (1023 : Int32)).bind (fun r3 => (gX11_hasMinus v3).bind (fun r4 => if r4 = 0 then (some (τ, r3)) else (some (τ, r3 ||| (-9223372036854775808 : Int64)))))) else ((gX11_digits s0 (23 : Int32) (-126 : Int32) (127 : Int32)).bind (fun r5 => (gX11_hasMinus v3).bind (fun r6 => if r6 = 0 then (some (τ, r5.toInt32.toInt64)) else (some (τ, (r5.toInt32 ||| (-2147483648 : Int32)).toInt64)))))) else none
def gX11_bits (σ : MS) (x0 : Int32) (x1 : Int32) : Option (MS × Int64) := (gX11_isThere σ x0 x1).bind (fun r1 => if r1.2 = 0 then (some (r1.1, (0 : Int64))) else (if ix (((16 : Int32) * x0) + x1) 200 then (if (m_none r1.1 (((16 : Int32) * x0) + x1).toNatClampNeg) = 0 then (if ix (((16 : Int32) * x0) + x1) 200 then ((gX11_hasMinus (m_now r1.1 (((16 : Int32) * x0) + x1).toNatClampNeg)).bind (fun r2 => if r2 = 0 then (gX11_bits_50 σ x0 x1 r1.1 (m_now r1.1 (((16 : Int32) * x0) + x1).toNatClampNeg) (m_now r1.1 (((16 : Int32) * x0) + x1).toNatClampNeg)) else (gX11_bits_50 σ x0 x1 r1.1 (m_now r1.1 (((16 : Int32) * x0) + x1).toNatClampNeg) (FP.dneg (m_now r1.1 (((16 : Int32) * x0) + x1).toNatClampNeg))))) else none) else (some (r1.1, (0 : Int64)))) else none))
theorem hd_X11_bits : yX11_bits.cls ≠ "java/lang/invoke/MethodHandle" ∧ yX11_bits.cls ≠ "java/lang/invoke/VarHandle" ∧ (parseMethodDescriptor yX11_bits.desc).map (fun d => d.parameters.length) = some 2 := by decide +kernel
set_option maxHeartbeats 4000000 in
set_option maxRecDepth 100000 in
theorem tX11_bits {G : GG} {l : Launch} {z N : Nat} {b : Nat → va_E} (hN : 86 ≤ N) (σ : MS) (x0 : Int32) (x1 : Int32) {r : MS × Int64} (hg : gX11_bits σ x0 x1 = some r) : Ct G l yX11_bits cX11_bits 9 (some .long) ({ frames := 8, cells := 0, slots := 0, locals := 190 } : Room) [.ref (z + 71), .int x0, .int x1] z (ctM G z b σ) N (some (.long r.2)) (ctM G z b r.1) N := by
  refine Ct.of (lv := [(0, .ref (z + 71)), (1, .int x0), (2, .int x1)]) (by decide +kernel) (Nat.le_of_ble_eq_true rfl) rfl (fun p e s m args below meth c C => ?_)
  have L_50 : ∀ (τ : MS) (v3 : UInt64) (s0 : UInt64), gX11_bits_50 σ x0 x1 τ v3 s0 = some r → J G p l e ({ frames := 8, cells := 0, slots := 0, locals := 190 } : Room) s m args below meth c z 9 (MQ below (Qd G z (some (.long r.2)) (ctM G z b r.1) N) args s 0 0 (zA z)) (ctM G z b τ) N 0 0 50 [(0, .ref (z + 71)), (1, .int x0), (3, .double v3)] [.double s0] := by
    intro τ v3 s0 hg
    rw [gX11_bits_50] at hg
    refine j_dstore C [(5, .double s0), (0, .ref (z + 71)), (1, .int x0), (3, .double v3)] dX11_bits_50 (by decide) rfl ?_
    refine j_aload_n C dX11_bits_52 1 rfl rfl ?_
    refine j_get (v := .ref (z + 74)) C (Nat.lt_of_lt_of_le (by decide) hN) cq_obj rfl inX11 2 (by decide) q3_105 rfl rfl dX11_bits_53 ?_
    refine j_iload_n C dX11_bits_56 2 rfl rfl ?_
    refine j_zald C hg (Nat.lt_of_lt_of_le (by decide) hN) cq_narrow dX11_bits_57 (fun hg => ?_)
    refine j_if_eq C 95 hg dX11_bits_58 (by decide) (fun hg => ?_) (fun hg => ?_)
    · refine j_dload C dX11_bits_95 0 rfl ?_
      refine j_bipush (v := 52) C dX11_bits_97 (by decide) ?_
      refine j_sipush (v := (-1022)) C dX11_bits_99 (by decide) ?_
      refine j_sipush (v := 1023) C dX11_bits_102 (by decide) ?_
      obtain ⟨r3, hr3, hg⟩ := ob hg
      refine j_callS C [.double s0, .int (52 : Int32), .int (-1022 : Int32), .int (1023 : Int32)] (tX11_digits s0 (52 : Int32) (-1022 : Int32) (1023 : Int32) hr3) q4_139 q1_6 q4_138 q4_137 hd_X11_digits rfl dX11_bits_105 rfl (Nat.le_of_ble_eq_true rfl) ⟨(Nat.le_of_ble_eq_true rfl), (Nat.le_of_ble_eq_true rfl)⟩ ⟨(Nat.le_of_ble_eq_true rfl), (Nat.le_of_ble_eq_true rfl)⟩ ?_
      refine j_lstore C [(7, .long r3), (5, .double s0), (0, .ref (z + 71)), (1, .int x0), (3, .double v3)] dX11_bits_108 (by decide) rfl ?_
      refine j_dload_n C dX11_bits_110 4 rfl rfl ?_
      obtain ⟨r4, hr4, hg⟩ := ob hg
      refine j_callS C [.double v3] (tX11_hasMinus v3 hr4) q4_24 q1_6 q4_23 q4_22 hd_X11_hasMinus rfl dX11_bits_111 rfl (Nat.le_of_ble_eq_true rfl) ⟨(Nat.le_of_ble_eq_true rfl), (Nat.le_of_ble_eq_true rfl)⟩ ⟨(Nat.le_of_ble_eq_true rfl), (Nat.le_of_ble_eq_true rfl)⟩ ?_
      refine j_if_eq C 126 hg dX11_bits_114 (by decide) (fun hg => ?_) (fun hg => ?_)
      · refine j_lload C dX11_bits_126 0 rfl ?_
        exact j_lret C dX11_bits_128 (by rw [← Option.some.inj hg]) (by rw [← Option.some.inj hg]) rfl
      · refine j_lload C dX11_bits_117 0 rfl ?_
        refine j_ldc2 C q4_142 dX11_bits_119 ?_
        refine j_lor C dX11_bits_122 ?_
        refine j_goto C 128 dX11_bits_123 (by decide) ?_
        exact j_lret C dX11_bits_128 (by rw [← Option.some.inj hg]) (by rw [← Option.some.inj hg]) rfl
    · refine j_dload C dX11_bits_61 0 rfl ?_
      refine j_bipush (v := 23) C dX11_bits_63 (by decide) ?_
      refine j_bipush (v := (-126)) C dX11_bits_65 (by decide) ?_
      refine j_bipush (v := 127) C dX11_bits_67 (by decide) ?_
      obtain ⟨r5, hr5, hg⟩ := ob hg
      refine j_callS C [.double s0, .int (23 : Int32), .int (-126 : Int32), .int (127 : Int32)] (tX11_digits s0 (23 : Int32) (-126 : Int32) (127 : Int32) hr5) q4_139 q1_6 q4_138 q4_137 hd_X11_digits rfl dX11_bits_69 rfl (Nat.le_of_ble_eq_true rfl) ⟨(Nat.le_of_ble_eq_true rfl), (Nat.le_of_ble_eq_true rfl)⟩ ⟨(Nat.le_of_ble_eq_true rfl), (Nat.le_of_ble_eq_true rfl)⟩ ?_
      refine j_l2i C dX11_bits_72 ?_
      refine j_istore C [(7, .int r5.toInt32), (5, .double s0), (0, .ref (z + 71)), (1, .int x0), (3, .double v3)] dX11_bits_73 (by decide) rfl ?_
      refine j_dload_n C dX11_bits_75 4 rfl rfl ?_
      obtain ⟨r6, hr6, hg⟩ := ob hg
      refine j_callS C [.double v3] (tX11_hasMinus v3 hr6) q4_24 q1_6 q4_23 q4_22 hd_X11_hasMinus rfl dX11_bits_76 rfl (Nat.le_of_ble_eq_true rfl) ⟨(Nat.le_of_ble_eq_true rfl), (Nat.le_of_ble_eq_true rfl)⟩ ⟨(Nat.le_of_ble_eq_true rfl), (Nat.le_of_ble_eq_true rfl)⟩ ?_
      refine j_if_eq C 91 hg dX11_bits_79 (by decide) (fun hg => ?_) (fun hg => ?_)
      · refine j_iload C dX11_bits_91 0 rfl ?_
        refine j_i2l C dX11_bits_93 ?_
        exact j_lret C dX11_bits_94 (by rw [← Option.some.inj hg]) (by rw [← Option.some.inj hg]) rfl
      · refine j_iload C dX11_bits_82 0 rfl ?_
        refine j_ldc C q4_141 dX11_bits_84 ?_
        refine j_ior C dX11_bits_86 ?_
        refine j_i2l C dX11_bits_87 ?_
        refine j_goto C 94 dX11_bits_88 (by decide) ?_
        exact j_lret C dX11_bits_94 (by rw [← Option.some.inj hg]) (by rw [← Option.some.inj hg]) rfl
  rw [gX11_bits] at hg
  refine j_aload_n C dX11_bits_0 0 rfl rfl ?_
  refine j_iload_n C dX11_bits_1 1 rfl rfl ?_
  refine j_iload_n C dX11_bits_2 2 rfl rfl ?_
  obtain ⟨r1, hr1, hg⟩ := ob hg
  refine j_callV C [.int x0, .int x1] (tX11_isThere hN σ x0 x1 hr1) (Nat.lt_of_lt_of_le (by decide) hN) cq_obj rfl q4_124 q1_6 q4_123 qp_42 q4_121 hd_X11_isThere rfl dX11_bits_3 rfl (Nat.le_of_ble_eq_true rfl) ⟨(Nat.le_of_ble_eq_true rfl), (Nat.le_of_ble_eq_true rfl)⟩ ⟨(Nat.le_of_ble_eq_true rfl), (Nat.le_of_ble_eq_true rfl)⟩ ?_
  refine j_if_eq C 23 hg dX11_bits_6 (by decide) (fun hg => ?_) (fun hg => ?_)
  · refine j_lconst (v := 0) C dX11_bits_23 (by decide) ?_
    exact j_lret C dX11_bits_24 (by rw [← Option.some.inj hg]) (by rw [← Option.some.inj hg]) rfl
  · refine j_aload_n C dX11_bits_9 0 rfl rfl ?_
    refine j_get (v := .ref (z + 77)) C (Nat.lt_of_lt_of_le (by decide) hN) cq_obj rfl inX11 5 (by decide) q3_108 rfl rfl dX11_bits_10 ?_
    refine j_bipush (v := 16) C dX11_bits_13 (by decide) ?_
    refine j_iload_n C dX11_bits_15 1 rfl rfl ?_
    refine j_imul C dX11_bits_16 ?_
    refine j_iload_n C dX11_bits_17 2 rfl rfl ?_
    refine j_iadd C dX11_bits_18 ?_
    refine j_zald C hg (Nat.lt_of_lt_of_le (by decide) hN) cq_none dX11_bits_19 (fun hg => ?_)
    refine j_if_eq C 25 hg dX11_bits_20 (by decide) (fun hg => ?_) (fun hg => ?_)
    · refine j_aload_n C dX11_bits_25 0 rfl rfl ?_
      refine j_get (v := .ref (z + 76)) C (Nat.lt_of_lt_of_le (by decide) hN) cq_obj rfl inX11 4 (by decide) q3_107 rfl rfl dX11_bits_26 ?_
      refine j_bipush (v := 16) C dX11_bits_29 (by decide) ?_
      refine j_iload_n C dX11_bits_31 1 rfl rfl ?_
      refine j_imul C dX11_bits_32 ?_
      refine j_iload_n C dX11_bits_33 2 rfl rfl ?_
      refine j_iadd C dX11_bits_34 ?_
      refine j_dald C hg (Nat.lt_of_lt_of_le (by decide) hN) cq_now dX11_bits_35 (fun hg => ?_)
      refine j_dstore_n C [(3, .double (m_now r1.1 (((16 : Int32) * x0) + x1).toNatClampNeg)), (0, .ref (z + 71)), (1, .int x0), (2, .int x1)] dX11_bits_36 rfl (by decide) rfl ?_
      refine j_dload_n C dX11_bits_37 0 rfl rfl ?_
      obtain ⟨r2, hr2, hg⟩ := ob hg
      refine j_callS C [.double (m_now r1.1 (((16 : Int32) * x0) + x1).toNatClampNeg)] (tX11_hasMinus (m_now r1.1 (((16 : Int32) * x0) + x1).toNatClampNeg) hr2) q4_24 q1_6 q4_23 q4_22 hd_X11_hasMinus rfl dX11_bits_38 rfl (Nat.le_of_ble_eq_true rfl) ⟨(Nat.le_of_ble_eq_true rfl), (Nat.le_of_ble_eq_true rfl)⟩ ⟨(Nat.le_of_ble_eq_true rfl), (Nat.le_of_ble_eq_true rfl)⟩ ?_
      refine j_if_eq C 49 hg dX11_bits_41 (by decide) (fun hg => ?_) (fun hg => ?_)
      · refine j_dload_n C dX11_bits_49 0 rfl rfl ?_
        exact j_re [1, 2, 0] rfl (L_50 r1.1 (m_now r1.1 (((16 : Int32) * x0) + x1).toNatClampNeg) (m_now r1.1 (((16 : Int32) * x0) + x1).toNatClampNeg) hg)
      · refine j_dload_n C dX11_bits_44 0 rfl rfl ?_
        refine j_dneg C dX11_bits_45 ?_
        refine j_goto C 50 dX11_bits_46 (by decide) ?_
        exact j_re [1, 2, 0] rfl (L_50 r1.1 (m_now r1.1 (((16 : Int32) * x0) + x1).toNatClampNeg) (FP.dneg (m_now r1.1 (((16 : Int32) * x0) + x1).toNatClampNeg)) hg)
    · refine j_lconst (v := 0) C dX11_bits_23 (by decide) ?_
      exact j_lret C dX11_bits_24 (by rw [← Option.some.inj hg]) (by rw [← Option.some.inj hg]) rfl

def gX11_compared_109 (σ : MS) (x0 : Int32) (x1 : Int32) (x2 : Int32) (k42 : MS → Int32 → Int32 → Option (MS × Int32)) (τ : MS) (v5 : Int32) (s0 : Int32) (s1 : Int32) : Option (MS × Int32) := k42 τ (s1 + s0) (v5 + (1 : Int32))
def gX11_compared_42 (σ : MS) (x0 : Int32) (x1 : Int32) (x2 : Int32) (k42 : MS → Int32 → Int32 → Option (MS × Int32)) (τ : MS) (v4 : Int32) (v5 : Int32) : Option (MS × Int32) := if (16 : Int32) ≤ v5 then (some (τ, v4)) else (if ix (((16 : Int32) * x0) + v5) 200 then (if ix (((16 : Int32) * x0) + v5) 200 then (if ix (((16 : Int32) * x2) + v5) 200 then (if ix (((16 : Int32) * x2) + v5) 200 then ((gX11_isSo x1 (m_now τ (((16 : Int32) * x0) + v5).toNatClampNeg) (m_none τ (((16 : Int32) * x0) + v5).toNatClampNeg) (m_now τ (((16 : Int32) * x2) + v5).toNatClampNeg) (m_none τ (((16 : Int32) * x2) + v5).toNatClampNeg)).bind (fun r5 => if r5 = 0 then (gX11_compared_109 σ x0 x1 x2 k42 τ v5 (0 : Int32) v4) else (gX11_compared_109 σ x0 x1 x2 k42 τ v5 (1 : Int32) v4))) else none) else none) else none) else none)
def gX11_compared (σ : MS) (x0 : Int32) (x1 : Int32) (x2 : Int32) : Option (MS × Int32) := (gX11_isIn x0 (0 : Int32) (11 : Int32)).bind (fun r1 => if r1 = 0 then (some (σ, (-1 : Int32))) else ((gX11_isIn x2 (0 : Int32) (11 : Int32)).bind (fun r2 => if r2 = 0 then (some (σ, (-1 : Int32))) else ((gX11_isIn x1 (0 : Int32) (11 : Int32)).bind (fun r3 => if r3 = 0 then (some (σ, (-1 : Int32))) else ((gX11_reckonAll σ ).bind (fun r4 => lq3 (gX11_compared_42 σ x0 x1 x2) 20 r4 (0 : Int32) (0 : Int32))))))))
theorem hd_X11_compared : yX11_compared.cls ≠ "java/lang/invoke/MethodHandle" ∧ yX11_compared.cls ≠ "java/lang/invoke/VarHandle" ∧ (parseMethodDescriptor yX11_compared.desc).map (fun d => d.parameters.length) = some 3 := by decide +kernel
set_option maxHeartbeats 4000000 in
set_option maxRecDepth 100000 in
theorem tX11_compared {G : GG} {l : Launch} {z N : Nat} {b : Nat → va_E} (hN : 86 ≤ N) (σ : MS) (x0 : Int32) (x1 : Int32) (x2 : Int32) {r : MS × Int32} (hg : gX11_compared σ x0 x1 x2 = some r) : Ct G l yX11_compared cX11_compared 8 (some .int) ({ frames := 7, cells := 0, slots := 0, locals := 168 } : Room) [.ref (z + 71), .int x0, .int x1, .int x2] z (ctM G z b σ) N (some (.int r.2)) (ctM G z b r.1) N := by
  refine Ct.of (lv := [(0, .ref (z + 71)), (1, .int x0), (2, .int x1), (3, .int x2)]) (by decide +kernel) (Nat.le_of_ble_eq_true rfl) rfl (fun p e s m args below meth c C => ?_)
  have L_42 : ∀ (n42 : Nat) (τ : MS) (v4 : Int32) (v5 : Int32), lq3 (gX11_compared_42 σ x0 x1 x2) n42 τ v4 v5 = some r → J G p l e ({ frames := 7, cells := 0, slots := 0, locals := 168 } : Room) s m args below meth c z 8 (MQ below (Qd G z (some (.int r.2)) (ctM G z b r.1) N) args s 0 0 (zA z)) (ctM G z b τ) N 0 0 42 [(0, .ref (z + 71)), (1, .int x0), (2, .int x1), (3, .int x2), (4, .int v4), (5, .int v5)] [] := by
    intro n42
    induction n42 with
    | zero => intro τ v4 v5 hg; cases hg
    | succ n42 ih42 =>
      have L_109 : ∀ (τ : MS) (v5 : Int32) (s0 : Int32) (s1 : Int32), gX11_compared_109 σ x0 x1 x2 (lq3 (gX11_compared_42 σ x0 x1 x2) n42) τ v5 s0 s1 = some r → J G p l e ({ frames := 7, cells := 0, slots := 0, locals := 168 } : Room) s m args below meth c z 8 (MQ below (Qd G z (some (.int r.2)) (ctM G z b r.1) N) args s 0 0 (zA z)) (ctM G z b τ) N 0 0 109 [(0, .ref (z + 71)), (1, .int x0), (2, .int x1), (3, .int x2), (5, .int v5)] [.int s0, .int s1] := by
        intro τ v5 s0 s1 hg
        rw [gX11_compared_109] at hg
        refine j_iadd C dX11_compared_109 ?_
        refine j_istore C [(4, .int (s1 + s0)), (0, .ref (z + 71)), (1, .int x0), (2, .int x1), (3, .int x2), (5, .int v5)] dX11_compared_110 (by decide) rfl ?_
        refine j_iinc C [(5, .int (v5 + (1 : Int32))), (4, .int (s1 + s0)), (0, .ref (z + 71)), (1, .int x0), (2, .int x1), (3, .int x2)] dX11_compared_112 5 rfl rfl (by decide) rfl ?_
        refine j_goto C 42 dX11_compared_115 (by decide) ?_
        exact j_re [2, 3, 4, 5, 1, 0] rfl (ih42 τ (s1 + s0) (v5 + (1 : Int32)) hg)
      intro τ v4 v5 hg
      replace hg : gX11_compared_42 σ x0 x1 x2 (lq3 (gX11_compared_42 σ x0 x1 x2) n42) τ v4 v5 = some r := hg
      rw [gX11_compared_42] at hg
      refine j_iload C dX11_compared_42 5 rfl ?_
      refine j_bipush (v := 16) C dX11_compared_44 (by decide) ?_
      refine j_icmp_ge C 118 hg dX11_compared_46 (by decide) (fun hg => ?_) (fun hg => ?_)
      · refine j_iload C dX11_compared_118 4 rfl ?_
        exact j_iret C dX11_compared_120 (by rw [← Option.some.inj hg]) (by rw [← Option.some.inj hg]) rfl
      · refine j_bipush (v := 16) C dX11_compared_49 (by decide) ?_
        refine j_iload_n C dX11_compared_51 1 rfl rfl ?_
        refine j_imul C dX11_compared_52 ?_
        refine j_iload C dX11_compared_53 5 rfl ?_
        refine j_iadd C dX11_compared_55 ?_
        refine j_istore C [(6, .int (((16 : Int32) * x0) + v5)), (0, .ref (z + 71)), (1, .int x0), (2, .int x1), (3, .int x2), (4, .int v4), (5, .int v5)] dX11_compared_56 (by decide) rfl ?_
        refine j_bipush (v := 16) C dX11_compared_58 (by decide) ?_
        refine j_iload_n C dX11_compared_60 4 rfl rfl ?_
        refine j_imul C dX11_compared_61 ?_
        refine j_iload C dX11_compared_62 6 rfl ?_
        refine j_iadd C dX11_compared_64 ?_
        refine j_istore C [(7, .int (((16 : Int32) * x2) + v5)), (6, .int (((16 : Int32) * x0) + v5)), (0, .ref (z + 71)), (1, .int x0), (2, .int x1), (3, .int x2), (4, .int v4), (5, .int v5)] dX11_compared_65 (by decide) rfl ?_
        refine j_iload C dX11_compared_67 6 rfl ?_
        refine j_iload_n C dX11_compared_69 4 rfl rfl ?_
        refine j_aload_n C dX11_compared_70 2 rfl rfl ?_
        refine j_get (v := .ref (z + 76)) C (Nat.lt_of_lt_of_le (by decide) hN) cq_obj rfl inX11 4 (by decide) q3_107 rfl rfl dX11_compared_71 ?_
        refine j_iload C dX11_compared_74 1 rfl ?_
        refine j_dald C hg (Nat.lt_of_lt_of_le (by decide) hN) cq_now dX11_compared_76 (fun hg => ?_)
        refine j_aload_n C dX11_compared_77 2 rfl rfl ?_
        refine j_get (v := .ref (z + 77)) C (Nat.lt_of_lt_of_le (by decide) hN) cq_obj rfl inX11 5 (by decide) q3_108 rfl rfl dX11_compared_78 ?_
        refine j_iload C dX11_compared_81 1 rfl ?_
        refine j_zald C hg (Nat.lt_of_lt_of_le (by decide) hN) cq_none dX11_compared_83 (fun hg => ?_)
        refine j_aload_n C dX11_compared_84 2 rfl rfl ?_
        refine j_get (v := .ref (z + 76)) C (Nat.lt_of_lt_of_le (by decide) hN) cq_obj rfl inX11 4 (by decide) q3_107 rfl rfl dX11_compared_85 ?_
        refine j_iload C dX11_compared_88 0 rfl ?_
        refine j_dald C hg (Nat.lt_of_lt_of_le (by decide) hN) cq_now dX11_compared_90 (fun hg => ?_)
        refine j_aload_n C dX11_compared_91 2 rfl rfl ?_
        refine j_get (v := .ref (z + 77)) C (Nat.lt_of_lt_of_le (by decide) hN) cq_obj rfl inX11 5 (by decide) q3_108 rfl rfl dX11_compared_92 ?_
        refine j_iload C dX11_compared_95 0 rfl ?_
        refine j_zald C hg (Nat.lt_of_lt_of_le (by decide) hN) cq_none dX11_compared_97 (fun hg => ?_)
        obtain ⟨r5, hr5, hg⟩ := ob hg
        refine j_callS C [.int x1, .double (m_now τ (((16 : Int32) * x0) + v5).toNatClampNeg), .int (m_none τ (((16 : Int32) * x0) + v5).toNatClampNeg), .double (m_now τ (((16 : Int32) * x2) + v5).toNatClampNeg), .int (m_none τ (((16 : Int32) * x2) + v5).toNatClampNeg)] (tX11_isSo x1 (m_now τ (((16 : Int32) * x0) + v5).toNatClampNeg) (m_none τ (((16 : Int32) * x0) + v5).toNatClampNeg) (m_now τ (((16 : Int32) * x2) + v5).toNatClampNeg) (m_none τ (((16 : Int32) * x2) + v5).toNatClampNeg) hr5) q4_73 q1_6 q4_72 q4_71 hd_X11_isSo rfl dX11_compared_98 rfl (Nat.le_of_ble_eq_true rfl) ⟨(Nat.le_of_ble_eq_true rfl), (Nat.le_of_ble_eq_true rfl)⟩ ⟨(Nat.le_of_ble_eq_true rfl), (Nat.le_of_ble_eq_true rfl)⟩ ?_
        refine j_if_eq C 108 hg dX11_compared_101 (by decide) (fun hg => ?_) (fun hg => ?_)
        · refine j_iconst (v := 0) C dX11_compared_108 (by decide) ?_
          exact j_re [2, 3, 4, 5, 7] rfl (L_109 τ v5 (0 : Int32) v4 hg)
        · refine j_iconst (v := 1) C dX11_compared_104 (by decide) ?_
          refine j_goto C 109 dX11_compared_105 (by decide) ?_
          exact j_re [2, 3, 4, 5, 7] rfl (L_109 τ v5 (1 : Int32) v4 hg)
  rw [gX11_compared] at hg
  refine j_iload_n C dX11_compared_0 1 rfl rfl ?_
  refine j_iconst (v := 0) C dX11_compared_1 (by decide) ?_
  refine j_bipush (v := 11) C dX11_compared_2 (by decide) ?_
  obtain ⟨r1, hr1, hg⟩ := ob hg
  refine j_callS C [.int x0, .int (0 : Int32), .int (11 : Int32)] (tX11_isIn x0 (0 : Int32) (11 : Int32) hr1) q3_176 q1_6 q3_175 q3_174 hd_X11_isIn rfl dX11_compared_4 rfl (Nat.le_of_ble_eq_true rfl) ⟨(Nat.le_of_ble_eq_true rfl), (Nat.le_of_ble_eq_true rfl)⟩ ⟨(Nat.le_of_ble_eq_true rfl), (Nat.le_of_ble_eq_true rfl)⟩ ?_
  refine j_if_eq C 30 hg dX11_compared_7 (by decide) (fun hg => ?_) (fun hg => ?_)
  · refine j_iconst (v := (-1)) C dX11_compared_30 (by decide) ?_
    exact j_iret C dX11_compared_31 (by rw [← Option.some.inj hg]) (by rw [← Option.some.inj hg]) rfl
  · refine j_iload_n C dX11_compared_10 3 rfl rfl ?_
    refine j_iconst (v := 0) C dX11_compared_11 (by decide) ?_
    refine j_bipush (v := 11) C dX11_compared_12 (by decide) ?_
    obtain ⟨r2, hr2, hg⟩ := ob hg
    refine j_callS C [.int x2, .int (0 : Int32), .int (11 : Int32)] (tX11_isIn x2 (0 : Int32) (11 : Int32) hr2) q3_176 q1_6 q3_175 q3_174 hd_X11_isIn rfl dX11_compared_14 rfl (Nat.le_of_ble_eq_true rfl) ⟨(Nat.le_of_ble_eq_true rfl), (Nat.le_of_ble_eq_true rfl)⟩ ⟨(Nat.le_of_ble_eq_true rfl), (Nat.le_of_ble_eq_true rfl)⟩ ?_
    refine j_if_eq C 30 hg dX11_compared_17 (by decide) (fun hg => ?_) (fun hg => ?_)
    · refine j_iconst (v := (-1)) C dX11_compared_30 (by decide) ?_
      exact j_iret C dX11_compared_31 (by rw [← Option.some.inj hg]) (by rw [← Option.some.inj hg]) rfl
    · refine j_iload_n C dX11_compared_20 2 rfl rfl ?_
      refine j_iconst (v := 0) C dX11_compared_21 (by decide) ?_
      refine j_bipush (v := 11) C dX11_compared_22 (by decide) ?_
      obtain ⟨r3, hr3, hg⟩ := ob hg
      refine j_callS C [.int x1, .int (0 : Int32), .int (11 : Int32)] (tX11_isIn x1 (0 : Int32) (11 : Int32) hr3) q3_176 q1_6 q3_175 q3_174 hd_X11_isIn rfl dX11_compared_24 rfl (Nat.le_of_ble_eq_true rfl) ⟨(Nat.le_of_ble_eq_true rfl), (Nat.le_of_ble_eq_true rfl)⟩ ⟨(Nat.le_of_ble_eq_true rfl), (Nat.le_of_ble_eq_true rfl)⟩ ?_
      refine j_if_ne C 32 hg dX11_compared_27 (by decide) (fun hg => ?_) (fun hg => ?_)
      · refine j_aload_n C dX11_compared_32 0 rfl rfl ?_
        obtain ⟨r4, hr4, hg⟩ := ob hg
        refine j_callV C [] (tX11_reckonAll hN σ  hr4) (Nat.lt_of_lt_of_le (by decide) hN) cq_obj rfl q3_230 q1_6 q3_229 qp_24 q3_227 hd_X11_reckonAll rfl dX11_compared_33 rfl (Nat.le_of_ble_eq_true rfl) ⟨(Nat.le_of_ble_eq_true rfl), (Nat.le_of_ble_eq_true rfl)⟩ ⟨(Nat.le_of_ble_eq_true rfl), (Nat.le_of_ble_eq_true rfl)⟩ ?_
        refine j_iconst (v := 0) C dX11_compared_36 (by decide) ?_
        refine j_istore C [(4, .int (0 : Int32)), (0, .ref (z + 71)), (1, .int x0), (2, .int x1), (3, .int x2)] dX11_compared_37 (by decide) rfl ?_
        refine j_iconst (v := 0) C dX11_compared_39 (by decide) ?_
        refine j_istore C [(5, .int (0 : Int32)), (4, .int (0 : Int32)), (0, .ref (z + 71)), (1, .int x0), (2, .int x1), (3, .int x2)] dX11_compared_40 (by decide) rfl ?_
        exact j_re [2, 3, 4, 5, 1, 0] rfl (L_42 20 r4 (0 : Int32) (0 : Int32) hg)
      · refine j_iconst (v := (-1)) C dX11_compared_30 (by decide) ?_
        exact j_iret C dX11_compared_31 (by rw [← Option.some.inj hg]) (by rw [← Option.some.inj hg]) rfl

def gX11_told_148 (σ : MS) (x0 : Int32) (x1 : Int32) (k125 : MS → Int32 → Int32 → Option (MS × Int32)) (τ : MS) (v4 : Int32) (s0 : Int32) (s1 : Int32) : Option (MS × Int32) := k125 τ (s1 + s0) (v4 + (1 : Int32))
def gX11_told_125 (σ : MS) (x0 : Int32) (x1 : Int32) (k125 : MS → Int32 → Int32 → Option (MS × Int32)) (τ : MS) (v3 : Int32) (v4 : Int32) : Option (MS × Int32) := if (16 : Int32) ≤ v4 then (some (τ, v3)) else ((gX11_isBlank τ x0 v4).bind (fun r3 => if r3.2 = 0 then (gX11_told_148 σ x0 x1 k125 r3.1 v4 (0 : Int32) v3) else (gX11_told_148 σ x0 x1 k125 r3.1 v4 (1 : Int32) v3)))
def gX11_told (σ : MS) (x0 : Int32) (x1 : Int32) : Option (MS × Int32) := if x0 = (12 : Int32) then (if x1 = 0 then (some (σ, m_changes σ)) else (if x1 = (1 : Int32) then (some (σ, m_alarmMany σ)) else (if x1 = (2 : Int32) then (some (σ, m_rings σ)) else (some (σ, (-1 : Int32)))))) else ((gX11_isIn x0 (0 : Int32) (11 : Int32)).bind (fun r1 => if r1 = 0 then (some (σ, (-1 : Int32))) else (if x1 = (0 : Int32) then (if ix ((4 : Int32) * x0) 48 then (if 0 ≤ (m_made σ ((4 : Int32) * x0).toNatClampNeg) then (some (σ, (1 : Int32))) else (some (σ, (0 : Int32)))) else none) else (if x1 = (1 : Int32) then (if ix x0 12 then (if (m_narrow σ x0.toNatClampNeg) = 0 then (some (σ, (0 : Int32))) else (some (σ, (1 : Int32)))) else none) else (if x1 = (2 : Int32) then (lq3 (gX11_told_125 σ x0 x1) 20 σ (0 : Int32) (0 : Int32)) else (if x1 = (3 : Int32) then (if ix ((4 : Int32) * x0) 48 then (some (σ, m_made σ ((4 : Int32) * x0).toNatClampNeg)) else none) else (some (σ, (-1 : Int32)))))))))
theorem hd_X11_told : yX11_told.cls ≠ "java/lang/invoke/MethodHandle" ∧ yX11_told.cls ≠ "java/lang/invoke/VarHandle" ∧ (parseMethodDescriptor yX11_told.desc).map (fun d => d.parameters.length) = some 2 := by decide +kernel
set_option maxHeartbeats 4000000 in
set_option maxRecDepth 100000 in
theorem tX11_told {G : GG} {l : Launch} {z N : Nat} {b : Nat → va_E} (hN : 86 ≤ N) (σ : MS) (x0 : Int32) (x1 : Int32) {r : MS × Int32} (hg : gX11_told σ x0 x1 = some r) : Ct G l yX11_told cX11_told 5 (some .int) ({ frames := 9, cells := 0, slots := 0, locals := 212 } : Room) [.ref (z + 71), .int x0, .int x1] z (ctM G z b σ) N (some (.int r.2)) (ctM G z b r.1) N := by
  refine Ct.of (lv := [(0, .ref (z + 71)), (1, .int x0), (2, .int x1)]) (by decide +kernel) (Nat.le_of_ble_eq_true rfl) rfl (fun p e s m args below meth c C => ?_)
  have L_125 : ∀ (n125 : Nat) (τ : MS) (v3 : Int32) (v4 : Int32), lq3 (gX11_told_125 σ x0 x1) n125 τ v3 v4 = some r → J G p l e ({ frames := 9, cells := 0, slots := 0, locals := 212 } : Room) s m args below meth c z 5 (MQ below (Qd G z (some (.int r.2)) (ctM G z b r.1) N) args s 0 0 (zA z)) (ctM G z b τ) N 0 0 125 [(0, .ref (z + 71)), (1, .int x0), (3, .int v3), (4, .int v4)] [] := by
    intro n125
    induction n125 with
    | zero => intro τ v3 v4 hg; cases hg
    | succ n125 ih125 =>
      have L_148 : ∀ (τ : MS) (v4 : Int32) (s0 : Int32) (s1 : Int32), gX11_told_148 σ x0 x1 (lq3 (gX11_told_125 σ x0 x1) n125) τ v4 s0 s1 = some r → J G p l e ({ frames := 9, cells := 0, slots := 0, locals := 212 } : Room) s m args below meth c z 5 (MQ below (Qd G z (some (.int r.2)) (ctM G z b r.1) N) args s 0 0 (zA z)) (ctM G z b τ) N 0 0 148 [(0, .ref (z + 71)), (1, .int x0), (4, .int v4)] [.int s0, .int s1] := by
        intro τ v4 s0 s1 hg
        rw [gX11_told_148] at hg
        refine j_iadd C dX11_told_148 ?_
        refine j_istore_n C [(3, .int (s1 + s0)), (0, .ref (z + 71)), (1, .int x0), (4, .int v4)] dX11_told_149 rfl (by decide) rfl ?_
        refine j_iinc C [(4, .int (v4 + (1 : Int32))), (3, .int (s1 + s0)), (0, .ref (z + 71)), (1, .int x0)] dX11_told_150 3 rfl rfl (by decide) rfl ?_
        refine j_goto C 125 dX11_told_153 (by decide) ?_
        exact j_re [2, 3, 1, 0] rfl (ih125 τ (s1 + s0) (v4 + (1 : Int32)) hg)
      intro τ v3 v4 hg
      replace hg : gX11_told_125 σ x0 x1 (lq3 (gX11_told_125 σ x0 x1) n125) τ v3 v4 = some r := hg
      rw [gX11_told_125] at hg
      refine j_iload C dX11_told_125 3 rfl ?_
      refine j_bipush (v := 16) C dX11_told_127 (by decide) ?_
      refine j_icmp_ge C 156 hg dX11_told_129 (by decide) (fun hg => ?_) (fun hg => ?_)
      · refine j_iload_n C dX11_told_156 2 rfl rfl ?_
        exact j_iret C dX11_told_157 (by rw [← Option.some.inj hg]) (by rw [← Option.some.inj hg]) rfl
      · refine j_iload_n C dX11_told_132 2 rfl rfl ?_
        refine j_aload_n C dX11_told_133 0 rfl rfl ?_
        refine j_iload_n C dX11_told_134 1 rfl rfl ?_
        refine j_iload C dX11_told_135 3 rfl ?_
        obtain ⟨r3, hr3, hg⟩ := ob hg
        refine j_callV C [.int x0, .int v4] (tX11_isBlank hN τ x0 v4 hr3) (Nat.lt_of_lt_of_le (by decide) hN) cq_obj rfl q4_128 q1_6 q4_126 q4_127 q4_151 hd_X11_isBlank rfl dX11_told_137 rfl (Nat.le_of_ble_eq_true rfl) ⟨(Nat.le_of_ble_eq_true rfl), (Nat.le_of_ble_eq_true rfl)⟩ ⟨(Nat.le_of_ble_eq_true rfl), (Nat.le_of_ble_eq_true rfl)⟩ ?_
        refine j_if_eq C 147 hg dX11_told_140 (by decide) (fun hg => ?_) (fun hg => ?_)
        · refine j_iconst (v := 0) C dX11_told_147 (by decide) ?_
          exact j_re [0, 1, 3] rfl (L_148 r3.1 v4 (0 : Int32) v3 hg)
        · refine j_iconst (v := 1) C dX11_told_143 (by decide) ?_
          refine j_goto C 148 dX11_told_144 (by decide) ?_
          exact j_re [0, 1, 3] rfl (L_148 r3.1 v4 (1 : Int32) v3 hg)
  rw [gX11_told] at hg
  refine j_iload_n C dX11_told_0 1 rfl rfl ?_
  refine j_bipush (v := 12) C dX11_told_1 (by decide) ?_
  refine j_icmp_ne C 43 hg dX11_told_3 (by decide) (fun hg => ?_) (fun hg => ?_)
  · refine j_iload_n C dX11_told_43 1 rfl rfl ?_
    refine j_iconst (v := 0) C dX11_told_44 (by decide) ?_
    refine j_bipush (v := 11) C dX11_told_45 (by decide) ?_
    obtain ⟨r1, hr1, hg⟩ := ob hg
    refine j_callS C [.int x0, .int (0 : Int32), .int (11 : Int32)] (tX11_isIn x0 (0 : Int32) (11 : Int32) hr1) q3_176 q1_6 q3_175 q3_174 hd_X11_isIn rfl dX11_told_47 rfl (Nat.le_of_ble_eq_true rfl) ⟨(Nat.le_of_ble_eq_true rfl), (Nat.le_of_ble_eq_true rfl)⟩ ⟨(Nat.le_of_ble_eq_true rfl), (Nat.le_of_ble_eq_true rfl)⟩ ?_
    refine j_if_ne C 55 hg dX11_told_50 (by decide) (fun hg => ?_) (fun hg => ?_)
    · refine j_iload_n C dX11_told_55 2 rfl rfl ?_
      by_cases c2_0 : x1 = (0 : Int32)
      · replace hg := (if_pos c2_0).symm.trans hg
        refine j_tableIn (off := 32) C 88 dX11_told_56 (by rw [c2_0]; decide) (by rw [c2_0]; decide) (by rw [c2_0]; rfl) (by decide) ?_
        refine j_aload_n C dX11_told_88 0 rfl rfl ?_
        refine j_get (v := .ref (z + 75)) C (Nat.lt_of_lt_of_le (by decide) hN) cq_obj rfl inX11 3 (by decide) q3_106 rfl rfl dX11_told_89 ?_
        refine j_iconst (v := 4) C dX11_told_92 (by decide) ?_
        refine j_iload_n C dX11_told_93 1 rfl rfl ?_
        refine j_imul C dX11_told_94 ?_
        refine j_iald C hg (Nat.lt_of_lt_of_le (by decide) hN) cq_made dX11_told_95 (fun hg => ?_)
        refine j_if_ge C 103 hg dX11_told_96 (by decide) (fun hg => ?_) (fun hg => ?_)
        · refine j_iconst (v := 1) C dX11_told_103 (by decide) ?_
          exact j_iret C dX11_told_104 (by rw [← Option.some.inj hg]) (by rw [← Option.some.inj hg]) rfl
        · refine j_iconst (v := 0) C dX11_told_99 (by decide) ?_
          refine j_goto C 104 dX11_told_100 (by decide) ?_
          exact j_iret C dX11_told_104 (by rw [← Option.some.inj hg]) (by rw [← Option.some.inj hg]) rfl
      · replace hg := (if_neg c2_0).symm.trans hg
        by_cases c2_1 : x1 = (1 : Int32)
        · replace hg := (if_pos c2_1).symm.trans hg
          refine j_tableIn (off := 49) C 105 dX11_told_56 (by rw [c2_1]; decide) (by rw [c2_1]; decide) (by rw [c2_1]; rfl) (by decide) ?_
          refine j_aload_n C dX11_told_105 0 rfl rfl ?_
          refine j_get (v := .ref (z + 74)) C (Nat.lt_of_lt_of_le (by decide) hN) cq_obj rfl inX11 2 (by decide) q3_105 rfl rfl dX11_told_106 ?_
          refine j_iload_n C dX11_told_109 1 rfl rfl ?_
          refine j_zald C hg (Nat.lt_of_lt_of_le (by decide) hN) cq_narrow dX11_told_110 (fun hg => ?_)
          refine j_if_eq C 118 hg dX11_told_111 (by decide) (fun hg => ?_) (fun hg => ?_)
          · refine j_iconst (v := 0) C dX11_told_118 (by decide) ?_
            exact j_iret C dX11_told_119 (by rw [← Option.some.inj hg]) (by rw [← Option.some.inj hg]) rfl
          · refine j_iconst (v := 1) C dX11_told_114 (by decide) ?_
            refine j_goto C 119 dX11_told_115 (by decide) ?_
            exact j_iret C dX11_told_119 (by rw [← Option.some.inj hg]) (by rw [← Option.some.inj hg]) rfl
        · replace hg := (if_neg c2_1).symm.trans hg
          by_cases c2_2 : x1 = (2 : Int32)
          · replace hg := (if_pos c2_2).symm.trans hg
            refine j_tableIn (off := 64) C 120 dX11_told_56 (by rw [c2_2]; decide) (by rw [c2_2]; decide) (by rw [c2_2]; rfl) (by decide) ?_
            refine j_iconst (v := 0) C dX11_told_120 (by decide) ?_
            refine j_istore_n C [(3, .int (0 : Int32)), (0, .ref (z + 71)), (1, .int x0), (2, .int x1)] dX11_told_121 rfl (by decide) rfl ?_
            refine j_iconst (v := 0) C dX11_told_122 (by decide) ?_
            refine j_istore C [(4, .int (0 : Int32)), (3, .int (0 : Int32)), (0, .ref (z + 71)), (1, .int x0), (2, .int x1)] dX11_told_123 (by decide) rfl ?_
            exact j_re [2, 3, 1, 0] rfl (L_125 20 σ (0 : Int32) (0 : Int32) hg)
          · replace hg := (if_neg c2_2).symm.trans hg
            by_cases c2_3 : x1 = (3 : Int32)
            · replace hg := (if_pos c2_3).symm.trans hg
              refine j_tableIn (off := 102) C 158 dX11_told_56 (by rw [c2_3]; decide) (by rw [c2_3]; decide) (by rw [c2_3]; rfl) (by decide) ?_
              refine j_aload_n C dX11_told_158 0 rfl rfl ?_
              refine j_get (v := .ref (z + 75)) C (Nat.lt_of_lt_of_le (by decide) hN) cq_obj rfl inX11 3 (by decide) q3_106 rfl rfl dX11_told_159 ?_
              refine j_iconst (v := 4) C dX11_told_162 (by decide) ?_
              refine j_iload_n C dX11_told_163 1 rfl rfl ?_
              refine j_imul C dX11_told_164 ?_
              refine j_iald C hg (Nat.lt_of_lt_of_le (by decide) hN) cq_made dX11_told_165 (fun hg => ?_)
              exact j_iret C dX11_told_166 (by rw [← Option.some.inj hg]) (by rw [← Option.some.inj hg]) rfl
            · replace hg := (if_neg c2_3).symm.trans hg
              have ho : x1.toInt < 0 ∨ 3 < x1.toInt := by
                by_cases ho : x1.toInt < 0 ∨ 3 < x1.toInt
                · exact ho
                · obtain ⟨k, hk, hx⟩ := sw_in ho
                  match k, hk, hx with
                  | 0, _, hx => exact absurd (Int32.toInt_inj.mp (hx.trans (by decide))) c2_0
                  | 1, _, hx => exact absurd (Int32.toInt_inj.mp (hx.trans (by decide))) c2_1
                  | 2, _, hx => exact absurd (Int32.toInt_inj.mp (hx.trans (by decide))) c2_2
                  | 3, _, hx => exact absurd (Int32.toInt_inj.mp (hx.trans (by decide))) c2_3
                  | k + 4, hk, _ => exact absurd hk (Nat.not_lt.mpr (Nat.le_add_left _ _))
              refine j_tableOut C 167 dX11_told_56 ho (by decide) ?_
              refine j_iconst (v := (-1)) C dX11_told_167 (by decide) ?_
              exact j_iret C dX11_told_168 (by rw [← Option.some.inj hg]) (by rw [← Option.some.inj hg]) rfl
    · refine j_iconst (v := (-1)) C dX11_told_53 (by decide) ?_
      exact j_iret C dX11_told_54 (by rw [← Option.some.inj hg]) (by rw [← Option.some.inj hg]) rfl
  · refine j_iload_n C dX11_told_6 2 rfl rfl ?_
    refine j_if_ne C 17 hg dX11_told_7 (by decide) (fun hg => ?_) (fun hg => ?_)
    · refine j_iload_n C dX11_told_17 2 rfl rfl ?_
      refine j_iconst (v := 1) C dX11_told_18 (by decide) ?_
      refine j_icmp_ne C 29 hg dX11_told_19 (by decide) (fun hg => ?_) (fun hg => ?_)
      · refine j_iload_n C dX11_told_29 2 rfl rfl ?_
        refine j_iconst (v := 2) C dX11_told_30 (by decide) ?_
        refine j_icmp_ne C 41 hg dX11_told_31 (by decide) (fun hg => ?_) (fun hg => ?_)
        · refine j_iconst (v := (-1)) C dX11_told_41 (by decide) ?_
          exact j_iret C dX11_told_42 (by rw [← Option.some.inj hg]) (by rw [← Option.some.inj hg]) rfl
        · refine j_aload_n C dX11_told_34 0 rfl rfl ?_
          refine j_get (v := .int (m_rings σ)) C (Nat.lt_of_lt_of_le (by decide) hN) cq_obj rfl inX11 16 (by decide) q3_119 rfl rfl dX11_told_35 ?_
          refine j_goto C 42 dX11_told_38 (by decide) ?_
          exact j_iret C dX11_told_42 (by rw [← Option.some.inj hg]) (by rw [← Option.some.inj hg]) rfl
      · refine j_aload_n C dX11_told_22 0 rfl rfl ?_
        refine j_get (v := .int (m_alarmMany σ)) C (Nat.lt_of_lt_of_le (by decide) hN) cq_obj rfl inX11 15 (by decide) q3_118 rfl rfl dX11_told_23 ?_
        refine j_goto C 42 dX11_told_26 (by decide) ?_
        exact j_iret C dX11_told_42 (by rw [← Option.some.inj hg]) (by rw [← Option.some.inj hg]) rfl
    · refine j_aload_n C dX11_told_10 0 rfl rfl ?_
      refine j_get (v := .int (m_changes σ)) C (Nat.lt_of_lt_of_le (by decide) hN) cq_obj rfl inX11 10 (by decide) q3_113 rfl rfl dX11_told_11 ?_
      refine j_goto C 42 dX11_told_14 (by decide) ?_
      exact j_iret C dX11_told_42 (by rw [← Option.some.inj hg]) (by rw [← Option.some.inj hg]) rfl
