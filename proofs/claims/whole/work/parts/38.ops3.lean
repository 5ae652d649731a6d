-- formulas of two columns
def vd (f : Int32) (x y : UInt64) : Int32 :=
  if f = 9 then (if isI x ≠ 0 ∧ isI y ≠ 0 ∧ dk x ≠ dk y then 1 else 0)
  else if f = 10 then (if isI x ≠ 0 ∧ isI y ≠ 0 ∧ dk x = dk y then 1 else 0)
  else if f = 11 then (if (dk x = 0 ∧ isI y ≠ 0) ∨ (isI x ≠ 0 ∧ dk y = 0) then 1 else 0)
  else if f = 12 then (if (dk x = 0 ∧ dk y = 0) ∨ (isI x ≠ 0 ∧ isI y ≠ 0) then 1 else 0)
  else if f = 13 then (if dk y = 0 ∨ isI x ≠ 0 then 1 else 0)
  else if f = 26 then (if dk y = 0 ∨ isI y ≠ 0 then 1 else 0) else 0
def tv (f : Int32) (x y : UInt64) (nar : Int32) : UInt64 :=
  if f = 9 then sm nar x y else if f = 10 then sm nar x (FP.dneg y) else if f = 11 then pr nar x y else if f = 12 then qu nar x y
  else if f = 13 then FP.drem x y else if f = 14 then (if ok y < ok x then y else x) else if f = 15 then (if ok x < ok y then y else x)
  else if f = 16 then (if mi x = mi y then x else FP.dneg x) else pr nar (nea (qu nar x y)) y
theorem isI_01 (x : UInt64) : isI x = 0 ∨ isI x = 1 := by unfold isI; split; exact .inr rfl; exact .inl rfl
theorem voidC (f : Int32) (x y : UInt64) (hx : NN x) (hy : NN y) : gX6_isVoid f x y = some (vd f x y) := by
  unfold gX6_isVoid gX6_isVoid_153 gX6_isVoid_184 vd
  simp only [c_infC x hx, c_infC y hy, cv hx hy, cv hx nn0, cv hy nn0, cq_eq, dk0, Option.bind_some]
  by_cases a : isI x = 0 <;> by_cases b : isI y = 0 <;> simp only [a, b, if_true, if_false, not_true, not_false_eq_true, ne_eq, true_and, false_and, and_true, and_false, or_false, false_or, or_true]
  all_goals ((repeat' split) <;> first | rfl | (exfalso; omega))
theorem dneg_Br {nar : Int32} {x : UInt64} (h : Br nar x) : Br nar (FP.dneg x) := by
  refine ⟨dneg_nn h.1, ?_⟩
  rcases h.2 with h | ⟨f, hf, rfl⟩
  · exact .inl h
  · refine .inr ⟨FP.fneg f, by show FP.fIsNaN _ = false; rw [FP.fneg_nan]; exact hf, ?_⟩
    have hfn : FNN (FP.fneg f) := by show FP.fIsNaN _ = false; rw [FP.fneg_nan]; exact hf
    refine FP.Core.val64_inj (nn_val (dneg_nn (f2d_nn hf))) ?_
    rw [FP.val64_dneg, f2d_val f hf, f2d_val _ hfn, FP.val32_fneg, FP.Core.negate_round]
theorem f_cases {f : Int32} (h1 : 9 ≤ f.toInt) (h2 : f.toInt ≤ 16 ∨ f.toInt = 26) : f = 9 ∨ f = 10 ∨ f = 11 ∨ f = 12 ∨ f = 13 ∨ f = 14 ∨ f = 15 ∨ f = 16 ∨ f = 26 := by
  have : f.toInt = 9 ∨ f.toInt = 10 ∨ f.toInt = 11 ∨ f.toInt = 12 ∨ f.toInt = 13 ∨ f.toInt = 14 ∨ f.toInt = 15 ∨ f.toInt = 16 ∨ f.toInt = 26 := by omega
  rcases this with h | h | h | h | h | h | h | h | h
  · exact .inl (Int32.toInt.inj h)
  · exact .inr (.inl (Int32.toInt.inj h))
  · exact .inr (.inr (.inl (Int32.toInt.inj h)))
  · exact .inr (.inr (.inr (.inl (Int32.toInt.inj h))))
  · exact .inr (.inr (.inr (.inr (.inl (Int32.toInt.inj h)))))
  · exact .inr (.inr (.inr (.inr (.inr (.inl (Int32.toInt.inj h))))))
  · exact .inr (.inr (.inr (.inr (.inr (.inr (.inl (Int32.toInt.inj h)))))))
  · exact .inr (.inr (.inr (.inr (.inr (.inr (.inr (.inl (Int32.toInt.inj h))))))))
  · exact .inr (.inr (.inr (.inr (.inr (.inr (.inr (.inr (Int32.toInt.inj h))))))))
theorem mi_neg {x : UInt64} : mi (FP.dneg x) = if mi x = 0 then 1 else 0 := by
  unfold mi; rw [dneg_nat]; have := x.toNat_lt; (repeat' split) <;> first | rfl | omega | simp_all
theorem isI_neg {x : UInt64} : isI (FP.dneg x) = isI x := by
  unfold isI; rw [dneg_nat]; have := x.toNat_lt; (repeat' split) <;> first | rfl | omega
theorem void1 {P : Prop} [Decidable P] (h : (if P then (1 : Int32) else 0) = 0) : ¬ P := by
  intro hp; rw [if_pos hp] at h; exact absurd h (by decide)
theorem minC {x y : UInt64} (hx : NN x) (hy : NN y) : gX6_lesser x y = some (if ok y < ok x then y else x) := by
  unfold gX6_lesser
  rw [c_below y x hy hx]
  simp only [Option.bind_some]
  split <;> simp_all
theorem maxC {x y : UInt64} (hx : NN x) (hy : NN y) : gX6_greater x y = some (if ok x < ok y then y else x) := by
  unfold gX6_greater
  rw [c_below x y hx hy]
  simp only [Option.bind_some]
  split <;> simp_all
theorem nea_nP {nar : Int32} {x y : UInt64} (hx : Br nar x) (hy : Br nar y) (h : ¬ (dk y = 0 ∨ isI y ≠ 0)) (w : UInt64) : ¬ badP w y := by
  intro hb
  rcases badP_void hb with ⟨_, h1⟩ | ⟨_, h1⟩
  · exact h (.inr h1)
  · exact h (.inl h1)
theorem ofTwo (f : Int32) (x y : UInt64) (nar : Int32) (hx : Br nar x) (hy : Br nar y) (h1 : 9 ≤ f.toInt) (h2 : f.toInt ≤ 16 ∨ f.toInt = 26) (hv : vd f x y = 0) :
    gX6_ofTwo f x y nar = some (tv f x y nar) ∧ NN (tv f x y nar) ∧ nbd nar (tv f x y nar) := by
  have nx := hx.1
  have ny := hy.1
  have bx := Br_nbd hx
  have by' := Br_nbd hy
  rcases f_cases h1 h2 with rfl | rfl | rfl | rfl | rfl | rfl | rfl | rfl | rfl
  · obtain ⟨a1, a2, a3⟩ := sm_ok hx hy (fun h => void1 hv (badS_void h))
    refine ⟨?_, a2, a3⟩
    show (gX6_sum x y nar).bind _ = _
    rw [a1]; rfl
  · obtain ⟨a1, a2, a3⟩ := sm_ok hx (dneg_Br hy) (fun h => void1 hv (by
      obtain ⟨s, u1, u2⟩ := h
      have u2' : vl y = .inf s := by
        rw [dneg_vl] at u2
        cases hd : vl y with
        | nan => rw [hd] at u2; cases u2
        | inf t => rw [hd] at u2; injection u2 with u2; cases t <;> cases s <;> first | rfl | cases u2
        | fin a b c => rw [hd] at u2; cases u2
      refine ⟨(inf_isI u1).1, (inf_isI u2').1, ?_⟩
      rw [FP.Core.val64_inj (nn_val nx) (u1.trans u2'.symm)]))
    refine ⟨?_, a2, a3⟩
    show (gX6_sum x (FP.dneg y) nar).bind _ = _
    rw [a1]; rfl
  · obtain ⟨a1, a2, a3⟩ := pr_ok hx hy (fun h => void1 hv (badP_void h))
    refine ⟨?_, a2, a3⟩
    show (gX6_product x y nar).bind _ = _
    rw [a1]; rfl
  · obtain ⟨a1, a2, a3⟩ := qu_ok hx hy (fun h => void1 hv (badQ_void h))
    refine ⟨?_, a2, a3⟩
    show (gX6_quotient x y nar).bind _ = _
    rw [a1]; rfl
  · have hv' := void1 hv
    have fx : FN x := (isI_iff nx).mp (Decidable.byContradiction fun h => hv' (.inr h))
    obtain ⟨a1, a2, a3⟩ := remC x y fx ny (fun h => hv' (.inl h))
    refine ⟨?_, a2, ?_⟩
    · show (gX6_remainder x y).bind _ = _
      rw [a1]; rfl
    · show nbd nar (FP.drem x y)
      rcases bx with h | h | h
      · exact .inl h
      · rw [mg_units a2, mg_units nx, FP.Core.unitsOf_le_iff] at a3
        exact .inr (.inl (by omega))
      · have := (fn_iff x).mp fx; omega
  · refine ⟨?_, ?_, ?_⟩
    · show (gX6_lesser x y).bind _ = _
      rw [minC nx ny]; rfl
    · show NN (if ok y < ok x then y else x); split <;> assumption
    · show nbd nar (if ok y < ok x then y else x); split <;> assumption
  · refine ⟨?_, ?_, ?_⟩
    · show (gX6_greater x y).bind _ = _
      rw [maxC nx ny]; rfl
    · show NN (if ok x < ok y then y else x); split <;> assumption
    · show nbd nar (if ok x < ok y then y else x); split <;> assumption
  · refine ⟨?_, ?_, ?_⟩
    · show (gX6_hasMinus y).bind _ = _
      rw [c_minC y ny]
      simp only [Option.bind_some]
      unfold gX6_withSign
      rw [c_minC x nx]
      simp only [Option.bind_some]
      show _ = some (if mi x = mi y then x else FP.dneg x)
      split <;> rfl
    · show NN (if mi x = mi y then x else FP.dneg x); split; exact nx; exact dneg_nn nx
    · show nbd nar (if mi x = mi y then x else FP.dneg x); split; exact bx; exact nbd_neg bx
  · have hv' := void1 hv
    obtain ⟨a1, a2, a3⟩ := qu_ok hx hy (fun h => by
      rcases badQ_void h with ⟨_, h⟩ | ⟨_, h⟩
      · exact hv' (.inl h)
      · exact hv' (.inr h))
    have n1 := nea_ok a2 a3
    obtain ⟨b1, b2, b3⟩ := pr_ok' (x := nea (qu nar x y)) n1.1 hy (nea_nP hx hy hv' _) (fun _ => nea_nP hx hy hv' _)
    refine ⟨?_, b2, b3⟩
    show (gX6_quotient x y nar).bind _ = _
    rw [a1]
    simp only [Option.bind_some]
    rw [neaC _ a2]
    simp only [Option.bind_some]
    rw [b1]; rfl
