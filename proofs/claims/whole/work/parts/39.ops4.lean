theorem bsf {α : Type} (x : Option α) : x.bind (fun r => some r) = x := by cases x <;> rfl
def wv (f : Int32) (x y : UInt64) (nar : Int32) : UInt64 × Int32 := if vd f x y = 0 then (tv f x y nar, 0) else (FP.dconst0, 1)
theorem both (σ : MS) (f : Int32) (x y : UInt64) (nar : Int32) (hx : Br nar x) (hy : Br nar y) (h1 : 9 ≤ f.toInt) (h2 : f.toInt ≤ 16 ∨ f.toInt = 26) :
    gX11_both σ f x y nar = some (gv σ (wv f x y nar).1 (wv f x y nar).2) := by
  have nx := hx.1
  have ny := hy.1
  have key := ofTwo f x y nar hx hy h1 h2
  have i1 := c_infM x nx
  have i2 := c_infM y ny
  have z1 := c_zeroM x nx
  have z2 := c_zeroM y ny
  rcases f_cases h1 h2 with rfl | rfl | rfl | rfl | rfl | rfl | rfl | rfl | rfl
  · unfold gX11_both
    rw [if_pos rfl, i1, i2, cv nx ny]
    simp only [Option.bind_some, cq_eq]
    unfold gX11_both_78 gX11_both_79
    have k : ∀ s : Int32, gX11_both_218 σ 9 x y nar σ s = if s = 0 then (gX6_sum x y nar).bind (fun r => some (gv σ r 0)) else some (gv σ FP.dconst0 1) := by
      intro s; unfold gX11_both_218; rfl
    simp only [k]
    unfold wv
    by_cases hv : vd 9 x y = 0
    · have e := (key hv).1
      have e' : gX6_sum x y nar = some (tv 9 x y nar) := by
        have : (gX6_sum x y nar).bind (fun r => some r) = some (tv 9 x y nar) := e
        rwa [bsf] at this
      rw [e', if_pos hv]
      have hv' := void1 hv
      by_cases a : isI x = 0
      · rw [if_pos a]; rfl
      · rw [if_neg a]
        by_cases b : isI y = 0
        · rw [if_pos b]; rfl
        · rw [if_neg b, if_pos (Decidable.byContradiction fun h => hv' ⟨a, b, h⟩)]; rfl
    · rw [if_neg hv]
      have hv' : isI x ≠ 0 ∧ isI y ≠ 0 ∧ dk x ≠ dk y := Decidable.byContradiction fun h => hv (if_neg h)
      rw [if_neg hv'.1, if_neg hv'.2.1, if_neg hv'.2.2, if_neg (by decide)]
  · unfold gX11_both
    rw [if_neg (by decide), if_neg (by decide), if_neg (by decide), if_neg (by decide), if_neg (by decide)]
    show (gX11_difference σ x y nar).bind _ = _
    unfold gX11_difference gX11_difference_20
    rw [i1, cv nx ny]
    simp only [Option.bind_some, cq_eq]
    unfold wv
    by_cases hv : vd 10 x y = 0
    · have e := (key hv).1
      have e' : gX6_sum x (FP.dneg y) nar = some (tv 10 x y nar) := by
        have : (gX6_sum x (FP.dneg y) nar).bind (fun r => some r) = some (tv 10 x y nar) := e
        rwa [bsf] at this
      rw [sumE, e', if_pos hv]
      have hv' := void1 hv
      by_cases a : isI x = 0
      · rw [if_pos a]; rfl
      · rw [if_neg a]
        rw [if_neg]
        · rfl
        · intro hd
          refine hv' ⟨a, ?_, hd⟩
          intro hb
          have fy := (isI_iff ny).mp hb
          rw [fn_dk, ← hd, ← fn_dk] at fy
          exact a ((isI_iff nx).mpr fy)
    · rw [if_neg hv]
      have hv' : isI x ≠ 0 ∧ isI y ≠ 0 ∧ dk x = dk y := Decidable.byContradiction fun h => hv (if_neg h)
      rw [if_neg hv'.1, if_pos hv'.2.2]; rfl
  · unfold gX11_both
    rw [if_neg (by decide), if_pos rfl, z1, i2]
    simp only [Option.bind_some]
    unfold gX11_both_99 gX11_both_118 gX11_both_114 gX11_both_119
    rw [i1, z2]
    simp only [Option.bind_some]
    have k : ∀ s : Int32, gX11_both_218 σ 11 x y nar σ s = if s = 0 then (gX6_product x y nar).bind (fun r => some (gv σ r 0)) else some (gv σ FP.dconst0 1) := by
      intro s; unfold gX11_both_218; rfl
    simp only [k]
    unfold wv
    by_cases hv : vd 11 x y = 0
    · have e := (key hv).1
      have e' : gX6_product x y nar = some (tv 11 x y nar) := by
        have : (gX6_product x y nar).bind (fun r => some r) = some (tv 11 x y nar) := e
        rwa [bsf] at this
      rw [e', if_pos hv]
      have hv' := void1 hv
      by_cases a : isI x = 0 <;> by_cases b : isI y = 0 <;> by_cases c : dk x = 0 <;> by_cases d : dk y = 0 <;> simp [a, b, c, d] at hv' ⊢
    · rw [if_neg hv]
      have hv' : (dk x = 0 ∧ isI y ≠ 0) ∨ (isI x ≠ 0 ∧ dk y = 0) := Decidable.byContradiction fun h => hv (if_neg h)
      by_cases a : isI x = 0 <;> by_cases b : isI y = 0 <;> by_cases c : dk x = 0 <;> by_cases d : dk y = 0 <;> simp [a, b, c, d] at hv' ⊢
  · unfold gX11_both
    rw [if_neg (by decide), if_neg (by decide), if_pos rfl, z1, z2]
    simp only [Option.bind_some]
    unfold gX11_both_139 gX11_both_158 gX11_both_154 gX11_both_159
    rw [i1, i2]
    simp only [Option.bind_some]
    have k : ∀ s : Int32, gX11_both_218 σ 12 x y nar σ s = if s = 0 then (gX6_quotient x y nar).bind (fun r => some (gv σ r 0)) else some (gv σ FP.dconst0 1) := by
      intro s; unfold gX11_both_218; rfl
    simp only [k]
    unfold wv
    by_cases hv : vd 12 x y = 0
    · have e := (key hv).1
      have e' : gX6_quotient x y nar = some (tv 12 x y nar) := by
        have : (gX6_quotient x y nar).bind (fun r => some r) = some (tv 12 x y nar) := e
        rwa [bsf] at this
      rw [e', if_pos hv]
      have hv' := void1 hv
      by_cases a : isI x = 0 <;> by_cases b : isI y = 0 <;> by_cases c : dk x = 0 <;> by_cases d : dk y = 0 <;> simp [a, b, c, d] at hv' ⊢
    · rw [if_neg hv]
      have hv' : (dk x = 0 ∧ dk y = 0) ∨ (isI x ≠ 0 ∧ isI y ≠ 0) := Decidable.byContradiction fun h => hv (if_neg h)
      by_cases a : isI x = 0 <;> by_cases b : isI y = 0 <;> by_cases c : dk x = 0 <;> by_cases d : dk y = 0 <;> simp [a, b, c, d] at hv' ⊢
  · unfold gX11_both
    rw [if_neg (by decide), if_neg (by decide), if_neg (by decide), if_pos rfl, z2, i1]
    simp only [Option.bind_some]
    unfold gX11_both_179 gX11_both_184
    have k : ∀ s : Int32, gX11_both_218 σ 13 x y nar σ s = if s = 0 then (if isI y = 0 then (if FP.dIsNaN (FP.drem x y) = false then some (gv σ (FP.drem x y) 0) else none) else some (gv σ x 0)) else some (gv σ FP.dconst0 1) := by
      intro s; unfold gX11_both_218
      rw [i2]; rfl
    simp only [k]
    unfold wv
    by_cases hv : vd 13 x y = 0
    · rw [if_pos hv]
      have hv' := void1 hv
      have hn := (key hv).2.1
      have hz : ¬ dk y = 0 := fun h => hv' (.inl h)
      have ha : isI x = 0 := Decidable.byContradiction fun h => hv' (.inr h)
      have ht : tv 13 x y nar = FP.drem x y := rfl
      rw [ht] at hn
      rw [if_pos hn]
      simp only [hz, ha, if_true, if_false]
      rw [ht]
      by_cases b : isI y = 0
      · rw [if_pos b]
      · rw [if_neg b, rem_inf x y ((isI_iff nx).mp ha) b]
    · rw [if_neg hv]
      have hv' : dk y = 0 ∨ isI x ≠ 0 := Decidable.byContradiction fun h => hv (if_neg h)
      by_cases a : isI x = 0 <;> by_cases d : dk y = 0 <;> simp [a, d] at hv' ⊢
  · have e : gX11_both σ 14 x y nar = (gX11_isLower y x).bind (fun r20 => if r20 = 0 then some (gv σ x 0) else some (gv σ y 0)) := rfl
    rw [e, c_lower y x ny nx]
    show _ = some (gv σ (if ok y < ok x then y else x) 0)
    simp only [Option.bind_some]
    split <;> simp_all
  · have e : gX11_both σ 15 x y nar = (gX11_isLower x y).bind (fun r20 => if r20 = 0 then some (gv σ x 0) else some (gv σ y 0)) := rfl
    rw [e, c_lower x y nx ny]
    show _ = some (gv σ (if ok x < ok y then y else x) 0)
    simp only [Option.bind_some]
    split <;> simp_all
  · have e : gX11_both σ 16 x y nar = (gX11_hasMinus x).bind (fun r17 => (gX11_hasMinus y).bind (fun r18 => if r17 = r18 then some (gv σ x 0) else some (gv σ (FP.dneg x) 0))) := rfl
    rw [e, c_minM x nx, c_minM y ny]
    show _ = some (gv σ (if mi x = mi y then x else FP.dneg x) 0)
    simp only [Option.bind_some]
    split <;> rfl
  · unfold gX11_both
    rw [if_neg (by decide), if_neg (by decide), if_neg (by decide), if_neg (by decide), if_pos rfl, z2, i2]
    simp only [Option.bind_some]
    unfold gX11_both_205 gX11_both_210
    have k : ∀ s : Int32, gX11_both_218 σ 26 x y nar σ s = if s = 0 then (gX6_quotient x y nar).bind (fun r13 => (gX11_whole r13 (2 : Int32)).bind (fun r14 => (gX6_product r14 y nar).bind (fun r15 => some (gv σ r15 0)))) else some (gv σ FP.dconst0 1) := by
      intro s; unfold gX11_both_218; rfl
    simp only [k]
    unfold wv
    by_cases hv : vd 26 x y = 0
    · rw [if_pos hv]
      have hv' := void1 hv
      obtain ⟨a1, a2, a3⟩ := qu_ok hx hy (fun h => by
        rcases badQ_void h with ⟨_, h⟩ | ⟨_, h⟩
        · exact hv' (.inl h)
        · exact hv' (.inr h))
      have n1 := nea_ok a2 a3
      obtain ⟨b1, b2, b3⟩ := pr_ok' (x := nea (qu nar x y)) n1.1 hy (nea_nP hx hy hv' _) (fun _ => nea_nP hx hy hv' _)
      have hz : ¬ dk y = 0 := fun h => hv' (.inl h)
      have ha : isI y = 0 := Decidable.byContradiction fun h => hv' (.inr h)
      rw [a1]
      simp only [hz, ha, if_true, if_false, Option.bind_some]
      rw [neaM _ a2]
      simp only [Option.bind_some]
      rw [b1]; rfl
    · rw [if_neg hv]
      have hv' : dk y = 0 ∨ isI y ≠ 0 := Decidable.byContradiction fun h => hv (if_neg h)
      by_cases a : isI y = 0 <;> by_cases d : dk y = 0 <;> simp [a, d] at hv' ⊢
