-- the model's way to the digits
theorem dg1 (x0 : UInt64) (x1 x2 x3 : Int32) (c : Nat) (hc2 : c < 2 ^ 53) : ∀ (k f jj : Nat) (v : UInt64) (v7 : Int32), QQ v c jj → (2 ^ 52 ≤ c ∨ jj = 0) → jj ≤ 1022 + k → jj ≤ 2045 → k < f → -9000 ≤ v7.toInt → v7.toInt + k ≤ 9000 →
    ∃ w u j', lq2 (gX11_digits_34 x0 x1 x2 x3) f v v7 = lq2 (gX11_digits_57 x0 x1 x2 x3) 2200 w u ∧ QQ w c j' ∧ (2 ^ 52 ≤ c ∨ j' = 0) ∧ j' ≤ 1022 ∧ (1022 ≤ jj → j' = 1022) ∧ u.toInt + j' = v7.toInt + jj ∧ (jj ≤ 1022 → j' = jj) := by
  intro k
  induction k with
  | zero =>
    intro f jj v v7 hq hd hj hj2 hf g1 g2
    obtain ⟨f, rfl⟩ : ∃ g, f = g + 1 := ⟨f - 1, by omega⟩
    refine ⟨v, v7, jj, ?_, hq, hd, by omega, by omega, by omega, by omega⟩
    show gX11_digits_34 x0 x1 x2 x3 _ v v7 = _
    unfold gX11_digits_34
    rw [cv (fn_nn hq.1) nn_2]
    simp only [cq_lt]
    rw [if_pos]
    rw [qq_lt hq q_2, Nat.one_mul]
    calc c * 2 ^ jj < 2 ^ 53 * 2 ^ jj := Nat.mul_lt_mul_of_pos_right hc2 (Nat.two_pow_pos _)
      _ = 2 ^ (53 + jj) := (Nat.pow_add ..).symm
      _ ≤ 2 ^ 1075 := Nat.pow_le_pow_right (by decide) (by omega)
  | succ k ih =>
    intro f jj v v7 hq hd hj hj2 hf g1 g2
    obtain ⟨f, rfl⟩ : ∃ g, f = g + 1 := ⟨f - 1, by omega⟩
    by_cases hlt : 1023 ≤ jj
    · have hc1 : 2 ^ 52 ≤ c := by omega
      have e : (1 : Int32).toInt = 1 := rfl
      obtain ⟨d1, d2, d3⟩ := ss_div2 (v := v) (s := false) (c := c) (j := jj - 1) (by rw [show jj - 1 + 1 = jj by omega]; exact hq) hc2 (by omega)
      have e9 : (v7 + 1).toInt = v7.toInt + 1 := by rw [i32_add] <;> rw [e] <;> omega
      obtain ⟨w, u, j', a1, a2, a3, a4, a5, a6, a7⟩ := ih f (jj - 1) (FP.ddiv v 4611686018427387904) (v7 + 1) ⟨d1, d2, d3⟩ (.inl hc1) (by omega) (by omega) (by omega) (by omega) (by omega)
      refine ⟨w, u, j', ?_, a2, a3, a4, by omega, by omega, by omega⟩
      show gX11_digits_34 x0 x1 x2 x3 _ v v7 = _
      unfold gX11_digits_34
      rw [cv (fn_nn hq.1) nn_2]
      simp only [cq_lt]
      rw [if_neg (by rw [qq_lp 1023 hq q_2 rfl hc1 hc2]; omega), if_pos (fn_nn d1)]
      exact a1
    · refine ⟨v, v7, jj, ?_, hq, hd, by omega, by omega, by omega, by omega⟩
      show gX11_digits_34 x0 x1 x2 x3 _ v v7 = _
      unfold gX11_digits_34
      rw [cv (fn_nn hq.1) nn_2]
      simp only [cq_lt]
      rw [if_pos]
      rw [qq_lt hq q_2, Nat.one_mul]
      calc c * 2 ^ jj < 2 ^ 53 * 2 ^ jj := Nat.mul_lt_mul_of_pos_right hc2 (Nat.two_pow_pos _)
        _ = 2 ^ (53 + jj) := (Nat.pow_add ..).symm
        _ ≤ 2 ^ 1075 := Nat.pow_le_pow_right (by decide) (by omega)
theorem lt1 {v : UInt64} {c j : Nat} (hq : QQ v c j) (hc2 : c < 2 ^ 53) (hj : j ≤ 1022) : dk v < dk FP.dconst1 ↔ (c < 2 ^ 52 ∨ j < 1022) := by
  by_cases h : 2 ^ 52 ≤ c
  · rw [qq_lp 1022 hq q_1 rfl h hc2]; omega
  · rw [qq_lt hq q_1, Nat.one_mul]
    refine ⟨fun _ => .inl (by omega), fun _ => ?_⟩
    calc c * 2 ^ j < 2 ^ 52 * 2 ^ j := Nat.mul_lt_mul_of_pos_right (by omega) (Nat.two_pow_pos _)
      _ = 2 ^ (52 + j) := (Nat.pow_add ..).symm
      _ ≤ 2 ^ 1074 := Nat.pow_le_pow_right (by decide) (by omega)
theorem dg2 (x0 : UInt64) (x1 x2 x3 : Int32) (c : Nat) (hc2 : c < 2 ^ 53) (hx2 : -2000 ≤ x2.toInt) : ∀ (k f jj : Nat) (v : UInt64) (v7 : Int32), QQ v c jj → jj ≤ 1022 → v7.toInt = x2.toInt + k → k < f → v7.toInt ≤ 9000 →
    ∃ w u j', lq2 (gX11_digits_57 x0 x1 x2 x3) f v v7 = gX11_digits_84 x0 x1 x2 x3 w u ∧ QQ w c j' ∧ j' ≤ 1022 ∧ u.toInt + j' = v7.toInt + jj ∧ x2.toInt ≤ u.toInt ∧ ((2 ^ 52 ≤ c ∧ j' = 1022) ∨ ((c < 2 ^ 52 ∨ j' < 1022) ∧ u.toInt = x2.toInt)) ∨ (1022 < jj + (v7.toInt - x2.toInt) ∧ c < 2 ^ 52) := by
  intro k
  induction k with
  | zero =>
    intro f jj v v7 hq hj hk hf g
    obtain ⟨f, rfl⟩ : ∃ g, f = g + 1 := ⟨f - 1, by omega⟩
    refine ⟨v, v7, jj, .inl ⟨?_, hq, hj, rfl, by omega, by omega⟩⟩
    show gX11_digits_57 x0 x1 x2 x3 _ v v7 = _
    unfold gX11_digits_57
    split
    · rfl
    · rw [if_pos (i32_le.mpr (by omega))]
  | succ k ih =>
    intro f jj v v7 hq hj hk hf g
    obtain ⟨f, rfl⟩ : ∃ g, f = g + 1 := ⟨f - 1, by omega⟩
    have hl := lt1 hq hc2 hj
    by_cases hlt : c < 2 ^ 52 ∨ jj < 1022
    · by_cases hbad : jj = 1022
      · exact ⟨v, v7, jj, .inr ⟨by omega, by omega⟩⟩
      have e : (-1 : Int32).toInt = -1 := rfl
      have hn := qq_mul hq q_2 hc2 (j' := jj + 1) (by omega) ⟨Nat.mul_one c, by omega⟩
      have e9 : (v7 + -1).toInt = v7.toInt - 1 := by rw [i32_add] <;> rw [e] <;> omega
      obtain ⟨w, u, j', a⟩ := ih f (jj + 1) (FP.dmul v 4611686018427387904) (v7 + -1) hn (by omega) (by omega) (by omega) (by omega)
      refine ⟨w, u, j', ?_⟩
      rcases a with ⟨a1, a2, a3, a4, a5, a6⟩ | a
      · refine .inl ⟨?_, a2, a3, by omega, by omega, a6⟩
        show gX11_digits_57 x0 x1 x2 x3 _ v v7 = _
        unfold gX11_digits_57
        rw [cv (fn_nn hq.1) nn1]
        simp only [cq_ge]
        rw [if_neg (by omega), if_neg (by rw [i32_le]; omega), if_pos (fn_nn hn.1)]
        exact a1
      · exact .inr ⟨by omega, a.2⟩
    · refine ⟨v, v7, jj, .inl ⟨?_, hq, hj, rfl, by omega, .inl ⟨by omega, by omega⟩⟩⟩
      show gX11_digits_57 x0 x1 x2 x3 _ v v7 = _
      unfold gX11_digits_57
      rw [cv (fn_nn hq.1) nn1]
      simp only [cq_ge]
      rw [if_pos (by omega)]
