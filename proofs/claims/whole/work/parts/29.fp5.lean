set_option maxRecDepth 10000 in
theorem tt_p : ∀ n : Fin 972, (gX6_twoTo (Int32.ofNat n.val)) = some (UInt64.ofNat ((1023 + n.val) * 2 ^ 52)) := by decide +kernel
set_option maxRecDepth 10000 in
theorem tt_m : ∀ n : Fin 1023, (gX6_twoTo (-Int32.ofNat n.val)) = some (UInt64.ofNat ((1023 - n.val) * 2 ^ 52)) := by decide +kernel
theorem tt_s : ∀ n : Fin 52, (gX6_twoTo (Int32.ofInt ((n.val : Int) - 1074))) = some (UInt64.ofNat (2 ^ n.val)) := by decide +kernel
theorem tt (e : Int) (h1 : -1074 ≤ e) (h2 : e ≤ 971) : ∃ P, gX6_twoTo (Int32.ofInt e) = some P ∧ QQ P 1 (e + 1074).toNat := by
  have qn : ∀ E : Nat, 1 ≤ E → E ≤ 2046 → QQ (UInt64.ofNat (E * 2 ^ 52)) 1 (E - 1 + 52) := by
    intro E a1 a2
    have ht : (UInt64.ofNat (E * 2 ^ 52)).toNat = E * 2 ^ 52 := by
      rw [UInt64.toNat_ofNat']; exact Nat.mod_eq_of_lt (by omega)
    have := qq_of (v := UInt64.ofNat (E * 2 ^ 52)) (by rw [ht]; omega)
    rw [ht] at this
    unfold cOf jOf at this
    rw [Nat.mul_div_cancel _ (by decide), Nat.mul_mod_left, if_neg (by omega)] at this
    refine ⟨this.1, this.2.1, ?_⟩
    rw [this.2.2, Nat.pow_add, Nat.mul_comm, Nat.one_mul]
  by_cases h : 0 ≤ e
  · obtain ⟨n, rfl⟩ : ∃ n : Nat, e = n := ⟨e.toNat, by omega⟩
    refine ⟨_, tt_p ⟨n, by omega⟩, ?_⟩
    have := qn (1023 + n) (by omega) (by omega)
    rwa [show 1023 + n - 1 + 52 = ((n : Int) + 1074).toNat by omega] at this
  · by_cases h' : -1022 ≤ e
    · obtain ⟨n, rfl⟩ : ∃ n : Nat, e = -(n : Int) := ⟨(-e).toNat, by omega⟩
      refine ⟨UInt64.ofNat ((1023 - n) * 2 ^ 52), ?_, ?_⟩
      · rw [← tt_m ⟨n, by omega⟩]
        congr 1
        rw [Int32.ofInt_neg]; rfl
      · have := qn (1023 - n) (by omega) (by omega)
        rwa [show 1023 - n - 1 + 52 = (-(n : Int) + 1074).toNat by omega] at this
    · obtain ⟨n, rfl⟩ : ∃ n : Nat, e = (n : Int) - 1074 := ⟨(e + 1074).toNat, by omega⟩
      refine ⟨_, tt_s ⟨n, by omega⟩, ?_⟩
      have hn : 2 ^ n < 2 ^ 52 := Nat.pow_lt_pow_right (by decide) (by omega)
      have ht : (UInt64.ofNat (2 ^ n)).toNat = 2 ^ n := by
        rw [UInt64.toNat_ofNat']; exact Nat.mod_eq_of_lt (by omega)
      have := qq_of (v := UInt64.ofNat (2 ^ n)) (by rw [ht]; omega)
      rw [ht] at this
      unfold cOf jOf at this
      rw [if_pos (by omega), show 2 ^ n / 2 ^ 52 - 1 = 0 by omega] at this
      refine ⟨this.1, this.2.1, ?_⟩
      rw [this.2.2, show ((n : Int) - 1074 + 1074).toNat = n by omega, Nat.pow_zero, Nat.mul_one, Nat.one_mul]
