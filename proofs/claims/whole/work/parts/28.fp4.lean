theorem tt0 : ∀ n : Fin 100, (gX6_twoTo (Int32.ofNat n.val)) = some (UInt64.ofNat ((1023 + n.val) * 2 ^ 52)) := by decide +kernel
