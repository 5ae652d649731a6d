theorem un4_1 {α : Type} {f : Nat → α} {a1 a2 a3 a4 : Nat} {x1 x2 x3 x4 y : α} (h2 : a1 ≠ a2) (h3 : a1 ≠ a3) (h4 : a1 ≠ a4) : va_up (va_up (va_up (va_up (va_up f a1 x1) a2 x2) a3 x3) a4 x4) a1 y = va_up (va_up (va_up (va_up f a1 y) a2 x2) a3 x3) a4 x4 := by rw [upsw _ (Ne.symm h4), un3_1 h2 h3]
theorem un4_2 {α : Type} {f : Nat → α} {a1 a2 a3 a4 : Nat} {x1 x2 x3 x4 y : α} (h3 : a2 ≠ a3) (h4 : a2 ≠ a4) : va_up (va_up (va_up (va_up (va_up f a1 x1) a2 x2) a3 x3) a4 x4) a2 y = va_up (va_up (va_up (va_up f a1 x1) a2 y) a3 x3) a4 x4 := by rw [upsw _ (Ne.symm h4), un3_2 h3]
theorem un4_3 {α : Type} {f : Nat → α} {a1 a2 a3 a4 : Nat} {x1 x2 x3 x4 y : α} (h4 : a3 ≠ a4) : va_up (va_up (va_up (va_up (va_up f a1 x1) a2 x2) a3 x3) a4 x4) a3 y = va_up (va_up (va_up (va_up f a1 x1) a2 x2) a3 y) a4 x4 := by rw [upsw _ (Ne.symm h4), un3_3]
theorem un4_4 {α : Type} {f : Nat → α} {a1 a2 a3 a4 : Nat} {x1 x2 x3 x4 y : α} : va_up (va_up (va_up (va_up (va_up f a1 x1) a2 x2) a3 x3) a4 x4) a4 y = va_up (va_up (va_up (va_up f a1 x1) a2 x2) a3 x3) a4 y := up2 _ _ _ _
theorem un5_1 {α : Type} {f : Nat → α} {a1 a2 a3 a4 a5 : Nat} {x1 x2 x3 x4 x5 y : α} (h2 : a1 ≠ a2) (h3 : a1 ≠ a3) (h4 : a1 ≠ a4) (h5 : a1 ≠ a5) : va_up (va_up (va_up (va_up (va_up (va_up f a1 x1) a2 x2) a3 x3) a4 x4) a5 x5) a1 y = va_up (va_up (va_up (va_up (va_up f a1 y) a2 x2) a3 x3) a4 x4) a5 x5 := by rw [upsw _ (Ne.symm h5), un4_1 h2 h3 h4]
theorem un5_2 {α : Type} {f : Nat → α} {a1 a2 a3 a4 a5 : Nat} {x1 x2 x3 x4 x5 y : α} (h3 : a2 ≠ a3) (h4 : a2 ≠ a4) (h5 : a2 ≠ a5) : va_up (va_up (va_up (va_up (va_up (va_up f a1 x1) a2 x2) a3 x3) a4 x4) a5 x5) a2 y = va_up (va_up (va_up (va_up (va_up f a1 x1) a2 y) a3 x3) a4 x4) a5 x5 := by rw [upsw _ (Ne.symm h5), un4_2 h3 h4]
theorem un5_3 {α : Type} {f : Nat → α} {a1 a2 a3 a4 a5 : Nat} {x1 x2 x3 x4 x5 y : α} (h4 : a3 ≠ a4) (h5 : a3 ≠ a5) : va_up (va_up (va_up (va_up (va_up (va_up f a1 x1) a2 x2) a3 x3) a4 x4) a5 x5) a3 y = va_up (va_up (va_up (va_up (va_up f a1 x1) a2 x2) a3 y) a4 x4) a5 x5 := by rw [upsw _ (Ne.symm h5), un4_3 h4]
theorem un5_4 {α : Type} {f : Nat → α} {a1 a2 a3 a4 a5 : Nat} {x1 x2 x3 x4 x5 y : α} (h5 : a4 ≠ a5) : va_up (va_up (va_up (va_up (va_up (va_up f a1 x1) a2 x2) a3 x3) a4 x4) a5 x5) a4 y = va_up (va_up (va_up (va_up (va_up f a1 x1) a2 x2) a3 x3) a4 y) a5 x5 := by rw [upsw _ (Ne.symm h5), un4_4]
theorem un5_5 {α : Type} {f : Nat → α} {a1 a2 a3 a4 a5 : Nat} {x1 x2 x3 x4 x5 y : α} : va_up (va_up (va_up (va_up (va_up (va_up f a1 x1) a2 x2) a3 x3) a4 x4) a5 x5) a5 y = va_up (va_up (va_up (va_up (va_up f a1 x1) a2 x2) a3 x3) a4 x4) a5 y := up2 _ _ _ _
theorem un6_1 {α : Type} {f : Nat → α} {a1 a2 a3 a4 a5 a6 : Nat} {x1 x2 x3 x4 x5 x6 y : α} (h2 : a1 ≠ a2) (h3 : a1 ≠ a3) (h4 : a1 ≠ a4) (h5 : a1 ≠ a5) (h6 : a1 ≠ a6) : va_up (va_up (va_up (va_up (va_up (va_up (va_up f a1 x1) a2 x2) a3 x3) a4 x4) a5 x5) a6 x6) a1 y = va_up (va_up (va_up (va_up (va_up (va_up f a1 y) a2 x2) a3 x3) a4 x4) a5 x5) a6 x6 := by rw [upsw _ (Ne.symm h6), un5_1 h2 h3 h4 h5]
theorem un6_2 {α : Type} {f : Nat → α} {a1 a2 a3 a4 a5 a6 : Nat} {x1 x2 x3 x4 x5 x6 y : α} (h3 : a2 ≠ a3) (h4 : a2 ≠ a4) (h5 : a2 ≠ a5) (h6 : a2 ≠ a6) : va_up (va_up (va_up (va_up (va_up (va_up (va_up f a1 x1) a2 x2) a3 x3) a4 x4) a5 x5) a6 x6) a2 y = va_up (va_up (va_up (va_up (va_up (va_up f a1 x1) a2 y) a3 x3) a4 x4) a5 x5) a6 x6 := by rw [upsw _ (Ne.symm h6), un5_2 h3 h4 h5]
theorem un6_3 {α : Type} {f : Nat → α} {a1 a2 a3 a4 a5 a6 : Nat} {x1 x2 x3 x4 x5 x6 y : α} (h4 : a3 ≠ a4) (h5 : a3 ≠ a5) (h6 : a3 ≠ a6) : va_up (va_up (va_up (va_up (va_up (va_up (va_up f a1 x1) a2 x2) a3 x3) a4 x4) a5 x5) a6 x6) a3 y = va_up (va_up (va_up (va_up (va_up (va_up f a1 x1) a2 x2) a3 y) a4 x4) a5 x5) a6 x6 := by rw [upsw _ (Ne.symm h6), un5_3 h4 h5]
theorem un6_4 {α : Type} {f : Nat → α} {a1 a2 a3 a4 a5 a6 : Nat} {x1 x2 x3 x4 x5 x6 y : α} (h5 : a4 ≠ a5) (h6 : a4 ≠ a6) : va_up (va_up (va_up (va_up (va_up (va_up (va_up f a1 x1) a2 x2) a3 x3) a4 x4) a5 x5) a6 x6) a4 y = va_up (va_up (va_up (va_up (va_up (va_up f a1 x1) a2 x2) a3 x3) a4 y) a5 x5) a6 x6 := by rw [upsw _ (Ne.symm h6), un5_4 h5]
theorem un6_5 {α : Type} {f : Nat → α} {a1 a2 a3 a4 a5 a6 : Nat} {x1 x2 x3 x4 x5 x6 y : α} (h6 : a5 ≠ a6) : va_up (va_up (va_up (va_up (va_up (va_up (va_up f a1 x1) a2 x2) a3 x3) a4 x4) a5 x5) a6 x6) a5 y = va_up (va_up (va_up (va_up (va_up (va_up f a1 x1) a2 x2) a3 x3) a4 x4) a5 y) a6 x6 := by rw [upsw _ (Ne.symm h6), un5_5]
theorem un6_6 {α : Type} {f : Nat → α} {a1 a2 a3 a4 a5 a6 : Nat} {x1 x2 x3 x4 x5 x6 y : α} : va_up (va_up (va_up (va_up (va_up (va_up (va_up f a1 x1) a2 x2) a3 x3) a4 x4) a5 x5) a6 x6) a6 y = va_up (va_up (va_up (va_up (va_up (va_up f a1 x1) a2 x2) a3 x3) a4 x4) a5 x5) a6 y := up2 _ _ _ _
theorem un7_1 {α : Type} {f : Nat → α} {a1 a2 a3 a4 a5 a6 a7 : Nat} {x1 x2 x3 x4 x5 x6 x7 y : α} (h2 : a1 ≠ a2) (h3 : a1 ≠ a3) (h4 : a1 ≠ a4) (h5 : a1 ≠ a5) (h6 : a1 ≠ a6) (h7 : a1 ≠ a7) : va_up (va_up (va_up (va_up (va_up (va_up (va_up (va_up f a1 x1) a2 x2) a3 x3) a4 x4) a5 x5) a6 x6) a7 x7) a1 y = va_up (va_up (va_up (va_up (va_up (va_up (va_up f a1 y) a2 x2) a3 x3) a4 x4) a5 x5) a6 x6) a7 x7 := by rw [upsw _ (Ne.symm h7), un6_1 h2 h3 h4 h5 h6]
theorem un7_2 {α : Type} {f : Nat → α} {a1 a2 a3 a4 a5 a6 a7 : Nat} {x1 x2 x3 x4 x5 x6 x7 y : α} (h3 : a2 ≠ a3) (h4 : a2 ≠ a4) (h5 : a2 ≠ a5) (h6 : a2 ≠ a6) (h7 : a2 ≠ a7) : va_up (va_up (va_up (va_up (va_up (va_up (va_up (va_up f a1 x1) a2 x2) a3 x3) a4 x4) a5 x5) a6 x6) a7 x7) a2 y = va_up (va_up (va_up (va_up (va_up (va_up (va_up f a1 x1) a2 y) a3 x3) a4 x4) a5 x5) a6 x6) a7 x7 := by rw [upsw _ (Ne.symm h7), un6_2 h3 h4 h5 h6]
theorem un7_3 {α : Type} {f : Nat → α} {a1 a2 a3 a4 a5 a6 a7 : Nat} {x1 x2 x3 x4 x5 x6 x7 y : α} (h4 : a3 ≠ a4) (h5 : a3 ≠ a5) (h6 : a3 ≠ a6) (h7 : a3 ≠ a7) : va_up (va_up (va_up (va_up (va_up (va_up (va_up (va_up f a1 x1) a2 x2) a3 x3) a4 x4) a5 x5) a6 x6) a7 x7) a3 y = va_up (va_up (va_up (va_up (va_up (va_up (va_up f a1 x1) a2 x2) a3 y) a4 x4) a5 x5) a6 x6) a7 x7 := by rw [upsw _ (Ne.symm h7), un6_3 h4 h5 h6]
theorem un7_4 {α : Type} {f : Nat → α} {a1 a2 a3 a4 a5 a6 a7 : Nat} {x1 x2 x3 x4 x5 x6 x7 y : α} (h5 : a4 ≠ a5) (h6 : a4 ≠ a6) (h7 : a4 ≠ a7) : va_up (va_up (va_up (va_up (va_up (va_up (va_up (va_up f a1 x1) a2 x2) a3 x3) a4 x4) a5 x5) a6 x6) a7 x7) a4 y = va_up (va_up (va_up (va_up (va_up (va_up (va_up f a1 x1) a2 x2) a3 x3) a4 y) a5 x5) a6 x6) a7 x7 := by rw [upsw _ (Ne.symm h7), un6_4 h5 h6]
theorem un7_5 {α : Type} {f : Nat → α} {a1 a2 a3 a4 a5 a6 a7 : Nat} {x1 x2 x3 x4 x5 x6 x7 y : α} (h6 : a5 ≠ a6) (h7 : a5 ≠ a7) : va_up (va_up (va_up (va_up (va_up (va_up (va_up (va_up f a1 x1) a2 x2) a3 x3) a4 x4) a5 x5) a6 x6) a7 x7) a5 y = va_up (va_up (va_up (va_up (va_up (va_up (va_up f a1 x1) a2 x2) a3 x3) a4 x4) a5 y) a6 x6) a7 x7 := by rw [upsw _ (Ne.symm h7), un6_5 h6]
theorem un7_6 {α : Type} {f : Nat → α} {a1 a2 a3 a4 a5 a6 a7 : Nat} {x1 x2 x3 x4 x5 x6 x7 y : α} (h7 : a6 ≠ a7) : va_up (va_up (va_up (va_up (va_up (va_up (va_up (va_up f a1 x1) a2 x2) a3 x3) a4 x4) a5 x5) a6 x6) a7 x7) a6 y = va_up (va_up (va_up (va_up (va_up (va_up (va_up f a1 x1) a2 x2) a3 x3) a4 x4) a5 x5) a6 y) a7 x7 := by rw [upsw _ (Ne.symm h7), un6_6]
theorem un7_7 {α : Type} {f : Nat → α} {a1 a2 a3 a4 a5 a6 a7 : Nat} {x1 x2 x3 x4 x5 x6 x7 y : α} : va_up (va_up (va_up (va_up (va_up (va_up (va_up (va_up f a1 x1) a2 x2) a3 x3) a4 x4) a5 x5) a6 x6) a7 x7) a7 y = va_up (va_up (va_up (va_up (va_up (va_up (va_up f a1 x1) a2 x2) a3 x3) a4 x4) a5 x5) a6 x6) a7 y := up2 _ _ _ _
theorem un8_1 {α : Type} {f : Nat → α} {a1 a2 a3 a4 a5 a6 a7 a8 : Nat} {x1 x2 x3 x4 x5 x6 x7 x8 y : α} (h2 : a1 ≠ a2) (h3 : a1 ≠ a3) (h4 : a1 ≠ a4) (h5 : a1 ≠ a5) (h6 : a1 ≠ a6) (h7 : a1 ≠ a7) (h8 : a1 ≠ a8) : va_up (va_up (va_up (va_up (va_up (va_up (va_up (va_up (va_up f a1 x1) a2 x2) a3 x3) a4 x4) a5 x5) a6 x6) a7 x7) a8 x8) a1 y = va_up (va_up (va_up (va_up (va_up (va_up (va_up (va_up f a1 y) a2 x2) a3 x3) a4 x4) a5 x5) a6 x6) a7 x7) a8 x8 := by rw [upsw _ (Ne.symm h8), un7_1 h2 h3 h4 h5 h6 h7]
theorem un8_2 {α : Type} {f : Nat → α} {a1 a2 a3 a4 a5 a6 a7 a8 : Nat} {x1 x2 x3 x4 x5 x6 x7 x8 y : α} (h3 : a2 ≠ a3) (h4 : a2 ≠ a4) (h5 : a2 ≠ a5) (h6 : a2 ≠ a6) (h7 : a2 ≠ a7) (h8 : a2 ≠ a8) : va_up (va_up (va_up (va_up (va_up (va_up (va_up (va_up (va_up f a1 x1) a2 x2) a3 x3) a4 x4) a5 x5) a6 x6) a7 x7) a8 x8) a2 y = va_up (va_up (va_up (va_up (va_up (va_up (va_up (va_up f a1 x1) a2 y) a3 x3) a4 x4) a5 x5) a6 x6) a7 x7) a8 x8 := by rw [upsw _ (Ne.symm h8), un7_2 h3 h4 h5 h6 h7]
theorem un8_3 {α : Type} {f : Nat → α} {a1 a2 a3 a4 a5 a6 a7 a8 : Nat} {x1 x2 x3 x4 x5 x6 x7 x8 y : α} (h4 : a3 ≠ a4) (h5 : a3 ≠ a5) (h6 : a3 ≠ a6) (h7 : a3 ≠ a7) (h8 : a3 ≠ a8) : va_up (va_up (va_up (va_up (va_up (va_up (va_up (va_up (va_up f a1 x1) a2 x2) a3 x3) a4 x4) a5 x5) a6 x6) a7 x7) a8 x8) a3 y = va_up (va_up (va_up (va_up (va_up (va_up (va_up (va_up f a1 x1) a2 x2) a3 y) a4 x4) a5 x5) a6 x6) a7 x7) a8 x8 := by rw [upsw _ (Ne.symm h8), un7_3 h4 h5 h6 h7]
theorem un8_4 {α : Type} {f : Nat → α} {a1 a2 a3 a4 a5 a6 a7 a8 : Nat} {x1 x2 x3 x4 x5 x6 x7 x8 y : α} (h5 : a4 ≠ a5) (h6 : a4 ≠ a6) (h7 : a4 ≠ a7) (h8 : a4 ≠ a8) : va_up (va_up (va_up (va_up (va_up (va_up (va_up (va_up (va_up f a1 x1) a2 x2) a3 x3) a4 x4) a5 x5) a6 x6) a7 x7) a8 x8) a4 y = va_up (va_up (va_up (va_up (va_up (va_up (va_up (va_up f a1 x1) a2 x2) a3 x3) a4 y) a5 x5) a6 x6) a7 x7) a8 x8 := by rw [upsw _ (Ne.symm h8), un7_4 h5 h6 h7]
theorem un8_5 {α : Type} {f : Nat → α} {a1 a2 a3 a4 a5 a6 a7 a8 : Nat} {x1 x2 x3 x4 x5 x6 x7 x8 y : α} (h6 : a5 ≠ a6) (h7 : a5 ≠ a7) (h8 : a5 ≠ a8) : va_up (va_up (va_up (va_up (va_up (va_up (va_up (va_up (va_up f a1 x1) a2 x2) a3 x3) a4 x4) a5 x5) a6 x6) a7 x7) a8 x8) a5 y = va_up (va_up (va_up (va_up (va_up (va_up (va_up (va_up f a1 x1) a2 x2) a3 x3) a4 x4) a5 y) a6 x6) a7 x7) a8 x8 := by rw [upsw _ (Ne.symm h8), un7_5 h6 h7]
theorem un8_6 {α : Type} {f : Nat → α} {a1 a2 a3 a4 a5 a6 a7 a8 : Nat} {x1 x2 x3 x4 x5 x6 x7 x8 y : α} (h7 : a6 ≠ a7) (h8 : a6 ≠ a8) : va_up (va_up (va_up (va_up (va_up (va_up (va_up (va_up (va_up f a1 x1) a2 x2) a3 x3) a4 x4) a5 x5) a6 x6) a7 x7) a8 x8) a6 y = va_up (va_up (va_up (va_up (va_up (va_up (va_up (va_up f a1 x1) a2 x2) a3 x3) a4 x4) a5 x5) a6 y) a7 x7) a8 x8 := by rw [upsw _ (Ne.symm h8), un7_6 h7]
theorem un8_7 {α : Type} {f : Nat → α} {a1 a2 a3 a4 a5 a6 a7 a8 : Nat} {x1 x2 x3 x4 x5 x6 x7 x8 y : α} (h8 : a7 ≠ a8) : va_up (va_up (va_up (va_up (va_up (va_up (va_up (va_up (va_up f a1 x1) a2 x2) a3 x3) a4 x4) a5 x5) a6 x6) a7 x7) a8 x8) a7 y = va_up (va_up (va_up (va_up (va_up (va_up (va_up (va_up f a1 x1) a2 x2) a3 x3) a4 x4) a5 x5) a6 x6) a7 y) a8 x8 := by rw [upsw _ (Ne.symm h8), un7_7]
theorem un8_8 {α : Type} {f : Nat → α} {a1 a2 a3 a4 a5 a6 a7 a8 : Nat} {x1 x2 x3 x4 x5 x6 x7 x8 y : α} : va_up (va_up (va_up (va_up (va_up (va_up (va_up (va_up (va_up f a1 x1) a2 x2) a3 x3) a4 x4) a5 x5) a6 x6) a7 x7) a8 x8) a8 y = va_up (va_up (va_up (va_up (va_up (va_up (va_up (va_up f a1 x1) a2 x2) a3 x3) a4 x4) a5 x5) a6 x6) a7 x7) a8 y := up2 _ _ _ _
theorem up_self {α : Type} {f : Nat → α} {a : Nat} {x : α} (h : f a = x) : va_up f a x = f := by
  funext k
  by_cases e : k = a
  · subst e; rw [va_up_self, h]
  · rw [va_up_ne _ _ e]
theorem j_lt {G : GG} {p : Program} {l : Launch} {e : Env} {R : Room} {s : State} {m : MethodId} {args : Array Value} {below : List Frame} {meth : Method} {c : Code} {nL z : Nat} {Q : State → Prop} {ct : Nat → va_E} {N cells slots pc : Nat} {lv : List (Nat × Value)} {st : List Value} {ct' : Nat → va_E} (h : ∀ k, k < N → ct k = ct' k) (k : J G p l e R s m args below meth c z nL Q ct' N cells slots pc lv st) : J G p l e R s m args below meth c z nL Q ct N cells slots pc lv st := fun H locs ls hP hS hl => k H locs ls ⟨hP.1, fun j hj => by rw [← h j hj]; exact hP.2 j hj⟩ hS hl
theorem cl_self {G : GG} {z k : Nat} {ct : Nat → va_E} {nar ff fa fb fc : Int32} {F : Nat → UInt64} {H : Nat → Int32} (h1 : ct k = coO z k nar ff fa fb fc) (h2 : ct (k + 2) = cD G 16 F) (h3 : ct (k + 3) = cZ G 16 H) : va_up (va_up (va_up ct k (coO z k nar ff fa fb fc)) (k + 2) (cD G 16 F)) (k + 3) (cZ G 16 H) = ct := by
  rw [up_self h1, up_self h2, up_self h3]
def gX2_init3 (x1 : Int32) : Option Unit := some ()
theorem hd_X2_init : yX2_init.cls ≠ "java/lang/invoke/MethodHandle" ∧ yX2_init.cls ≠ "java/lang/invoke/VarHandle" ∧ (parseMethodDescriptor yX2_init.desc).map (fun d => d.parameters.length) = some 2 := by decide +kernel
set_option maxHeartbeats 4000000 in
set_option maxRecDepth 100000 in
theorem tX2_init3 {G : GG} {l : Launch} {z : Nat} {ct : Nat → va_E} {t N : Nat} {w : Value} (htN : t < N) (hw : isR w) (x1 : Int32) {r : Unit} (hg : gX2_init3 x1 = some r) : Ct G l yX2_init cX2_init 3 none ({ frames := 1, cells := 0, slots := 0, locals := 20 } : Room) [.ref (z + t), w, .int x1] z (va_up ct t (.inr (3, [.null, .int (0 : Int32), .null, .int (0 : Int32), .double (0 : UInt64), .int (0 : Int32)]))) N none (va_up ct t (.inr (3, [w, .int x1, .null, .int (0 : Int32), .double (0 : UInt64), .int (0 : Int32)]))) N := by
  refine Ct.of (lv := [(0, .ref (z + t)), (1, w), (2, .int x1)]) (by decide +kernel) (by rcases hw with rfl | ⟨a9, rfl⟩ <;> exact Nat.le_of_ble_eq_true rfl) (by rcases hw with rfl | ⟨a9, rfl⟩ <;> rfl) (fun p e s m args below meth c C => ?_)
  rw [gX2_init3] at hg
  refine j_aload_n C dX2_init_0 0 rfl rfl ?_
  refine j_objInit C q1_185 q1_21 q1_22 dX2_init_1 (Nat.le_of_ble_eq_true rfl) (Nat.le_of_ble_eq_true rfl) ?_
  refine j_aload_n C dX2_init_4 0 rfl rfl ?_
  refine j_aload_nV C hw dX2_init_5 1 rfl rfl ?_
  refine j_putF (fs := [.null, .int (0 : Int32), .null, .int (0 : Int32), .double (0 : UInt64), .int (0 : Int32)]) C tyX7 tyX7_ok nmX7 (by omega) (va_up_self _ _ _) rfl inX7 0 (by decide) q1_198 rfl rfl rfl (tyX7_ok 0 (by decide)) (isR_nar hw _) (isR_fit hw _) (Nat.le_of_ble_eq_true rfl) dX2_init_6 (j_ct un1_1 ?_)
  refine j_aload_n C dX2_init_9 0 rfl rfl ?_
  refine j_iload_n C dX2_init_10 2 rfl rfl ?_
  refine j_putF (fs := [w, .int (0 : Int32), .null, .int (0 : Int32), .double (0 : UInt64), .int (0 : Int32)]) C tyX7 tyX7_ok nmX7 (by omega) (va_up_self _ _ _) rfl inX7 1 (by decide) q1_200 rfl rfl rfl (tyX7_ok 1 (by decide)) rfl rfl (Nat.le_of_ble_eq_true rfl) dX2_init_11 (j_ct un1_1 ?_)
  refine j_wide (k := 0) (n := 0) (Nat.le_of_ble_eq_true rfl) (Nat.le_of_ble_eq_true rfl) ?_
  exact j_vret C dX2_init_14 rfl (by first | rfl | (rw [← Option.some.inj hg] <;> rfl)) rfl

def gX2_init2 (x1 : Int32) : Option Unit := some ()
set_option maxHeartbeats 4000000 in
set_option maxRecDepth 100000 in
theorem tX2_init2 {G : GG} {l : Launch} {z : Nat} {ct : Nat → va_E} {t N : Nat} {w : Value} (htN : t < N) (hw : isR w) (x1 : Int32) {r : Unit} (hg : gX2_init2 x1 = some r) : Ct G l yX2_init cX2_init 3 none ({ frames := 1, cells := 0, slots := 0, locals := 20 } : Room) [.ref (z + t), w, .int x1] z (va_up ct t (.inr (2, [.null, .int (0 : Int32), .null, .null]))) N none (va_up ct t (.inr (2, [w, .int x1, .null, .null]))) N := by
  refine Ct.of (lv := [(0, .ref (z + t)), (1, w), (2, .int x1)]) (by decide +kernel) (by rcases hw with rfl | ⟨a9, rfl⟩ <;> exact Nat.le_of_ble_eq_true rfl) (by rcases hw with rfl | ⟨a9, rfl⟩ <;> rfl) (fun p e s m args below meth c C => ?_)
  rw [gX2_init2] at hg
  refine j_aload_n C dX2_init_0 0 rfl rfl ?_
  refine j_objInit C q1_185 q1_21 q1_22 dX2_init_1 (Nat.le_of_ble_eq_true rfl) (Nat.le_of_ble_eq_true rfl) ?_
  refine j_aload_n C dX2_init_4 0 rfl rfl ?_
  refine j_aload_nV C hw dX2_init_5 1 rfl rfl ?_
  refine j_putF (fs := [.null, .int (0 : Int32), .null, .null]) C tyX4 tyX4_ok nmX4 (by omega) (va_up_self _ _ _) rfl inX4 0 (by decide) q1_198 rfl rfl rfl (tyX4_ok 0 (by decide)) (isR_nar hw _) (isR_fit hw _) (Nat.le_of_ble_eq_true rfl) dX2_init_6 (j_ct un1_1 ?_)
  refine j_aload_n C dX2_init_9 0 rfl rfl ?_
  refine j_iload_n C dX2_init_10 2 rfl rfl ?_
  refine j_putF (fs := [w, .int (0 : Int32), .null, .null]) C tyX4 tyX4_ok nmX4 (by omega) (va_up_self _ _ _) rfl inX4 1 (by decide) q1_200 rfl rfl rfl (tyX4_ok 1 (by decide)) rfl rfl (Nat.le_of_ble_eq_true rfl) dX2_init_11 (j_ct un1_1 ?_)
  refine j_wide (k := 0) (n := 0) (Nat.le_of_ble_eq_true rfl) (Nat.le_of_ble_eq_true rfl) ?_
  exact j_vret C dX2_init_14 rfl (by first | rfl | (rw [← Option.some.inj hg] <;> rfl)) rfl

def gX7_init (n : Nat) (f : Nat → UInt64) (h : Nat → Int32) (x1 : Int32) (x3 : Int32) : Option (UInt64 × Int32) := (gX8_at n f h x3).bind (fun r2 => (gX8_blankAt n f h x3).bind (fun r3 => if vp_nar .boolean r3 = r3 then (some (r2, r3)) else none))
theorem hd_X7_init : yX7_init.cls ≠ "java/lang/invoke/MethodHandle" ∧ yX7_init.cls ≠ "java/lang/invoke/VarHandle" ∧ (parseMethodDescriptor yX7_init.desc).map (fun d => d.parameters.length) = some 4 := by decide +kernel
set_option maxHeartbeats 4000000 in
set_option maxRecDepth 100000 in
theorem tX7_init {G : GG} {l : Launch} {z : Nat} {ct : Nat → va_E} {t N q n : Nat} {f : Nat → UInt64} {h : Nat → Int32} {w : Value} (htN : t < N) (hw : isR w) (hq : RdAt G z ct N q n f h) (hqt : q + 2 < t) (x1 : Int32) (x3 : Int32) {r : UInt64 × Int32} (hg : gX7_init n f h x1 x3 = some r) : Ct G l yX7_init cX7_init 5 none ({ frames := 2, cells := 0, slots := 0, locals := 42 } : Room) [.ref (z + t), w, .int x1, .ref (z + q), .int x3] z (va_up ct t (.inr (3, [.null, .int (0 : Int32), .null, .int (0 : Int32), .double (0 : UInt64), .int (0 : Int32)]))) N none (va_up ct t (.inr (3, [w, .int x1, .ref (z + q), .int x3, .double r.1, .int r.2]))) N := by
  have hqN := hq.1
  refine Ct.of (lv := [(0, .ref (z + t)), (1, w), (2, .int x1), (3, .ref (z + q)), (4, .int x3)]) (by decide +kernel) (by rcases hw with rfl | ⟨a9, rfl⟩ <;> exact Nat.le_of_ble_eq_true rfl) (by rcases hw with rfl | ⟨a9, rfl⟩ <;> rfl) (fun p e s m args below meth c C => ?_)
  rw [gX7_init] at hg
  refine j_aload_n C dX7_init_0 0 rfl rfl ?_
  refine j_aload_nV C hw dX7_init_1 1 rfl rfl ?_
  refine j_iload_n C dX7_init_2 2 rfl rfl ?_
  refine j_callI C [w, .int x1] (tX2_init3 (r := ()) (by omega) hw x1 rfl) q1_184 q1_7 q1_183 q1_182 rfl hd_X2_init rfl dX7_init_3 rfl (Nat.le_of_ble_eq_true rfl) ⟨(Nat.le_of_ble_eq_true rfl), (Nat.le_of_ble_eq_true rfl)⟩ ⟨(Nat.le_of_ble_eq_true rfl), (Nat.le_of_ble_eq_true rfl)⟩ ?_
  refine j_aload_n C dX7_init_6 0 rfl rfl ?_
  refine j_aload_n C dX7_init_7 3 rfl rfl ?_
  refine j_putF (fs := [w, .int x1, .null, .int (0 : Int32), .double (0 : UInt64), .int (0 : Int32)]) C tyX7 tyX7_ok nmX7 (by omega) (va_up_self _ _ _) rfl inX7 2 (by decide) q1_194 rfl rfl rfl (tyX7_ok 2 (by decide)) rfl rfl (Nat.le_of_ble_eq_true rfl) dX7_init_8 (j_ct un1_1 ?_)
  refine j_aload_n C dX7_init_11 0 rfl rfl ?_
  refine j_iload C dX7_init_12 4 rfl ?_
  refine j_putF (fs := [w, .int x1, .ref (z + q), .int (0 : Int32), .double (0 : UInt64), .int (0 : Int32)]) C tyX7 tyX7_ok nmX7 (by omega) (va_up_self _ _ _) rfl inX7 3 (by decide) q1_195 rfl rfl rfl (tyX7_ok 3 (by decide)) rfl rfl (Nat.le_of_ble_eq_true rfl) dX7_init_14 (j_ct un1_1 ?_)
  refine j_aload_n C dX7_init_17 0 rfl rfl ?_
  refine j_aload_n C dX7_init_18 3 rfl rfl ?_
  refine j_iload C dX7_init_19 4 rfl ?_
  obtain ⟨r2, hr2, hg⟩ := ob hg
  refine j_callV C [.int x3] (tX8_at ⟨by omega, ((va_up_ne _ _ (by omega)).trans hq.2.1), ((va_up_ne _ _ (by omega)).trans hq.2.2.1), ((va_up_ne _ _ (by omega)).trans hq.2.2.2)⟩ x3 hr2) (by omega) ((va_up_ne _ _ (by omega)).trans hq.2.1) rfl q1_189 q1_2 q1_187 q1_188 q1_186 hd_X8_at rfl dX7_init_21 rfl (Nat.le_of_ble_eq_true rfl) ⟨(Nat.le_of_ble_eq_true rfl), (Nat.le_of_ble_eq_true rfl)⟩ ⟨(Nat.le_of_ble_eq_true rfl), (Nat.le_of_ble_eq_true rfl)⟩ ?_
  refine j_putF (fs := [w, .int x1, .ref (z + q), .int x3, .double (0 : UInt64), .int (0 : Int32)]) C tyX7 tyX7_ok nmX7 (by omega) (va_up_self _ _ _) rfl inX7 4 (by decide) q1_196 rfl rfl rfl (tyX7_ok 4 (by decide)) rfl rfl (Nat.le_of_ble_eq_true rfl) dX7_init_24 (j_ct un1_1 ?_)
  refine j_aload_n C dX7_init_27 0 rfl rfl ?_
  refine j_aload_n C dX7_init_28 3 rfl rfl ?_
  refine j_iload C dX7_init_29 4 rfl ?_
  obtain ⟨r3, hr3, hg⟩ := ob hg
  refine j_callV C [.int x3] (tX8_blankAt ⟨by omega, ((va_up_ne _ _ (by omega)).trans hq.2.1), ((va_up_ne _ _ (by omega)).trans hq.2.2.1), ((va_up_ne _ _ (by omega)).trans hq.2.2.2)⟩ x3 hr3) (by omega) ((va_up_ne _ _ (by omega)).trans hq.2.1) rfl q1_193 q1_2 q1_191 q1_192 q1_190 hd_X8_blankAt rfl dX7_init_31 rfl (Nat.le_of_ble_eq_true rfl) ⟨(Nat.le_of_ble_eq_true rfl), (Nat.le_of_ble_eq_true rfl)⟩ ⟨(Nat.le_of_ble_eq_true rfl), (Nat.le_of_ble_eq_true rfl)⟩ ?_
  obtain ⟨hz, hg⟩ := gd hg
  refine j_putF (fs := [w, .int x1, .ref (z + q), .int x3, .double r2, .int (0 : Int32)]) C tyX7 tyX7_ok nmX7 (by omega) (va_up_self _ _ _) rfl inX7 5 (by decide) q1_197 rfl rfl rfl (tyX7_ok 5 (by decide)) (nar_b hz) (fit_b hz) (Nat.le_of_ble_eq_true rfl) dX7_init_34 (j_ct un1_1 ?_)
  refine j_wide (k := 0) (n := 0) (Nat.le_of_ble_eq_true rfl) (Nat.le_of_ble_eq_true rfl) ?_
  exact j_vret C dX7_init_37 rfl (by first | rfl | (rw [← Option.some.inj hg] <;> rfl)) rfl

def gX0_init : Option Unit := some ()
theorem hd_X0_init : yX0_init.cls ≠ "java/lang/invoke/MethodHandle" ∧ yX0_init.cls ≠ "java/lang/invoke/VarHandle" ∧ (parseMethodDescriptor yX0_init.desc).map (fun d => d.parameters.length) = some 0 := by decide +kernel
set_option maxHeartbeats 4000000 in
set_option maxRecDepth 100000 in
theorem tX0_init {G : GG} {l : Launch} {z : Nat} {ct : Nat → va_E} {t N : Nat} (htN : t < N) {r : Unit} (hg : gX0_init = some r) : Ct G l yX0_init cX0_init 1 none ({ frames := 1, cells := 0, slots := 0, locals := 20 } : Room) [.ref (z + t)] z (va_up ct t (.inr (0, [.int (0 : Int32), .int (0 : Int32), .int (0 : Int32), .int (0 : Int32), .int (0 : Int32), .int (0 : Int32)]))) N none (va_up ct t (.inr (0, [.int (0 : Int32), .int (0 : Int32), .int (0 : Int32), .int (0 : Int32), .int (0 : Int32), .int (0 : Int32)]))) N := by
  refine Ct.of (lv := [(0, .ref (z + t))]) (by decide +kernel) (Nat.le_of_ble_eq_true rfl) rfl (fun p e s m args below meth c C => ?_)
  rw [gX0_init] at hg
  refine j_aload_n C dX0_init_0 0 rfl rfl ?_
  refine j_objInit C q1_99 q1_21 q1_22 dX0_init_1 (Nat.le_of_ble_eq_true rfl) (Nat.le_of_ble_eq_true rfl) ?_
  refine j_aload_n C dX0_init_4 0 rfl rfl ?_
  refine j_iconst (v := 0) C dX0_init_5 (by decide) ?_
  refine j_put (fs := [.int (0 : Int32), .int (0 : Int32), .int (0 : Int32), .int (0 : Int32), .int (0 : Int32), .int (0 : Int32)]) C tyX0 tyX0_ok nmX0 (by omega) (va_up_self _ _ _) rfl inX0 0 (by decide) q1_100 rfl rfl (tyX0_ok 0 (by decide)) rfl rfl (Nat.le_of_ble_eq_true rfl) dX0_init_6 (j_ct un1_1 ?_)
  refine j_aload_n C dX0_init_9 0 rfl rfl ?_
  refine j_iconst (v := 0) C dX0_init_10 (by decide) ?_
  refine j_put (fs := [.int (0 : Int32), .int (0 : Int32), .int (0 : Int32), .int (0 : Int32), .int (0 : Int32), .int (0 : Int32)]) C tyX0 tyX0_ok nmX0 (by omega) (va_up_self _ _ _) rfl inX0 1 (by decide) q1_102 rfl rfl (tyX0_ok 1 (by decide)) rfl rfl (Nat.le_of_ble_eq_true rfl) dX0_init_11 (j_ct un1_1 ?_)
  refine j_aload_n C dX0_init_14 0 rfl rfl ?_
  refine j_iconst (v := 0) C dX0_init_15 (by decide) ?_
  refine j_put (fs := [.int (0 : Int32), .int (0 : Int32), .int (0 : Int32), .int (0 : Int32), .int (0 : Int32), .int (0 : Int32)]) C tyX0 tyX0_ok nmX0 (by omega) (va_up_self _ _ _) rfl inX0 2 (by decide) q1_104 rfl rfl (tyX0_ok 2 (by decide)) rfl rfl (Nat.le_of_ble_eq_true rfl) dX0_init_16 (j_ct un1_1 ?_)
  refine j_aload_n C dX0_init_19 0 rfl rfl ?_
  refine j_iconst (v := 0) C dX0_init_20 (by decide) ?_
  refine j_put (fs := [.int (0 : Int32), .int (0 : Int32), .int (0 : Int32), .int (0 : Int32), .int (0 : Int32), .int (0 : Int32)]) C tyX0 tyX0_ok nmX0 (by omega) (va_up_self _ _ _) rfl inX0 3 (by decide) q1_106 rfl rfl (tyX0_ok 3 (by decide)) rfl rfl (Nat.le_of_ble_eq_true rfl) dX0_init_21 (j_ct un1_1 ?_)
  refine j_aload_n C dX0_init_24 0 rfl rfl ?_
  refine j_iconst (v := 0) C dX0_init_25 (by decide) ?_
  refine j_put (fs := [.int (0 : Int32), .int (0 : Int32), .int (0 : Int32), .int (0 : Int32), .int (0 : Int32), .int (0 : Int32)]) C tyX0 tyX0_ok nmX0 (by omega) (va_up_self _ _ _) rfl inX0 4 (by decide) q1_108 rfl rfl (tyX0_ok 4 (by decide)) rfl rfl (Nat.le_of_ble_eq_true rfl) dX0_init_26 (j_ct un1_1 ?_)
  refine j_aload_n C dX0_init_29 0 rfl rfl ?_
  refine j_iconst (v := 0) C dX0_init_30 (by decide) ?_
  refine j_put (fs := [.int (0 : Int32), .int (0 : Int32), .int (0 : Int32), .int (0 : Int32), .int (0 : Int32), .int (0 : Int32)]) C tyX0 tyX0_ok nmX0 (by omega) (va_up_self _ _ _) rfl inX0 5 (by decide) q1_109 rfl rfl (tyX0_ok 5 (by decide)) rfl rfl (Nat.le_of_ble_eq_true rfl) dX0_init_31 (j_ct un1_1 ?_)
  refine j_wide (k := 0) (n := 0) (Nat.le_of_ble_eq_true rfl) (Nat.le_of_ble_eq_true rfl) ?_
  exact j_vret C dX0_init_34 rfl (by first | rfl | (rw [← Option.some.inj hg] <;> rfl)) rfl

def gX8_init16_20 (k20 : (Nat → Int32) → Int32 → Option (Nat → Int32)) (bz : Nat → Int32) (v2 : Int32) : Option (Nat → Int32) := if (16 : Int32) ≤ v2 then (some bz) else (if ix v2 16 then (k20 (upd bz v2.toNatClampNeg (vp_nar .boolean (1 : Int32))) (v2 + (1 : Int32))) else none)
def gX8_init16 : Option (Nat → Int32) := lq2 (gX8_init16_20) 20 (fun _ => 0) (0 : Int32)
theorem hd_X8_init : yX8_init.cls ≠ "java/lang/invoke/MethodHandle" ∧ yX8_init.cls ≠ "java/lang/invoke/VarHandle" ∧ (parseMethodDescriptor yX8_init.desc).map (fun d => d.parameters.length) = some 1 := by decide +kernel
set_option maxHeartbeats 4000000 in
set_option maxRecDepth 100000 in
theorem tX8_init16 {G : GG} {l : Launch} {z : Nat} {ct : Nat → va_E} {t : Nat} {r : Nat → Int32} (hg : gX8_init16 = some r) : Ct G l yX8_init cX8_init 3 none ({ frames := 1, cells := 2, slots := 32, locals := 20 } : Room) [.ref (z + t), .int (16 : Int32)] z (va_up ct t (.inr (4, [.null, .null]))) (t + 1) none (va_up (va_up (va_up ct t (.inr (4, [.ref (z + (t + 1)), .ref (z + (t + 2))]))) (t + 1) (cD G 16 (fun _ => 0))) (t + 2) (cZ G 16 r)) (t + 3) := by
  refine Ct.of (lv := [(0, .ref (z + t)), (1, .int (16 : Int32))]) (by decide +kernel) (Nat.le_of_ble_eq_true rfl) rfl (fun p e s m args below meth c C => ?_)
  have L_20 : ∀ (n20 : Nat) (bz : Nat → Int32) (v2 : Int32), lq2 (gX8_init16_20) n20 bz v2 = some r → J G p l e ({ frames := 1, cells := 2, slots := 32, locals := 20 } : Room) s m args below meth c z 3 (MQ below (Qd G z none (va_up (va_up (va_up ct t (.inr (4, [.ref (z + (t + 1)), .ref (z + (t + 2))]))) (t + 1) (cD G 16 (fun _ => 0))) (t + 2) (cZ G 16 r)) (t + 3)) args s 2 32 (zA z)) (va_up (va_up (va_up ct t (.inr (4, [.ref (z + (t + 1)), .ref (z + (t + 2))]))) (t + 1) (cD G 16 (fun _ => 0))) (t + 2) (cZ G 16 bz)) (t + 3) 2 32 20 [(0, .ref (z + t)), (1, .int (16 : Int32)), (2, .int v2)] [] := by
    intro n20
    induction n20 with
    | zero => intro bz v2 hg; cases hg
    | succ n20 ih20 =>
      intro bz v2 hg
      replace hg : gX8_init16_20 (lq2 (gX8_init16_20) n20) bz v2 = some r := hg
      rw [gX8_init16_20] at hg
      refine j_iload_n C dX8_init_20 2 rfl rfl ?_
      refine j_iload_n C dX8_init_21 1 rfl rfl ?_
      refine j_icmp_ge C 38 hg dX8_init_22 (by decide) (fun hg => ?_) (fun hg => ?_)
      · refine j_wide (k := 2) (n := 32) (Nat.le_of_ble_eq_true rfl) (Nat.le_of_ble_eq_true rfl) ?_
        exact j_vret C dX8_init_38 rfl (by first | rfl | (rw [← Option.some.inj hg] <;> rfl)) rfl
      · refine j_aload_n C dX8_init_25 0 rfl rfl ?_
        refine j_get (fs := [.ref (z + (t + 1)), .ref (z + (t + 2))]) (v := .ref (z + (t + 2))) C (by omega) ((va_up_ne _ _ (by omega)).trans ((va_up_ne _ _ (by omega)).trans (va_up_self _ _ _))) rfl inX8 1 (by decide) q1_32 rfl rfl dX8_init_26 ?_
        refine j_iload_n C dX8_init_29 2 rfl rfl ?_
        refine j_iconst (v := 1) C dX8_init_30 (by decide) ?_
        refine j_zast C hg (by omega) (va_up_self _ _ _) dX8_init_31 (fun hg => j_ct un3_3 ?_)
        refine j_iinc C [(2, .int (v2 + (1 : Int32))), (0, .ref (z + t)), (1, .int (16 : Int32))] dX8_init_32 2 rfl rfl (by decide) rfl ?_
        refine j_goto C 20 dX8_init_35 (by decide) ?_
        exact j_re [1, 2, 0] rfl (ih20 (upd bz v2.toNatClampNeg (vp_nar .boolean (1 : Int32))) (v2 + (1 : Int32)) hg)
  rw [gX8_init16] at hg
  refine j_aload_n C dX8_init_0 0 rfl rfl ?_
  refine j_objInit C q1_30 q1_21 q1_22 dX8_init_1 (Nat.le_of_ble_eq_true rfl) (Nat.le_of_ble_eq_true rfl) ?_
  refine j_aload_n C dX8_init_4 0 rfl rfl ?_
  refine j_iload_n C dX8_init_5 1 rfl rfl ?_
  refine j_newD C 16 q1_38 (by decide) (by decide) (by decide) ⟨(Nat.le_of_ble_eq_true rfl), (Nat.le_of_ble_eq_true rfl)⟩ dX8_init_6 ?_
  refine j_putF (fs := [.null, .null]) C tyX8 tyX8_ok nmX8 (by omega) ((va_up_ne _ _ (by omega)).trans (va_up_self _ _ _)) rfl inX8 0 (by decide) q1_31 rfl rfl rfl (tyX8_ok 0 (by decide)) rfl rfl (Nat.le_of_ble_eq_true rfl) dX8_init_8 (j_ct (un2_1 (by omega)) ?_)
  refine j_aload_n C dX8_init_11 0 rfl rfl ?_
  refine j_iload_n C dX8_init_12 1 rfl rfl ?_
  refine j_newZ C 16 q1_39 (by decide) (by decide) (by decide) ⟨(Nat.le_of_ble_eq_true rfl), (Nat.le_of_ble_eq_true rfl)⟩ dX8_init_13 ?_
  refine j_putF (fs := [.ref (z + (t + 1)), .null]) C tyX8 tyX8_ok nmX8 (by omega) ((va_up_ne _ _ (by omega)).trans ((va_up_ne _ _ (by omega)).trans (va_up_self _ _ _))) rfl inX8 1 (by decide) q1_32 rfl rfl rfl (tyX8_ok 1 (by decide)) rfl rfl (Nat.le_of_ble_eq_true rfl) dX8_init_15 (j_ct (un3_1 (by omega) (by omega)) ?_)
  refine j_iconst (v := 0) C dX8_init_18 (by decide) ?_
  refine j_istore_n C [(2, .int (0 : Int32)), (0, .ref (z + t)), (1, .int (16 : Int32))] dX8_init_19 rfl (by decide) rfl ?_
  exact j_re [1, 2, 0] rfl (L_20 20 (fun _ => 0) (0 : Int32) hg)

def gX8_init8_20 (k20 : (Nat → Int32) → Int32 → Option (Nat → Int32)) (bz : Nat → Int32) (v2 : Int32) : Option (Nat → Int32) := if (8 : Int32) ≤ v2 then (some bz) else (if ix v2 8 then (k20 (upd bz v2.toNatClampNeg (vp_nar .boolean (1 : Int32))) (v2 + (1 : Int32))) else none)
def gX8_init8 : Option (Nat → Int32) := lq2 (gX8_init8_20) 20 (fun _ => 0) (0 : Int32)
set_option maxHeartbeats 4000000 in
set_option maxRecDepth 100000 in
theorem tX8_init8 {G : GG} {l : Launch} {z : Nat} {ct : Nat → va_E} {t : Nat} {r : Nat → Int32} (hg : gX8_init8 = some r) : Ct G l yX8_init cX8_init 3 none ({ frames := 1, cells := 2, slots := 16, locals := 20 } : Room) [.ref (z + t), .int (8 : Int32)] z (va_up ct t (.inr (4, [.null, .null]))) (t + 1) none (va_up (va_up (va_up ct t (.inr (4, [.ref (z + (t + 1)), .ref (z + (t + 2))]))) (t + 1) (cD G 8 (fun _ => 0))) (t + 2) (cZ G 8 r)) (t + 3) := by
  refine Ct.of (lv := [(0, .ref (z + t)), (1, .int (8 : Int32))]) (by decide +kernel) (Nat.le_of_ble_eq_true rfl) rfl (fun p e s m args below meth c C => ?_)
  have L_20 : ∀ (n20 : Nat) (bz : Nat → Int32) (v2 : Int32), lq2 (gX8_init8_20) n20 bz v2 = some r → J G p l e ({ frames := 1, cells := 2, slots := 16, locals := 20 } : Room) s m args below meth c z 3 (MQ below (Qd G z none (va_up (va_up (va_up ct t (.inr (4, [.ref (z + (t + 1)), .ref (z + (t + 2))]))) (t + 1) (cD G 8 (fun _ => 0))) (t + 2) (cZ G 8 r)) (t + 3)) args s 2 16 (zA z)) (va_up (va_up (va_up ct t (.inr (4, [.ref (z + (t + 1)), .ref (z + (t + 2))]))) (t + 1) (cD G 8 (fun _ => 0))) (t + 2) (cZ G 8 bz)) (t + 3) 2 16 20 [(0, .ref (z + t)), (1, .int (8 : Int32)), (2, .int v2)] [] := by
    intro n20
    induction n20 with
    | zero => intro bz v2 hg; cases hg
    | succ n20 ih20 =>
      intro bz v2 hg
      replace hg : gX8_init8_20 (lq2 (gX8_init8_20) n20) bz v2 = some r := hg
      rw [gX8_init8_20] at hg
      refine j_iload_n C dX8_init_20 2 rfl rfl ?_
      refine j_iload_n C dX8_init_21 1 rfl rfl ?_
      refine j_icmp_ge C 38 hg dX8_init_22 (by decide) (fun hg => ?_) (fun hg => ?_)
      · refine j_wide (k := 2) (n := 16) (Nat.le_of_ble_eq_true rfl) (Nat.le_of_ble_eq_true rfl) ?_
        exact j_vret C dX8_init_38 rfl (by first | rfl | (rw [← Option.some.inj hg] <;> rfl)) rfl
      · refine j_aload_n C dX8_init_25 0 rfl rfl ?_
        refine j_get (fs := [.ref (z + (t + 1)), .ref (z + (t + 2))]) (v := .ref (z + (t + 2))) C (by omega) ((va_up_ne _ _ (by omega)).trans ((va_up_ne _ _ (by omega)).trans (va_up_self _ _ _))) rfl inX8 1 (by decide) q1_32 rfl rfl dX8_init_26 ?_
        refine j_iload_n C dX8_init_29 2 rfl rfl ?_
        refine j_iconst (v := 1) C dX8_init_30 (by decide) ?_
        refine j_zast C hg (by omega) (va_up_self _ _ _) dX8_init_31 (fun hg => j_ct un3_3 ?_)
        refine j_iinc C [(2, .int (v2 + (1 : Int32))), (0, .ref (z + t)), (1, .int (8 : Int32))] dX8_init_32 2 rfl rfl (by decide) rfl ?_
        refine j_goto C 20 dX8_init_35 (by decide) ?_
        exact j_re [1, 2, 0] rfl (ih20 (upd bz v2.toNatClampNeg (vp_nar .boolean (1 : Int32))) (v2 + (1 : Int32)) hg)
  rw [gX8_init8] at hg
  refine j_aload_n C dX8_init_0 0 rfl rfl ?_
  refine j_objInit C q1_30 q1_21 q1_22 dX8_init_1 (Nat.le_of_ble_eq_true rfl) (Nat.le_of_ble_eq_true rfl) ?_
  refine j_aload_n C dX8_init_4 0 rfl rfl ?_
  refine j_iload_n C dX8_init_5 1 rfl rfl ?_
  refine j_newD C 8 q1_38 (by decide) (by decide) (by decide) ⟨(Nat.le_of_ble_eq_true rfl), (Nat.le_of_ble_eq_true rfl)⟩ dX8_init_6 ?_
  refine j_putF (fs := [.null, .null]) C tyX8 tyX8_ok nmX8 (by omega) ((va_up_ne _ _ (by omega)).trans (va_up_self _ _ _)) rfl inX8 0 (by decide) q1_31 rfl rfl rfl (tyX8_ok 0 (by decide)) rfl rfl (Nat.le_of_ble_eq_true rfl) dX8_init_8 (j_ct (un2_1 (by omega)) ?_)
  refine j_aload_n C dX8_init_11 0 rfl rfl ?_
  refine j_iload_n C dX8_init_12 1 rfl rfl ?_
  refine j_newZ C 8 q1_39 (by decide) (by decide) (by decide) ⟨(Nat.le_of_ble_eq_true rfl), (Nat.le_of_ble_eq_true rfl)⟩ dX8_init_13 ?_
  refine j_putF (fs := [.ref (z + (t + 1)), .null]) C tyX8 tyX8_ok nmX8 (by omega) ((va_up_ne _ _ (by omega)).trans ((va_up_ne _ _ (by omega)).trans (va_up_self _ _ _))) rfl inX8 1 (by decide) q1_32 rfl rfl rfl (tyX8_ok 1 (by decide)) rfl rfl (Nat.le_of_ble_eq_true rfl) dX8_init_15 (j_ct (un3_1 (by omega) (by omega)) ?_)
  refine j_iconst (v := 0) C dX8_init_18 (by decide) ?_
  refine j_istore_n C [(2, .int (0 : Int32)), (0, .ref (z + t)), (1, .int (8 : Int32))] dX8_init_19 rfl (by decide) rfl ?_
  exact j_re [1, 2, 0] rfl (L_20 20 (fun _ => 0) (0 : Int32) hg)

def gX3_init : Option (Nat → Int32) := (gX8_init16).bind (fun r1 => some r1)
theorem hd_X3_init : yX3_init.cls ≠ "java/lang/invoke/MethodHandle" ∧ yX3_init.cls ≠ "java/lang/invoke/VarHandle" ∧ (parseMethodDescriptor yX3_init.desc).map (fun d => d.parameters.length) = some 0 := by decide +kernel
set_option maxHeartbeats 4000000 in
set_option maxRecDepth 100000 in
theorem tX3_init {G : GG} {l : Launch} {z : Nat} {ct : Nat → va_E} {t : Nat} {r : Nat → Int32} (hg : gX3_init = some r) : Ct G l yX3_init cX3_init 1 none ({ frames := 2, cells := 3, slots := 34, locals := 42 } : Room) [.ref (z + t)] z (va_up ct t (.inr (1, [.null, .int (0 : Int32), .int (0 : Int32), .int (0 : Int32), .int (0 : Int32), .int (0 : Int32)]))) (t + 1) none (va_up (va_up (va_up (va_up ct t (.inr (1, [.ref (z + (t + 1)), .int (0 : Int32), .int (-1 : Int32), .int (0 : Int32), .int (0 : Int32), .int (0 : Int32)]))) (t + 1) (.inr (4, [.ref (z + (t + 2)), .ref (z + (t + 3))]))) (t + 2) (cD G 16 (fun _ => 0))) (t + 3) (cZ G 16 r)) (t + 4) := by
  refine Ct.of (lv := [(0, .ref (z + t))]) (by decide +kernel) (Nat.le_of_ble_eq_true rfl) rfl (fun p e s m args below meth c C => ?_)
  rw [gX3_init] at hg
  refine j_aload_n C dX3_init_0 0 rfl rfl ?_
  refine j_objInit C q1_63 q1_21 q1_22 dX3_init_1 (Nat.le_of_ble_eq_true rfl) (Nat.le_of_ble_eq_true rfl) ?_
  refine j_aload_n C dX3_init_4 0 rfl rfl ?_
  refine j_new C tyX8 tyX8_ok (ci := 4) rfl inX8 q1_64 q1_26 q1_2 [.null, .null] (fun j hj => by rcases (show j = 0 ∨ j = 1 by omega) with rfl | rfl <;> rfl) ⟨(Nat.le_of_ble_eq_true rfl), (Nat.le_of_ble_eq_true rfl)⟩ dX3_init_5 ?_
  refine j_dup C dX3_init_8 rfl ?_
  refine j_bipush (v := 16) C dX3_init_9 (by decide) ?_
  obtain ⟨r1, hr1, hg⟩ := ob hg
  refine j_callI C [.int (16 : Int32)] (tX8_init16 (t := t + 1) hr1) q1_29 q1_2 q1_28 q1_65 rfl hd_X8_init rfl dX3_init_11 rfl (Nat.le_of_ble_eq_true rfl) ⟨(Nat.le_of_ble_eq_true rfl), (Nat.le_of_ble_eq_true rfl)⟩ ⟨(Nat.le_of_ble_eq_true rfl), (Nat.le_of_ble_eq_true rfl)⟩ ?_
  refine j_putF (fs := [.null, .int (0 : Int32), .int (0 : Int32), .int (0 : Int32), .int (0 : Int32), .int (0 : Int32)]) C tyX3 tyX3_ok nmX3 (by omega) ((va_up_ne _ _ (by omega)).trans ((va_up_ne _ _ (by omega)).trans ((va_up_ne _ _ (by omega)).trans (va_up_self _ _ _)))) rfl inX3 0 (by decide) q1_66 rfl rfl rfl (tyX3_ok 0 (by decide)) rfl rfl (Nat.le_of_ble_eq_true rfl) dX3_init_14 (j_ct (un4_1 (by omega) (by omega) (by omega)) ?_)
  refine j_aload_n C dX3_init_17 0 rfl rfl ?_
  refine j_iconst (v := 0) C dX3_init_18 (by decide) ?_
  refine j_put (fs := [.ref (z + (t + 1)), .int (0 : Int32), .int (0 : Int32), .int (0 : Int32), .int (0 : Int32), .int (0 : Int32)]) C tyX3 tyX3_ok nmX3 (by omega) ((va_up_ne _ _ (by omega)).trans ((va_up_ne _ _ (by omega)).trans ((va_up_ne _ _ (by omega)).trans (va_up_self _ _ _)))) rfl inX3 1 (by decide) q1_69 rfl rfl (tyX3_ok 1 (by decide)) rfl rfl (Nat.le_of_ble_eq_true rfl) dX3_init_19 (j_ct (un4_1 (by omega) (by omega) (by omega)) ?_)
  refine j_aload_n C dX3_init_22 0 rfl rfl ?_
  refine j_iconst (v := (-1)) C dX3_init_23 (by decide) ?_
  refine j_put (fs := [.ref (z + (t + 1)), .int (0 : Int32), .int (0 : Int32), .int (0 : Int32), .int (0 : Int32), .int (0 : Int32)]) C tyX3 tyX3_ok nmX3 (by omega) ((va_up_ne _ _ (by omega)).trans ((va_up_ne _ _ (by omega)).trans ((va_up_ne _ _ (by omega)).trans (va_up_self _ _ _)))) rfl inX3 2 (by decide) q1_72 rfl rfl (tyX3_ok 2 (by decide)) rfl rfl (Nat.le_of_ble_eq_true rfl) dX3_init_24 (j_ct (un4_1 (by omega) (by omega) (by omega)) ?_)
  refine j_aload_n C dX3_init_27 0 rfl rfl ?_
  refine j_iconst (v := 0) C dX3_init_28 (by decide) ?_
  refine j_put (fs := [.ref (z + (t + 1)), .int (0 : Int32), .int (-1 : Int32), .int (0 : Int32), .int (0 : Int32), .int (0 : Int32)]) C tyX3 tyX3_ok nmX3 (by omega) ((va_up_ne _ _ (by omega)).trans ((va_up_ne _ _ (by omega)).trans ((va_up_ne _ _ (by omega)).trans (va_up_self _ _ _)))) rfl inX3 3 (by decide) q1_75 rfl rfl (tyX3_ok 3 (by decide)) rfl rfl (Nat.le_of_ble_eq_true rfl) dX3_init_29 (j_ct (un4_1 (by omega) (by omega) (by omega)) ?_)
  refine j_aload_n C dX3_init_32 0 rfl rfl ?_
  refine j_iconst (v := 0) C dX3_init_33 (by decide) ?_
  refine j_put (fs := [.ref (z + (t + 1)), .int (0 : Int32), .int (-1 : Int32), .int (0 : Int32), .int (0 : Int32), .int (0 : Int32)]) C tyX3 tyX3_ok nmX3 (by omega) ((va_up_ne _ _ (by omega)).trans ((va_up_ne _ _ (by omega)).trans ((va_up_ne _ _ (by omega)).trans (va_up_self _ _ _)))) rfl inX3 4 (by decide) q1_77 rfl rfl (tyX3_ok 4 (by decide)) rfl rfl (Nat.le_of_ble_eq_true rfl) dX3_init_34 (j_ct (un4_1 (by omega) (by omega) (by omega)) ?_)
  refine j_aload_n C dX3_init_37 0 rfl rfl ?_
  refine j_iconst (v := 0) C dX3_init_38 (by decide) ?_
  refine j_put (fs := [.ref (z + (t + 1)), .int (0 : Int32), .int (-1 : Int32), .int (0 : Int32), .int (0 : Int32), .int (0 : Int32)]) C tyX3 tyX3_ok nmX3 (by omega) ((va_up_ne _ _ (by omega)).trans ((va_up_ne _ _ (by omega)).trans ((va_up_ne _ _ (by omega)).trans (va_up_self _ _ _)))) rfl inX3 5 (by decide) q1_79 rfl rfl (tyX3_ok 5 (by decide)) rfl rfl (Nat.le_of_ble_eq_true rfl) dX3_init_39 (j_ct (un4_1 (by omega) (by omega) (by omega)) ?_)
  refine j_wide (k := 3) (n := 34) (Nat.le_of_ble_eq_true rfl) (Nat.le_of_ble_eq_true rfl) ?_
  exact j_vret C dX3_init_42 rfl (by first | rfl | (rw [← Option.some.inj hg] <;> rfl)) rfl

def gX9_init : Option ((Nat → Int32) × (Nat → Int32)) := (gX8_init16).bind (fun r1 => (gX8_init16).bind (fun r2 => some (r1, r2)))
theorem hd_X9_init : yX9_init.cls ≠ "java/lang/invoke/MethodHandle" ∧ yX9_init.cls ≠ "java/lang/invoke/VarHandle" ∧ (parseMethodDescriptor yX9_init.desc).map (fun d => d.parameters.length) = some 0 := by decide +kernel
set_option maxHeartbeats 4000000 in
set_option maxRecDepth 100000 in
theorem tX9_init {G : GG} {l : Launch} {z : Nat} {ct : Nat → va_E} {t : Nat} {r : (Nat → Int32) × (Nat → Int32)} (hg : gX9_init = some r) : Ct G l yX9_init cX9_init 1 none ({ frames := 2, cells := 6, slots := 68, locals := 42 } : Room) [.ref (z + t)] z (va_up ct t (.inr (5, [.null, .null]))) (t + 1) none (va_up (va_up (va_up (va_up (va_up (va_up (va_up ct t (.inr (5, [.ref (z + (t + 1)), .ref (z + (t + 4))]))) (t + 1) (.inr (4, [.ref (z + (t + 2)), .ref (z + (t + 3))]))) (t + 2) (cD G 16 (fun _ => 0))) (t + 3) (cZ G 16 r.1)) (t + 4) (.inr (4, [.ref (z + (t + 5)), .ref (z + (t + 6))]))) (t + 5) (cD G 16 (fun _ => 0))) (t + 6) (cZ G 16 r.2)) (t + 7) := by
  refine Ct.of (lv := [(0, .ref (z + t))]) (by decide +kernel) (Nat.le_of_ble_eq_true rfl) rfl (fun p e s m args below meth c C => ?_)
  rw [gX9_init] at hg
  refine j_aload_n C dX9_init_0 0 rfl rfl ?_
  refine j_objInit C q1_45 q1_21 q1_22 dX9_init_1 (Nat.le_of_ble_eq_true rfl) (Nat.le_of_ble_eq_true rfl) ?_
  refine j_aload_n C dX9_init_4 0 rfl rfl ?_
  refine j_new C tyX8 tyX8_ok (ci := 4) rfl inX8 q1_46 q1_26 q1_2 [.null, .null] (fun j hj => by rcases (show j = 0 ∨ j = 1 by omega) with rfl | rfl <;> rfl) ⟨(Nat.le_of_ble_eq_true rfl), (Nat.le_of_ble_eq_true rfl)⟩ dX9_init_5 ?_
  refine j_dup C dX9_init_8 rfl ?_
  refine j_bipush (v := 16) C dX9_init_9 (by decide) ?_
  obtain ⟨r1, hr1, hg⟩ := ob hg
  refine j_callI C [.int (16 : Int32)] (tX8_init16 (t := t + 1) hr1) q1_29 q1_2 q1_28 q1_47 rfl hd_X8_init rfl dX9_init_11 rfl (Nat.le_of_ble_eq_true rfl) ⟨(Nat.le_of_ble_eq_true rfl), (Nat.le_of_ble_eq_true rfl)⟩ ⟨(Nat.le_of_ble_eq_true rfl), (Nat.le_of_ble_eq_true rfl)⟩ ?_
  refine j_putF (fs := [.null, .null]) C tyX9 tyX9_ok nmX9 (by omega) ((va_up_ne _ _ (by omega)).trans ((va_up_ne _ _ (by omega)).trans ((va_up_ne _ _ (by omega)).trans (va_up_self _ _ _)))) rfl inX9 0 (by decide) q1_48 rfl rfl rfl (tyX9_ok 0 (by decide)) rfl rfl (Nat.le_of_ble_eq_true rfl) dX9_init_14 (j_ct (un4_1 (by omega) (by omega) (by omega)) ?_)
  refine j_aload_n C dX9_init_17 0 rfl rfl ?_
  refine j_new C tyX8 tyX8_ok (ci := 4) rfl inX8 q1_46 q1_26 q1_2 [.null, .null] (fun j hj => by rcases (show j = 0 ∨ j = 1 by omega) with rfl | rfl <;> rfl) ⟨(Nat.le_of_ble_eq_true rfl), (Nat.le_of_ble_eq_true rfl)⟩ dX9_init_18 ?_
  refine j_dup C dX9_init_21 rfl ?_
  refine j_bipush (v := 16) C dX9_init_22 (by decide) ?_
  obtain ⟨r2, hr2, hg⟩ := ob hg
  refine j_callI C [.int (16 : Int32)] (tX8_init16 (t := t + 4) hr2) q1_29 q1_2 q1_28 q1_47 rfl hd_X8_init rfl dX9_init_24 rfl (Nat.le_of_ble_eq_true rfl) ⟨(Nat.le_of_ble_eq_true rfl), (Nat.le_of_ble_eq_true rfl)⟩ ⟨(Nat.le_of_ble_eq_true rfl), (Nat.le_of_ble_eq_true rfl)⟩ ?_
  refine j_putF (fs := [.ref (z + (t + 1)), .null]) C tyX9 tyX9_ok nmX9 (by omega) ((va_up_ne _ _ (by omega)).trans ((va_up_ne _ _ (by omega)).trans ((va_up_ne _ _ (by omega)).trans ((va_up_ne _ _ (by omega)).trans ((va_up_ne _ _ (by omega)).trans ((va_up_ne _ _ (by omega)).trans (va_up_self _ _ _))))))) rfl inX9 1 (by decide) q1_50 rfl rfl rfl (tyX9_ok 1 (by decide)) rfl rfl (Nat.le_of_ble_eq_true rfl) dX9_init_27 (j_ct (un7_1 (by omega) (by omega) (by omega) (by omega) (by omega) (by omega)) ?_)
  refine j_wide (k := 6) (n := 68) (Nat.le_of_ble_eq_true rfl) (Nat.le_of_ble_eq_true rfl) ?_
  exact j_vret C dX9_init_30 rfl (by first | rfl | (rw [← Option.some.inj hg] <;> rfl)) rfl

def gX4_init (nar2 : Int32) (ff2 : Int32) (fa2 : Int32) (fb2 : Int32) (fc2 : Int32) (F2 : Nat → UInt64) (H2 : Nat → Int32) (x1 : Int32) : Option (Int32 × Int32 × Int32 × Int32 × Int32 × (Nat → UInt64) × (Nat → Int32)) := (gX3_init).bind (fun r2 => (gX3_become (0 : Int32) (-1 : Int32) (0 : Int32) (0 : Int32) (0 : Int32) (fun _ => 0) r2 nar2 ff2 fa2 fb2 fc2 F2 H2).bind (fun r3 => some (r3.1, r3.2.1, r3.2.2.1, r3.2.2.2.1, r3.2.2.2.2.1, r3.2.2.2.2.2.1, r3.2.2.2.2.2.2)))
theorem hd_X4_init : yX4_init.cls ≠ "java/lang/invoke/MethodHandle" ∧ yX4_init.cls ≠ "java/lang/invoke/VarHandle" ∧ (parseMethodDescriptor yX4_init.desc).map (fun d => d.parameters.length) = some 3 := by decide +kernel
set_option maxHeartbeats 4000000 in
set_option maxRecDepth 100000 in
theorem tX4_init {G : GG} {l : Launch} {z : Nat} {ct : Nat → va_E} {t k : Nat} {nar2 ff2 fa2 fb2 fc2 : Int32} {F2 : Nat → UInt64} {H2 : Nat → Int32} {w : Value} (hw : isR w) (hkt : k + 3 < t) (hC : ct k = coO z k nar2 ff2 fa2 fb2 fc2) (hR : RdAt G z ct (t + 1) (k + 1) 16 F2 H2) (x1 : Int32) {r : Int32 × Int32 × Int32 × Int32 × Int32 × (Nat → UInt64) × (Nat → Int32)} (hg : gX4_init nar2 ff2 fa2 fb2 fc2 F2 H2 x1 = some r) : Ct G l yX4_init cX4_init 4 none ({ frames := 3, cells := 4, slots := 40, locals := 68 } : Room) [.ref (z + t), w, .int x1, .ref (z + k)] z (va_up ct t (.inr (2, [.null, .int (0 : Int32), .null, .null]))) (t + 1) none (va_up (va_up (va_up (va_up (va_up ct t (.inr (2, [w, .int x1, .ref (z + k), .ref (z + (t + 1))]))) (t + 1) (.inr (1, [.ref (z + (t + 2)), .int r.1, .int r.2.1, .int r.2.2.1, .int r.2.2.2.1, .int r.2.2.2.2.1]))) (t + 2) (.inr (4, [.ref (z + (t + 3)), .ref (z + (t + 4))]))) (t + 3) (cD G 16 r.2.2.2.2.2.1)) (t + 4) (cZ G 16 r.2.2.2.2.2.2)) (t + 5) := by
  refine Ct.of (lv := [(0, .ref (z + t)), (1, w), (2, .int x1), (3, .ref (z + k))]) (by decide +kernel) (by rcases hw with rfl | ⟨a9, rfl⟩ <;> exact Nat.le_of_ble_eq_true rfl) (by rcases hw with rfl | ⟨a9, rfl⟩ <;> rfl) (fun p e s m args below meth c C => ?_)
  rw [gX4_init] at hg
  refine j_aload_n C dX4_init_0 0 rfl rfl ?_
  refine j_aload_nV C hw dX4_init_1 1 rfl rfl ?_
  refine j_iload_n C dX4_init_2 2 rfl rfl ?_
  refine j_callI C [w, .int x1] (tX2_init2 (r := ()) (by omega) hw x1 rfl) q1_184 q1_7 q1_183 q2_46 rfl hd_X2_init rfl dX4_init_3 rfl (Nat.le_of_ble_eq_true rfl) ⟨(Nat.le_of_ble_eq_true rfl), (Nat.le_of_ble_eq_true rfl)⟩ ⟨(Nat.le_of_ble_eq_true rfl), (Nat.le_of_ble_eq_true rfl)⟩ ?_
  refine j_aload_n C dX4_init_6 0 rfl rfl ?_
  refine j_new C tyX3 tyX3_ok (ci := 1) rfl inX3 q2_47 q1_59 q1_4 [.null, .int (0 : Int32), .int (0 : Int32), .int (0 : Int32), .int (0 : Int32), .int (0 : Int32)] (fun j hj => by rcases (show j = 0 ∨ j = 1 ∨ j = 2 ∨ j = 3 ∨ j = 4 ∨ j = 5 by omega) with rfl | rfl | rfl | rfl | rfl | rfl <;> rfl) ⟨(Nat.le_of_ble_eq_true rfl), (Nat.le_of_ble_eq_true rfl)⟩ dX4_init_7 ?_
  refine j_dup C dX4_init_10 rfl ?_
  obtain ⟨r2, hr2, hg⟩ := ob hg
  refine j_callN C [] (tX3_init (t := t + 1) hr2) q1_62 q1_4 q1_61 eq2_48 rfl hd_X3_init rfl dX4_init_11 rfl (Nat.le_of_ble_eq_true rfl) ⟨(Nat.le_of_ble_eq_true rfl), (Nat.le_of_ble_eq_true rfl)⟩ ⟨(Nat.le_of_ble_eq_true rfl), (Nat.le_of_ble_eq_true rfl)⟩ ?_
  refine j_putF (fs := [w, .int x1, .null, .null]) C tyX4 tyX4_ok nmX4 (by omega) ((va_up_ne _ _ (by omega)).trans ((va_up_ne _ _ (by omega)).trans ((va_up_ne _ _ (by omega)).trans ((va_up_ne _ _ (by omega)).trans (va_up_self _ _ _))))) rfl inX4 3 (by decide) q2_59 rfl rfl rfl (tyX4_ok 3 (by decide)) rfl rfl (Nat.le_of_ble_eq_true rfl) dX4_init_14 (j_ct (un5_1 (by omega) (by omega) (by omega) (by omega)) ?_)
  refine j_aload_n C dX4_init_17 0 rfl rfl ?_
  refine j_aload_n C dX4_init_18 3 rfl rfl ?_
  refine j_putF (fs := [w, .int x1, .null, .ref (z + (t + 1))]) C tyX4 tyX4_ok nmX4 (by omega) ((va_up_ne _ _ (by omega)).trans ((va_up_ne _ _ (by omega)).trans ((va_up_ne _ _ (by omega)).trans ((va_up_ne _ _ (by omega)).trans (va_up_self _ _ _))))) rfl inX4 2 (by decide) q2_58 rfl rfl rfl (tyX4_ok 2 (by decide)) rfl rfl (Nat.le_of_ble_eq_true rfl) dX4_init_19 (j_ct (un5_1 (by omega) (by omega) (by omega) (by omega)) ?_)
  refine j_aload_n C dX4_init_22 0 rfl rfl ?_
  refine j_get (fs := [w, .int x1, .ref (z + k), .ref (z + (t + 1))]) (v := .ref (z + (t + 1))) C (by omega) ((va_up_ne _ _ (by omega)).trans ((va_up_ne _ _ (by omega)).trans ((va_up_ne _ _ (by omega)).trans ((va_up_ne _ _ (by omega)).trans (va_up_self _ _ _))))) rfl inX4 3 (by decide) q2_59 rfl rfl dX4_init_23 ?_
  refine j_aload_n C dX4_init_26 3 rfl rfl ?_
  obtain ⟨r3, hr3, hg⟩ := ob hg
  refine j_ct (cl_self (k := t + 1) ((va_up_ne _ _ (by omega)).trans ((va_up_ne _ _ (by omega)).trans ((va_up_ne _ _ (by omega)).trans (va_up_self _ _ _)))) ((va_up_ne _ _ (by omega)).trans (va_up_self _ _ _)) (va_up_self _ _ _)).symm ?_
  refine j_callV C [.ref (z + k)] (tX3_become (k := t + 1) (q := k) (by omega) ((va_up_ne _ _ (by omega)).trans ((va_up_ne _ _ (by omega)).trans (va_up_self _ _ _))) (by omega) ((va_up_ne _ _ (by omega)).trans ((va_up_ne _ _ (by omega)).trans ((va_up_ne _ _ (by omega)).trans ((va_up_ne _ _ (by omega)).trans ((va_up_ne _ _ (by omega)).trans hC))))) ⟨by omega, ((va_up_ne _ _ (by omega)).trans ((va_up_ne _ _ (by omega)).trans ((va_up_ne _ _ (by omega)).trans ((va_up_ne _ _ (by omega)).trans ((va_up_ne _ _ (by omega)).trans hR.2.1))))), ((va_up_ne _ _ (by omega)).trans ((va_up_ne _ _ (by omega)).trans ((va_up_ne _ _ (by omega)).trans ((va_up_ne _ _ (by omega)).trans ((va_up_ne _ _ (by omega)).trans hR.2.2.1))))), ((va_up_ne _ _ (by omega)).trans ((va_up_ne _ _ (by omega)).trans ((va_up_ne _ _ (by omega)).trans ((va_up_ne _ _ (by omega)).trans ((va_up_ne _ _ (by omega)).trans hR.2.2.2)))))⟩ (by omega) hr3) (by omega) ((va_up_ne _ _ (by omega)).trans ((va_up_ne _ _ (by omega)).trans (va_up_self _ _ _))) rfl q2_52 q1_4 q2_50 q2_51 q2_49 hd_X3_become rfl dX4_init_27 rfl (Nat.le_of_ble_eq_true rfl) ⟨(Nat.le_of_ble_eq_true rfl), (Nat.le_of_ble_eq_true rfl)⟩ ⟨(Nat.le_of_ble_eq_true rfl), (Nat.le_of_ble_eq_true rfl)⟩ (j_ct ((congrArg (fun c9 => va_up (va_up c9 (t + 3) (cD G 16 r3.2.2.2.2.2.1)) (t + 4) (cZ G 16 r3.2.2.2.2.2.2)) (un5_2 (by omega) (by omega) (by omega))).trans ((congrArg (fun c9 => va_up c9 (t + 4) (cZ G 16 r3.2.2.2.2.2.2)) (un5_4 (by omega))).trans un5_5)) ?_)
  refine j_wide (k := 4) (n := 40) (Nat.le_of_ble_eq_true rfl) (Nat.le_of_ble_eq_true rfl) ?_
  exact j_vret C dX4_init_30 rfl (by first | rfl | (rw [← Option.some.inj hg] <;> rfl)) rfl

def gX7_takeBack (n : Nat) (f : Nat → UInt64) (h : Nat → Int32) (pl : Int32) (nb : UInt64) (bk : Int32) : Option ((Nat → UInt64) × (Nat → Int32)) := if bk = 0 then ((gX8_put n f h pl nb).bind (fun r1 => some (r1.1, r1.2))) else ((gX8_clear n f h pl).bind (fun r2 => some (r2.1, r2.2)))
theorem hd_X7_takeBack : yX7_takeBack.cls ≠ "java/lang/invoke/MethodHandle" ∧ yX7_takeBack.cls ≠ "java/lang/invoke/VarHandle" ∧ (parseMethodDescriptor yX7_takeBack.desc).map (fun d => d.parameters.length) = some 0 := by decide +kernel
set_option maxHeartbeats 4000000 in
set_option maxRecDepth 100000 in
theorem tX7_takeBack {G : GG} {l : Launch} {z N : Nat} {ct : Nat → va_E} {t q n : Nat} {w : Value} {w1 pl bk : Int32} {nb : UInt64} {f : Nat → UInt64} {h : Nat → Int32} (htN : t < N) (hqt : q + 2 < t) (hr : ct q = rdO z q) (hT : ct t = .inr (3, [w, .int w1, .ref (z + q), .int pl, .double nb, .int bk])) {r : (Nat → UInt64) × (Nat → Int32)} (hg : gX7_takeBack n f h pl nb bk = some r) : Ct G l yX7_takeBack cX7_takeBack 1 none ({ frames := 1, cells := 0, slots := 0, locals := 23 } : Room) [.ref (z + t)] z (va_up (va_up ct (q + 1) (cD G n f)) (q + 2) (cZ G n h)) N none (va_up (va_up ct (q + 1) (cD G n r.1)) (q + 2) (cZ G n r.2)) N := by
  refine Ct.of (lv := [(0, .ref (z + t))]) (by decide +kernel) (Nat.le_of_ble_eq_true rfl) rfl (fun p e s m args below meth c C => ?_)
  rw [gX7_takeBack] at hg
  refine j_aload_n C dX7_takeBack_0 0 rfl rfl ?_
  refine j_get (fs := [w, .int w1, .ref (z + q), .int pl, .double nb, .int bk]) (v := .int bk) C (by omega) ((va_up_ne _ _ (by omega)).trans ((va_up_ne _ _ (by omega)).trans hT)) rfl inX7 5 (by decide) q1_197 rfl rfl dX7_takeBack_1 ?_
  refine j_if_eq C 21 hg dX7_takeBack_4 (by decide) (fun hg => ?_) (fun hg => ?_)
  · refine j_aload_n C dX7_takeBack_21 0 rfl rfl ?_
    refine j_get (fs := [w, .int w1, .ref (z + q), .int pl, .double nb, .int bk]) (v := .ref (z + q)) C (by omega) ((va_up_ne _ _ (by omega)).trans ((va_up_ne _ _ (by omega)).trans hT)) rfl inX7 2 (by decide) q1_194 rfl rfl dX7_takeBack_22 ?_
    refine j_aload_n C dX7_takeBack_25 0 rfl rfl ?_
    refine j_get (fs := [w, .int w1, .ref (z + q), .int pl, .double nb, .int bk]) (v := .int pl) C (by omega) ((va_up_ne _ _ (by omega)).trans ((va_up_ne _ _ (by omega)).trans hT)) rfl inX7 3 (by decide) q1_195 rfl rfl dX7_takeBack_26 ?_
    refine j_aload_n C dX7_takeBack_29 0 rfl rfl ?_
    refine j_get (fs := [w, .int w1, .ref (z + q), .int pl, .double nb, .int bk]) (v := .double nb) C (by omega) ((va_up_ne _ _ (by omega)).trans ((va_up_ne _ _ (by omega)).trans hT)) rfl inX7 4 (by decide) q1_196 rfl rfl dX7_takeBack_30 ?_
    obtain ⟨r1, hr1, hg⟩ := ob hg
    refine j_ct (rdS_self (r := q) (lk2_1 (by omega)) lk2_2).symm ?_
    refine j_callV C [.int pl, .double nb] (tX8_put (ct := va_up (va_up ct (q + 1) (cD G n f)) (q + 2) (cZ G n h)) (by omega) ((va_up_ne _ _ (by omega)).trans ((va_up_ne _ _ (by omega)).trans hr)) pl nb hr1) (by omega) ((rdS_ne (by omega) (by omega)).trans ((va_up_ne _ _ (by omega)).trans ((va_up_ne _ _ (by omega)).trans hr))) rfl q1_233 q1_2 q1_231 q1_232 q3_5 hd_X8_put rfl dX7_takeBack_33 rfl (Nat.le_of_ble_eq_true rfl) ⟨(Nat.le_of_ble_eq_true rfl), (Nat.le_of_ble_eq_true rfl)⟩ ⟨(Nat.le_of_ble_eq_true rfl), (Nat.le_of_ble_eq_true rfl)⟩ (j_ct ((congrArg (fun c9 => va_up c9 (q + 2) (cZ G n r1.2)) (un2_1 (by omega))).trans un2_2) ?_)
    exact j_vret C dX7_takeBack_36 rfl (by rw [← Option.some.inj hg] <;> rfl) rfl
  · refine j_aload_n C dX7_takeBack_7 0 rfl rfl ?_
    refine j_get (fs := [w, .int w1, .ref (z + q), .int pl, .double nb, .int bk]) (v := .ref (z + q)) C (by omega) ((va_up_ne _ _ (by omega)).trans ((va_up_ne _ _ (by omega)).trans hT)) rfl inX7 2 (by decide) q1_194 rfl rfl dX7_takeBack_8 ?_
    refine j_aload_n C dX7_takeBack_11 0 rfl rfl ?_
    refine j_get (fs := [w, .int w1, .ref (z + q), .int pl, .double nb, .int bk]) (v := .int pl) C (by omega) ((va_up_ne _ _ (by omega)).trans ((va_up_ne _ _ (by omega)).trans hT)) rfl inX7 3 (by decide) q1_195 rfl rfl dX7_takeBack_12 ?_
    obtain ⟨r2, hr2, hg⟩ := ob hg
    refine j_ct (rdS_self (r := q) (lk2_1 (by omega)) lk2_2).symm ?_
    refine j_callV C [.int pl] (tX8_clear (ct := va_up (va_up ct (q + 1) (cD G n f)) (q + 2) (cZ G n h)) (by omega) ((va_up_ne _ _ (by omega)).trans ((va_up_ne _ _ (by omega)).trans hr)) pl hr2) (by omega) ((rdS_ne (by omega) (by omega)).trans ((va_up_ne _ _ (by omega)).trans ((va_up_ne _ _ (by omega)).trans hr))) rfl q2_8 q1_2 q2_6 q2_7 q3_4 hd_X8_clear rfl dX7_takeBack_15 rfl (Nat.le_of_ble_eq_true rfl) ⟨(Nat.le_of_ble_eq_true rfl), (Nat.le_of_ble_eq_true rfl)⟩ ⟨(Nat.le_of_ble_eq_true rfl), (Nat.le_of_ble_eq_true rfl)⟩ (j_ct ((congrArg (fun c9 => va_up c9 (q + 2) (cZ G n r2.2)) (un2_1 (by omega))).trans un2_2) ?_)
    refine j_goto C 36 dX7_takeBack_18 (by decide) ?_
    exact j_vret C dX7_takeBack_36 rfl (by rw [← Option.some.inj hg] <;> rfl) rfl

def gX4_takeBack (nar : Int32) (ff : Int32) (fa : Int32) (fb : Int32) (fc : Int32) (F : Nat → UInt64) (H : Nat → Int32) (nar2 : Int32) (ff2 : Int32) (fa2 : Int32) (fb2 : Int32) (fc2 : Int32) (F2 : Nat → UInt64) (H2 : Nat → Int32) : Option (Int32 × Int32 × Int32 × Int32 × Int32 × (Nat → UInt64) × (Nat → Int32)) := (gX3_become nar ff fa fb fc F H nar2 ff2 fa2 fb2 fc2 F2 H2).bind (fun r1 => some (r1.1, r1.2.1, r1.2.2.1, r1.2.2.2.1, r1.2.2.2.2.1, r1.2.2.2.2.2.1, r1.2.2.2.2.2.2))
theorem hd_X4_takeBack : yX4_takeBack.cls ≠ "java/lang/invoke/MethodHandle" ∧ yX4_takeBack.cls ≠ "java/lang/invoke/VarHandle" ∧ (parseMethodDescriptor yX4_takeBack.desc).map (fun d => d.parameters.length) = some 0 := by decide +kernel
set_option maxHeartbeats 4000000 in
set_option maxRecDepth 100000 in
theorem tX4_takeBack {G : GG} {l : Launch} {z N : Nat} {ct : Nat → va_E} {t k : Nat} {w : Value} {w1 : Int32} {nar2 ff2 fa2 fb2 fc2 : Int32} {F2 : Nat → UInt64} {H2 : Nat → Int32} {nar : Int32} {ff : Int32} {fa : Int32} {fb : Int32} {fc : Int32} {F : Nat → UInt64} {H : Nat → Int32} (htN : t + 4 < N) (hkt : k + 3 < t) (hr : ct (k + 1) = rdO z (k + 1)) (hT : ct t = .inr (2, [w, .int w1, .ref (z + k), .ref (z + (t + 1))])) (hC : ct (t + 1) = coO z (t + 1) nar2 ff2 fa2 fb2 fc2) (hR : RdAt G z ct N (t + 1 + 1) 16 F2 H2) {r : Int32 × Int32 × Int32 × Int32 × Int32 × (Nat → UInt64) × (Nat → Int32)} (hg : gX4_takeBack nar ff fa fb fc F H nar2 ff2 fa2 fb2 fc2 F2 H2 = some r) : Ct G l yX4_takeBack cX4_takeBack 1 none ({ frames := 3, cells := 0, slots := 0, locals := 68 } : Room) [.ref (z + t)] z (va_up (va_up (va_up ct k (.inr (1, [.ref (z + (k + 1)), .int nar, .int ff, .int fa, .int fb, .int fc]))) (k + 2) (cD G 16 F)) (k + 3) (cZ G 16 H)) N none (va_up (va_up (va_up ct k (.inr (1, [.ref (z + (k + 1)), .int r.1, .int r.2.1, .int r.2.2.1, .int r.2.2.2.1, .int r.2.2.2.2.1]))) (k + 2) (cD G 16 r.2.2.2.2.2.1)) (k + 3) (cZ G 16 r.2.2.2.2.2.2)) N := by
  refine Ct.of (lv := [(0, .ref (z + t))]) (by decide +kernel) (Nat.le_of_ble_eq_true rfl) rfl (fun p e s m args below meth c C => ?_)
  rw [gX4_takeBack] at hg
  refine j_aload_n C dX4_takeBack_0 0 rfl rfl ?_
  refine j_get (fs := [w, .int w1, .ref (z + k), .ref (z + (t + 1))]) (v := .ref (z + k)) C (by omega) ((va_up_ne _ _ (by omega)).trans ((va_up_ne _ _ (by omega)).trans ((va_up_ne _ _ (by omega)).trans hT))) rfl inX4 2 (by decide) q2_58 rfl rfl dX4_takeBack_1 ?_
  refine j_aload_n C dX4_takeBack_4 0 rfl rfl ?_
  refine j_get (fs := [w, .int w1, .ref (z + k), .ref (z + (t + 1))]) (v := .ref (z + (t + 1))) C (by omega) ((va_up_ne _ _ (by omega)).trans ((va_up_ne _ _ (by omega)).trans ((va_up_ne _ _ (by omega)).trans hT))) rfl inX4 3 (by decide) q2_59 rfl rfl dX4_takeBack_5 ?_
  obtain ⟨r1, hr1, hg⟩ := ob hg
  refine j_callV C [.ref (z + (t + 1))] (tX3_become (k := k) (q := t + 1) (ct := ct) (by omega) hr (by omega) hC hR (by omega) hr1) (by omega) (lk3_1 (by omega) (by omega)) rfl q2_52 q1_4 q2_50 q2_51 q2_49 hd_X3_become rfl dX4_takeBack_8 rfl (Nat.le_of_ble_eq_true rfl) ⟨(Nat.le_of_ble_eq_true rfl), (Nat.le_of_ble_eq_true rfl)⟩ ⟨(Nat.le_of_ble_eq_true rfl), (Nat.le_of_ble_eq_true rfl)⟩ ?_
  exact j_vret C dX4_takeBack_11 rfl (by rw [← Option.some.inj hg] <;> rfl) rfl
