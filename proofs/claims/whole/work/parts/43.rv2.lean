theorem mn_nn {x y : UInt64} (hx : NN x) (hy : NN y) : NN (mnv x y) := by unfold mnv; split <;> assumption
theorem mx_nn {x y : UInt64} (hx : NN x) (hy : NN y) : NN (mxv x y) := by unfold mxv; split <;> assumption
theorem mnC {x y : UInt64} (hx : NN x) (hy : NN y) : gX6_lesser x y = some (mnv x y) := minC hx hy
theorem mxC {x y : UInt64} (hx : NN x) (hy : NN y) : gX6_greater x y = some (mxv x y) := maxC hx hy
theorem p31 {p : Nat} (h : p < 16) : p < 2147483648 := by omega
theorem st_x {nar ff fc : Int32} {X : Nat → UInt64} {XB : Nat → Int32} {Y : Nat → UInt64} {YB : Nat → Int32} (hX : Ar nar X XB) (hf : ff ≤ 8) (F : Nat → UInt64) (H : Nat → Int32) {p : Nat} (hp : p < 16) :
    ∃ r, stp nar ff fc X XB Y YB F H (Int32.ofNat p) = some r ∧ Up F H p (RV nar ff fc X XB Y YB p) r := by
  obtain ⟨x1, x2, x3⟩ := hX p hp
  unfold stp RV
  rw [c_clear F H hp (p31 hp)]
  simp only [Option.bind_some]
  rw [if_neg (by rw [i32_lt]; rw [i32_le] at hf; omega), if_pos hf]
  unfold gX9_fromX
  rw [c_blank _ _ hp (p31 hp) x2, c_at _ _ hp (p31 hp)]
  simp only [Option.bind_some]
  by_cases hb : XB p = 0
  · rw [if_pos hb, if_pos hb, (ofOne ff (X p) nar x1).1]
    simp only [Option.bind_some]
    rw [c_put _ _ _ hp (p31 hp)]
    exact ⟨_, rfl, up_put F H p _⟩
  · rw [if_neg hb, if_neg hb]
    exact ⟨_, rfl, up_none F H p⟩
theorem st_b {nar ff fc : Int32} {X : Nat → UInt64} {XB : Nat → Int32} {Y : Nat → UInt64} {YB : Nat → Int32} (hX : Ar nar X XB) (hY : Ar nar Y YB) (h1 : 9 ≤ ff.toInt) (h2 : ff.toInt ≤ 16 ∨ ff.toInt = 26) (F : Nat → UInt64) (H : Nat → Int32) {p : Nat} (hp : p < 16) :
    ∃ r, stp nar ff fc X XB Y YB F H (Int32.ofNat p) = some r ∧ Up F H p (RV nar ff fc X XB Y YB p) r := by
  obtain ⟨x1, x2, x3⟩ := hX p hp
  obtain ⟨y1, y2, y3⟩ := hY p hp
  have e8 : (8 : Int32).toInt = 8 := rfl
  have e16 : (16 : Int32).toInt = 16 := rfl
  have e26 : (26 : Int32).toInt = 26 := rfl
  have eR : RV nar ff fc X XB Y YB p = (if XB p = 0 ∧ YB p = 0 then wv ff (X p) (Y p) nar else (FP.dconst0, 1)) := by
    unfold RV
    rw [if_neg (by rw [i32_le, e8]; omega), if_pos (by rw [i32_le, i32_eq, e16, e26]; exact h2)]
  rw [eR]
  unfold stp
  rw [c_clear F H hp (p31 hp)]
  simp only [Option.bind_some]
  rw [if_pos (by rw [i32_lt, e8]; omega)]
  have e : ∀ A : Option AA, (if ff ≤ (16 : Int32) then A else if ff = (26 : Int32) then A else gX9_fromRow nar ff fc X XB Y YB (vf_upd F p FP.dconst0) (upd H p 1) (Int32.ofNat p)) = A := by
    intro A
    by_cases c : ff ≤ 16
    · rw [if_pos c]
    · rw [if_neg c, if_pos]
      rw [i32_le, e16] at c
      rw [i32_eq, e26]; omega
  rw [e]
  unfold gX9_fromBoth
  rw [c_blank _ _ hp (p31 hp) x2, c_at _ _ hp (p31 hp), c_blank _ _ hp (p31 hp) y2, c_at _ _ hp (p31 hp)]
  simp only [Option.bind_some]
  by_cases hb : XB p = 0
  · by_cases hc : YB p = 0
    · rw [if_pos hb, if_pos hc, if_pos ⟨hb, hc⟩, voidC ff _ _ x1.1 y1.1]
      simp only [Option.bind_some]
      unfold wv
      by_cases hv : vd ff (X p) (Y p) = 0
      · rw [if_pos hv, if_pos hv, (ofTwo ff _ _ nar x1 y1 h1 h2 hv).1]
        simp only [Option.bind_some]
        rw [c_put _ _ _ hp (p31 hp)]
        exact ⟨_, rfl, up_put F H p _⟩
      · rw [if_neg hv, if_neg hv]
        exact ⟨_, rfl, up_none F H p⟩
    · rw [if_pos hb, if_neg hc, if_neg (fun h => hc h.2)]
      exact ⟨_, rfl, up_none F H p⟩
  · rw [if_neg hb, if_neg (fun h => hb h.1)]
    exact ⟨_, rfl, up_none F H p⟩
theorem st_17 {nar fc : Int32} {X : Nat → UInt64} {XB : Nat → Int32} {Y : Nat → UInt64} {YB : Nat → Int32} (hX : Ar nar X XB) (hY : Ar nar Y YB) (hc : 0 ≤ fc.toInt ∧ fc.toInt ≤ 11) (F : Nat → UInt64) (H : Nat → Int32) {p : Nat} (hp : p < 16) :
    ∃ r, stp nar 17 fc X XB Y YB F H (Int32.ofNat p) = some r ∧ Up F H p (RV nar 17 fc X XB Y YB p) r := by
  obtain ⟨x1, x2, x3⟩ := hX p hp
  obtain ⟨y1, y2, y3⟩ := hY p hp
  have eR : RV nar 17 fc X XB Y YB p = (if XB p = 0 ∧ so fc (X p) (XB p) (Y p) (YB p) ≠ 0 then (X p, 0) else (FP.dconst0, 1)) := rfl
  have eS : stp nar 17 fc X XB Y YB F H (Int32.ofNat p) = (gX8_clear 16 F H (Int32.ofNat p)).bind (fun r1 => (gX9_keep nar 17 fc X XB Y YB r1.1 r1.2 (Int32.ofNat p) fc).bind (fun r12 => some (r12.1, r12.2))) := rfl
  rw [eR, eS, c_clear F H hp (p31 hp)]
  simp only [Option.bind_some]
  unfold gX9_keep
  have hi : ix (Int32.ofNat p) 16 := (ixo (p31 hp)).mpr hp
  have es := isSoC 16 X XB 16 Y YB fc (Int32.ofNat p) (Int32.ofNat p) hc hi hi (by rw [tn (p31 hp)]; exact x2) (by rw [tn (p31 hp)]; exact y2) (by rw [tn (p31 hp)]; exact x1.1) (by rw [tn (p31 hp)]; exact y1.1)
  rw [tn (p31 hp)] at es
  rw [c_blank _ _ hp (p31 hp) x2, c_at _ _ hp (p31 hp), es]
  simp only [Option.bind_some]
  rw [c_put _ _ _ hp (p31 hp)]
  simp only [Option.bind_some]
  by_cases hb : XB p = 0
  · rw [if_pos hb]
    by_cases hs : so fc (X p) (XB p) (Y p) (YB p) = 0
    · rw [if_pos hs, if_neg (fun h => h.2 hs)]
      exact ⟨_, rfl, up_none F H p⟩
    · rw [if_neg hs, if_pos ⟨hb, hs⟩]
      exact ⟨_, rfl, up_put F H p _⟩
  · rw [if_neg hb, if_neg (fun h => hb h.1)]
    exact ⟨_, rfl, up_none F H p⟩
theorem br00 (x : UInt64) : br 0 x = x := rfl
theorem st_18 {nar fc : Int32} {X : Nat → UInt64} {XB : Nat → Int32} {Y : Nat → UInt64} {YB : Nat → Int32} (hX : Ar nar X XB) (hY : Ar nar Y YB) (F : Nat → UInt64) (H : Nat → Int32) {p : Nat} (hp : p < 16) :
    ∃ r, stp nar 18 fc X XB Y YB F H (Int32.ofNat p) = some r ∧ Up F H p (RV nar 18 fc X XB Y YB p) r := by
  obtain ⟨x1, x2, x3⟩ := hX p hp
  obtain ⟨y1, y2, y3⟩ := hY p hp
  have eR : RV nar 18 fc X XB Y YB p = (if XB p = 0 then (X p, 0) else (Y p, YB p)) := rfl
  have eS : stp nar 18 fc X XB Y YB F H (Int32.ofNat p) = (gX8_clear 16 F H (Int32.ofNat p)).bind (fun r1 => (gX8_blankAt 16 X XB (Int32.ofNat p)).bind (fun r9 => if r9 = 0 then ((gX8_putBrought 16 r1.1 r1.2 16 X XB (Int32.ofNat p) (Int32.ofNat p) (0 : Int32)).bind (fun r10 => some (r10.1, r10.2))) else ((gX8_putBrought 16 r1.1 r1.2 16 Y YB (Int32.ofNat p) (Int32.ofNat p) (0 : Int32)).bind (fun r11 => some (r11.1, r11.2))))) := rfl
  rw [eR, eS, c_clear F H hp (p31 hp)]
  simp only [Option.bind_some]
  rw [c_blank _ _ hp (p31 hp) x2, c_putB _ _ _ _ _ hp (p31 hp) hp (p31 hp) x1.1 x2, c_putB _ _ _ _ _ hp (p31 hp) hp (p31 hp) y1.1 y2]
  simp only [Option.bind_some]
  by_cases hb : XB p = 0
  · rw [if_pos hb, if_pos hb, br00, hb]
    exact ⟨_, rfl, up_put F H p _⟩
  · rw [if_neg hb, if_neg hb, br00]
    refine ⟨_, rfl, fun q => ?_⟩
    unfold vf_upd upd
    by_cases h : q = p <;> simp [h]
theorem st_24 {nar fc : Int32} {X : Nat → UInt64} {XB : Nat → Int32} {Y : Nat → UInt64} {YB : Nat → Int32} (hX : Ar nar X XB) (F : Nat → UInt64) (H : Nat → Int32) {p : Nat} (hp : p < 16) :
    ∃ r, stp nar 24 fc X XB Y YB F H (Int32.ofNat p) = some r ∧ Up F H p (RV nar 24 fc X XB Y YB p) r := by
  obtain ⟨x1, x2, x3⟩ := hX p hp
  have eR : RV nar 24 fc X XB Y YB p = (if 1 ≤ p ∧ XB p = 0 ∧ XB (p - 1) = 0 ∧ vd 10 (X p) (X (p - 1)) = 0 then (sm nar (X p) (FP.dneg (X (p - 1))), 0) else (FP.dconst0, 1)) := rfl
  have eS : stp nar 24 fc X XB Y YB F H (Int32.ofNat p) = (gX8_clear 16 F H (Int32.ofNat p)).bind (fun r1 => (gX9_step nar 24 fc X XB Y YB r1.1 r1.2 (Int32.ofNat p) nar).bind (fun r3 => some (r3.1, r3.2))) := rfl
  rw [eR, eS, c_clear F H hp (p31 hp)]
  simp only [Option.bind_some]
  unfold gX9_step
  rw [show (1 : Int32) = Int32.ofNat 1 from rfl]
  cases p with
  | zero =>
    rw [if_pos (by decide), if_neg (by omega)]
    exact ⟨_, rfl, up_none F H 0⟩
  | succ p =>
    have hp' : p < 16 := by omega
    obtain ⟨z1, z2, z3⟩ := hX p hp'
    rw [if_neg (by rw [o_lt (p31 hp) (by decide)]; omega), show Int32.ofNat (p + 1) - Int32.ofNat 1 = Int32.ofNat p from o_sub1, Nat.add_sub_cancel]
    rw [c_blank _ _ hp (p31 hp) x2, c_at _ _ hp (p31 hp), c_blank _ _ hp' (p31 hp') z2, c_at _ _ hp' (p31 hp')]
    simp only [Option.bind_some]
    rw [voidC _ _ _ x1.1 z1.1]
    simp only [Option.bind_some]
    by_cases hb : XB (p + 1) = 0
    · rw [if_pos hb]
      by_cases hc : XB p = 0
      · rw [if_pos hc]
        by_cases hv : vd 10 (X (p + 1)) (X p) = 0
        · have e' : gX6_sum (X (p + 1)) (FP.dneg (X p)) nar = some (sm nar (X (p + 1)) (FP.dneg (X p))) := by
            have e := (ofTwo 10 _ _ nar x1 z1 (by decide) (by decide) hv).1
            have : (gX6_sum (X (p + 1)) (FP.dneg (X p)) nar).bind (fun r => some r) = some (sm nar (X (p + 1)) (FP.dneg (X p))) := e
            rwa [bsf] at this
          rw [if_pos hv, if_pos ⟨by omega, hb, hc, hv⟩, e']
          simp only [Option.bind_some]
          rw [c_put _ _ _ hp (p31 hp)]
          exact ⟨_, rfl, up_put F H _ _⟩
        · rw [if_neg hv, if_neg (fun h => hv h.2.2.2)]
          exact ⟨_, rfl, up_none F H _⟩
      · rw [if_neg hc, if_neg (fun h => hc h.2.2.1)]
        exact ⟨_, rfl, up_none F H _⟩
    · rw [if_neg hb, if_neg (fun h => hb h.2.1)]
      exact ⟨_, rfl, up_none F H _⟩
