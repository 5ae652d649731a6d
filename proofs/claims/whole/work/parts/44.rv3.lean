theorem st_19 {nar fc : Int32} {X : Nat → UInt64} {XB : Nat → Int32} {Y : Nat → UInt64} {YB : Nat → Int32} (hX : Ar nar X XB) (F : Nat → UInt64) (H : Nat → Int32) {p : Nat} (hp : p < 16) :
    ∃ r, stp nar 19 fc X XB Y YB F H (Int32.ofNat p) = some r ∧ Up F H p (RV nar 19 fc X XB Y YB p) r := by
  have eR : RV nar 19 fc X XB Y YB p = (if 1 ≤ p ∧ p ≤ 14 ∧ many XB (p - 1) (p + 2) = 3 then sel X XB (p - 1) (p + 2) 1 (p + 2) else (FP.dconst0, 1)) := rfl
  have eS : stp nar 19 fc X XB Y YB F H (Int32.ofNat p) = (gX8_clear 16 F H (Int32.ofNat p)).bind (fun r1 => (gX9_middle nar 19 fc X XB Y YB r1.1 r1.2 (Int32.ofNat p)).bind (fun r3 => some (r3.1, r3.2))) := rfl
  rw [eR, eS, c_clear F H hp (p31 hp)]
  simp only [Option.bind_some]
  unfold gX9_middle
  rw [show (1 : Int32) = Int32.ofNat 1 from rfl, show (16 : Int32) = Int32.ofNat 16 from rfl]
  cases p with
  | zero =>
    rw [if_pos (by decide), if_neg (by omega)]
    exact ⟨_, rfl, up_none F H 0⟩
  | succ p =>
    rw [if_neg (by rw [o_lt (p31 hp) (by decide)]; omega), show Int32.ofNat (p + 1) - Int32.ofNat 1 = Int32.ofNat p from o_sub1, o_add, Nat.add_sub_cancel]
    by_cases h14 : p + 1 + 1 < 16
    · rw [if_pos (by rw [o_lt (p31 h14) (by decide)]; omega)]
      have hp' : p < 16 := by omega
      obtain ⟨x1, x2, x3⟩ := hX (p + 1) hp
      obtain ⟨z1, z2, z3⟩ := hX p hp'
      obtain ⟨w1, w2, w3⟩ := hX (p + 1 + 1) h14
      rw [c_blank _ _ hp (p31 hp) x2, c_at _ _ hp (p31 hp), c_blank _ _ hp' (p31 hp') z2, c_at _ _ hp' (p31 hp'), c_blank _ _ h14 (p31 h14) w2, c_at _ _ h14 (p31 h14)]
      simp only [Option.bind_some]
      rw [mnC z1.1 x1.1, mxC z1.1 x1.1]
      simp only [Option.bind_some]
      rw [mnC (mx_nn z1.1 x1.1) w1.1]
      simp only [Option.bind_some]
      rw [mxC (mn_nn z1.1 x1.1) (mn_nn (mx_nn z1.1 x1.1) w1.1)]
      simp only [Option.bind_some]
      have c3 : ∀ f : Nat → Bool, (∀ q, q < p → f q = false) → cnt f (p + 1 + 2) = (if f p = true then 1 else 0) + (if f (p + 1) = true then 1 else 0) + (if f (p + 1 + 1) = true then 1 else 0) := by
        intro f hf
        show cnt f p + (if f p = true then 1 else 0) + (if f (p + 1) = true then 1 else 0) + (if f (p + 1 + 1) = true then 1 else 0) = _
        rw [cnt_zero hf]; omega
      have cm : many XB p (p + 1 + 2) = (if XB p = 0 then 1 else 0) + (if XB (p + 1) = 0 then 1 else 0) + (if XB (p + 1 + 1) = 0 then 1 else 0) := by
        unfold many
        rw [c3 _ (fun q hq => by simp; omega)]
        simp only [decide_eq_true_eq, Nat.le_refl, true_and, show p ≤ p + 1 by omega, show p ≤ p + 1 + 1 by omega]
      have cl : XB p = 0 → XB (p + 1) = 0 → XB (p + 1 + 1) = 0 → ∀ w, lows X XB p (p + 1 + 2) w = (if ok (X p) < w then 1 else 0) + (if ok (X (p + 1)) < w then 1 else 0) + (if ok (X (p + 1 + 1)) < w then 1 else 0) := by
        intro a b c w
        unfold lows
        rw [c3 _ (fun q hq => by simp; omega)]
        simp only [decide_eq_true_eq, Nat.le_refl, true_and, a, b, c, show p ≤ p + 1 by omega, show p ≤ p + 1 + 1 by omega]
      rw [cm]
      by_cases hb : XB p = 0
      · by_cases hc : XB (p + 1) = 0
        · by_cases hd : XB (p + 1 + 1) = 0
          · rw [if_pos hb, if_pos hc, if_pos hd, if_pos hb, if_pos hc, if_pos hd, if_pos ⟨by omega, by omega, rfl⟩, c_put _ _ _ hp (p31 hp)]
            refine ⟨_, rfl, ?_⟩
            have hs : sel X XB p (p + 1 + 2) ((1 : Nat) : Int) (p + 1 + 2) = (mxv (mnv (X p) (X (p + 1))) (mnv (mxv (X p) (X (p + 1))) (X (p + 1 + 1))), 0) := by
              refine sel_is ?_ ?_
              · rw [cl hb hc hd]
                unfold mxv mnv
                (repeat' split) <;> omega
              · rw [cl hb hc hd]
                unfold mxv mnv
                (repeat' split) <;> omega
            rw [show (1 : Int) = ((1 : Nat) : Int) from rfl, hs]
            exact up_put F H _ _
          · rw [if_pos hb, if_pos hc, if_neg hd, if_pos hb, if_pos hc, if_neg hd, if_neg (by omega)]
            exact ⟨_, rfl, up_none F H _⟩
        · rw [if_pos hb, if_neg hc, if_pos hb, if_neg hc, if_neg (by split <;> omega)]
          exact ⟨_, rfl, up_none F H _⟩
      · rw [if_neg hb, if_neg hb, if_neg (by split <;> split <;> omega)]
        exact ⟨_, rfl, up_none F H _⟩
    · rw [if_neg (by rw [o_lt (by omega) (by decide)]; omega), if_neg (by omega)]
      exact ⟨_, rfl, up_none F H _⟩
theorem st_23 {nar fc : Int32} {X : Nat → UInt64} {XB : Nat → Int32} {Y : Nat → UInt64} {YB : Nat → Int32} (hX : Ar nar X XB) (F : Nat → UInt64) (H : Nat → Int32) {p : Nat} (hp : p < 16) :
    ∃ r, stp nar 23 fc X XB Y YB F H (Int32.ofNat p) = some r ∧ Up F H p (RV nar 23 fc X XB Y YB p) r := by
  obtain ⟨x1, x2, x3⟩ := hX p hp
  have eR : RV nar 23 fc X XB Y YB p = (if XB p = 0 then (FP.i2d (Int32.ofNat (csl X XB p 16)), 0) else (FP.dconst0, 1)) := rfl
  have eS : stp nar 23 fc X XB Y YB F H (Int32.ofNat p) = (gX8_clear 16 F H (Int32.ofNat p)).bind (fun r1 => (gX9_countLess nar 23 fc X XB Y YB r1.1 r1.2 (Int32.ofNat p)).bind (fun r3 => some (r3.1, r3.2))) := rfl
  have lp : ∀ (F0 : Nat → UInt64) (H0 : Nat → Int32) (k f q : Nat), q + k = 16 → k < f → lq4 (gX9_countLess_17 nar 23 fc X XB Y YB F0 H0 (Int32.ofNat p)) f F0 H0 (Int32.ofNat (csl X XB p q)) (Int32.ofNat q) = some (vf_upd F0 p (FP.i2d (Int32.ofNat (csl X XB p 16))), upd H0 p 0) := by
    intro F0 H0 k
    induction k with
    | zero =>
      intro f q hq hf
      obtain ⟨f, rfl⟩ : ∃ g, f = g + 1 := ⟨f - 1, by omega⟩
      obtain rfl : q = 16 := by omega
      show gX9_countLess_17 nar 23 fc X XB Y YB F0 H0 (Int32.ofNat p) _ _ _ _ _ = _
      unfold gX9_countLess_17
      rw [if_pos (by decide), c_put _ _ _ hp (p31 hp)]
      rfl
    | succ k ih =>
      intro f q hq hf
      obtain ⟨f, rfl⟩ : ∃ g, f = g + 1 := ⟨f - 1, by omega⟩
      have hq16 : q < 16 := by omega
      obtain ⟨z1, z2, z3⟩ := hX q hq16
      have := ih f (q + 1) (by omega) (by omega)
      show gX9_countLess_17 nar 23 fc X XB Y YB F0 H0 (Int32.ofNat p) (lq4 (gX9_countLess_17 nar 23 fc X XB Y YB F0 H0 (Int32.ofNat p)) f) _ _ _ _ = _
      generalize lq4 (gX9_countLess_17 nar 23 fc X XB Y YB F0 H0 (Int32.ofNat p)) f = K at this ⊢
      unfold gX9_countLess_17 gX9_countLess_60
      rw [if_neg (by rw [show (16 : Int32) = Int32.ofNat 16 from rfl, o_le (by decide) (p31 hq16)]; omega), c_blank _ _ hq16 (p31 hq16) z2, c_at _ _ hq16 (p31 hq16), c_at _ _ hp (p31 hp)]
      simp only [Option.bind_some]
      rw [cv z1.1 x1.1]
      simp only [cq_ge, o_succ]
      have ec : csl X XB p (q + 1) = csl X XB p q + (if XB q = 0 ∧ dk (X q) < dk (X p) then 1 else 0) := by
        show cnt _ q + _ = _
        simp only [decide_eq_true_eq]; rfl
      rw [ec] at this
      by_cases hb : XB q = 0
      · rw [if_pos hb]
        by_cases hd : dk (X p) ≤ dk (X q)
        · rw [if_pos hd]; rw [if_neg (by omega)] at this; exact this
        · rw [if_neg hd]; rw [if_pos ⟨hb, by omega⟩] at this; exact this
      · rw [if_neg hb]; rw [if_neg (fun h => hb h.1)] at this; exact this
  rw [eR, eS, c_clear F H hp (p31 hp)]
  simp only [Option.bind_some]
  unfold gX9_countLess
  rw [c_blank _ _ hp (p31 hp) x2]
  simp only [Option.bind_some]
  by_cases hb : XB p = 0
  · rw [if_pos hb, if_pos hb]
    have := lp (vf_upd F p FP.dconst0) (upd H p 1) 16 20 0 rfl (by decide)
    rw [show csl X XB p 0 = 0 from rfl] at this
    rw [show (0 : Int32) = Int32.ofNat 0 from rfl, this]
    exact ⟨_, rfl, up_put F H p _⟩
  · rw [if_neg hb, if_neg hb]
    exact ⟨_, rfl, up_none F H p⟩
theorem i2d_add1 {c : Nat} (h : c < 1000) : FP.dadd (FP.i2d (Int32.ofNat c)) FP.dconst1 = FP.i2d (Int32.ofNat (c + 1)) := by
  have e1 : FP.i2d (Int32.ofNat c) = FP.l2d (Int64.ofNat c) := by
    rw [show FP.i2d (Int32.ofNat c) = FP.Core.i2d (Int32.ofNat c) from rfl, FP.Core.i2d_l2d, i2l (o_int (by omega))]
  have e2 : FP.i2d (Int32.ofNat (c + 1)) = FP.l2d (Int64.ofNat (c + 1)) := by
    rw [show FP.i2d (Int32.ofNat (c + 1)) = FP.Core.i2d (Int32.ofNat (c + 1)) from rfl, FP.Core.i2d_l2d, i2l (o_int (by omega))]
  have s : ∀ a : Nat, a ≤ 1000 → FP.Core.Small53 (Int64.ofNat a) := by
    intro a ha; unfold FP.Core.Small53; rw [l_nat (by omega)]; omega
  rw [e1, e2, show FP.dconst1 = FP.l2d (Int64.ofNat 1) by decide +kernel, Int64.ofNat_add]
  exact FP.Core.dadd_l2d (s c (by omega)) (s 1 (by omega))
theorem st_25 {nar fc : Int32} {X : Nat → UInt64} {XB : Nat → Int32} {Y : Nat → UInt64} {YB : Nat → Int32} (hX : Ar nar X XB) (hY : Ar nar Y YB) (hc : 0 ≤ fc.toInt ∧ fc.toInt ≤ 11) (F : Nat → UInt64) (H : Nat → Int32) {p : Nat} (hp : p < 16)
    (hF : ∀ q, q + 1 = p → F q = (RV nar 25 fc X XB Y YB q).1) :
    ∃ r, stp nar 25 fc X XB Y YB F H (Int32.ofNat p) = some r ∧ Up F H p (RV nar 25 fc X XB Y YB p) r := by
  obtain ⟨x1, x2, x3⟩ := hX p hp
  obtain ⟨y1, y2, y3⟩ := hY p hp
  have eR : ∀ p, RV nar 25 fc X XB Y YB p = (FP.i2d (Int32.ofNat (cso fc X XB Y YB (p + 1))), 0) := fun _ => rfl
  have eS : stp nar 25 fc X XB Y YB F H (Int32.ofNat p) = (gX8_clear 16 F H (Int32.ofNat p)).bind (fun r1 => (gX9_countSo nar 25 fc X XB Y YB r1.1 r1.2 (Int32.ofNat p) fc).bind (fun r3 => some (r3.1, r3.2))) := rfl
  rw [eS, c_clear F H hp (p31 hp), eR]
  simp only [Option.bind_some]
  have hi : ix (Int32.ofNat p) 16 := (ixo (p31 hp)).mpr hp
  have es := isSoC 16 X XB 16 Y YB fc (Int32.ofNat p) (Int32.ofNat p) hc hi hi (by rw [tn (p31 hp)]; exact x2) (by rw [tn (p31 hp)]; exact y2) (by rw [tn (p31 hp)]; exact x1.1) (by rw [tn (p31 hp)]; exact y1.1)
  rw [tn (p31 hp)] at es
  have ec : cso fc X XB Y YB (p + 1) = cso fc X XB Y YB p + (if so fc (X p) (XB p) (Y p) (YB p) ≠ 0 then 1 else 0) := by
    show cnt _ p + _ = _
    simp only [decide_eq_true_eq]; rfl
  have k15 : ∀ F0 H0, gX9_countSo_15 nar 25 fc X XB Y YB F0 H0 (Int32.ofNat p) fc (vf_upd F p FP.dconst0) (upd H p 1) (FP.i2d (Int32.ofNat (cso fc X XB Y YB p))) = some (vf_upd (vf_upd F p FP.dconst0) p (FP.i2d (Int32.ofNat (cso fc X XB Y YB (p + 1)))), upd (upd H p 1) p 0) := by
    intro F0 H0
    unfold gX9_countSo_15 gX9_countSo_45
    rw [es]
    simp only [Option.bind_some]
    have hle := cnt_le (fun q => decide (so fc (X q) (XB q) (Y q) (YB q) ≠ 0)) p
    rw [i2d_add1 (show cso fc X XB Y YB p < 1000 by unfold cso; omega), if_pos (fn_nn (i2d_sm _).1), c_put _ _ _ hp (p31 hp), c_put _ _ _ hp (p31 hp), ec]
    simp only [Option.bind_some]
    by_cases hs : so fc (X p) (XB p) (Y p) (YB p) = 0
    · rw [if_pos hs, if_neg (fun h => h hs)]; rfl
    · rw [if_neg hs, if_pos hs]
  unfold gX9_countSo
  cases p with
  | zero =>
    have ez : FP.i2d (Int32.ofNat (cso fc X XB Y YB 0)) = FP.dconst0 := (by decide +kernel : FP.i2d (Int32.ofNat 0) = FP.dconst0)
    have := k15 (vf_upd F 0 FP.dconst0) (upd H 0 1)
    rw [ez] at this
    rw [if_pos (by decide), this]
    exact ⟨_, rfl, up_put F H _ _⟩
  | succ p =>
    rw [if_neg (by rw [show (0 : Int32) = Int32.ofNat 0 from rfl, o_le (p31 hp) (by decide)]; omega), show Int32.ofNat (p + 1) - 1 = Int32.ofNat p from o_sub1, c_at _ _ (by omega) (by omega)]
    simp only [Option.bind_some]
    have e : vf_upd F (p + 1) FP.dconst0 p = FP.i2d (Int32.ofNat (cso fc X XB Y YB (p + 1))) := by
      unfold vf_upd
      rw [if_neg (by omega), hF p rfl, eR]
    rw [e, k15]
    exact ⟨_, rfl, up_put F H _ _⟩
