theorem manyX_eq {σ : MS} {i lo hi : Nat} (h : MA σ i) (hlo : lo ≤ hi + 1) (hhi : hi < 16) : gX11_manyX σ (Int32.ofNat i) (Int32.ofNat lo) (Int32.ofNat hi) = some (Int32.ofNat (many (mXB σ i) lo (hi + 1))) := by
  unfold gX11_manyX
  have lp : ∀ (k f q : Nat), q + k = hi + 1 → lo ≤ q → k < f → lq2 (gX11_manyX_6 σ (Int32.ofNat i) (Int32.ofNat lo) (Int32.ofNat hi)) f (Int32.ofNat (many (mXB σ i) lo q)) (Int32.ofNat q) = some (Int32.ofNat (many (mXB σ i) lo (hi + 1))) := by
    intro k
    induction k with
    | zero =>
      intro f q hq hl hf
      obtain ⟨f, rfl⟩ : ∃ g, f = g + 1 := ⟨f - 1, by omega⟩
      obtain rfl : q = hi + 1 := by omega
      show gX11_manyX_6 _ _ _ _ _ _ _ = _
      unfold gX11_manyX_6
      rw [if_pos ((o_lt (by omega) (by omega)).mpr (by omega))]
    | succ k ih =>
      intro f q hq hl hf
      obtain ⟨f, rfl⟩ : ∃ g, f = g + 1 := ⟨f - 1, by omega⟩
      have hq16 : q < 16 := by omega
      have := ih f (q + 1) (by omega) (by omega) (by omega)
      show gX11_manyX_6 _ _ _ _ (lq2 (gX11_manyX_6 σ (Int32.ofNat i) (Int32.ofNat lo) (Int32.ofNat hi)) f) _ _ = _
      generalize lq2 (gX11_manyX_6 σ (Int32.ofNat i) (Int32.ofNat lo) (Int32.ofNat hi)) f = K at this ⊢
      unfold gX11_manyX_6 gX11_manyX_29
      rw [if_neg (by rw [o_lt (by omega) (by omega)]; omega), nx_eq h hq16]
      simp only [Option.bind_some, o_succ, Int32.add_zero]
      have ec : many (mXB σ i) lo (q + 1) = many (mXB σ i) lo q + (if mXB σ i q = 0 then 1 else 0) := by
        show many (mXB σ i) lo q + (if decide _ = true then 1 else 0) = _
        simp only [decide_eq_true_eq, hl, true_and]
      rw [ec] at this
      by_cases hb : mXB σ i q = 0
      · rw [if_pos hb]; rw [if_pos hb] at this; exact this
      · rw [if_neg hb]; rw [if_neg hb] at this; exact this
  have e0 : many (mXB σ i) lo lo = 0 := cnt_zero (fun q hq => by simp; omega)
  have := lp (hi + 1 - lo) 20 lo (by omega) (Nat.le_refl _) (by omega)
  rw [e0] at this
  exact this
theorem less_eq {σ : MS} {i p : Nat} (h : MA σ i) (hp : p < 16) : gX11_lessThan σ (Int32.ofNat i) (Int32.ofNat p) = some (Int32.ofNat (csl (mX σ i) (mXB σ i) p 16)) := by
  have hA := h.2.2.2.2.2.1
  unfold gX11_lessThan
  have lp : ∀ (k f q : Nat), q + k = 16 → k < f → lq2 (gX11_lessThan_5 σ (Int32.ofNat i) (Int32.ofNat p)) f (Int32.ofNat (csl (mX σ i) (mXB σ i) p q)) (Int32.ofNat q) = some (Int32.ofNat (csl (mX σ i) (mXB σ i) p 16)) := by
    intro k
    induction k with
    | zero =>
      intro f q hq hf
      obtain ⟨f, rfl⟩ : ∃ g, f = g + 1 := ⟨f - 1, by omega⟩
      obtain rfl : q = 16 := by omega
      show gX11_lessThan_5 _ _ _ _ _ _ = _
      unfold gX11_lessThan_5
      rw [if_pos (by decide)]
    | succ k ih =>
      intro f q hq hf
      obtain ⟨f, rfl⟩ : ∃ g, f = g + 1 := ⟨f - 1, by omega⟩
      have hq16 : q < 16 := by omega
      have := ih f (q + 1) (by omega) (by omega)
      show gX11_lessThan_5 _ _ _ (lq2 (gX11_lessThan_5 σ (Int32.ofNat i) (Int32.ofNat p)) f) _ _ = _
      generalize lq2 (gX11_lessThan_5 σ (Int32.ofNat i) (Int32.ofNat p)) f = K at this ⊢
      unfold gX11_lessThan_5 gX11_lessThan_44 gX11_lessThan_45
      rw [if_neg (by rw [l16, o_le (by omega) (by omega)]; omega), nx_eq h hq16, x_eq h hq16, x_eq h hp]
      simp only [Option.bind_some]
      rw [cv (hA q hq16).1.1 (hA p hp).1.1]
      simp only [cq_ge, o_succ, Int32.add_zero]
      have ec : csl (mX σ i) (mXB σ i) p (q + 1) = csl (mX σ i) (mXB σ i) p q + (if mXB σ i q = 0 ∧ dk (mX σ i q) < dk (mX σ i p) then 1 else 0) := by
        show csl (mX σ i) (mXB σ i) p q + (if decide _ = true then 1 else 0) = _
        simp only [decide_eq_true_eq]
      rw [ec] at this
      by_cases hb : mXB σ i q = 0
      · rw [if_pos hb]
        by_cases c : dk (mX σ i p) ≤ dk (mX σ i q)
        · rw [if_pos c]; rw [if_neg (by omega)] at this; exact this
        · rw [if_neg c]; rw [if_pos ⟨hb, by omega⟩] at this; exact this
      · rw [if_neg hb]; rw [if_neg (fun c => hb c.1)] at this; exact this
  exact lp 16 20 0 rfl (by decide)
theorem manySo_eq {σ : MS} {i p : Nat} (h : MA σ i) (hp : p < 16) : gX11_manySo σ (Int32.ofNat i) (Int32.ofNat p) = some (Int32.ofNat (cso (m_made σ (4 * i + 3)) (mX σ i) (mXB σ i) (mY σ i) (mYB σ i) (p + 1))) := by
  unfold gX11_manySo
  have lp : ∀ (k f q : Nat), q + k = p + 1 → k < f → lq2 (gX11_manySo_5 σ (Int32.ofNat i) (Int32.ofNat p)) f (Int32.ofNat (cso (m_made σ (4 * i + 3)) (mX σ i) (mXB σ i) (mY σ i) (mYB σ i) q)) (Int32.ofNat q) = some (Int32.ofNat (cso (m_made σ (4 * i + 3)) (mX σ i) (mXB σ i) (mY σ i) (mYB σ i) (p + 1))) := by
    intro k
    induction k with
    | zero =>
      intro f q hq hf
      obtain ⟨f, rfl⟩ : ∃ g, f = g + 1 := ⟨f - 1, by omega⟩
      obtain rfl : q = p + 1 := by omega
      show gX11_manySo_5 _ _ _ _ _ _ = _
      unfold gX11_manySo_5
      rw [if_pos ((o_lt (by omega) (by omega)).mpr (by omega))]
    | succ k ih =>
      intro f q hq hf
      obtain ⟨f, rfl⟩ : ∃ g, f = g + 1 := ⟨f - 1, by omega⟩
      have hq16 : q < 16 := by omega
      have := ih f (q + 1) (by omega) (by omega)
      show gX11_manySo_5 _ _ _ (lq2 (gX11_manySo_5 σ (Int32.ofNat i) (Int32.ofNat p)) f) _ _ = _
      generalize lq2 (gX11_manySo_5 σ (Int32.ofNat i) (Int32.ofNat p)) f = K at this ⊢
      unfold gX11_manySo_5 gX11_manySo_27
      rw [if_neg (by rw [o_lt (by omega) (by omega)]; omega), cp_eq h hq16]
      simp only [Option.bind_some, o_succ, Int32.add_zero]
      have ec : cso (m_made σ (4 * i + 3)) (mX σ i) (mXB σ i) (mY σ i) (mYB σ i) (q + 1) = cso (m_made σ (4 * i + 3)) (mX σ i) (mXB σ i) (mY σ i) (mYB σ i) q + (if so (m_made σ (4 * i + 3)) (mX σ i q) (mXB σ i q) (mY σ i q) (mYB σ i q) ≠ 0 then 1 else 0) := by
        show cso (m_made σ (4 * i + 3)) (mX σ i) (mXB σ i) (mY σ i) (mYB σ i) q + (if decide _ = true then 1 else 0) = _
        simp only [decide_eq_true_eq]
      rw [ec] at this
      by_cases hb : so (m_made σ (4 * i + 3)) (mX σ i q) (mXB σ i q) (mY σ i q) (mYB σ i q) = 0
      · rw [if_pos hb]; rw [if_neg (fun c => c hb)] at this; exact this
      · rw [if_neg hb]; rw [if_pos hb] at this; exact this
  exact lp (p + 1) 20 0 (by omega) (by omega)
theorem diff_eq {σ : MS} {x y : UInt64} {nar : Int32} (hx : Br nar x) (hy : Br nar y) : gX11_difference σ x y nar = some (gv σ (wv 10 x y nar).1 (wv 10 x y nar).2) := by
  have e := both σ 10 x y nar hx hy (by decide) (by decide)
  have : gX11_both σ 10 x y nar = (gX11_difference σ x y nar).bind (fun r26 => some r26) := rfl
  rw [this, bsf] at e
  exact e
def mRV (σ : MS) (i p : Nat) : UInt64 × Int32 := RV (m_narrow σ i) (m_made σ (4 * i)) (m_made σ (4 * i + 3)) (mX σ i) (mXB σ i) (mY σ i) (mYB σ i) p
set_option maxHeartbeats 1600000 in
theorem reck_eq {σ : MS} {i p : Nat} (h : MA σ i) (hp : p < 16) (h0 : 0 ≤ (m_made σ (4 * i)).toInt) (h26 : (m_made σ (4 * i)).toInt ≤ 26) : gX11_reckon σ (Int32.ofNat i) (Int32.ofNat p) = some (gv σ (mRV σ i p).1 (mRV σ i p).2) := by
  have hi := h.1
  obtain ⟨xA, xB, xC⟩ := h.2.2.2.2.2.1 p hp
  obtain ⟨yA, yB, yC⟩ := h.2.2.2.2.2.2 p hp
  unfold gX11_reckon mRV
  rw [l4, if_pos ((ixo (by omega)).mpr (by omega)), if_pos ((ixo (by omega)).mpr (by omega)), tn (by omega), tn (by omega), nx_eq h hp]
  simp only [Option.bind_some]
  unfold gX11_reckon_37 gX11_reckon_57 gX11_reckon_64 gX11_reckon_166 gX11_reckon_258 gX11_reckon_368
  simp only [bsf, nothing_eq, gives_eq, x_eq h hp, y_eq h hp, ny_eq h hp, cp_eq h hp, Option.bind_some]
  generalize hf : m_made σ (4 * i) = ff at h0 h26 ⊢
  generalize hX : mX σ i = X at xA xC ⊢
  generalize hXB : mXB σ i = XB at xB xC ⊢
  generalize hY : mY σ i = Y at yA yC ⊢
  generalize hYB : mYB σ i = YB at yB yC ⊢
  generalize hn : m_narrow σ i = nar at xA yA ⊢
  generalize hc : m_made σ (4 * i + 3) = fc
  by_cases c8 : ff.toInt ≤ 8
  · have a8 : ff ≤ 8 := by rw [i32_le]; exact c8
    have eR : RV nar ff fc X XB Y YB p = if XB p = 0 then (ov ff (X p) nar, 0) else (FP.dconst0, 1) := if_pos a8
    rw [eR, if_pos (show ff ≤ 16 by rw [i32_le]; exact Int.le_trans c8 (by decide)), if_pos (show ff < 9 by rw [i32_lt]; exact Int.lt_of_le_of_lt c8 (by decide)), if_neg (show ¬ (8 : Int32) < ff by rw [i32_lt]; exact Int.not_lt.mpr c8), single σ ff (X p) nar xA ⟨h0, c8⟩]
    by_cases hb : XB p = 0
    · rw [if_pos hb, if_pos hb]
    · rw [if_neg hb, if_neg hb]
  have n8 : ¬ ff ≤ 8 := by rw [i32_le]; exact c8
  by_cases c16 : ff.toInt ≤ 16 ∨ ff.toInt = 26
  · have a16 : ff ≤ 16 ∨ ff = 26 := by
      rcases c16 with c | c
      · exact .inl (by rw [i32_le]; exact c)
      · exact .inr (Int32.toInt.inj c)
    have eR : RV nar ff fc X XB Y YB p = if XB p = 0 ∧ YB p = 0 then wv ff (X p) (Y p) nar else (FP.dconst0, 1) := by
      unfold RV; rw [if_neg n8, if_pos a16]
    have e37 : (if XB p = 0 then (if ff < 9 then (if (8 : Int32) < ff then gX11_both σ ff (X p) (Y p) nar else gX11_single σ ff (X p) nar) else if YB p = 0 then (if (8 : Int32) < ff then gX11_both σ ff (X p) (Y p) nar else gX11_single σ ff (X p) nar) else some (gv σ FP.dconst0 1)) else some (gv σ FP.dconst0 1)) = some (gv σ (RV nar ff fc X XB Y YB p).1 (RV nar ff fc X XB Y YB p).2) := by
      have h9 : 9 ≤ ff.toInt := by omega
      rw [eR, if_neg (show ¬ ff < 9 by rw [i32_lt]; exact Int.not_lt.mpr h9), if_pos (show (8 : Int32) < ff by rw [i32_lt]; exact Int.lt_of_lt_of_le (by decide) h9), both σ ff (X p) (Y p) nar xA yA h9 c16]
      by_cases hb : XB p = 0
      · by_cases hd : YB p = 0
        · rw [if_pos hb, if_pos hd, if_pos ⟨hb, hd⟩]
        · rw [if_pos hb, if_neg hd, if_neg (fun c => hd c.2)]
      · rw [if_neg hb, if_neg (fun c => hb c.1)]
    by_cases b16 : ff ≤ 16
    · rw [if_pos b16]; exact e37
    · rw [if_neg b16, if_pos (a16.resolve_left b16)]; exact e37
  have n16 : ¬ ff ≤ 16 := by rw [i32_le]; exact fun c => c16 (.inl c)
  have n26 : ¬ ff = 26 := fun c => c16 (.inr (by rw [c]; rfl))
  rw [if_neg n16, if_neg n26]
  have hr := ff_rows (f := ff) (by omega) (by omega)
  rcases hr with rfl | rfl | rfl | rfl | rfl | rfl | rfl | rfl | rfl
  · have eR : RV nar 17 fc X XB Y YB p = (if XB p = 0 ∧ so fc (X p) (XB p) (Y p) (YB p) ≠ 0 then (X p, 0) else (FP.dconst0, 1)) := rfl
    rw [eR, if_pos rfl]
    by_cases hb : XB p = 0
    · rw [if_pos hb]
      by_cases hs : so fc (X p) (XB p) (Y p) (YB p) = 0
      · rw [if_pos hs, if_neg (fun c => c.2 hs)]
      · rw [if_neg hs, if_pos ⟨hb, hs⟩]
    · rw [if_neg hb, if_neg (fun c => hb c.1)]
  · have eR : RV nar 18 fc X XB Y YB p = (if XB p = 0 then (X p, 0) else (Y p, YB p)) := rfl
    rw [eR, if_neg (by decide), if_pos rfl]
    by_cases hb : XB p = 0
    · rw [if_pos hb, if_pos hb]
    · rw [if_neg hb, if_neg hb]
      by_cases hd : YB p = 0
      · rw [if_pos hd, hd]
      · rw [if_neg hd, yC hd, yB.resolve_left hd]
  · have eR : RV nar 19 fc X XB Y YB p = (if 1 ≤ p ∧ p ≤ 14 ∧ many XB (p - 1) (p + 2) = 3 then sel X XB (p - 1) (p + 2) 1 (p + 2) else (FP.dconst0, 1)) := rfl
    rw [eR, if_neg (by decide), if_neg (by decide), if_pos rfl]
    cases p with
    | zero => rw [if_pos (show Int32.ofNat 0 = 0 from rfl), if_neg (by omega)]
    | succ p =>
      rw [if_neg (by rw [show (0 : Int32) = Int32.ofNat 0 from rfl, o_eq (by omega) (by omega)]; omega)]
      by_cases h15 : p + 1 = 15
      · rw [if_pos (by rw [h15]; rfl), if_neg (by omega)]
      · rw [if_neg (by rw [show (15 : Int32) = Int32.ofNat 15 from rfl, o_eq (by omega) (by omega)]; exact h15), o_sub1, o_succ, manyX_eq h (by omega) (by omega), ranked_eq h (by omega) (by omega), hX, hXB]
        simp only [Option.bind_some, Nat.add_sub_cancel]
        have hm : many XB p (p + 1 + 2) ≤ 3 := by
          have : cnt (fun q => decide (p ≤ q ∧ XB q = 0)) (p + 1 + 2) = cnt (fun q => decide (p ≤ q ∧ XB q = 0)) p + (if decide (p ≤ p ∧ XB p = 0) = true then 1 else 0) + (if decide (p ≤ p + 1 ∧ XB (p + 1) = 0) = true then 1 else 0) + (if decide (p ≤ p + 2 ∧ XB (p + 2) = 0) = true then 1 else 0) := rfl
          unfold many
          rw [this, cnt_zero (fun q hq => by simp; omega)]
          split <;> split <;> split <;> omega
        rw [show p + 1 + 1 + 1 = p + 1 + 2 by omega, show (3 : Int32) = Int32.ofNat 3 from rfl, show (1 : Int32).toInt = 1 from rfl]
        by_cases c3 : many XB p (p + 1 + 2) = 3
        · rw [if_pos (by rw [o_le (by omega) (by omega)]; omega), if_pos ⟨by omega, by omega, c3⟩]
        · rw [if_neg (by rw [o_le (by omega) (by omega)]; omega), if_neg (fun c => c3 c.2.2)]
  · have eR : RV nar 20 fc X XB Y YB p = sel X XB 0 (p + 1) ((many XB 0 (p + 1) : Int) - 1) (p + 1) := rfl
    rw [eR, if_neg (by decide), if_neg (by decide), if_neg (by decide), if_pos rfl, show (0 : Int32) = Int32.ofNat 0 from rfl, manyX_eq h (by omega) hp]
    simp only [Option.bind_some]
    rw [ranked_eq h (by omega) hp, hX, hXB]
    have hm : many XB 0 (p + 1) ≤ p + 1 := cnt_le _ _
    have ei : (Int32.ofNat (many XB 0 (p + 1)) - 1).toInt = (many XB 0 (p + 1) : Int) - 1 := by
      rw [i32_sub] <;> rw [o_int (by omega), show (1 : Int32).toInt = 1 from rfl] <;> omega
    rw [ei]
  · have eR : RV nar 21 fc X XB Y YB p = sel X XB 0 (p + 1) 0 (p + 1) := rfl
    rw [eR, if_neg (by decide), if_neg (by decide), if_neg (by decide), if_neg (by decide), if_pos rfl, show gX11_ranked σ (Int32.ofNat i) 0 (Int32.ofNat p) 0 = gX11_ranked σ (Int32.ofNat i) (Int32.ofNat 0) (Int32.ofNat p) 0 from rfl, ranked_eq h (by omega) hp, hX, hXB]
    rfl
  · have eR : RV nar 22 fc X XB Y YB p = sel X XB 0 16 p 16 := rfl
    rw [eR, if_neg (by decide), if_neg (by decide), if_neg (by decide), if_neg (by decide), if_neg (by decide), if_pos rfl, show gX11_ranked σ (Int32.ofNat i) 0 15 (Int32.ofNat p) = gX11_ranked σ (Int32.ofNat i) (Int32.ofNat 0) (Int32.ofNat 15) (Int32.ofNat p) from rfl, ranked_eq h (by omega) (by omega), hX, hXB, o_int (by omega)]
  · have eR : RV nar 23 fc X XB Y YB p = (if XB p = 0 then (FP.i2d (Int32.ofNat (csl X XB p 16)), 0) else (FP.dconst0, 1)) := rfl
    rw [eR, if_neg (by decide), if_neg (by decide), if_neg (by decide), if_neg (by decide), if_neg (by decide), if_neg (by decide), if_pos rfl, less_eq h hp, hX, hXB]
    simp only [Option.bind_some]
    by_cases hb : XB p = 0
    · rw [if_pos hb, if_pos hb]
    · rw [if_neg hb, if_neg hb]
  · have eR : RV nar 24 fc X XB Y YB p = (if 1 ≤ p ∧ XB p = 0 ∧ XB (p - 1) = 0 ∧ vd 10 (X p) (X (p - 1)) = 0 then (sm nar (X p) (FP.dneg (X (p - 1))), 0) else (FP.dconst0, 1)) := rfl
    rw [eR, if_neg (by decide), if_neg (by decide), if_neg (by decide), if_neg (by decide), if_neg (by decide), if_neg (by decide), if_neg (by decide), if_pos rfl]
    by_cases hb : XB p = 0
    · rw [if_pos hb]
      cases p with
      | zero => rw [if_pos (show Int32.ofNat 0 = 0 from rfl), if_neg (by omega)]
      | succ p =>
        have hp' : p < 16 := by omega
        obtain ⟨zA, zB, zC⟩ := h.2.2.2.2.2.1 p hp'
        rw [hX, hn] at zA
        rw [if_neg (by rw [show (0 : Int32) = Int32.ofNat 0 from rfl, o_eq (by omega) (by omega)]; omega), o_sub1, nx_eq h hp', x_eq h hp', hX, hXB]
        simp only [Option.bind_some, Nat.add_sub_cancel]
        rw [diff_eq xA zA]
        have ew : wv 10 (X (p + 1)) (X p) nar = if vd 10 (X (p + 1)) (X p) = 0 then (sm nar (X (p + 1)) (FP.dneg (X p)), 0) else (FP.dconst0, 1) := rfl
        rw [ew]
        by_cases hd : XB p = 0
        · rw [if_pos hd]
          by_cases hv : vd 10 (X (p + 1)) (X p) = 0
          · rw [if_pos hv, if_pos ⟨by omega, hb, hd, hv⟩]
          · rw [if_neg hv, if_neg (fun c => hv c.2.2.2)]
        · rw [if_neg hd, if_neg (fun c => hd c.2.2.1)]
    · rw [if_neg hb, if_neg (fun c => hb c.2.1)]
  · have eR : RV nar 25 fc X XB Y YB p = (FP.i2d (Int32.ofNat (cso fc X XB Y YB (p + 1))), 0) := rfl
    rw [eR, if_neg (by decide), if_neg (by decide), if_neg (by decide), if_neg (by decide), if_neg (by decide), if_neg (by decide), if_neg (by decide), if_neg (by decide), manySo_eq h hp, hX, hXB, hY, hYB, hc]
    rfl
