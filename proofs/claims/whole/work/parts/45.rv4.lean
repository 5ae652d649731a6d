-- the greatest and the least so far
def Ext (g : Bool) (X : Nat → UInt64) (XB : Nat → Int32) (n : Nat) (w : UInt64) (b : Int32) : Prop :=
  (b = 0 ∧ NN w ∧ (∃ v, v < n ∧ XB v = 0 ∧ X v = w) ∧ ∀ q, q < n → XB q = 0 → (if g then ok (X q) ≤ ok w else ok w ≤ ok (X q))) ∨ (b = 1 ∧ w = FP.dconst0 ∧ ∀ q, q < n → XB q ≠ 0)
theorem ext_max {X : Nat → UInt64} {XB : Nat → Int32} {n : Nat} {w : UInt64} {b : Int32} (h : Ext true X XB n w b) : sel X XB 0 n ((many XB 0 n : Int) - 1) n = (w, b) := by
  rcases h with ⟨rfl, _, ⟨v, h1, h2, h3⟩, h4⟩ | ⟨rfl, rfl, h⟩
  · have m1 : 1 ≤ many XB 0 n := by
      have := cnt_lt (f := fun _ => false) (g := fun q => decide (0 ≤ q ∧ XB q = 0)) (v := v) (n := n) (fun q _ h => by cases h) h1 rfl (by simp [h2])
      unfold many; omega
    rw [show ((many XB 0 n : Int) - 1) = ((many XB 0 n - 1 : Nat) : Int) by omega]
    refine sel_is ?_ ?_
    · have : lows X XB 0 n (ok w) < many XB 0 n := by
        refine cnt_lt (v := v) ?_ h1 ?_ ?_
        · intro q _ h; simp only [decide_eq_true_eq] at h ⊢; exact ⟨h.1, h.2.1⟩
        · simp only [decide_eq_false_iff_not]; rw [h3]; omega
        · simp [h2]
      omega
    · have : many XB 0 n ≤ lows X XB 0 n (ok w + 1) := by
        refine cnt_mono ?_
        intro q hq h; simp only [decide_eq_true_eq] at h ⊢
        have := h4 q hq h.2
        simp only [if_true] at this
        exact ⟨h.1, h.2, by omega⟩
      omega
  · refine sel_out (.inl ?_)
    have : many XB 0 n = 0 := cnt_zero (fun q hq => by simp [h q hq])
    omega
theorem ext_min {X : Nat → UInt64} {XB : Nat → Int32} {n : Nat} {w : UInt64} {b : Int32} (h : Ext false X XB n w b) : sel X XB 0 n 0 n = (w, b) := by
  rcases h with ⟨rfl, _, ⟨v, h1, h2, h3⟩, h4⟩ | ⟨rfl, rfl, h⟩
  · rw [show (0 : Int) = ((0 : Nat) : Int) from rfl]
    refine sel_is ?_ ?_
    · have : lows X XB 0 n (ok w) = 0 := by
        refine cnt_zero ?_
        intro q hq
        simp only [decide_eq_false_iff_not]
        intro hc
        have := h4 q hq hc.2.1
        simp only [Bool.false_eq_true, if_false] at this
        omega
      omega
    · have := cnt_lt (f := fun _ => false) (g := fun q => decide (0 ≤ q ∧ XB q = 0 ∧ ok (X q) < ok w + 1)) (v := v) (n := n) (fun q _ h => by cases h) h1 rfl (by simp [h2, h3]; omega)
      unfold lows; omega
  · refine sel_out (.inr ?_)
    have : many XB 0 n = 0 := cnt_zero (fun q hq => by simp [h q hq])
    omega
theorem Ext_b {g : Bool} {X : Nat → UInt64} {XB : Nat → Int32} {n : Nat} {w : UInt64} {b : Int32} (h : Ext g X XB n w b) : b = 0 ∨ b = 1 := by
  rcases h with h | h
  · exact .inl h.1
  · exact .inr h.1
theorem ext_step {X : Nat → UInt64} {XB : Nat → Int32} {nar ff fc : Int32} {Y : Nat → UInt64} {YB : Nat → Int32} (hX : Ar nar X XB) (g : Bool) (G : Int32) (hG : G = if g then 1 else 0) (F : Nat → UInt64) (H : Nat → Int32) {p : Nat} (hp : p < 16)
    (hE : ∀ q, q < p → Ext g X XB (q + 1) (F q) (H q)) :
    ∃ r w b, gX9_extreme nar ff fc X XB Y YB (vf_upd F p FP.dconst0) (upd H p 1) (Int32.ofNat p) G = some r ∧ Up F H p (w, b) r ∧ Ext g X XB (p + 1) w b := by
  obtain ⟨x1, x2, x3⟩ := hX p hp
  have nx := x1.1
  have main : ∀ (F0 : Nat → UInt64) (H0 : Nat → Int32) (F9 : Nat → UInt64) (H9 : Nat → Int32), (∀ q, q ≠ p → F9 q = F q ∧ H9 q = H q) → Ext g X XB p (F9 p) (H9 p) →
      ∃ r w b, gX9_extreme_14 nar ff fc X XB Y YB F0 H0 (Int32.ofNat p) G F9 H9 = some r ∧ Up F H p (w, b) r ∧ Ext g X XB (p + 1) w b := by
    intro F0 H0 F9 H9 ho hx
    unfold gX9_extreme_14
    rw [c_blank _ _ hp (p31 hp) x2, c_at _ _ hp (p31 hp), c_blank F9 H9 hp (p31 hp) (Ext_b hx), c_at F9 H9 hp (p31 hp)]
    simp only [Option.bind_some]
    have up : ∀ w : UInt64, Up F H p (w, 0) (vf_upd F9 p w, upd H9 p 0) := by
      intro w q
      unfold vf_upd upd
      by_cases c : q = p
      · simp [c]
      · simp [c, ho q c]
    by_cases hb : XB p = 0
    · rw [if_pos hb]
      rcases hx with ⟨e0, nw, ⟨v, h1, h2, h3⟩, h4⟩ | ⟨e1, e2, h⟩
      · rw [if_pos e0, mnC nw nx, mxC nw nx]
        simp only [Option.bind_some]
        rw [c_put _ _ _ hp (p31 hp), c_put _ _ _ hp (p31 hp)]
        cases g with
        | false =>
          have hG0 : G = 0 := hG
          rw [if_pos hG0]
          refine ⟨_, mnv (F9 p) (X p), 0, rfl, up _, .inl ⟨rfl, mn_nn nw nx, ?_, ?_⟩⟩
          · unfold mnv; split
            · exact ⟨p, by omega, hb, rfl⟩
            · exact ⟨v, by omega, h2, h3⟩
          · intro q hq hq0
            simp only [Bool.false_eq_true, if_false] at h4 ⊢
            by_cases c : q = p
            · subst c; unfold mnv; split <;> omega
            · have := h4 q (by omega) hq0
              unfold mnv; split <;> omega
        | true =>
          have hG1 : G = 1 := hG
          rw [if_neg (by rw [hG1]; decide)]
          refine ⟨_, mxv (F9 p) (X p), 0, rfl, up _, .inl ⟨rfl, mx_nn nw nx, ?_, ?_⟩⟩
          · unfold mxv; split
            · exact ⟨p, by omega, hb, rfl⟩
            · exact ⟨v, by omega, h2, h3⟩
          · intro q hq hq0
            simp only [if_true] at h4 ⊢
            by_cases c : q = p
            · subst c; unfold mxv; split <;> omega
            · have := h4 q (by omega) hq0
              unfold mxv; split <;> omega
      · rw [if_neg (by rw [e1]; decide), c_put _ _ _ hp (p31 hp)]
        refine ⟨_, X p, 0, rfl, up _, .inl ⟨rfl, nx, ⟨p, by omega, hb, rfl⟩, ?_⟩⟩
        intro q hq hq0
        by_cases c : q = p
        · subst c; cases g <;> simp
        · exact absurd hq0 (h q (by omega))
    · rw [if_neg hb]
      refine ⟨_, F9 p, H9 p, rfl, ?_, ?_⟩
      · intro q
        by_cases c : q = p
        · simp [c]
        · simp [c, ho q c]
      · rcases hx with ⟨e0, nw, ⟨v, h1, h2, h3⟩, h4⟩ | ⟨e1, e2, h⟩
        · refine .inl ⟨e0, nw, ⟨v, by omega, h2, h3⟩, ?_⟩
          intro q hq hq0
          by_cases c : q = p
          · subst c; exact absurd hq0 hb
          · exact h4 q (by omega) hq0
        · refine .inr ⟨e1, e2, ?_⟩
          intro q hq
          by_cases c : q = p
          · subst c; exact hb
          · exact h q (by omega)
  unfold gX9_extreme
  cases p with
  | zero =>
    rw [if_pos (by decide)]
    refine main _ _ _ _ (fun q hq => ?_) ?_
    · unfold vf_upd upd; simp [hq]
    · refine .inr ⟨?_, ?_, fun q hq => absurd hq (by omega)⟩
      · unfold upd; simp
      · unfold vf_upd; simp
  | succ p =>
    have hp' : p < 16 := by omega
    have hEp := hE p (by omega)
    have eH : upd H (p + 1) 1 p = H p := by unfold upd; rw [if_neg (by omega)]
    have eF : vf_upd F (p + 1) FP.dconst0 p = F p := by unfold vf_upd; rw [if_neg (by omega)]
    rw [if_neg (by rw [show (0 : Int32) = Int32.ofNat 0 from rfl, o_le (p31 hp) (by decide)]; omega), show Int32.ofNat (p + 1) - 1 = Int32.ofNat p from o_sub1, c_putS _ _ hp (p31 hp) hp' (p31 hp') (by rw [eH]; exact Ext_b hEp), eH, eF]
    simp only [Option.bind_some]
    refine main _ _ _ _ (fun q hq => ?_) ?_
    · unfold vf_upd upd; simp [hq]
    · have e1 : vf_upd (vf_upd F (p + 1) FP.dconst0) (p + 1) (F p) (p + 1) = F p := by unfold vf_upd; simp
      have e2 : upd (upd H (p + 1) 1) (p + 1) (H p) (p + 1) = H p := by unfold upd; simp
      rw [e1, e2]; exact hEp
