/-! the invariant of class and reference -/
theorem Ct.wide {G : GG} {l : Launch} {y : MethodName} {cc : ByteArray} {maxL : Nat} {ret : Option FieldType} {rm rm' : Room} {av : List Value} {z : Nat} {ct : Nat → va_E} {N : Nat} {rv : Option Value} {ct' : Nat → va_E} {N' : Nat} (hf : rm.frames ≤ rm'.frames) (hl : rm.locals ≤ rm'.locals) (hc : rm.cells = rm'.cells) (hs : rm.slots = rm'.slots) (h : Ct G l y cc maxL ret rm av z ct N rv ct' N') : Ct G l y cc maxL ret rm' av z ct N rv ct' N' := by
  unfold Ct Met at h ⊢
  rw [← hc, ← hs]
  intro p e ha hcas hk s m args below hfr happ hP hK
  refine h p e ha hcas hk s m args below hfr ?_ hP hK
  rw [Spec.appliesLoose_iff hfr] at happ ⊢
  obtain ⟨a1, a2, a3, a4, a5, a6, g, a8⟩ := happ
  refine ⟨a1, a2, a3, a4, a5, a6, ?_, a8⟩
  have e1 : (headSpec (ws_ y cc maxL ret) rm).room = rm := rfl
  have e2 : (headSpec (ws_ y cc maxL ret) rm').room = rm' := rfl
  rw [e2] at g
  rw [e1]
  simp only [State.hasRoom, Bool.and_eq_true, decide_eq_true_eq] at g ⊢
  obtain ⟨⟨⟨⟨g1, g2, g3, g4, g5, g6⟩, g7⟩, g8⟩, g9⟩ := g
  exact ⟨⟨⟨⟨by omega, by omega, by omega, by omega, by omega, g6⟩, by omega⟩, by omega⟩, g9⟩
theorem cm_ge {G : GG} {z : Nat} {b : Nat → va_E} {σ : MS} {k : Nat} (hk : 86 ≤ k) : ctM G z b σ k = b k := by
  unfold ctM
  simp only [if_neg (show ¬ k = 71 by omega), if_neg (show ¬ k = 72 by omega), if_neg (show ¬ k = 73 by omega), if_neg (show ¬ k = 74 by omega), if_neg (show ¬ k = 75 by omega), if_neg (show ¬ k = 76 by omega), if_neg (show ¬ k = 77 by omega), if_neg (show ¬ k = 78 by omega), if_neg (show ¬ k = 79 by omega), if_neg (show ¬ k = 80 by omega), if_neg (show ¬ k = 81 by omega), if_neg (show ¬ k = 82 by omega), if_neg (show ¬ k = 83 by omega), if_neg (show ¬ k = 84 by omega), if_neg (show ¬ k = 85 by omega)]
theorem cm_up {G : GG} {z : Nat} {b : Nat → va_E} {σ : MS} {k : Nat} {e : va_E} (hk : 86 ≤ k) : va_up (ctM G z b σ) k e = ctM G z (va_up b k e) σ := by
  funext j
  by_cases hj : j = k
  · subst hj; rw [va_up_self, cm_ge hk, va_up_self]
  · rw [va_up_ne _ _ hj]
    unfold ctM
    rw [va_up_ne _ _ hj]
theorem isIn_eq (v lo hi : Int32) : gX11_isIn v lo hi = some (if lo.toInt ≤ v.toInt ∧ v.toInt ≤ hi.toInt then 1 else 0) := by
  unfold gX11_isIn
  by_cases h1 : v < lo
  · rw [if_pos h1, if_neg (by rw [i32_lt] at h1; omega)]
  · rw [if_neg h1]
    by_cases h2 : hi < v
    · rw [if_pos h2, if_neg (by rw [i32_lt] at h2; omega)]
    · rw [if_neg h2, if_pos (by rw [i32_lt] at h1 h2; omega)]
theorem isColumn_eq (x : Int32) : gX10_isColumn x = some (if 0 ≤ x.toInt ∧ x.toInt < 12 then 1 else 0) := by
  unfold gX10_isColumn
  have e0 : (0 : Int32).toInt = 0 := rfl
  have e1 : (12 : Int32).toInt = 12 := rfl
  by_cases h1 : x < 0
  · rw [if_pos h1, if_neg (by rw [i32_lt] at h1; omega)]
  · rw [if_neg h1]
    by_cases h2 : (12 : Int32) ≤ x
    · rw [if_pos h2, if_neg (by rw [i32_le] at h2; omega)]
    · rw [if_neg h2, if_pos (by rw [i32_lt] at h1; rw [i32_le] at h2; omega)]
theorem isPlace_eq (x : Int32) : gX10_isPlace x = some (if 0 ≤ x.toInt ∧ x.toInt < 16 then 1 else 0) := by
  unfold gX10_isPlace
  have e0 : (0 : Int32).toInt = 0 := rfl
  have e1 : (16 : Int32).toInt = 16 := rfl
  by_cases h1 : x < 0
  · rw [if_pos h1, if_neg (by rw [i32_lt] at h1; omega)]
  · rw [if_neg h1]
    by_cases h2 : (16 : Int32) ≤ x
    · rw [if_pos h2, if_neg (by rw [i32_le] at h2; omega)]
    · rw [if_neg h2, if_pos (by rw [i32_lt] at h1; rw [i32_le] at h2; omega)]
theorem isConstant_eq (x : Int32) : gX10_isConstant x = some (if 0 ≤ x.toInt ∧ x.toInt < 8 then 1 else 0) := by
  unfold gX10_isConstant
  have e0 : (0 : Int32).toInt = 0 := rfl
  have e1 : (8 : Int32).toInt = 8 := rfl
  by_cases h1 : x < 0
  · rw [if_pos h1, if_neg (by rw [i32_lt] at h1; omega)]
  · rw [if_neg h1]
    by_cases h2 : (8 : Int32) ≤ x
    · rw [if_pos h2, if_neg (by rw [i32_le] at h2; omega)]
    · rw [if_neg h2, if_pos (by rw [i32_lt] at h1; rw [i32_le] at h2; omega)]
theorem isComparison_eq (x : Int32) : gX10_isComparison x = some (if 0 ≤ x.toInt ∧ x.toInt < 12 then 1 else 0) := by
  unfold gX10_isComparison
  have e0 : (0 : Int32).toInt = 0 := rfl
  have e1 : (12 : Int32).toInt = 12 := rfl
  by_cases h1 : x < 0
  · rw [if_pos h1, if_neg (by rw [i32_lt] at h1; omega)]
  · rw [if_neg h1]
    by_cases h2 : (12 : Int32) ≤ x
    · rw [if_pos h2, if_neg (by rw [i32_le] at h2; omega)]
    · rw [if_neg h2, if_pos (by rw [i32_lt] at h1; rw [i32_le] at h2; omega)]
theorem isSpecial_eq (x : Int32) : gX10_isSpecial x = some (if 0 ≤ x.toInt ∧ x.toInt < 6 then 1 else 0) := by
  unfold gX10_isSpecial
  have e0 : (0 : Int32).toInt = 0 := rfl
  have e1 : (6 : Int32).toInt = 6 := rfl
  by_cases h1 : x < 0
  · rw [if_pos h1, if_neg (by rw [i32_lt] at h1; omega)]
  · rw [if_neg h1]
    by_cases h2 : (6 : Int32) ≤ x
    · rw [if_pos h2, if_neg (by rw [i32_le] at h2; omega)]
    · rw [if_neg h2, if_pos (by rw [i32_lt] at h1; rw [i32_le] at h2; omega)]
theorem isPower_eq (x : Int32) : gX10_isPower x = some (if -1000 ≤ x.toInt ∧ x.toInt ≤ 900 then 1 else 0) := by
  unfold gX10_isPower
  have e0 : (-1000 : Int32).toInt = -1000 := by decide
  have e1 : (900 : Int32).toInt = 900 := rfl
  by_cases h1 : x < (-1000 : Int32)
  · rw [if_pos h1, if_neg (by rw [i32_lt] at h1; omega)]
  · rw [if_neg h1]
    by_cases h2 : (900 : Int32) < x
    · rw [if_pos h2, if_neg (by rw [i32_lt] at h2; omega)]
    · rw [if_neg h2, if_pos (by rw [i32_lt] at h1; rw [i32_lt] at h2; omega)]
theorem isSource_eq (x : Int32) : gX10_isConstantSource x = some (if 16 ≤ x.toInt ∧ x.toInt < 24 then 1 else 0) := by
  by_cases h : 16 ≤ x.toInt ∧ x.toInt < 24
  · rw [if_pos h]; exact src_1 h.1 h.2
  · rw [if_neg h]
    unfold gX10_isConstantSource
    by_cases h1 : x < 16
    · rw [if_pos h1]
    · rw [if_neg h1, if_pos (by rw [i32_lt] at h1; rw [i32_le]; have e0 : (16 : Int32).toInt = 16 := rfl; have e1 : (24 : Int32).toInt = 24 := rfl; omega)]
def gS (σ : MS) (T : Nat → UInt64) (B nr md : Nat → Int32) (nw : Nat → UInt64) (nn : Nat → Int32) (tT : Nat → UInt64) (bT nT mT : Nat → Int32) (ch : Int32) (w : UInt64) (i : Int32) : MS := (T, B, nr, md, nw, nn, tT, bT, nT, mT, ch, σ.2.2.2.2.2.2.2.2.2.2.2.1, σ.2.2.2.2.2.2.2.2.2.2.2.2.1, σ.2.2.2.2.2.2.2.2.2.2.2.2.2.1, σ.2.2.2.2.2.2.2.2.2.2.2.2.2.2.1, σ.2.2.2.2.2.2.2.2.2.2.2.2.2.2.2.1, σ.2.2.2.2.2.2.2.2.2.2.2.2.2.2.2.2.1, w, i)
theorem gS_rc (σ : MS) (nw : Nat → UInt64) (nn : Nat → Int32) (w : UInt64) (b : Int32) : rcS σ nw nn w b = gS σ (m_told σ) (m_blank σ) (m_narrow σ) (m_made σ) nw nn (m_toldThen σ) (m_blankThen σ) (m_narrowThen σ) (m_madeThen σ) (m_changes σ) w b := rfl
def pcS (σ : MS) (tT : Nat → UInt64) (bT nT mT : Nat → Int32) : MS := (σ.1, σ.2.1, σ.2.2.1, σ.2.2.2.1, σ.2.2.2.2.1, σ.2.2.2.2.2.1, tT, bT, nT, mT, σ.2.2.2.2.2.2.2.2.2.2.1, σ.2.2.2.2.2.2.2.2.2.2.2.1, σ.2.2.2.2.2.2.2.2.2.2.2.2.1, σ.2.2.2.2.2.2.2.2.2.2.2.2.2.1, σ.2.2.2.2.2.2.2.2.2.2.2.2.2.2.1, σ.2.2.2.2.2.2.2.2.2.2.2.2.2.2.2.1, σ.2.2.2.2.2.2.2.2.2.2.2.2.2.2.2.2.1, σ.2.2.2.2.2.2.2.2.2.2.2.2.2.2.2.2.2.1, σ.2.2.2.2.2.2.2.2.2.2.2.2.2.2.2.2.2.2)
def bgS (β : BS) (na ff fa fb fc : Nat → Int32) (nu : Nat → Nat → UInt64) (bl : Nat → Nat → Int32) (cn : Nat → UInt64) (cb : Nat → Int32) (xn : Nat → UInt64) (xb : Nat → Int32) (yn : Nat → UInt64) (yb : Nat → Int32) (la : Value) (cg fr : Int32) : BS := (na, ff, fa, fb, fc, nu, bl, cn, cb, xn, xb, yn, yb, β.2.2.2.2.2.2.2.2.2.2.2.2.2.1, β.2.2.2.2.2.2.2.2.2.2.2.2.2.2.1, β.2.2.2.2.2.2.2.2.2.2.2.2.2.2.2.1, β.2.2.2.2.2.2.2.2.2.2.2.2.2.2.2.2.1, β.2.2.2.2.2.2.2.2.2.2.2.2.2.2.2.2.2.1, β.2.2.2.2.2.2.2.2.2.2.2.2.2.2.2.2.2.2.1, β.2.2.2.2.2.2.2.2.2.2.2.2.2.2.2.2.2.2.2.1, β.2.2.2.2.2.2.2.2.2.2.2.2.2.2.2.2.2.2.2.2.1, la, cg, fr)
def MT (σ : MS) (j : Nat) (P : PT) : Prop := (∀ k, k < 200 → m_toldThen σ (200 * j + k) = pT P k ∧ m_blankThen σ (200 * j + k) = pB P k) ∧ (∀ i, i < 12 → m_narrowThen σ (12 * j + i) = pN P i) ∧ (∀ k, k < 48 → m_madeThen σ (48 * j + k) = pM P k)
/-- Q is P but for the reading k -/
def SR (P Q : PT) (k : Nat) (nb : UInt64) (bk : Int32) : Prop := (∀ j, j < 12 → pN Q j = pN P j) ∧ (∀ j, j < 48 → pM Q j = pM P j) ∧ (∀ j, j < 200 → pT Q j = (if j = k then nb else pT P j) ∧ pB Q j = (if j = k then bk else pB P j))
/-- Q is P but for the column i -/
def SC (P Q : PT) (i : Nat) (nar2 ff2 fa2 fb2 fc2 : Int32) (F2 : Nat → UInt64) (H2 : Nat → Int32) : Prop := (∀ j, j < 12 → j ≠ i → pN Q j = pN P j ∧ pM Q (4 * j) = pM P (4 * j) ∧ pM Q (4 * j + 1) = pM P (4 * j + 1) ∧ pM Q (4 * j + 2) = pM P (4 * j + 2) ∧ pM Q (4 * j + 3) = pM P (4 * j + 3)) ∧ (pN Q i = nar2 ∧ pM Q (4 * i) = ff2 ∧ pM Q (4 * i + 1) = fa2 ∧ pM Q (4 * i + 2) = fb2 ∧ pM Q (4 * i + 3) = fc2) ∧ (∀ k, k < 200 → ¬ (16 * i ≤ k ∧ k < 16 * i + 16) → pT Q k = pT P k ∧ pB Q k = pB P k) ∧ (ff2.toInt < 0 → ∀ p, p < 16 → pT Q (16 * i + p) = F2 p ∧ pB Q (16 * i + p) = H2 p) ∧ (∀ p, p < 16 → NN (F2 p) ∧ (H2 p = 0 ∨ H2 p = 1))
/-- the change at t takes P back to Q; w: the change before it -/
def TB (G : GG) (z : Nat) (b : Nat → va_E) (N t : Nat) (w : Value) (P Q : PT) : Prop :=
  (∃ i pl nb bk, t < N ∧ i < 12 ∧ pl < 16 ∧ b t = .inr (3, [w, .int (Int32.ofNat i), .ref (z + (13 + 4 * i + 1)), .int (Int32.ofNat pl), .double nb, .int bk]) ∧ SR P Q (16 * i + pl) nb bk)
  ∨ (∃ k nb bk, t < N ∧ k < 8 ∧ b t = .inr (3, [w, .int 0, .ref (z + 2), .int (Int32.ofNat k), .double nb, .int bk]) ∧ SR P Q (192 + k) nb bk)
  ∨ (∃ i nar2 ff2 fa2 fb2 fc2 F2 H2, t + 4 < N ∧ i < 12 ∧ b t = .inr (2, [w, .int (Int32.ofNat i), .ref (z + (13 + 4 * i)), .ref (z + (t + 1))]) ∧ b (t + 1) = coO z (t + 1) nar2 ff2 fa2 fb2 fc2 ∧ b (t + 2) = rdO z (t + 2) ∧ b (t + 3) = cD G 16 F2 ∧ b (t + 4) = cZ G 16 H2 ∧ SC P Q i nar2 ff2 fa2 fb2 fc2 F2 H2)
def CH (G : GG) (z : Nat) (b : Nat → va_E) (N : Nat) (P : Nat → PT) : Nat → Value → Prop
  | 0 => fun w => w = .null
  | n + 1 => fun w => ∃ t w', w = .ref (z + t) ∧ 86 ≤ t ∧ TB G z b N t w' (P (n + 1)) (P n) ∧ CH G z b N P n w'
theorem CH_isR {G : GG} {z : Nat} {b : Nat → va_E} {N : Nat} {P : Nat → PT} : ∀ {n : Nat} {w : Value}, CH G z b N P n w → isRb w = true
  | 0, w, h => by cases (show w = .null from h); rfl
  | n + 1, w, h => by obtain ⟨t, w', e, _⟩ := h; subst e; rfl
theorem TB_mono {G : GG} {z : Nat} {b b' : Nat → va_E} {N N' t : Nat} {w : Value} {P Q : PT} (hN : N ≤ N') (hb : ∀ k, k < N → b' k = b k) (h : TB G z b N t w P Q) : TB G z b' N' t w P Q := by
  rcases h with ⟨i, pl, nb, bk, h1, h2, h3, h4, h5⟩ | ⟨k, nb, bk, h1, h2, h3, h4⟩ | ⟨i, a1, a2, a3, a4, a5, F, H, h1, h2, h3, h4, h5, h6, h7, h8⟩
  · exact .inl ⟨i, pl, nb, bk, by omega, h2, h3, by rw [hb t h1]; exact h4, h5⟩
  · exact .inr (.inl ⟨k, nb, bk, by omega, h2, by rw [hb t h1]; exact h3, h4⟩)
  · exact .inr (.inr ⟨i, a1, a2, a3, a4, a5, F, H, by omega, h2, by rw [hb t (by omega)]; exact h3, by rw [hb _ (by omega)]; exact h4, by rw [hb _ (by omega)]; exact h5, by rw [hb _ (by omega)]; exact h6, by rw [hb _ (by omega)]; exact h7, h8⟩)
theorem CH_mono {G : GG} {z : Nat} {b b' : Nat → va_E} {N N' : Nat} {P P' : Nat → PT} (hN : N ≤ N') (hb : ∀ k, k < N → b' k = b k) : ∀ {n : Nat} {w : Value}, (∀ j, j ≤ n → P' j = P j) → CH G z b N P n w → CH G z b' N' P' n w
  | 0, w, _, h => h
  | n + 1, w, hP, h => by
    obtain ⟨t, w', e, h1, h2, h3⟩ := h
    refine ⟨t, w', e, h1, ?_, CH_mono hN hb (fun j hj => hP j (by omega)) h3⟩
    rw [hP (n + 1) (by omega), hP n (by omega)]
    exact TB_mono hN hb h2
def M16 (x : Int32) : Prop := ∃ m : Nat, m < 65536 ∧ x = Int32.ofNat m
def ALM (β : BS) (σ : MS) (am : Nat) : Prop := am ≤ 10 ∧ b_acnt β = Int32.ofNat am ∧ m_alarmMany σ = Int32.ofNat am ∧ b_rngs β = m_rings σ ∧ ∀ k, k < 10 → (b_a1 β k = m_alarms σ (3 * k) ∧ b_a2 β k = m_alarms σ (3 * k + 1) ∧ b_a3 β k = m_alarms σ (3 * k + 2)) ∧ (b_a4 β k = m_looked σ k ∧ b_a5 β k = m_held σ k ∧ b_a6 β k = m_rang σ k) ∧ (M16 (m_held σ k) ∧ M16 (m_rang σ k)) ∧ (k < am → (0 ≤ (m_alarms σ (3 * k)).toInt ∧ (m_alarms σ (3 * k)).toInt < 12) ∧ (0 ≤ (m_alarms σ (3 * k + 1)).toInt ∧ (m_alarms σ (3 * k + 1)).toInt ≤ 11) ∧ (0 ≤ (m_alarms σ (3 * k + 2)).toInt ∧ ((m_alarms σ (3 * k + 2)).toInt < 12 ∨ (16 ≤ (m_alarms σ (3 * k + 2)).toInt ∧ (m_alarms σ (3 * k + 2)).toInt < 24))))
/-- n changes can be taken back; P j: the picture behind j changes; the columns below fr are up to date; am alarms -/
def IV (G : GG) (z t : Nat) (β : BS) (b : Nat → va_E) (N : Nat) (σ : MS) (n : Nat) (P : Nat → PT) (fr am : Nat) : Prop :=
  (n ≤ t ∧ 86 ≤ N ∧ fr ≤ 12) ∧ (∀ j, j ≤ n → WF (P j)) ∧ (MP σ (P n) ∧ (∀ j, j < n → MT σ j (P j)) ∧ m_changes σ = Int32.ofNat n) ∧ (BR β (P n) ∧ FR β (P n) fr ∧ b_frs β = Int32.ofNat fr ∧ b_chg β = Int32.ofNat n) ∧ CH G z b N P n (b_lat β) ∧ ALM β σ am
def Inv (G : GG) (z t : Nat) (β : BS) (b : Nat → va_E) (N : Nat) (σ : MS) : Prop := ∃ n P fr am, IV G z t β b N σ n P fr am
theorem inv_N (G : GG) (z t : Nat) (β : BS) (b : Nat → va_E) (N : Nat) (σ : MS) (h : Inv G z t β b N σ) : 86 ≤ N := by
  obtain ⟨n, P, fr, am, h1, _⟩ := h; exact h1.2.1
theorem inv_S (G : GG) (z t : Nat) (β : BS) (b : Nat → va_E) (N : Nat) (σ : MS) (_ : t < 512) (h : Inv G z t β b N σ) : Inv G z (t + 1) β b N σ := by
  obtain ⟨n, P, fr, am, h1, h2⟩ := h
  exact ⟨n, P, fr, am, ⟨by omega, h1.2.1, h1.2.2⟩, h2⟩
/-- a call that only looks -/
theorem inv_look {G : GG} {z t : Nat} {β : BS} {b : Nat → va_E} {N : Nat} {σ : MS} {n : Nat} {P : Nat → PT} {fr am : Nat} (h : IV G z t β b N σ n P fr am) {m : Nat} {nu : Nat → Nat → UInt64} {bl : Nat → Nat → Int32} {xn : Nat → UInt64} {xb : Nat → Int32} {yn : Nat → UInt64} {yb : Nat → Int32} (hm : m ≤ 12) (hB : BRc (b_nar β) (b_ff β) (b_fa β) (b_fb β) (b_fc β) nu bl (b_cn β) (b_cb β) (P n)) (hR : FRc nu bl (P n) m) (nw : Nat → UInt64) (nn : Nat → Int32) (w : UInt64) (i : Int32) :
    IV G z (t + 1) (rfS β nu bl xn xb yn yb (Int32.ofNat m)) b N (rcS σ nw nn w i) n P m am := by
  obtain ⟨h1, h2, h3, h4, h5, h6⟩ := h
  refine ⟨⟨by omega, h1.2.1, hm⟩, h2, h3, ⟨?_, ?_, rfl, h4.2.2.2⟩, h5, h6⟩
  · rw [BR_rf]; exact hB
  · rw [FR_rf]; exact hR
theorem inv_refuse {G : GG} {z t : Nat} {β : BS} {b : Nat → va_E} {N : Nat} {σ : MS} {n : Nat} {P : Nat → PT} {fr am : Nat} (h : IV G z t β b N σ n P fr am) : Inv G z (t + 1) β b N σ := ⟨n, P, fr, am, ⟨by have := h.1; omega, h.1.2.1, h.1.2.2⟩, h.2⟩
/-- one more change: Q the new picture -/
theorem inv_change {G : GG} {z t : Nat} {β β' : BS} {b b' : Nat → va_E} {N N' : Nat} {σ σ' : MS} {n : Nat} {P : Nat → PT} {fr am : Nat} (h : IV G z t β b N σ n P fr am) {Q : PT} {fr' : Nat}
    (hfr : fr' ≤ 12) (hW : WF Q) (hM : MP σ' Q) (hT : ∀ j, j < n + 1 → MT σ' j (P j)) (hch : m_changes σ' = Int32.ofNat (n + 1)) (hB : BR β' Q) (hF : FR β' Q fr') (hfs : b_frs β' = Int32.ofNat fr') (hcg : b_chg β' = Int32.ofNat (n + 1)) (hl : b_lat β' = .ref (z + N)) (hN : N ≤ N') (hb : ∀ k, k < N → b' k = b k) (hTB : TB G z b' N' N (b_lat β) Q (P n)) (hA : ALM β' σ' am) : Inv G z (t + 1) β' b' N' σ' := by
  obtain ⟨h1, h2, h3, h4, h5, h6⟩ := h
  have e0 : (fun j => if j ≤ n then P j else Q) (n + 1) = Q := if_neg (by omega)
  have e1 : ∀ j, j ≤ n → (fun j => if j ≤ n then P j else Q) j = P j := fun j hj => if_pos hj
  refine ⟨n + 1, fun j => if j ≤ n then P j else Q, fr', am, ⟨by omega, by omega, hfr⟩, ?_, ⟨?_, ?_, hch⟩, ⟨?_, ?_, hfs, hcg⟩, ?_, hA⟩
  · intro j hj
    by_cases c : j ≤ n
    · rw [e1 j c]; exact h2 j c
    · obtain rfl : j = n + 1 := by omega
      rw [e0]; exact hW
  · rw [e0]; exact hM
  · intro j hj
    rw [e1 j (by omega)]; exact hT j hj
  · rw [e0]; exact hB
  · rw [e0]; exact hF
  · rw [hl]
    refine ⟨N, b_lat β, rfl, h1.2.1, ?_, CH_mono hN hb e1 h5⟩
    rw [e0, e1 n (Nat.le_refl _)]; exact hTB
theorem FR_step {P Q : PT} {nu nu' : Nat → Nat → UInt64} {bl bl' : Nat → Nat → Int32} {fr c : Nat} (hW : WF P) (hc : c ≤ 12) (hA : Agr c P Q) (hR : FRc nu bl P fr) (h : ∀ j, j < c → ∀ p, p < 16 → nu' j p = nu j p ∧ bl' j p = bl j p) : FRc nu' bl' Q (min c fr) := by
  intro i hi p hp
  rw [(h i (by omega) p hp).1, (h i (by omega) p hp).2, ← NW_agr12 hW hc hA (show 16 * i + p < 16 * c by omega)]
  exact hR i (by omega) p hp
theorem frs_min {c fr : Nat} (hc : c ≤ 12) (hf : fr ≤ 12) : (if Int32.ofNat c < Int32.ofNat fr then Int32.ofNat c else Int32.ofNat fr) = Int32.ofNat (min c fr) := by
  by_cases h : c < fr
  · rw [if_pos ((o_lt (by omega) (by omega)).mpr h), Nat.min_eq_left (by omega)]
  · rw [if_neg (by rw [o_lt (by omega) (by omega)]; exact h), Nat.min_eq_right (by omega)]
theorem room_eq {β : BS} {n : Nat} (h : b_chg β = Int32.ofNat n) (hn : n < 512) : gX10_hasRoom β = some 1 := by
  unfold gX10_hasRoom
  rw [h, if_neg (by rw [show (512 : Int32) = Int32.ofNat 512 from rfl, o_le (by omega) (by omega)]; omega)]
