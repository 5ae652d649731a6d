/-! the reference's picture of all that stands -/
theorem lq2_s {A1 A2 R : Type} (f : (A1 → A2 → Option R) → A1 → A2 → Option R) (g : Nat) (a : A1) (c : A2) : lq2 f (g + 1) a c = f (lq2 f g) a c := rfl
theorem lq4_s {A1 A2 A3 A4 R : Type} (f : (A1 → A2 → A3 → A4 → Option R) → A1 → A2 → A3 → A4 → Option R) (g : Nat) (a : A1) (c : A2) (d : A3) (e : A4) : lq4 f (g + 1) a c d e = f (lq4 f g) a c d e := rfl
def cpy {α : Type} (w n k : Nat) (f g : Nat → α) : Nat → α := fun q => if w * n ≤ q ∧ q < w * n + k then f (q - w * n) else g q
theorem cpy_0 {α : Type} (w n : Nat) (f g : Nat → α) : cpy w n 0 f g = g := by
  funext q
  exact if_neg (by omega)
theorem cpy_v {w n k : Nat} {f g : Nat → UInt64} : vf_upd (cpy w n k f g) (w * n + k) (f k) = cpy w n (k + 1) f g := by
  funext q
  unfold vf_upd cpy
  by_cases e : q = w * n + k
  · rw [if_pos e, if_pos (by omega), e, Nat.add_sub_cancel_left]
  · rw [if_neg e]
    by_cases c : w * n ≤ q ∧ q < w * n + k
    · rw [if_pos c, if_pos (by omega)]
    · rw [if_neg c, if_neg (by omega)]
theorem cpy_u {w n k : Nat} {f g : Nat → Int32} : upd (cpy w n k f g) (w * n + k) (f k) = cpy w n (k + 1) f g := by
  funext q
  unfold upd cpy
  by_cases e : q = w * n + k
  · rw [if_pos e, if_pos (by omega), e, Nat.add_sub_cancel_left]
  · rw [if_neg e]
    by_cases c : w * n ≤ q ∧ q < w * n + k
    · rw [if_pos c, if_pos (by omega)]
    · rw [if_neg c, if_neg (by omega)]
theorem cpy_lt {α : Type} {w n j k : Nat} {f g : Nat → α} (hj : j < n) (hk : k < w) : cpy w n w f g (w * j + k) = g (w * j + k) := by
  have := Nat.mul_le_mul_left w (show j + 1 ≤ n by omega)
  rw [Nat.mul_succ] at this
  exact if_neg (by omega)
theorem cpy_eq {α : Type} {w n k : Nat} {f g : Nat → α} (hk : k < w) : cpy w n w f g (w * n + k) = f k := by
  unfold cpy
  rw [if_pos (by omega), Nat.add_sub_cancel_left]
theorem pc_self (σ : MS) : pcS σ (m_toldThen σ) (m_blankThen σ) (m_narrowThen σ) (m_madeThen σ) = σ := rfl
theorem pic2 (σ0 σ : MS) (k2 : MS → Int32 → Option MS) (tT : Nat → UInt64) (bT nT mT : Nat → Int32) (v1 : Int32) : gX11_picture_2 σ0 k2 (pcS σ tT bT nT mT) v1 = if (200 : Int32) ≤ v1 then (lq2 (gX11_picture_59 σ0) 220 (pcS σ tT bT nT mT) (0 : Int32)) else (if ix v1 200 then (if ix ((200 : Int32) * m_changes σ + v1) 102400 then (if ix v1 200 then (if ix ((200 : Int32) * m_changes σ + v1) 102400 then (k2 (pcS σ (vf_upd tT ((200 : Int32) * m_changes σ + v1).toNatClampNeg (m_told σ v1.toNatClampNeg)) (upd bT ((200 : Int32) * m_changes σ + v1).toNatClampNeg (vp_nar .boolean (m_blank σ v1.toNatClampNeg))) nT mT) (v1 + (1 : Int32))) else none) else none) else none) else none) := rfl
theorem pic59 (σ0 σ : MS) (k59 : MS → Int32 → Option MS) (tT : Nat → UInt64) (bT nT mT : Nat → Int32) (v1 : Int32) : gX11_picture_59 σ0 k59 (pcS σ tT bT nT mT) v1 = if (12 : Int32) ≤ v1 then (lq2 (gX11_picture_93 σ0) 220 (pcS σ tT bT nT mT) (0 : Int32)) else (if ix v1 12 then (if ix ((12 : Int32) * m_changes σ + v1) 6144 then (k59 (pcS σ tT bT (upd nT ((12 : Int32) * m_changes σ + v1).toNatClampNeg (vp_nar .boolean (m_narrow σ v1.toNatClampNeg))) mT) (v1 + (1 : Int32))) else none) else none) := rfl
theorem pic93 (σ0 σ : MS) (k93 : MS → Int32 → Option MS) (tT : Nat → UInt64) (bT nT mT : Nat → Int32) (v1 : Int32) : gX11_picture_93 σ0 k93 (pcS σ tT bT nT mT) v1 = if (48 : Int32) ≤ v1 then (some (pcS σ tT bT nT mT)) else (if ix v1 48 then (if ix ((48 : Int32) * m_changes σ + v1) 24576 then (k93 (pcS σ tT bT nT (upd mT ((48 : Int32) * m_changes σ + v1).toNatClampNeg (m_made σ v1.toNatClampNeg))) (v1 + (1 : Int32))) else none) else none) := rfl
theorem o_idx (w n k : Nat) : Int32.ofNat w * Int32.ofNat n + Int32.ofNat k = Int32.ofNat (w * n + k) := by rw [o_mul, o_add]
theorem picA {σ0 σ : MS} {n : Nat} (hn : n < 512) (hc : m_changes σ = Int32.ofNat n) (hb : ∀ k, k < 200 → m_blank σ k = 0 ∨ m_blank σ k = 1) (nT mT : Nat → Int32) :
    ∀ (d g k : Nat), k + d = 200 → d < g → lq2 (gX11_picture_2 σ0) g (pcS σ (cpy 200 n k (m_told σ) (m_toldThen σ)) (cpy 200 n k (m_blank σ) (m_blankThen σ)) nT mT) (Int32.ofNat k) = lq2 (gX11_picture_59 σ0) 220 (pcS σ (cpy 200 n 200 (m_told σ) (m_toldThen σ)) (cpy 200 n 200 (m_blank σ) (m_blankThen σ)) nT mT) 0 := by
  intro d
  induction d with
  | zero =>
    intro g k hk hg
    obtain ⟨g, rfl⟩ : ∃ g', g = g' + 1 := ⟨g - 1, by omega⟩
    obtain rfl : k = 200 := by omega
    rw [lq2_s, pic2, if_pos (by decide)]
  | succ d ih =>
    intro g k hk hg
    obtain ⟨g, rfl⟩ : ∃ g', g = g' + 1 := ⟨g - 1, by omega⟩
    have := ih g (k + 1) (by omega) (by omega)
    rw [lq2_s]
    generalize lq2 (gX11_picture_2 σ0) g = K at this ⊢
    rw [pic2, hc, show (200 : Int32) = Int32.ofNat 200 from rfl, if_neg (by rw [o_le (by omega) (by omega)]; omega), o_idx, if_pos ((ixo (by omega)).mpr (by omega)), if_pos ((ixo (by omega)).mpr (by omega)), if_pos ((ixo (by omega)).mpr (by omega)), if_pos ((ixo (by omega)).mpr (by omega)), tn (by omega), tn (by omega), nar01 (hb k (by omega)), cpy_v, cpy_u, o_succ]
    exact this
theorem picB {σ0 σ : MS} {n : Nat} (hn : n < 512) (hc : m_changes σ = Int32.ofNat n) (hb : ∀ k, k < 12 → m_narrow σ k = 0 ∨ m_narrow σ k = 1) (tT : Nat → UInt64) (bT mT : Nat → Int32) :
    ∀ (d g k : Nat), k + d = 12 → d < g → lq2 (gX11_picture_59 σ0) g (pcS σ tT bT (cpy 12 n k (m_narrow σ) (m_narrowThen σ)) mT) (Int32.ofNat k) = lq2 (gX11_picture_93 σ0) 220 (pcS σ tT bT (cpy 12 n 12 (m_narrow σ) (m_narrowThen σ)) mT) 0 := by
  intro d
  induction d with
  | zero =>
    intro g k hk hg
    obtain ⟨g, rfl⟩ : ∃ g', g = g' + 1 := ⟨g - 1, by omega⟩
    obtain rfl : k = 12 := by omega
    rw [lq2_s, pic59, if_pos (by decide)]
  | succ d ih =>
    intro g k hk hg
    obtain ⟨g, rfl⟩ : ∃ g', g = g' + 1 := ⟨g - 1, by omega⟩
    have := ih g (k + 1) (by omega) (by omega)
    rw [lq2_s]
    generalize lq2 (gX11_picture_59 σ0) g = K at this ⊢
    rw [pic59, hc, show (12 : Int32) = Int32.ofNat 12 from rfl, if_neg (by rw [o_le (by omega) (by omega)]; omega), o_idx, if_pos ((ixo (by omega)).mpr (by omega)), if_pos ((ixo (by omega)).mpr (by omega)), tn (by omega), tn (by omega), nar01 (hb k (by omega)), cpy_u, o_succ]
    exact this
theorem picC {σ0 σ : MS} {n : Nat} (hn : n < 512) (hc : m_changes σ = Int32.ofNat n) (tT : Nat → UInt64) (bT nT : Nat → Int32) :
    ∀ (d g k : Nat), k + d = 48 → d < g → lq2 (gX11_picture_93 σ0) g (pcS σ tT bT nT (cpy 48 n k (m_made σ) (m_madeThen σ))) (Int32.ofNat k) = some (pcS σ tT bT nT (cpy 48 n 48 (m_made σ) (m_madeThen σ))) := by
  intro d
  induction d with
  | zero =>
    intro g k hk hg
    obtain ⟨g, rfl⟩ : ∃ g', g = g' + 1 := ⟨g - 1, by omega⟩
    obtain rfl : k = 48 := by omega
    rw [lq2_s, pic93, if_pos (by decide)]
  | succ d ih =>
    intro g k hk hg
    obtain ⟨g, rfl⟩ : ∃ g', g = g' + 1 := ⟨g - 1, by omega⟩
    have := ih g (k + 1) (by omega) (by omega)
    rw [lq2_s]
    generalize lq2 (gX11_picture_93 σ0) g = K at this ⊢
    rw [pic93, hc, show (48 : Int32) = Int32.ofNat 48 from rfl, if_neg (by rw [o_le (by omega) (by omega)]; omega), o_idx, if_pos ((ixo (by omega)).mpr (by omega)), if_pos ((ixo (by omega)).mpr (by omega)), tn (by omega), tn (by omega), cpy_u, o_succ]
    exact this
def pcN (σ : MS) (n : Nat) : MS := pcS σ (cpy 200 n 200 (m_told σ) (m_toldThen σ)) (cpy 200 n 200 (m_blank σ) (m_blankThen σ)) (cpy 12 n 12 (m_narrow σ) (m_narrowThen σ)) (cpy 48 n 48 (m_made σ) (m_madeThen σ))
theorem picE {σ : MS} {n : Nat} {P : PT} (hn : n < 512) (hc : m_changes σ = Int32.ofNat n) (hM : MP σ P) (hW : WF P) : gX11_picture σ = some (pcN σ n) := by
  have hb : ∀ k, k < 200 → m_blank σ k = 0 ∨ m_blank σ k = 1 := fun k hk => by rw [(hM.1 k hk).2]; exact (hW.1 k hk).2.1
  have hr : ∀ k, k < 12 → m_narrow σ k = 0 ∨ m_narrow σ k = 1 := fun k hk => by rw [hM.2.1 k hk]; exact (hW.2 k hk).1
  have e1 := picA (σ0 := σ) hn hc hb (m_narrowThen σ) (m_madeThen σ) 200 220 0 rfl (by decide)
  have e2 := picB (σ0 := σ) hn hc hr (cpy 200 n 200 (m_told σ) (m_toldThen σ)) (cpy 200 n 200 (m_blank σ) (m_blankThen σ)) (m_madeThen σ) 12 220 0 rfl (by decide)
  have e3 := picC (σ0 := σ) hn hc (cpy 200 n 200 (m_told σ) (m_toldThen σ)) (cpy 200 n 200 (m_blank σ) (m_blankThen σ)) (cpy 12 n 12 (m_narrow σ) (m_narrowThen σ)) 48 220 0 rfl (by decide)
  rw [cpy_0, cpy_0, pc_self] at e1
  rw [cpy_0] at e2
  rw [cpy_0] at e3
  exact e1.trans (e2.trans e3)
/-- the reference behind a change: n changes before it -/
def chS (σ : MS) (n : Nat) (T : Nat → UInt64) (B nr md : Nat → Int32) (nw : Nat → UInt64) (nn : Nat → Int32) (w : UInt64) (i : Int32) : MS := gS σ T B nr md nw nn (cpy 200 n 200 (m_told σ) (m_toldThen σ)) (cpy 200 n 200 (m_blank σ) (m_blankThen σ)) (cpy 12 n 12 (m_narrow σ) (m_narrowThen σ)) (cpy 48 n 48 (m_made σ) (m_madeThen σ)) (Int32.ofNat (n + 1)) w i
theorem ch_MP {σ : MS} {n : Nat} {T : Nat → UInt64} {B nr md : Nat → Int32} {nw : Nat → UInt64} {nn : Nat → Int32} {w : UInt64} {i : Int32} {Q : PT} (h1 : ∀ k, k < 200 → T k = pT Q k ∧ B k = pB Q k) (h2 : ∀ j, j < 12 → nr j = pN Q j) (h3 : ∀ k, k < 48 → md k = pM Q k) : MP (chS σ n T B nr md nw nn w i) Q := ⟨h1, h2, h3⟩
theorem ch_MT {σ : MS} {n : Nat} {T : Nat → UInt64} {B nr md : Nat → Int32} {nw : Nat → UInt64} {nn : Nat → Int32} {w : UInt64} {i : Int32} {P : Nat → PT} (hM : MP σ (P n)) (hT : ∀ j, j < n → MT σ j (P j)) : ∀ j, j < n + 1 → MT (chS σ n T B nr md nw nn w i) j (P j) := by
  intro j hj
  show (∀ k, k < 200 → cpy 200 n 200 (m_told σ) (m_toldThen σ) (200 * j + k) = pT (P j) k ∧ cpy 200 n 200 (m_blank σ) (m_blankThen σ) (200 * j + k) = pB (P j) k) ∧ (∀ i, i < 12 → cpy 12 n 12 (m_narrow σ) (m_narrowThen σ) (12 * j + i) = pN (P j) i) ∧ (∀ k, k < 48 → cpy 48 n 48 (m_made σ) (m_madeThen σ) (48 * j + k) = pM (P j) k)
  by_cases e : j = n
  · subst e
    refine ⟨fun k hk => ?_, fun k hk => ?_, fun k hk => ?_⟩
    · rw [cpy_eq hk, cpy_eq hk]; exact hM.1 k hk
    · rw [cpy_eq hk]; exact hM.2.1 k hk
    · rw [cpy_eq hk]; exact hM.2.2 k hk
  · have hj' : j < n := by omega
    obtain ⟨t1, t2, t3⟩ := hT j hj'
    refine ⟨fun k hk => ?_, fun k hk => ?_, fun k hk => ?_⟩
    · rw [cpy_lt hj' hk, cpy_lt hj' hk]; exact t1 k hk
    · rw [cpy_lt hj' hk]; exact t2 k hk
    · rw [cpy_lt hj' hk]; exact t3 k hk
theorem ch_chg {σ : MS} {n : Nat} {T : Nat → UInt64} {B nr md : Nat → Int32} {nw : Nat → UInt64} {nn : Nat → Int32} {w : UInt64} {i : Int32} : m_changes (chS σ n T B nr md nw nn w i) = Int32.ofNat (n + 1) := rfl
/-- the class behind a change -/
def cgS (β : BS) (z N n fr : Nat) (na ff fa fb fc : Nat → Int32) (nu : Nat → Nat → UInt64) (bl : Nat → Nat → Int32) (cn : Nat → UInt64) (cb : Nat → Int32) : BS := bgS β na ff fa fb fc nu bl cn cb (b_xn β) (b_xb β) (b_yn β) (b_yb β) (.ref (z + N)) (Int32.ofNat (n + 1)) (Int32.ofNat fr)
theorem cg_ALM {β : BS} {σ : MS} {am : Nat} (h : ALM β σ am) {z N m fr : Nat} {na ff fa fb fc : Nat → Int32} {nu : Nat → Nat → UInt64} {bl : Nat → Nat → Int32} {cn : Nat → UInt64} {cb : Nat → Int32} {n : Nat} {T : Nat → UInt64} {B nr md : Nat → Int32} {nw : Nat → UInt64} {nn : Nat → Int32} {w : UInt64} {i : Int32} : ALM (cgS β z N m fr na ff fa fb fc nu bl cn cb) (chS σ n T B nr md nw nn w i) am := h
theorem cg_BR {β : BS} {z N m fr : Nat} {na ff fa fb fc : Nat → Int32} {nu : Nat → Nat → UInt64} {bl : Nat → Nat → Int32} {cn : Nat → UInt64} {cb : Nat → Int32} (Q : PT) : BR (cgS β z N m fr na ff fa fb fc nu bl cn cb) Q = BRc na ff fa fb fc nu bl cn cb Q := rfl
theorem cg_FR {β : BS} {z N m fr : Nat} {na ff fa fb fc : Nat → Int32} {nu : Nat → Nat → UInt64} {bl : Nat → Nat → Int32} {cn : Nat → UInt64} {cb : Nat → Int32} (Q : PT) (k : Nat) : FR (cgS β z N m fr na ff fa fb fc nu bl cn cb) Q k = FRc nu bl Q k := rfl
