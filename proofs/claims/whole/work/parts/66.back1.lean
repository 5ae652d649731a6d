/-! back -/
def bkS (σ : MS) (ch : Int32) (T : Nat → UInt64) (B nr md : Nat → Int32) : MS := gS σ T B nr md (m_now σ) (m_none σ) (m_toldThen σ) (m_blankThen σ) (m_narrowThen σ) (m_madeThen σ) ch (m_worth σ) (m_isNone σ)
theorem bk_self (σ : MS) (v : Int32) : m_changes_ σ v = bkS σ v (m_told σ) (m_blank σ) (m_narrow σ) (m_made σ) := rfl
theorem back21 (σ0 : MS) (k21 : MS → Int32 → Option (MS × Int32)) (σ : MS) (ch : Int32) (T : Nat → UInt64) (B nr md : Nat → Int32) (v1 : Int32) : gX11_back_21 σ0 k21 (bkS σ ch T B nr md) v1 = if (200 : Int32) ≤ v1 then (lq2 (gX11_back_78 σ0) 220 (bkS σ ch T B nr md) (0 : Int32)) else (if ix ((200 : Int32) * ch + v1) 102400 then (if ix v1 200 then (if ix ((200 : Int32) * ch + v1) 102400 then (if ix v1 200 then (k21 (bkS σ ch (vf_upd T v1.toNatClampNeg (m_toldThen σ ((200 : Int32) * ch + v1).toNatClampNeg)) (upd B v1.toNatClampNeg (vp_nar .boolean (m_blankThen σ ((200 : Int32) * ch + v1).toNatClampNeg))) nr md) (v1 + (1 : Int32))) else none) else none) else none) else none) := rfl
theorem back78 (σ0 : MS) (k78 : MS → Int32 → Option (MS × Int32)) (σ : MS) (ch : Int32) (T : Nat → UInt64) (B nr md : Nat → Int32) (v1 : Int32) : gX11_back_78 σ0 k78 (bkS σ ch T B nr md) v1 = if (12 : Int32) ≤ v1 then (lq2 (gX11_back_112 σ0) 220 (bkS σ ch T B nr md) (0 : Int32)) else (if ix ((12 : Int32) * ch + v1) 6144 then (if ix v1 12 then (k78 (bkS σ ch T B (upd nr v1.toNatClampNeg (vp_nar .boolean (m_narrowThen σ ((12 : Int32) * ch + v1).toNatClampNeg))) md) (v1 + (1 : Int32))) else none) else none) := rfl
theorem back112 (σ0 : MS) (k112 : MS → Int32 → Option (MS × Int32)) (σ : MS) (ch : Int32) (T : Nat → UInt64) (B nr md : Nat → Int32) (v1 : Int32) : gX11_back_112 σ0 k112 (bkS σ ch T B nr md) v1 = if (48 : Int32) ≤ v1 then (some (bkS σ ch T B nr md, ch)) else (if ix ((48 : Int32) * ch + v1) 24576 then (if ix v1 48 then (k112 (bkS σ ch T B nr (upd md v1.toNatClampNeg (m_madeThen σ ((48 : Int32) * ch + v1).toNatClampNeg))) (v1 + (1 : Int32))) else none) else none) := rfl
theorem bkA {σ0 σ : MS} {n : Nat} (hn : n < 512) (hb : ∀ k, k < 200 → m_blankThen σ (200 * n + k) = 0 ∨ m_blankThen σ (200 * n + k) = 1) (nr md : Nat → Int32) :
    ∀ (d g k : Nat), k + d = 200 → d < g → lq2 (gX11_back_21 σ0) g (bkS σ (Int32.ofNat n) (cp k (fun q => m_toldThen σ (200 * n + q)) (m_told σ)) (cp k (fun q => m_blankThen σ (200 * n + q)) (m_blank σ)) nr md) (Int32.ofNat k) = lq2 (gX11_back_78 σ0) 220 (bkS σ (Int32.ofNat n) (cp 200 (fun q => m_toldThen σ (200 * n + q)) (m_told σ)) (cp 200 (fun q => m_blankThen σ (200 * n + q)) (m_blank σ)) nr md) 0 := by
  intro d
  induction d with
  | zero =>
    intro g k hk hg
    obtain ⟨g, rfl⟩ : ∃ g', g = g' + 1 := ⟨g - 1, by omega⟩
    obtain rfl : k = 200 := by omega
    rw [lq2_s, back21, if_pos (by decide)]
  | succ d ih =>
    intro g k hk hg
    obtain ⟨g, rfl⟩ : ∃ g', g = g' + 1 := ⟨g - 1, by omega⟩
    have := ih g (k + 1) (by omega) (by omega)
    rw [lq2_s]
    generalize lq2 (gX11_back_21 σ0) g = K at this ⊢
    rw [back21, show (200 : Int32) = Int32.ofNat 200 from rfl, if_neg (by rw [o_le (by omega) (by omega)]; omega), o_idx, if_pos ((ixo (by omega)).mpr (by omega)), if_pos ((ixo (by omega)).mpr (by omega)), if_pos ((ixo (by omega)).mpr (by omega)), if_pos ((ixo (by omega)).mpr (by omega)), tn (by omega), tn (by omega), nar01 (hb k (by omega)), show vf_upd (cp k (fun q => m_toldThen σ (200 * n + q)) (m_told σ)) k (m_toldThen σ (200 * n + k)) = cp (k + 1) (fun q => m_toldThen σ (200 * n + q)) (m_told σ) from cp_v (f := fun q => m_toldThen σ (200 * n + q)), show upd (cp k (fun q => m_blankThen σ (200 * n + q)) (m_blank σ)) k (m_blankThen σ (200 * n + k)) = cp (k + 1) (fun q => m_blankThen σ (200 * n + q)) (m_blank σ) from cp_u (f := fun q => m_blankThen σ (200 * n + q)), o_succ]
    exact this
theorem bkB {σ0 σ : MS} {n : Nat} (hn : n < 512) (hb : ∀ k, k < 12 → m_narrowThen σ (12 * n + k) = 0 ∨ m_narrowThen σ (12 * n + k) = 1) (T : Nat → UInt64) (B md : Nat → Int32) :
    ∀ (d g k : Nat), k + d = 12 → d < g → lq2 (gX11_back_78 σ0) g (bkS σ (Int32.ofNat n) T B (cp k (fun q => m_narrowThen σ (12 * n + q)) (m_narrow σ)) md) (Int32.ofNat k) = lq2 (gX11_back_112 σ0) 220 (bkS σ (Int32.ofNat n) T B (cp 12 (fun q => m_narrowThen σ (12 * n + q)) (m_narrow σ)) md) 0 := by
  intro d
  induction d with
  | zero =>
    intro g k hk hg
    obtain ⟨g, rfl⟩ : ∃ g', g = g' + 1 := ⟨g - 1, by omega⟩
    obtain rfl : k = 12 := by omega
    rw [lq2_s, back78, if_pos (by decide)]
  | succ d ih =>
    intro g k hk hg
    obtain ⟨g, rfl⟩ : ∃ g', g = g' + 1 := ⟨g - 1, by omega⟩
    have := ih g (k + 1) (by omega) (by omega)
    rw [lq2_s]
    generalize lq2 (gX11_back_78 σ0) g = K at this ⊢
    rw [back78, show (12 : Int32) = Int32.ofNat 12 from rfl, if_neg (by rw [o_le (by omega) (by omega)]; omega), o_idx, if_pos ((ixo (by omega)).mpr (by omega)), if_pos ((ixo (by omega)).mpr (by omega)), tn (by omega), tn (by omega), nar01 (hb k (by omega)), show upd (cp k (fun q => m_narrowThen σ (12 * n + q)) (m_narrow σ)) k (m_narrowThen σ (12 * n + k)) = cp (k + 1) (fun q => m_narrowThen σ (12 * n + q)) (m_narrow σ) from cp_u (f := fun q => m_narrowThen σ (12 * n + q)), o_succ]
    exact this
theorem bkC {σ0 σ : MS} {n : Nat} (hn : n < 512) (T : Nat → UInt64) (B nr : Nat → Int32) :
    ∀ (d g k : Nat), k + d = 48 → d < g → lq2 (gX11_back_112 σ0) g (bkS σ (Int32.ofNat n) T B nr (cp k (fun q => m_madeThen σ (48 * n + q)) (m_made σ))) (Int32.ofNat k) = some (bkS σ (Int32.ofNat n) T B nr (cp 48 (fun q => m_madeThen σ (48 * n + q)) (m_made σ)), Int32.ofNat n) := by
  intro d
  induction d with
  | zero =>
    intro g k hk hg
    obtain ⟨g, rfl⟩ : ∃ g', g = g' + 1 := ⟨g - 1, by omega⟩
    obtain rfl : k = 48 := by omega
    rw [lq2_s, back112, if_pos (by decide)]
  | succ d ih =>
    intro g k hk hg
    obtain ⟨g, rfl⟩ : ∃ g', g = g' + 1 := ⟨g - 1, by omega⟩
    have := ih g (k + 1) (by omega) (by omega)
    rw [lq2_s]
    generalize lq2 (gX11_back_112 σ0) g = K at this ⊢
    rw [back112, show (48 : Int32) = Int32.ofNat 48 from rfl, if_neg (by rw [o_le (by omega) (by omega)]; omega), o_idx, if_pos ((ixo (by omega)).mpr (by omega)), if_pos ((ixo (by omega)).mpr (by omega)), tn (by omega), tn (by omega), show upd (cp k (fun q => m_madeThen σ (48 * n + q)) (m_made σ)) k (m_madeThen σ (48 * n + k)) = cp (k + 1) (fun q => m_madeThen σ (48 * n + q)) (m_made σ) from cp_u (f := fun q => m_madeThen σ (48 * n + q)), o_succ]
    exact this
def bkN (σ : MS) (n : Nat) : MS := bkS σ (Int32.ofNat n) (cp 200 (fun q => m_toldThen σ (200 * n + q)) (m_told σ)) (cp 200 (fun q => m_blankThen σ (200 * n + q)) (m_blank σ)) (cp 12 (fun q => m_narrowThen σ (12 * n + q)) (m_narrow σ)) (cp 48 (fun q => m_madeThen σ (48 * n + q)) (m_made σ))
theorem bkE {σ : MS} {n : Nat} {P : PT} (hn : n < 512) (hc : m_changes σ = Int32.ofNat (n + 1)) (hT : MT σ n P) (hW : WF P) : gX11_back σ = some (bkN σ n, Int32.ofNat n) := by
  have hb : ∀ k, k < 200 → m_blankThen σ (200 * n + k) = 0 ∨ m_blankThen σ (200 * n + k) = 1 := fun k hk => by rw [(hT.1 k hk).2]; exact (hW.1 k hk).2.1
  have hr : ∀ k, k < 12 → m_narrowThen σ (12 * n + k) = 0 ∨ m_narrowThen σ (12 * n + k) = 1 := fun k hk => by rw [hT.2.1 k hk]; exact (hW.2 k hk).1
  have e1 := bkA (σ0 := σ) hn hb (m_narrow σ) (m_made σ) 200 220 0 rfl (by decide)
  have e2 := bkB (σ0 := σ) hn hr (cp 200 (fun q => m_toldThen σ (200 * n + q)) (m_told σ)) (cp 200 (fun q => m_blankThen σ (200 * n + q)) (m_blank σ)) (m_made σ) 12 220 0 rfl (by decide)
  have e3 := bkC (σ0 := σ) (σ := σ) hn (cp 200 (fun q => m_toldThen σ (200 * n + q)) (m_told σ)) (cp 200 (fun q => m_blankThen σ (200 * n + q)) (m_blank σ)) (cp 12 (fun q => m_narrowThen σ (12 * n + q)) (m_narrow σ)) 48 220 0 rfl (by decide)
  rw [cp_0, cp_0] at e1
  rw [cp_0] at e2
  rw [cp_0] at e3
  unfold gX11_back
  rw [hc, if_neg (by rw [show (0 : Int32) = Int32.ofNat 0 from rfl, o_eq (by omega) (by omega)]; omega), o_sub1, bk_self]
  exact e1.trans (e2.trans e3)
theorem bk_MP {σ : MS} {n : Nat} {P : PT} (hT : MT σ n P) : MP (bkN σ n) P := by
  show (∀ k, k < 200 → cp 200 (fun q => m_toldThen σ (200 * n + q)) (m_told σ) k = pT P k ∧ cp 200 (fun q => m_blankThen σ (200 * n + q)) (m_blank σ) k = pB P k) ∧ (∀ i, i < 12 → cp 12 (fun q => m_narrowThen σ (12 * n + q)) (m_narrow σ) i = pN P i) ∧ (∀ k, k < 48 → cp 48 (fun q => m_madeThen σ (48 * n + q)) (m_made σ) k = pM P k)
  refine ⟨fun k hk => ?_, fun k hk => ?_, fun k hk => ?_⟩
  · rw [cp_in hk, cp_in hk]; exact hT.1 k hk
  · rw [cp_in hk]; exact hT.2.1 k hk
  · rw [cp_in hk]; exact hT.2.2 k hk
theorem bk_MT {σ : MS} {n j : Nat} {P : PT} (hT : MT σ j P) : MT (bkN σ n) j P := hT
theorem bk_ch (σ : MS) (n : Nat) : m_changes (bkN σ n) = Int32.ofNat n := rfl
def tkS (β : BS) (na ff fa fb fc : Nat → Int32) (nu : Nat → Nat → UInt64) (bl : Nat → Nat → Int32) (cn : Nat → UInt64) (cb : Nat → Int32) (la : Value) (cg fr : Int32) : BS := bgS β na ff fa fb fc nu bl cn cb (b_xn β) (b_xb β) (b_yn β) (b_yb β) la cg fr
theorem tn_num (β : BS) (u : Nat → Nat → UInt64) : b_num_ β u = tkS β (b_nar β) (b_ff β) (b_fa β) (b_fb β) (b_fc β) u (b_bl β) (b_cn β) (b_cb β) (b_lat β) (b_chg β) (b_frs β) := rfl
theorem tn_cn (β : BS) (u : Nat → UInt64) : b_cn_ β u = tkS β (b_nar β) (b_ff β) (b_fa β) (b_fb β) (b_fc β) (b_num β) (b_bl β) u (b_cb β) (b_lat β) (b_chg β) (b_frs β) := rfl
theorem tn_col (β : BS) (i : Nat) (v1 v2 v3 v4 v5 : Int32) (F : Nat → UInt64) (H : Nat → Int32) : b_col_ β i v1 v2 v3 v4 v5 F H = tkS β (va_up (b_nar β) i v1) (va_up (b_ff β) i v2) (va_up (b_fa β) i v3) (va_up (b_fb β) i v4) (va_up (b_fc β) i v5) (va_up (b_num β) i F) (va_up (b_bl β) i H) (b_cn β) (b_cb β) (b_lat β) (b_chg β) (b_frs β) := rfl
theorem ts_bl (β : BS) (na ff fa fb fc : Nat → Int32) (nu : Nat → Nat → UInt64) (bl : Nat → Nat → Int32) (cn : Nat → UInt64) (cb : Nat → Int32) (la : Value) (cg fr : Int32) (u : Nat → Nat → Int32) : b_bl_ (tkS β na ff fa fb fc nu bl cn cb la cg fr) u = tkS β na ff fa fb fc nu u cn cb la cg fr := rfl
theorem ts_cb (β : BS) (na ff fa fb fc : Nat → Int32) (nu : Nat → Nat → UInt64) (bl : Nat → Nat → Int32) (cn : Nat → UInt64) (cb : Nat → Int32) (la : Value) (cg fr : Int32) (u : Nat → Int32) : b_cb_ (tkS β na ff fa fb fc nu bl cn cb la cg fr) u = tkS β na ff fa fb fc nu bl cn u la cg fr := rfl
theorem ts_lat (β : BS) (na ff fa fb fc : Nat → Int32) (nu : Nat → Nat → UInt64) (bl : Nat → Nat → Int32) (cn : Nat → UInt64) (cb : Nat → Int32) (la : Value) (cg fr : Int32) (u : Value) : b_lat_ (tkS β na ff fa fb fc nu bl cn cb la cg fr) u = tkS β na ff fa fb fc nu bl cn cb u cg fr := rfl
theorem ts_chg (β : BS) (na ff fa fb fc : Nat → Int32) (nu : Nat → Nat → UInt64) (bl : Nat → Nat → Int32) (cn : Nat → UInt64) (cb : Nat → Int32) (la : Value) (cg fr : Int32) (u : Int32) : b_chg_ (tkS β na ff fa fb fc nu bl cn cb la cg fr) u = tkS β na ff fa fb fc nu bl cn cb la u fr := rfl
theorem ts_frs (β : BS) (na ff fa fb fc : Nat → Int32) (nu : Nat → Nat → UInt64) (bl : Nat → Nat → Int32) (cn : Nat → UInt64) (cb : Nat → Int32) (la : Value) (cg fr : Int32) (u : Int32) : b_frs_ (tkS β na ff fa fb fc nu bl cn cb la cg fr) u = tkS β na ff fa fb fc nu bl cn cb la cg u := rfl
theorem tg_frs (β : BS) (na ff fa fb fc : Nat → Int32) (nu : Nat → Nat → UInt64) (bl : Nat → Nat → Int32) (cn : Nat → UInt64) (cb : Nat → Int32) (la : Value) (cg fr : Int32) : b_frs (tkS β na ff fa fb fc nu bl cn cb la cg fr) = fr := rfl
theorem tg_chg (β : BS) (na ff fa fb fc : Nat → Int32) (nu : Nat → Nat → UInt64) (bl : Nat → Nat → Int32) (cn : Nat → UInt64) (cb : Nat → Int32) (la : Value) (cg fr : Int32) : b_chg (tkS β na ff fa fb fc nu bl cn cb la cg fr) = cg := rfl
theorem tg_bl (β : BS) (na ff fa fb fc : Nat → Int32) (nu : Nat → Nat → UInt64) (bl : Nat → Nat → Int32) (cn : Nat → UInt64) (cb : Nat → Int32) (la : Value) (cg fr : Int32) : b_bl (tkS β na ff fa fb fc nu bl cn cb la cg fr) = bl := rfl
theorem tk_BR (β : BS) (na ff fa fb fc : Nat → Int32) (nu : Nat → Nat → UInt64) (bl : Nat → Nat → Int32) (cn : Nat → UInt64) (cb : Nat → Int32) (la : Value) (cg fr : Int32) (P : PT) : BR (tkS β na ff fa fb fc nu bl cn cb la cg fr) P = BRc na ff fa fb fc nu bl cn cb P := rfl
theorem tk_FR (β : BS) (na ff fa fb fc : Nat → Int32) (nu : Nat → Nat → UInt64) (bl : Nat → Nat → Int32) (cn : Nat → UInt64) (cb : Nat → Int32) (la : Value) (cg fr : Int32) (P : PT) (k : Nat) : FR (tkS β na ff fa fb fc nu bl cn cb la cg fr) P k = FRc nu bl P k := rfl
theorem tk_ALM {β : BS} {σ : MS} {am : Nat} (h : ALM β σ am)  {na ff fa fb fc : Nat → Int32} {nu : Nat → Nat → UInt64} {bl : Nat → Nat → Int32} {cn : Nat → UInt64} {cb : Nat → Int32} {la : Value} {cg fr : Int32} {n : Nat} : ALM (tkS β na ff fa fb fc nu bl cn cb la cg fr) (bkN σ n) am := h
theorem fz_nb (β : BS) (A : Nat → Nat → UInt64) (B : Nat → Nat → Int32) : b_frs (b_bl_ (b_num_ β A) B) = b_frs β := rfl
theorem cz_nb (β : BS) (A : Nat → Nat → UInt64) (B : Nat → Nat → Int32) (f : Int32) (w : Value) : b_chg (b_lat_ (b_frs_ (b_bl_ (b_num_ β A) B) f) w) = b_chg β := rfl
theorem fz_cb (β : BS) (A : Nat → UInt64) (B : Nat → Int32) : b_frs (b_cb_ (b_cn_ β A) B) = b_frs β := rfl
theorem cz_cb (β : BS) (A : Nat → UInt64) (B : Nat → Int32) (f : Int32) (w : Value) : b_chg (b_lat_ (b_frs_ (b_cb_ (b_cn_ β A) B) f) w) = b_chg β := rfl
theorem fz_co (β : BS) (i : Nat) (v1 v2 v3 v4 v5 : Int32) (F : Nat → UInt64) (H : Nat → Int32) : b_frs (b_col_ β i v1 v2 v3 v4 v5 F H) = b_frs β := rfl
theorem cz_co (β : BS) (i : Nat) (v1 v2 v3 v4 v5 : Int32) (F : Nat → UInt64) (H : Nat → Int32) (f : Int32) (w : Value) : b_chg (b_lat_ (b_frs_ (b_col_ β i v1 v2 v3 v4 v5 F H) f) w) = b_chg β := rfl
theorem bk_inv {G : GG} {z t : Nat} {β : BS} {b : Nat → va_E} {N : Nat} {σ : MS} {n : Nat} {P : Nat → PT} {fr am : Nat} (h : IV G z t β b N σ (n + 1) P fr am) {w' : Value} (hC : CH G z b N P n w') {na ff fa fb fc : Nat → Int32} {nu : Nat → Nat → UInt64} {bl : Nat → Nat → Int32} {cn : Nat → UInt64} {cb : Nat → Int32} {f : Nat} (hf : f ≤ 12) (hB : BRc na ff fa fb fc nu bl cn cb (P n)) (hF : FRc nu bl (P n) f) : Inv G z (t + 1) (tkS β na ff fa fb fc nu bl cn cb w' (Int32.ofNat n) (Int32.ofNat f)) b N (bkN σ n) := by
  obtain ⟨g1, g2, g3, g4, g5, g6⟩ := h
  refine ⟨n, P, f, am, ⟨by omega, g1.2.1, hf⟩, fun j hj => g2 j (by omega), ⟨bk_MP (g3.2.1 n (by omega)), fun j hj => bk_MT (g3.2.1 j (by omega)), bk_ch σ n⟩, ⟨?_, ?_, rfl, rfl⟩, hC, tk_ALM g6⟩
  · rw [tk_BR]; exact hB
  · rw [tk_FR]; exact hF
theorem CH_R {G : GG} {z : Nat} {b : Nat → va_E} {N : Nat} {P : Nat → PT} : ∀ {n : Nat} {w : Value}, CH G z b N P n w → isR w
  | 0, w, h => .inl h
  | n + 1, w, h => by obtain ⟨t, w', e, _⟩ := h; exact .inr ⟨_, e⟩
theorem tb7 {m p : Nat} (F : Nat → UInt64) (H : Nat → Int32) {nb : UInt64} {bk : Int32} (hp : p < m) (hq : p < 2147483648) (hk : NOK (nb, bk)) : gX7_takeBack m F H (Int32.ofNat p) nb bk = some (vf_upd F p nb, upd H p bk) := by
  unfold gX7_takeBack
  rcases hk.2.1 with e | e
  · have e : bk = 0 := e
    rw [if_pos e, c_put F H nb hp hq, e]; rfl
  · have e : bk = 1 := e
    have e2 : nb = FP.dconst0 := hk.2.2 (show ¬ bk = 0 by rw [e]; decide)
    rw [if_neg (by rw [e]; decide), c_clear F H hp hq, e, e2]; rfl
theorem backRc {β : BS} {n fr i pl : Nat} {w : Value} {nb : UInt64} {bk : Int32} (hc : b_chg β = Int32.ofNat (n + 1)) (hf : b_frs β = Int32.ofNat fr) (hi : i ≤ 12) (hfr : fr ≤ 12) (hp : pl < 16) (hk : NOK (nb, bk)) : gX10_backRc β i w (Int32.ofNat i) (Int32.ofNat pl) nb bk = some (tkS β (b_nar β) (b_ff β) (b_fa β) (b_fb β) (b_fc β) (va_up (b_num β) i (vf_upd (b_num β i) pl nb)) (va_up (b_bl β) i (upd (b_bl β i) pl bk)) (b_cn β) (b_cb β) w (Int32.ofNat n) (Int32.ofNat (min i fr)), Int32.ofNat n) := by
  unfold gX10_backRc
  rw [tb7 _ _ hp (p31 hp) hk, Option.bind_some, fz_nb, hf, frs_min hi hfr, cz_nb, hc, o_sub1]
  simp only [tn_num, ts_bl, ts_frs, ts_lat, ts_chg, tg_chg]
theorem backRk {β : BS} {n fr k : Nat} {w : Value} {nb : UInt64} {bk : Int32} (hc : b_chg β = Int32.ofNat (n + 1)) (hf : b_frs β = Int32.ofNat fr) (hfr : fr ≤ 12) (hp : k < 8) (hk : NOK (nb, bk)) : gX10_backRk β w 0 (Int32.ofNat k) nb bk = some (tkS β (b_nar β) (b_ff β) (b_fa β) (b_fb β) (b_fc β) (b_num β) (b_bl β) (vf_upd (b_cn β) k nb) (upd (b_cb β) k bk) w (Int32.ofNat n) (Int32.ofNat (min 0 fr)), Int32.ofNat n) := by
  unfold gX10_backRk
  rw [tb7 _ _ hp (by omega) hk, Option.bind_some, fz_cb, hf, show (if (0 : Int32) < Int32.ofNat fr then (0 : Int32) else Int32.ofNat fr) = Int32.ofNat (min 0 fr) from frs_min (c := 0) (by omega) hfr, cz_cb, hc, o_sub1]
  simp only [tn_cn, ts_cb, ts_frs, ts_lat, ts_chg, tg_chg]
theorem backC {β : BS} {n fr i : Nat} {w : Value} {nar2 ff2 fa2 fb2 fc2 : Int32} {F2 : Nat → UInt64} {H2 : Nat → Int32} (hc : b_chg β = Int32.ofNat (n + 1)) (hf : b_frs β = Int32.ofNat fr) (hi : i ≤ 12) (hfr : fr ≤ 12) (hn : nar2 = 0 ∨ nar2 = 1) (hv : ∀ p, p < 16 → NN (F2 p) ∧ (H2 p = 0 ∨ H2 p = 1)) : gX10_backC β i w (Int32.ofNat i) nar2 ff2 fa2 fb2 fc2 F2 H2 = some (tkS β (va_up (b_nar β) i nar2) (va_up (b_ff β) i ff2) (va_up (b_fa β) i fa2) (va_up (b_fb β) i fb2) (va_up (b_fc β) i fc2) (va_up (b_num β) i (cp 16 F2 (b_num β i))) (va_up (b_bl β) i (cp 16 H2 (b_bl β i))) (b_cn β) (b_cb β) w (Int32.ofNat n) (Int32.ofNat (min i fr)), Int32.ofNat n) := by
  unfold gX10_backC
  rw [tb4 hn hv, Option.bind_some, fz_co, hf, frs_min hi hfr, cz_co, hc, o_sub1]
  simp only [tn_col, ts_frs, ts_lat, ts_chg, tg_chg]
