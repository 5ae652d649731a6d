/-! alarm, alarmed -/
def A1_ (β : BS) (k : Nat) (x : Int32) : BS := b_alm_ β k x (b_a2 β k) (b_a3 β k) (b_a4 β k) (b_a5 β k) (b_a6 β k)
def A2_ (β : BS) (k : Nat) (x : Int32) : BS := b_alm_ β k (b_a1 β k) x (b_a3 β k) (b_a4 β k) (b_a5 β k) (b_a6 β k)
def A3_ (β : BS) (k : Nat) (x : Int32) : BS := b_alm_ β k (b_a1 β k) (b_a2 β k) x (b_a4 β k) (b_a5 β k) (b_a6 β k)
theorem up_own {f : Nat → Int32} {k q : Nat} : va_up f k (f k) q = f q := by
  by_cases h : q = k
  · subst h; rw [va_up_self]
  · rw [va_up_ne _ _ h]
theorem up_at {f : Nat → Int32} {k q : Nat} {x : Int32} : va_up f k x q = if q = k then x else f q := rfl
theorem ag11 (β : BS) (k : Nat) (x : Int32) (q : Nat) : b_a1 (A1_ β k x) q = if q = k then x else b_a1 β q := rfl
theorem ag12 (β : BS) (k : Nat) (x : Int32) (q : Nat) : b_a2 (A1_ β k x) q = b_a2 β q := up_own
theorem ag13 (β : BS) (k : Nat) (x : Int32) (q : Nat) : b_a3 (A1_ β k x) q = b_a3 β q := up_own
theorem ag14 (β : BS) (k : Nat) (x : Int32) (q : Nat) : b_a4 (A1_ β k x) q = b_a4 β q := up_own
theorem ag15 (β : BS) (k : Nat) (x : Int32) (q : Nat) : b_a5 (A1_ β k x) q = b_a5 β q := up_own
theorem ag16 (β : BS) (k : Nat) (x : Int32) (q : Nat) : b_a6 (A1_ β k x) q = b_a6 β q := up_own
theorem ag21 (β : BS) (k : Nat) (x : Int32) (q : Nat) : b_a1 (A2_ β k x) q = b_a1 β q := up_own
theorem ag22 (β : BS) (k : Nat) (x : Int32) (q : Nat) : b_a2 (A2_ β k x) q = if q = k then x else b_a2 β q := rfl
theorem ag23 (β : BS) (k : Nat) (x : Int32) (q : Nat) : b_a3 (A2_ β k x) q = b_a3 β q := up_own
theorem ag24 (β : BS) (k : Nat) (x : Int32) (q : Nat) : b_a4 (A2_ β k x) q = b_a4 β q := up_own
theorem ag25 (β : BS) (k : Nat) (x : Int32) (q : Nat) : b_a5 (A2_ β k x) q = b_a5 β q := up_own
theorem ag26 (β : BS) (k : Nat) (x : Int32) (q : Nat) : b_a6 (A2_ β k x) q = b_a6 β q := up_own
theorem ag31 (β : BS) (k : Nat) (x : Int32) (q : Nat) : b_a1 (A3_ β k x) q = b_a1 β q := up_own
theorem ag32 (β : BS) (k : Nat) (x : Int32) (q : Nat) : b_a2 (A3_ β k x) q = b_a2 β q := up_own
theorem ag33 (β : BS) (k : Nat) (x : Int32) (q : Nat) : b_a3 (A3_ β k x) q = if q = k then x else b_a3 β q := rfl
theorem ag34 (β : BS) (k : Nat) (x : Int32) (q : Nat) : b_a4 (A3_ β k x) q = b_a4 β q := up_own
theorem ag35 (β : BS) (k : Nat) (x : Int32) (q : Nat) : b_a5 (A3_ β k x) q = b_a5 β q := up_own
theorem ag36 (β : BS) (k : Nat) (x : Int32) (q : Nat) : b_a6 (A3_ β k x) q = b_a6 β q := up_own
def AT (β : BS) (k : Nat) (x0 x1 x2 v : Int32) : BS := b_acnt_ (A3_ (A2_ (A1_ β k x0) k x1) k x2) v
theorem an1_nar (β : BS) (k : Nat) (x : Int32) : b_nar (A1_ β k x) = b_nar β := rfl
theorem an2_nar (β : BS) (k : Nat) (x : Int32) : b_nar (A2_ β k x) = b_nar β := rfl
theorem an3_nar (β : BS) (k : Nat) (x : Int32) : b_nar (A3_ β k x) = b_nar β := rfl
theorem ac_nar (β : BS) (v : Int32) : b_nar (b_acnt_ β v) = b_nar β := rfl
theorem at_nar (β : BS) (k : Nat) (x0 x1 x2 v : Int32) : b_nar (AT β k x0 x1 x2 v) = b_nar β := by unfold AT; rw [ac_nar, an3_nar, an2_nar, an1_nar]
theorem an1_ff (β : BS) (k : Nat) (x : Int32) : b_ff (A1_ β k x) = b_ff β := rfl
theorem an2_ff (β : BS) (k : Nat) (x : Int32) : b_ff (A2_ β k x) = b_ff β := rfl
theorem an3_ff (β : BS) (k : Nat) (x : Int32) : b_ff (A3_ β k x) = b_ff β := rfl
theorem ac_ff (β : BS) (v : Int32) : b_ff (b_acnt_ β v) = b_ff β := rfl
theorem at_ff (β : BS) (k : Nat) (x0 x1 x2 v : Int32) : b_ff (AT β k x0 x1 x2 v) = b_ff β := by unfold AT; rw [ac_ff, an3_ff, an2_ff, an1_ff]
theorem an1_fa (β : BS) (k : Nat) (x : Int32) : b_fa (A1_ β k x) = b_fa β := rfl
theorem an2_fa (β : BS) (k : Nat) (x : Int32) : b_fa (A2_ β k x) = b_fa β := rfl
theorem an3_fa (β : BS) (k : Nat) (x : Int32) : b_fa (A3_ β k x) = b_fa β := rfl
theorem ac_fa (β : BS) (v : Int32) : b_fa (b_acnt_ β v) = b_fa β := rfl
theorem at_fa (β : BS) (k : Nat) (x0 x1 x2 v : Int32) : b_fa (AT β k x0 x1 x2 v) = b_fa β := by unfold AT; rw [ac_fa, an3_fa, an2_fa, an1_fa]
theorem an1_fb (β : BS) (k : Nat) (x : Int32) : b_fb (A1_ β k x) = b_fb β := rfl
theorem an2_fb (β : BS) (k : Nat) (x : Int32) : b_fb (A2_ β k x) = b_fb β := rfl
theorem an3_fb (β : BS) (k : Nat) (x : Int32) : b_fb (A3_ β k x) = b_fb β := rfl
theorem ac_fb (β : BS) (v : Int32) : b_fb (b_acnt_ β v) = b_fb β := rfl
theorem at_fb (β : BS) (k : Nat) (x0 x1 x2 v : Int32) : b_fb (AT β k x0 x1 x2 v) = b_fb β := by unfold AT; rw [ac_fb, an3_fb, an2_fb, an1_fb]
theorem an1_fc (β : BS) (k : Nat) (x : Int32) : b_fc (A1_ β k x) = b_fc β := rfl
theorem an2_fc (β : BS) (k : Nat) (x : Int32) : b_fc (A2_ β k x) = b_fc β := rfl
theorem an3_fc (β : BS) (k : Nat) (x : Int32) : b_fc (A3_ β k x) = b_fc β := rfl
theorem ac_fc (β : BS) (v : Int32) : b_fc (b_acnt_ β v) = b_fc β := rfl
theorem at_fc (β : BS) (k : Nat) (x0 x1 x2 v : Int32) : b_fc (AT β k x0 x1 x2 v) = b_fc β := by unfold AT; rw [ac_fc, an3_fc, an2_fc, an1_fc]
theorem an1_num (β : BS) (k : Nat) (x : Int32) : b_num (A1_ β k x) = b_num β := rfl
theorem an2_num (β : BS) (k : Nat) (x : Int32) : b_num (A2_ β k x) = b_num β := rfl
theorem an3_num (β : BS) (k : Nat) (x : Int32) : b_num (A3_ β k x) = b_num β := rfl
theorem ac_num (β : BS) (v : Int32) : b_num (b_acnt_ β v) = b_num β := rfl
theorem at_num (β : BS) (k : Nat) (x0 x1 x2 v : Int32) : b_num (AT β k x0 x1 x2 v) = b_num β := by unfold AT; rw [ac_num, an3_num, an2_num, an1_num]
theorem an1_bl (β : BS) (k : Nat) (x : Int32) : b_bl (A1_ β k x) = b_bl β := rfl
theorem an2_bl (β : BS) (k : Nat) (x : Int32) : b_bl (A2_ β k x) = b_bl β := rfl
theorem an3_bl (β : BS) (k : Nat) (x : Int32) : b_bl (A3_ β k x) = b_bl β := rfl
theorem ac_bl (β : BS) (v : Int32) : b_bl (b_acnt_ β v) = b_bl β := rfl
theorem at_bl (β : BS) (k : Nat) (x0 x1 x2 v : Int32) : b_bl (AT β k x0 x1 x2 v) = b_bl β := by unfold AT; rw [ac_bl, an3_bl, an2_bl, an1_bl]
theorem an1_cn (β : BS) (k : Nat) (x : Int32) : b_cn (A1_ β k x) = b_cn β := rfl
theorem an2_cn (β : BS) (k : Nat) (x : Int32) : b_cn (A2_ β k x) = b_cn β := rfl
theorem an3_cn (β : BS) (k : Nat) (x : Int32) : b_cn (A3_ β k x) = b_cn β := rfl
theorem ac_cn (β : BS) (v : Int32) : b_cn (b_acnt_ β v) = b_cn β := rfl
theorem at_cn (β : BS) (k : Nat) (x0 x1 x2 v : Int32) : b_cn (AT β k x0 x1 x2 v) = b_cn β := by unfold AT; rw [ac_cn, an3_cn, an2_cn, an1_cn]
theorem an1_cb (β : BS) (k : Nat) (x : Int32) : b_cb (A1_ β k x) = b_cb β := rfl
theorem an2_cb (β : BS) (k : Nat) (x : Int32) : b_cb (A2_ β k x) = b_cb β := rfl
theorem an3_cb (β : BS) (k : Nat) (x : Int32) : b_cb (A3_ β k x) = b_cb β := rfl
theorem ac_cb (β : BS) (v : Int32) : b_cb (b_acnt_ β v) = b_cb β := rfl
theorem at_cb (β : BS) (k : Nat) (x0 x1 x2 v : Int32) : b_cb (AT β k x0 x1 x2 v) = b_cb β := by unfold AT; rw [ac_cb, an3_cb, an2_cb, an1_cb]
theorem an1_lat (β : BS) (k : Nat) (x : Int32) : b_lat (A1_ β k x) = b_lat β := rfl
theorem an2_lat (β : BS) (k : Nat) (x : Int32) : b_lat (A2_ β k x) = b_lat β := rfl
theorem an3_lat (β : BS) (k : Nat) (x : Int32) : b_lat (A3_ β k x) = b_lat β := rfl
theorem ac_lat (β : BS) (v : Int32) : b_lat (b_acnt_ β v) = b_lat β := rfl
theorem at_lat (β : BS) (k : Nat) (x0 x1 x2 v : Int32) : b_lat (AT β k x0 x1 x2 v) = b_lat β := by unfold AT; rw [ac_lat, an3_lat, an2_lat, an1_lat]
theorem an1_chg (β : BS) (k : Nat) (x : Int32) : b_chg (A1_ β k x) = b_chg β := rfl
theorem an2_chg (β : BS) (k : Nat) (x : Int32) : b_chg (A2_ β k x) = b_chg β := rfl
theorem an3_chg (β : BS) (k : Nat) (x : Int32) : b_chg (A3_ β k x) = b_chg β := rfl
theorem ac_chg (β : BS) (v : Int32) : b_chg (b_acnt_ β v) = b_chg β := rfl
theorem at_chg (β : BS) (k : Nat) (x0 x1 x2 v : Int32) : b_chg (AT β k x0 x1 x2 v) = b_chg β := by unfold AT; rw [ac_chg, an3_chg, an2_chg, an1_chg]
theorem an1_frs (β : BS) (k : Nat) (x : Int32) : b_frs (A1_ β k x) = b_frs β := rfl
theorem an2_frs (β : BS) (k : Nat) (x : Int32) : b_frs (A2_ β k x) = b_frs β := rfl
theorem an3_frs (β : BS) (k : Nat) (x : Int32) : b_frs (A3_ β k x) = b_frs β := rfl
theorem ac_frs (β : BS) (v : Int32) : b_frs (b_acnt_ β v) = b_frs β := rfl
theorem at_frs (β : BS) (k : Nat) (x0 x1 x2 v : Int32) : b_frs (AT β k x0 x1 x2 v) = b_frs β := by unfold AT; rw [ac_frs, an3_frs, an2_frs, an1_frs]
theorem an1_rngs (β : BS) (k : Nat) (x : Int32) : b_rngs (A1_ β k x) = b_rngs β := rfl
theorem an2_rngs (β : BS) (k : Nat) (x : Int32) : b_rngs (A2_ β k x) = b_rngs β := rfl
theorem an3_rngs (β : BS) (k : Nat) (x : Int32) : b_rngs (A3_ β k x) = b_rngs β := rfl
theorem ac_rngs (β : BS) (v : Int32) : b_rngs (b_acnt_ β v) = b_rngs β := rfl
theorem at_rngs (β : BS) (k : Nat) (x0 x1 x2 v : Int32) : b_rngs (AT β k x0 x1 x2 v) = b_rngs β := by unfold AT; rw [ac_rngs, an3_rngs, an2_rngs, an1_rngs]
theorem an1_acnt (β : BS) (k : Nat) (x : Int32) : b_acnt (A1_ β k x) = b_acnt β := rfl
theorem an2_acnt (β : BS) (k : Nat) (x : Int32) : b_acnt (A2_ β k x) = b_acnt β := rfl
theorem an3_acnt (β : BS) (k : Nat) (x : Int32) : b_acnt (A3_ β k x) = b_acnt β := rfl
theorem at_acnt (β : BS) (k : Nat) (x0 x1 x2 v : Int32) : b_acnt (AT β k x0 x1 x2 v) = v := rfl
theorem ac_a1 (β : BS) (v : Int32) : b_a1 (b_acnt_ β v) = b_a1 β := rfl
theorem at_a1 (β : BS) (k : Nat) (x0 x1 x2 v : Int32) (q : Nat) : b_a1 (AT β k x0 x1 x2 v) q = if q = k then x0 else b_a1 β q := by unfold AT; rw [ac_a1, ag31, ag21, ag11]
theorem ac_a2 (β : BS) (v : Int32) : b_a2 (b_acnt_ β v) = b_a2 β := rfl
theorem at_a2 (β : BS) (k : Nat) (x0 x1 x2 v : Int32) (q : Nat) : b_a2 (AT β k x0 x1 x2 v) q = if q = k then x1 else b_a2 β q := by unfold AT; rw [ac_a2, ag32, ag22, ag12]
theorem ac_a3 (β : BS) (v : Int32) : b_a3 (b_acnt_ β v) = b_a3 β := rfl
theorem at_a3 (β : BS) (k : Nat) (x0 x1 x2 v : Int32) (q : Nat) : b_a3 (AT β k x0 x1 x2 v) q = if q = k then x2 else b_a3 β q := by unfold AT; rw [ac_a3, ag33, ag23, ag13]
theorem ac_a4 (β : BS) (v : Int32) : b_a4 (b_acnt_ β v) = b_a4 β := rfl
theorem at_a4 (β : BS) (k : Nat) (x0 x1 x2 v : Int32) (q : Nat) : b_a4 (AT β k x0 x1 x2 v) q = b_a4 β q := by unfold AT; rw [ac_a4, ag34, ag24, ag14]
theorem ac_a5 (β : BS) (v : Int32) : b_a5 (b_acnt_ β v) = b_a5 β := rfl
theorem at_a5 (β : BS) (k : Nat) (x0 x1 x2 v : Int32) (q : Nat) : b_a5 (AT β k x0 x1 x2 v) q = b_a5 β q := by unfold AT; rw [ac_a5, ag35, ag25, ag15]
theorem ac_a6 (β : BS) (v : Int32) : b_a6 (b_acnt_ β v) = b_a6 β := rfl
theorem at_a6 (β : BS) (k : Nat) (x0 x1 x2 v : Int32) (q : Nat) : b_a6 (AT β k x0 x1 x2 v) q = b_a6 β q := by unfold AT; rw [ac_a6, ag36, ag26, ag16]
theorem alarm30 (β : BS) (x0 x1 x2 : Int32) : gX10_alarm_30 β x0 x1 x2 β = if b_acnt β < 10 then (if ix (b_acnt β) 10 then some (AT β (b_acnt β).toNatClampNeg x0 x1 x2 (b_acnt (A3_ (A2_ (A1_ β (b_acnt β).toNatClampNeg x0) (b_acnt β).toNatClampNeg x1) (b_acnt β).toNatClampNeg x2) + 1), b_acnt (AT β (b_acnt β).toNatClampNeg x0 x1 x2 (b_acnt (A3_ (A2_ (A1_ β (b_acnt β).toNatClampNeg x0) (b_acnt β).toNatClampNeg x1) (b_acnt β).toNatClampNeg x2) + 1)) - 1) else none) else some (β, -1) := rfl
theorem alarm30c {β : BS} {x0 x1 x2 : Int32} {am : Nat} (h : b_acnt β = Int32.ofNat am) (ha : am < 10) : gX10_alarm_30 β x0 x1 x2 β = some (AT β am x0 x1 x2 (Int32.ofNat (am + 1)), Int32.ofNat am) := by
  rw [alarm30, an3_acnt, an2_acnt, an1_acnt, at_acnt, h, if_pos (by rw [show (10 : Int32) = Int32.ofNat 10 from rfl, o_lt (by omega) (by omega)]; omega), if_pos ((ixo (by omega)).mpr ha), tn (by omega), o_succ, o_sub1]
theorem alarm30f {β : BS} {x0 x1 x2 : Int32} {am : Nat} (h : b_acnt β = Int32.ofNat am) (ha : am = 10) : gX10_alarm_30 β x0 x1 x2 β = some (β, -1) := by
  rw [alarm30, h, if_neg (by rw [show (10 : Int32) = Int32.ofNat 10 from rfl, o_lt (by omega) (by omega)]; omega)]
def M1_ (τ : MS) (i : Nat) (x : Int32) : MS := m_alarms_ τ (upd (m_alarms τ) i x)
def MA3 (τ : MS) (i1 i2 i3 : Nat) (x0 x1 x2 : Int32) : MS := M1_ (M1_ (M1_ τ i1 x0) i2 x1) i3 x2
theorem ma_many (τ : MS) (i1 i2 i3 : Nat) (x0 x1 x2 : Int32) : m_alarmMany (MA3 τ i1 i2 i3 x0 x1 x2) = m_alarmMany τ := rfl
theorem alarm41 (σ τ : MS) (x0 x1 x2 : Int32) : gX11_alarm_41 σ x0 x1 x2 τ = if m_alarmMany τ = 10 then some (τ, -1) else (if ix (3 * m_alarmMany τ) 30 then (if ix (3 * m_alarmMany τ + 1) 30 then (if ix (3 * m_alarmMany τ + 2) 30 then some (m_alarmMany_ (M1_ (M1_ (M1_ τ (3 * m_alarmMany τ).toNatClampNeg x0) (3 * m_alarmMany τ + 1).toNatClampNeg x1) (3 * m_alarmMany τ + 2).toNatClampNeg x2) (m_alarmMany τ + 1), m_alarmMany τ + 1 - 1) else none) else none) else none) := rfl
theorem m1_many (τ : MS) (i : Nat) (x : Int32) : m_alarmMany (M1_ τ i x) = m_alarmMany τ := rfl
theorem mm_many (τ : MS) (v : Int32) : m_alarmMany (m_alarmMany_ τ v) = v := rfl
def MT3 (τ : MS) (am : Nat) (x0 x1 x2 : Int32) : MS := m_alarmMany_ (M1_ (M1_ (M1_ τ (3 * am) x0) (3 * am + 1) x1) (3 * am + 2) x2) (Int32.ofNat (am + 1))
theorem alarm41c {σ τ : MS} {x0 x1 x2 : Int32} {am : Nat} (h : m_alarmMany τ = Int32.ofNat am) (ha : am < 10) : gX11_alarm_41 σ x0 x1 x2 τ = some (MT3 τ am x0 x1 x2, Int32.ofNat am) := by
  have e3 : (3 : Int32) * Int32.ofNat am = Int32.ofNat (3 * am) := o_mul 3 am
  rw [alarm41, h, if_neg (by rw [show (10 : Int32) = Int32.ofNat 10 from rfl, o_eq (by omega) (by omega)]; omega), e3, show (1 : Int32) = Int32.ofNat 1 from rfl, show (2 : Int32) = Int32.ofNat 2 from rfl, o_add, o_add, o_add, if_pos ((ixo (by omega)).mpr (by omega)), if_pos ((ixo (by omega)).mpr (by omega)), if_pos ((ixo (by omega)).mpr (by omega)), tn (by omega), tn (by omega), tn (by omega), ← Int32.ofNat_sub (am + 1) 1 (by omega), Nat.add_sub_cancel]
  rfl
theorem alarm41f {σ τ : MS} {x0 x1 x2 : Int32} {am : Nat} (h : m_alarmMany τ = Int32.ofNat am) (ha : am = 10) : gX11_alarm_41 σ x0 x1 x2 τ = some (τ, -1) := by
  rw [alarm41, h, if_pos (by rw [ha]; rfl)]
theorem m3_told (τ : MS) (am : Nat) (x0 x1 x2 : Int32) : m_told (MT3 τ am x0 x1 x2) = m_told τ := rfl
theorem m3_blank (τ : MS) (am : Nat) (x0 x1 x2 : Int32) : m_blank (MT3 τ am x0 x1 x2) = m_blank τ := rfl
theorem m3_narrow (τ : MS) (am : Nat) (x0 x1 x2 : Int32) : m_narrow (MT3 τ am x0 x1 x2) = m_narrow τ := rfl
theorem m3_made (τ : MS) (am : Nat) (x0 x1 x2 : Int32) : m_made (MT3 τ am x0 x1 x2) = m_made τ := rfl
theorem m3_now (τ : MS) (am : Nat) (x0 x1 x2 : Int32) : m_now (MT3 τ am x0 x1 x2) = m_now τ := rfl
theorem m3_none (τ : MS) (am : Nat) (x0 x1 x2 : Int32) : m_none (MT3 τ am x0 x1 x2) = m_none τ := rfl
theorem m3_toldThen (τ : MS) (am : Nat) (x0 x1 x2 : Int32) : m_toldThen (MT3 τ am x0 x1 x2) = m_toldThen τ := rfl
theorem m3_blankThen (τ : MS) (am : Nat) (x0 x1 x2 : Int32) : m_blankThen (MT3 τ am x0 x1 x2) = m_blankThen τ := rfl
theorem m3_narrowThen (τ : MS) (am : Nat) (x0 x1 x2 : Int32) : m_narrowThen (MT3 τ am x0 x1 x2) = m_narrowThen τ := rfl
theorem m3_madeThen (τ : MS) (am : Nat) (x0 x1 x2 : Int32) : m_madeThen (MT3 τ am x0 x1 x2) = m_madeThen τ := rfl
theorem m3_changes (τ : MS) (am : Nat) (x0 x1 x2 : Int32) : m_changes (MT3 τ am x0 x1 x2) = m_changes τ := rfl
theorem m3_held (τ : MS) (am : Nat) (x0 x1 x2 : Int32) : m_held (MT3 τ am x0 x1 x2) = m_held τ := rfl
theorem m3_rang (τ : MS) (am : Nat) (x0 x1 x2 : Int32) : m_rang (MT3 τ am x0 x1 x2) = m_rang τ := rfl
theorem m3_looked (τ : MS) (am : Nat) (x0 x1 x2 : Int32) : m_looked (MT3 τ am x0 x1 x2) = m_looked τ := rfl
theorem m3_rings (τ : MS) (am : Nat) (x0 x1 x2 : Int32) : m_rings (MT3 τ am x0 x1 x2) = m_rings τ := rfl
theorem m3_many (τ : MS) (am : Nat) (x0 x1 x2 : Int32) : m_alarmMany (MT3 τ am x0 x1 x2) = Int32.ofNat (am + 1) := rfl
theorem m3_al (τ : MS) (am : Nat) (x0 x1 x2 : Int32) (q : Nat) : m_alarms (MT3 τ am x0 x1 x2) q = if q = 3 * am + 2 then x2 else if q = 3 * am + 1 then x1 else if q = 3 * am then x0 else m_alarms τ q := rfl
theorem alarm_inv {G : GG} {z t : Nat} {β : BS} {b : Nat → va_E} {N : Nat} {σ : MS} {n : Nat} {P : Nat → PT} {fr am : Nat} (h : IV G z t β b N σ n P fr am) (ha : am < 10) {x0 x1 x2 : Int32} (h0 : 0 ≤ x0.toInt ∧ x0.toInt < 12) (h1 : 0 ≤ x1.toInt ∧ x1.toInt < 12) (h2 : 0 ≤ x2.toInt ∧ (x2.toInt < 12 ∨ (16 ≤ x2.toInt ∧ x2.toInt < 24))) : Inv G z (t + 1) (AT β am x0 x1 x2 (Int32.ofNat (am + 1))) b N (MT3 σ am x0 x1 x2) := by
  obtain ⟨g1, g2, g3, g4, g5, g6⟩ := h
  refine ⟨n, P, fr, am + 1, ⟨by omega, g1.2.1, g1.2.2⟩, g2, ⟨?_, ?_, ?_⟩, ⟨?_, ?_, ?_, ?_⟩, ?_, ?_⟩
  · unfold MP; rw [m3_told, m3_blank, m3_narrow, m3_made]; exact g3.1
  · intro j hj
    have := g3.2.1 j hj
    unfold MT at this ⊢
    rw [m3_toldThen, m3_blankThen, m3_narrowThen, m3_madeThen]; exact this
  · rw [m3_changes]; exact g3.2.2
  · unfold BR; rw [at_nar, at_ff, at_fa, at_fb, at_fc, at_num, at_bl, at_cn, at_cb]; exact g4.1
  · unfold FR; rw [at_num, at_bl]; exact g4.2.1
  · rw [at_frs]; exact g4.2.2.1
  · rw [at_chg]; exact g4.2.2.2
  · rw [at_lat]; exact g5
  · obtain ⟨k1, k2, k3, k4, k5⟩ := g6
    refine ⟨by omega, at_acnt _ _ _ _ _ _, m3_many _ _ _ _ _, ?_, ?_⟩
    · rw [at_rngs, m3_rings]; exact k4
    · intro k hk
      obtain ⟨q1, q2, q3, q4⟩ := k5 k hk
      rw [at_a1, at_a2, at_a3, at_a4, at_a5, at_a6, m3_looked, m3_held, m3_rang, m3_al, m3_al, m3_al]
      by_cases e : k = am
      · subst e
        rw [if_pos rfl, if_pos rfl, if_pos rfl, if_neg (by omega), if_neg (by omega), if_pos rfl, if_neg (by omega), if_pos rfl, if_pos rfl]
        exact ⟨⟨rfl, rfl, rfl⟩, q2, q3, fun _ => ⟨h0, ⟨h1.1, by omega⟩, h2⟩⟩
      · rw [if_neg e, if_neg e, if_neg e, if_neg (by omega), if_neg (by omega), if_neg (by omega), if_neg (by omega), if_neg (by omega), if_neg (by omega), if_neg (by omega), if_neg (by omega), if_neg (by omega)]
        exact ⟨q1, q2, q3, fun c => q4 (by omega)⟩
theorem op_alarm {G : GG} {z t : Nat} {β : BS} {b : Nat → va_E} {N : Nat} {σ : MS} {n : Nat} {P : Nat → PT} {fr am : Nat} (h : IV G z t β b N σ n P fr am) (x0 x1 x2 : Int32) : ∃ (β' : BS) (σ' : MS) (r : Int32), gX10_alarm β x0 x1 x2 = some (β', r) ∧ gX11_alarm σ x0 x1 x2 = some (σ', r) ∧ Inv G z (t + 1) β' b N σ' := by
  have fin : 0 ≤ x0.toInt ∧ x0.toInt < 12 → 0 ≤ x1.toInt ∧ x1.toInt < 12 → (0 ≤ x2.toInt ∧ (x2.toInt < 12 ∨ (16 ≤ x2.toInt ∧ x2.toInt < 24))) → ∃ (β' : BS) (σ' : MS) (r : Int32), gX10_alarm_30 β x0 x1 x2 β = some (β', r) ∧ gX11_alarm_41 σ x0 x1 x2 σ = some (σ', r) ∧ Inv G z (t + 1) β' b N σ' := by
    intro h0 h1 h2
    have k := h.2.2.2.2.2
    by_cases ha : am < 10
    · exact ⟨_, _, _, alarm30c k.2.1 ha, alarm41c k.2.2.1 ha, alarm_inv h ha h0 h1 h2⟩
    · have : am = 10 := by have := k.1; omega
      exact ⟨_, _, _, alarm30f k.2.1 this, alarm41f k.2.2.1 this, inv_refuse h⟩
  unfold gX10_alarm gX11_alarm
  by_cases h0 : 0 ≤ x0.toInt ∧ x0.toInt < 12
  · by_cases h1 : 0 ≤ x1.toInt ∧ x1.toInt < 12
    · by_cases h2 : 0 ≤ x2.toInt ∧ x2.toInt < 12
      · rw [col1 h0, cmp1 h1, col1 h2, inC1 h0, inC1 h1, inC1 h2]
        simp only [Option.bind_some]
        rw [if_neg (by decide), if_neg (by decide), if_neg (by decide), if_neg (by decide), if_neg (by decide), if_neg (by decide)]
        exact fin h0 h1 ⟨h2.1, .inl h2.2⟩
      · by_cases h3 : 16 ≤ x2.toInt ∧ x2.toInt < 24
        · rw [col1 h0, cmp1 h1, col0 h2, src_1 h3.1 h3.2, inC1 h0, inC1 h1, inC0 h2, inB1 h3]
          simp only [Option.bind_some]
          rw [if_neg (by decide), if_neg (by decide), if_pos trivial, if_neg (by decide), if_neg (by decide), if_neg (by decide), if_pos trivial, if_neg (by decide)]
          exact fin h0 h1 ⟨by omega, .inr h3⟩
        · rw [col1 h0, cmp1 h1, col0 h2, isSource_eq, if_neg h3, inC1 h0, inC1 h1, inC0 h2, inB0 h3]
          simp only [Option.bind_some]
          rw [if_neg (by decide), if_neg (by decide), if_pos trivial, if_pos trivial, if_neg (by decide), if_neg (by decide), if_pos trivial, if_pos trivial]
          exact ⟨_, _, _, rfl, rfl, inv_refuse h⟩
    · rw [col1 h0, cmp0 h1, inC1 h0, inC0 h1]
      simp only [Option.bind_some]
      rw [if_neg (by decide), if_pos trivial, if_neg (by decide), if_pos trivial]
      exact ⟨_, _, _, rfl, rfl, inv_refuse h⟩
  · rw [col0 h0, inC0 h0]
    simp only [Option.bind_some]
    rw [if_pos trivial, if_pos trivial]
    exact ⟨_, _, _, rfl, rfl, inv_refuse h⟩
theorem first_eq {σ : MS} {k : Nat} (hk : k < 10) (x1 a1 a2 a3 a4 a5 a6 : Int32) (e : m_rang σ k = a6) : ∀ (d f p : Nat), p + d = 16 → d < f → ∃ r, lq1 (gX0_firstRang_2 a1 a2 a3 a4 a5 a6) f (Int32.ofNat p) = some r ∧ lq1 (gX11_alarmed_64 σ (Int32.ofNat k) x1) f (Int32.ofNat p) = some r := by
  intro d
  induction d with
  | zero =>
    intro f p hp hf
    obtain ⟨f, rfl⟩ : ∃ g, f = g + 1 := ⟨f - 1, by omega⟩
    obtain rfl : p = 16 := by omega
    refine ⟨-1, ?_, ?_⟩
    · show gX0_firstRang_2 _ _ _ _ _ _ _ _ = _
      unfold gX0_firstRang_2
      rw [if_pos (by decide)]
    · show gX11_alarmed_64 _ _ _ _ _ = _
      unfold gX11_alarmed_64 gX11_alarmed_89
      rw [if_pos (by decide), if_pos (by decide)]
  | succ d ih =>
    intro f p hp hf
    obtain ⟨f, rfl⟩ : ∃ g, f = g + 1 := ⟨f - 1, by omega⟩
    obtain ⟨r, r1, r2⟩ := ih f (p + 1) (by omega) (by omega)
    have n16 : ¬ (16 : Int32) ≤ Int32.ofNat p := by rw [l16, o_le (by omega) (by omega)]; omega
    by_cases c : ((a6 >>> (Int32.ofNat p &&& 31)) &&& (1 : Int32)) = 0
    · refine ⟨r, ?_, ?_⟩
      · show gX0_firstRang_2 _ _ _ _ _ _ (lq1 (gX0_firstRang_2 a1 a2 a3 a4 a5 a6) f) _ = _
        generalize lq1 (gX0_firstRang_2 a1 a2 a3 a4 a5 a6) f = K at r1 ⊢
        unfold gX0_firstRang_2
        rw [if_neg n16, if_pos c, o_succ]; exact r1
      · show gX11_alarmed_64 _ _ _ (lq1 (gX11_alarmed_64 σ (Int32.ofNat k) x1) f) _ = _
        generalize lq1 (gX11_alarmed_64 σ (Int32.ofNat k) x1) f = K at r2 ⊢
        unfold gX11_alarmed_64
        rw [if_neg n16, if_pos ((ixo (by omega)).mpr hk), tn (by omega), e, if_pos c, o_succ]; exact r2
    · refine ⟨Int32.ofNat p, ?_, ?_⟩
      · show gX0_firstRang_2 _ _ _ _ _ _ (lq1 (gX0_firstRang_2 a1 a2 a3 a4 a5 a6) f) _ = _
        unfold gX0_firstRang_2
        rw [if_neg n16, if_neg c]
      · show gX11_alarmed_64 _ _ _ (lq1 (gX11_alarmed_64 σ (Int32.ofNat k) x1) f) _ = _
        unfold gX11_alarmed_64 gX11_alarmed_89
        rw [if_neg n16, if_pos ((ixo (by omega)).mpr hk), tn (by omega), e, if_neg c, if_neg n16]
theorem op_alarmed {G : GG} {z t : Nat} {β : BS} {b : Nat → va_E} {N : Nat} {σ : MS} {n : Nat} {P : Nat → PT} {fr am : Nat} (h : IV G z t β b N σ n P fr am) (x0 x1 : Int32) : ∃ r : Int32, gX10_alarmed β x0 x1 = some r ∧ gX11_alarmed σ x0 x1 = some r := by
  obtain ⟨g1, g2, g3, g4, g5, k1, k2, k3, k4, k5⟩ := h
  unfold gX10_alarmed gX11_alarmed
  have em : (Int32.ofNat am - 1).toInt = (am : Int) - 1 := by
    rw [i32_sub] <;> rw [o_int (by omega), show (1 : Int32).toInt = 1 from rfl] <;> omega
  rw [k2, k3]
  by_cases hr : 0 ≤ x0.toInt ∧ x0.toInt < am
  · obtain ⟨k, hk, rfl⟩ := ex_o (n := am) hr.1 hr.2
    have hk10 : k < 10 := by omega
    obtain ⟨q1, q2, q3, q4⟩ := k5 k hk10
    have hix : ix (Int32.ofNat k) 10 := (ixo (by omega)).mpr hk10
    have hin : gX11_isIn (Int32.ofNat k) 0 (Int32.ofNat am - 1) = some 1 := by
      rw [isIn_eq, if_pos (by rw [em, o_int (by omega), show (0 : Int32).toInt = 0 from rfl]; omega)]
    rw [hin, if_neg (by rw [i32_lt, o_int (by omega), show (0 : Int32).toInt = 0 from rfl]; omega), if_neg (by rw [o_le (by omega) (by omega)]; omega), if_neg (by rw [show (10 : Int32) = Int32.ofNat 10 from rfl, o_le (by omega) (by omega)]; omega), if_pos hix, tn (by omega)]
    simp only [Option.bind_some]
    rw [if_neg (show ¬ (1 : Int32) = 0 by decide), q2.1]
    simp only [if_pos hix]
    by_cases hl : m_looked σ k = 0
    · rw [if_pos hl, if_pos hl]; exact ⟨_, rfl, rfl⟩
    · rw [if_neg hl, if_neg hl]
      unfold gX0_answer
      rw [q2.2.1, q2.2.2]
      by_cases c0 : x1 = 0
      · subst c0
        obtain ⟨c, b1, b2⟩ := bits_same q3.1
        rw [inW1 (by decide), if_pos rfl, b1]
        simp only [Option.bind_some]
        unfold gX11_alarmed_58
        rw [if_neg (by decide), if_neg (by decide), if_pos trivial, b2]
        exact ⟨_, rfl, rfl⟩
      · rw [if_neg c0]
        by_cases c1 : x1 = 1
        · subst c1
          obtain ⟨c, b1, b2⟩ := bits_same q3.2
          rw [inW1 (by decide), if_pos rfl, b1]
          simp only [Option.bind_some]
          unfold gX11_alarmed_58
          rw [if_neg (by decide), if_neg (by decide), if_neg (by decide), b2]
          exact ⟨_, rfl, rfl⟩
        · rw [if_neg c1]
          by_cases c2 : x1 = 2
          · subst c2
            obtain ⟨r, r1, r2⟩ := first_eq (σ := σ) hk10 2 (b_a1 β k) (b_a2 β k) (b_a3 β k) (m_looked σ k) (m_held σ k) (m_rang σ k) rfl 16 20 0 rfl (by decide)
            unfold gX0_firstRang
            rw [inW1 (by decide), if_pos rfl, show lq1 (gX0_firstRang_2 (b_a1 β k) (b_a2 β k) (b_a3 β k) (m_looked σ k) (m_held σ k) (m_rang σ k)) 20 0 = some r from r1]
            simp only [Option.bind_some]
            rw [if_neg (by decide), if_pos (by decide)]
            exact ⟨r, rfl, r2⟩
          · rw [if_neg c2, inW0 (by
              intro c
              have e0 : x1.toInt = 0 ∨ x1.toInt = 1 ∨ x1.toInt = 2 := by omega
              rcases e0 with e | e | e
              · exact c0 (Int32.toInt.inj e)
              · exact c1 (Int32.toInt.inj e)
              · exact c2 (Int32.toInt.inj e))]
            simp only [Option.bind_some]
            rw [if_pos trivial]; exact ⟨_, rfl, rfl⟩
  · have hin : gX11_isIn x0 0 (Int32.ofNat am - 1) = some 0 := by
      rw [isIn_eq, if_neg (by rw [em, show (0 : Int32).toInt = 0 from rfl]; omega)]
    rw [hin]
    simp only [Option.bind_some]
    rw [show ∀ (a b : Option Int32), (if True then a else b) = a from fun a b => if_pos trivial]
    by_cases cn : x0 < 0
    · rw [if_pos cn]; exact ⟨_, rfl, rfl⟩
    · rw [if_neg cn, if_pos (by rw [i32_lt, show (0 : Int32).toInt = 0 from rfl] at cn; rw [i32_le, o_int (by omega)]; omega)]
      exact ⟨_, rfl, rfl⟩
