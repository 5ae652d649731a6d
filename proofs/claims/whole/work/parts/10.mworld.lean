abbrev MS : Type := (Nat → UInt64) × (Nat → Int32) × (Nat → Int32) × (Nat → Int32) × (Nat → UInt64) × (Nat → Int32) × (Nat → UInt64) × (Nat → Int32) × (Nat → Int32) × (Nat → Int32) × (Int32) × (Nat → Int32) × (Nat → Int32) × (Nat → Int32) × (Nat → Int32) × (Int32) × (Int32) × (UInt64) × (Int32)
def m_told (σ : MS) : Nat → UInt64 := σ.1
def m_told_ (σ : MS) (v : Nat → UInt64) : MS := (v, σ.2)
def m_blank (σ : MS) : Nat → Int32 := σ.2.1
def m_blank_ (σ : MS) (v : Nat → Int32) : MS := (σ.1, v, σ.2.2)
def m_narrow (σ : MS) : Nat → Int32 := σ.2.2.1
def m_narrow_ (σ : MS) (v : Nat → Int32) : MS := (σ.1, σ.2.1, v, σ.2.2.2)
def m_made (σ : MS) : Nat → Int32 := σ.2.2.2.1
def m_made_ (σ : MS) (v : Nat → Int32) : MS := (σ.1, σ.2.1, σ.2.2.1, v, σ.2.2.2.2)
def m_now (σ : MS) : Nat → UInt64 := σ.2.2.2.2.1
def m_now_ (σ : MS) (v : Nat → UInt64) : MS := (σ.1, σ.2.1, σ.2.2.1, σ.2.2.2.1, v, σ.2.2.2.2.2)
def m_none (σ : MS) : Nat → Int32 := σ.2.2.2.2.2.1
def m_none_ (σ : MS) (v : Nat → Int32) : MS := (σ.1, σ.2.1, σ.2.2.1, σ.2.2.2.1, σ.2.2.2.2.1, v, σ.2.2.2.2.2.2)
def m_toldThen (σ : MS) : Nat → UInt64 := σ.2.2.2.2.2.2.1
def m_toldThen_ (σ : MS) (v : Nat → UInt64) : MS := (σ.1, σ.2.1, σ.2.2.1, σ.2.2.2.1, σ.2.2.2.2.1, σ.2.2.2.2.2.1, v, σ.2.2.2.2.2.2.2)
def m_blankThen (σ : MS) : Nat → Int32 := σ.2.2.2.2.2.2.2.1
def m_blankThen_ (σ : MS) (v : Nat → Int32) : MS := (σ.1, σ.2.1, σ.2.2.1, σ.2.2.2.1, σ.2.2.2.2.1, σ.2.2.2.2.2.1, σ.2.2.2.2.2.2.1, v, σ.2.2.2.2.2.2.2.2)
def m_narrowThen (σ : MS) : Nat → Int32 := σ.2.2.2.2.2.2.2.2.1
def m_narrowThen_ (σ : MS) (v : Nat → Int32) : MS := (σ.1, σ.2.1, σ.2.2.1, σ.2.2.2.1, σ.2.2.2.2.1, σ.2.2.2.2.2.1, σ.2.2.2.2.2.2.1, σ.2.2.2.2.2.2.2.1, v, σ.2.2.2.2.2.2.2.2.2)
def m_madeThen (σ : MS) : Nat → Int32 := σ.2.2.2.2.2.2.2.2.2.1
def m_madeThen_ (σ : MS) (v : Nat → Int32) : MS := (σ.1, σ.2.1, σ.2.2.1, σ.2.2.2.1, σ.2.2.2.2.1, σ.2.2.2.2.2.1, σ.2.2.2.2.2.2.1, σ.2.2.2.2.2.2.2.1, σ.2.2.2.2.2.2.2.2.1, v, σ.2.2.2.2.2.2.2.2.2.2)
def m_changes (σ : MS) : Int32 := σ.2.2.2.2.2.2.2.2.2.2.1
def m_changes_ (σ : MS) (v : Int32) : MS := (σ.1, σ.2.1, σ.2.2.1, σ.2.2.2.1, σ.2.2.2.2.1, σ.2.2.2.2.2.1, σ.2.2.2.2.2.2.1, σ.2.2.2.2.2.2.2.1, σ.2.2.2.2.2.2.2.2.1, σ.2.2.2.2.2.2.2.2.2.1, v, σ.2.2.2.2.2.2.2.2.2.2.2)
def m_alarms (σ : MS) : Nat → Int32 := σ.2.2.2.2.2.2.2.2.2.2.2.1
def m_alarms_ (σ : MS) (v : Nat → Int32) : MS := (σ.1, σ.2.1, σ.2.2.1, σ.2.2.2.1, σ.2.2.2.2.1, σ.2.2.2.2.2.1, σ.2.2.2.2.2.2.1, σ.2.2.2.2.2.2.2.1, σ.2.2.2.2.2.2.2.2.1, σ.2.2.2.2.2.2.2.2.2.1, σ.2.2.2.2.2.2.2.2.2.2.1, v, σ.2.2.2.2.2.2.2.2.2.2.2.2)
def m_held (σ : MS) : Nat → Int32 := σ.2.2.2.2.2.2.2.2.2.2.2.2.1
def m_held_ (σ : MS) (v : Nat → Int32) : MS := (σ.1, σ.2.1, σ.2.2.1, σ.2.2.2.1, σ.2.2.2.2.1, σ.2.2.2.2.2.1, σ.2.2.2.2.2.2.1, σ.2.2.2.2.2.2.2.1, σ.2.2.2.2.2.2.2.2.1, σ.2.2.2.2.2.2.2.2.2.1, σ.2.2.2.2.2.2.2.2.2.2.1, σ.2.2.2.2.2.2.2.2.2.2.2.1, v, σ.2.2.2.2.2.2.2.2.2.2.2.2.2)
def m_rang (σ : MS) : Nat → Int32 := σ.2.2.2.2.2.2.2.2.2.2.2.2.2.1
def m_rang_ (σ : MS) (v : Nat → Int32) : MS := (σ.1, σ.2.1, σ.2.2.1, σ.2.2.2.1, σ.2.2.2.2.1, σ.2.2.2.2.2.1, σ.2.2.2.2.2.2.1, σ.2.2.2.2.2.2.2.1, σ.2.2.2.2.2.2.2.2.1, σ.2.2.2.2.2.2.2.2.2.1, σ.2.2.2.2.2.2.2.2.2.2.1, σ.2.2.2.2.2.2.2.2.2.2.2.1, σ.2.2.2.2.2.2.2.2.2.2.2.2.1, v, σ.2.2.2.2.2.2.2.2.2.2.2.2.2.2)
def m_looked (σ : MS) : Nat → Int32 := σ.2.2.2.2.2.2.2.2.2.2.2.2.2.2.1
def m_looked_ (σ : MS) (v : Nat → Int32) : MS := (σ.1, σ.2.1, σ.2.2.1, σ.2.2.2.1, σ.2.2.2.2.1, σ.2.2.2.2.2.1, σ.2.2.2.2.2.2.1, σ.2.2.2.2.2.2.2.1, σ.2.2.2.2.2.2.2.2.1, σ.2.2.2.2.2.2.2.2.2.1, σ.2.2.2.2.2.2.2.2.2.2.1, σ.2.2.2.2.2.2.2.2.2.2.2.1, σ.2.2.2.2.2.2.2.2.2.2.2.2.1, σ.2.2.2.2.2.2.2.2.2.2.2.2.2.1, v, σ.2.2.2.2.2.2.2.2.2.2.2.2.2.2.2)
def m_alarmMany (σ : MS) : Int32 := σ.2.2.2.2.2.2.2.2.2.2.2.2.2.2.2.1
def m_alarmMany_ (σ : MS) (v : Int32) : MS := (σ.1, σ.2.1, σ.2.2.1, σ.2.2.2.1, σ.2.2.2.2.1, σ.2.2.2.2.2.1, σ.2.2.2.2.2.2.1, σ.2.2.2.2.2.2.2.1, σ.2.2.2.2.2.2.2.2.1, σ.2.2.2.2.2.2.2.2.2.1, σ.2.2.2.2.2.2.2.2.2.2.1, σ.2.2.2.2.2.2.2.2.2.2.2.1, σ.2.2.2.2.2.2.2.2.2.2.2.2.1, σ.2.2.2.2.2.2.2.2.2.2.2.2.2.1, σ.2.2.2.2.2.2.2.2.2.2.2.2.2.2.1, v, σ.2.2.2.2.2.2.2.2.2.2.2.2.2.2.2.2)
def m_rings (σ : MS) : Int32 := σ.2.2.2.2.2.2.2.2.2.2.2.2.2.2.2.2.1
def m_rings_ (σ : MS) (v : Int32) : MS := (σ.1, σ.2.1, σ.2.2.1, σ.2.2.2.1, σ.2.2.2.2.1, σ.2.2.2.2.2.1, σ.2.2.2.2.2.2.1, σ.2.2.2.2.2.2.2.1, σ.2.2.2.2.2.2.2.2.1, σ.2.2.2.2.2.2.2.2.2.1, σ.2.2.2.2.2.2.2.2.2.2.1, σ.2.2.2.2.2.2.2.2.2.2.2.1, σ.2.2.2.2.2.2.2.2.2.2.2.2.1, σ.2.2.2.2.2.2.2.2.2.2.2.2.2.1, σ.2.2.2.2.2.2.2.2.2.2.2.2.2.2.1, σ.2.2.2.2.2.2.2.2.2.2.2.2.2.2.2.1, v, σ.2.2.2.2.2.2.2.2.2.2.2.2.2.2.2.2.2)
def m_worth (σ : MS) : UInt64 := σ.2.2.2.2.2.2.2.2.2.2.2.2.2.2.2.2.2.1
def m_worth_ (σ : MS) (v : UInt64) : MS := (σ.1, σ.2.1, σ.2.2.1, σ.2.2.2.1, σ.2.2.2.2.1, σ.2.2.2.2.2.1, σ.2.2.2.2.2.2.1, σ.2.2.2.2.2.2.2.1, σ.2.2.2.2.2.2.2.2.1, σ.2.2.2.2.2.2.2.2.2.1, σ.2.2.2.2.2.2.2.2.2.2.1, σ.2.2.2.2.2.2.2.2.2.2.2.1, σ.2.2.2.2.2.2.2.2.2.2.2.2.1, σ.2.2.2.2.2.2.2.2.2.2.2.2.2.1, σ.2.2.2.2.2.2.2.2.2.2.2.2.2.2.1, σ.2.2.2.2.2.2.2.2.2.2.2.2.2.2.2.1, σ.2.2.2.2.2.2.2.2.2.2.2.2.2.2.2.2.1, v, σ.2.2.2.2.2.2.2.2.2.2.2.2.2.2.2.2.2.2)
def m_isNone (σ : MS) : Int32 := σ.2.2.2.2.2.2.2.2.2.2.2.2.2.2.2.2.2.2
def m_isNone_ (σ : MS) (v : Int32) : MS := (σ.1, σ.2.1, σ.2.2.1, σ.2.2.2.1, σ.2.2.2.2.1, σ.2.2.2.2.2.1, σ.2.2.2.2.2.2.1, σ.2.2.2.2.2.2.2.1, σ.2.2.2.2.2.2.2.2.1, σ.2.2.2.2.2.2.2.2.2.1, σ.2.2.2.2.2.2.2.2.2.2.1, σ.2.2.2.2.2.2.2.2.2.2.2.1, σ.2.2.2.2.2.2.2.2.2.2.2.2.1, σ.2.2.2.2.2.2.2.2.2.2.2.2.2.1, σ.2.2.2.2.2.2.2.2.2.2.2.2.2.2.1, σ.2.2.2.2.2.2.2.2.2.2.2.2.2.2.2.1, σ.2.2.2.2.2.2.2.2.2.2.2.2.2.2.2.2.1, σ.2.2.2.2.2.2.2.2.2.2.2.2.2.2.2.2.2.1, v)
def mF (z : Nat) (σ : MS) : List Value := [.ref (z + 72), .ref (z + 73), .ref (z + 74), .ref (z + 75), .ref (z + 76), .ref (z + 77), .ref (z + 78), .ref (z + 79), .ref (z + 80), .ref (z + 81), .int (m_changes σ), .ref (z + 82), .ref (z + 83), .ref (z + 84), .ref (z + 85), .int (m_alarmMany σ), .int (m_rings σ), .double (m_worth σ), .int (m_isNone σ)]
def ctM (G : GG) (z : Nat) (b : Nat → va_E) (σ : MS) : Nat → va_E := fun k => if k = 71 then .inr (7, mF z σ) else if k = 72 then cD G 200 (m_told σ) else if k = 73 then cZ G 200 (m_blank σ) else if k = 74 then cZ G 12 (m_narrow σ) else if k = 75 then cI G 48 (m_made σ) else if k = 76 then cD G 200 (m_now σ) else if k = 77 then cZ G 200 (m_none σ) else if k = 78 then cD G 102400 (m_toldThen σ) else if k = 79 then cZ G 102400 (m_blankThen σ) else if k = 80 then cZ G 6144 (m_narrowThen σ) else if k = 81 then cI G 24576 (m_madeThen σ) else if k = 82 then cI G 30 (m_alarms σ) else if k = 83 then cI G 10 (m_held σ) else if k = 84 then cI G 10 (m_rang σ) else if k = 85 then cZ G 10 (m_looked σ) else b k
theorem cq_obj {G : GG} {z : Nat} {b : Nat → va_E} {σ : MS} : ctM G z b σ 71 = .inr (7, mF z σ) := rfl
theorem cq_told {G : GG} {z : Nat} {b : Nat → va_E} {σ : MS} : ctM G z b σ 72 = cD G 200 (m_told σ) := rfl
theorem cs_told {G : GG} {z : Nat} {b : Nat → va_E} {σ : MS} {v : Nat → UInt64} : va_up (ctM G z b σ) 72 (cD G 200 v) = ctM G z b (m_told_ σ v) := by
  funext k
  by_cases h : k = 72
  · subst h; rfl
  · rw [va_up_ne _ _ h]; unfold ctM; simp only [if_neg h]; rfl
theorem cq_blank {G : GG} {z : Nat} {b : Nat → va_E} {σ : MS} : ctM G z b σ 73 = cZ G 200 (m_blank σ) := rfl
theorem cs_blank {G : GG} {z : Nat} {b : Nat → va_E} {σ : MS} {v : Nat → Int32} : va_up (ctM G z b σ) 73 (cZ G 200 v) = ctM G z b (m_blank_ σ v) := by
  funext k
  by_cases h : k = 73
  · subst h; rfl
  · rw [va_up_ne _ _ h]; unfold ctM; simp only [if_neg h]; rfl
theorem cq_narrow {G : GG} {z : Nat} {b : Nat → va_E} {σ : MS} : ctM G z b σ 74 = cZ G 12 (m_narrow σ) := rfl
theorem cs_narrow {G : GG} {z : Nat} {b : Nat → va_E} {σ : MS} {v : Nat → Int32} : va_up (ctM G z b σ) 74 (cZ G 12 v) = ctM G z b (m_narrow_ σ v) := by
  funext k
  by_cases h : k = 74
  · subst h; rfl
  · rw [va_up_ne _ _ h]; unfold ctM; simp only [if_neg h]; rfl
theorem cq_made {G : GG} {z : Nat} {b : Nat → va_E} {σ : MS} : ctM G z b σ 75 = cI G 48 (m_made σ) := rfl
theorem cs_made {G : GG} {z : Nat} {b : Nat → va_E} {σ : MS} {v : Nat → Int32} : va_up (ctM G z b σ) 75 (cI G 48 v) = ctM G z b (m_made_ σ v) := by
  funext k
  by_cases h : k = 75
  · subst h; rfl
  · rw [va_up_ne _ _ h]; unfold ctM; simp only [if_neg h]; rfl
theorem cq_now {G : GG} {z : Nat} {b : Nat → va_E} {σ : MS} : ctM G z b σ 76 = cD G 200 (m_now σ) := rfl
theorem cs_now {G : GG} {z : Nat} {b : Nat → va_E} {σ : MS} {v : Nat → UInt64} : va_up (ctM G z b σ) 76 (cD G 200 v) = ctM G z b (m_now_ σ v) := by
  funext k
  by_cases h : k = 76
  · subst h; rfl
  · rw [va_up_ne _ _ h]; unfold ctM; simp only [if_neg h]; rfl
theorem cq_none {G : GG} {z : Nat} {b : Nat → va_E} {σ : MS} : ctM G z b σ 77 = cZ G 200 (m_none σ) := rfl
theorem cs_none {G : GG} {z : Nat} {b : Nat → va_E} {σ : MS} {v : Nat → Int32} : va_up (ctM G z b σ) 77 (cZ G 200 v) = ctM G z b (m_none_ σ v) := by
  funext k
  by_cases h : k = 77
  · subst h; rfl
  · rw [va_up_ne _ _ h]; unfold ctM; simp only [if_neg h]; rfl
theorem cq_toldThen {G : GG} {z : Nat} {b : Nat → va_E} {σ : MS} : ctM G z b σ 78 = cD G 102400 (m_toldThen σ) := rfl
theorem cs_toldThen {G : GG} {z : Nat} {b : Nat → va_E} {σ : MS} {v : Nat → UInt64} : va_up (ctM G z b σ) 78 (cD G 102400 v) = ctM G z b (m_toldThen_ σ v) := by
  funext k
  by_cases h : k = 78
  · subst h; rfl
  · rw [va_up_ne _ _ h]; unfold ctM; simp only [if_neg h]; rfl
theorem cq_blankThen {G : GG} {z : Nat} {b : Nat → va_E} {σ : MS} : ctM G z b σ 79 = cZ G 102400 (m_blankThen σ) := rfl
theorem cs_blankThen {G : GG} {z : Nat} {b : Nat → va_E} {σ : MS} {v : Nat → Int32} : va_up (ctM G z b σ) 79 (cZ G 102400 v) = ctM G z b (m_blankThen_ σ v) := by
  funext k
  by_cases h : k = 79
  · subst h; rfl
  · rw [va_up_ne _ _ h]; unfold ctM; simp only [if_neg h]; rfl
theorem cq_narrowThen {G : GG} {z : Nat} {b : Nat → va_E} {σ : MS} : ctM G z b σ 80 = cZ G 6144 (m_narrowThen σ) := rfl
theorem cs_narrowThen {G : GG} {z : Nat} {b : Nat → va_E} {σ : MS} {v : Nat → Int32} : va_up (ctM G z b σ) 80 (cZ G 6144 v) = ctM G z b (m_narrowThen_ σ v) := by
  funext k
  by_cases h : k = 80
  · subst h; rfl
  · rw [va_up_ne _ _ h]; unfold ctM; simp only [if_neg h]; rfl
theorem cq_madeThen {G : GG} {z : Nat} {b : Nat → va_E} {σ : MS} : ctM G z b σ 81 = cI G 24576 (m_madeThen σ) := rfl
theorem cs_madeThen {G : GG} {z : Nat} {b : Nat → va_E} {σ : MS} {v : Nat → Int32} : va_up (ctM G z b σ) 81 (cI G 24576 v) = ctM G z b (m_madeThen_ σ v) := by
  funext k
  by_cases h : k = 81
  · subst h; rfl
  · rw [va_up_ne _ _ h]; unfold ctM; simp only [if_neg h]; rfl
theorem cq_alarms {G : GG} {z : Nat} {b : Nat → va_E} {σ : MS} : ctM G z b σ 82 = cI G 30 (m_alarms σ) := rfl
theorem cs_alarms {G : GG} {z : Nat} {b : Nat → va_E} {σ : MS} {v : Nat → Int32} : va_up (ctM G z b σ) 82 (cI G 30 v) = ctM G z b (m_alarms_ σ v) := by
  funext k
  by_cases h : k = 82
  · subst h; rfl
  · rw [va_up_ne _ _ h]; unfold ctM; simp only [if_neg h]; rfl
theorem cq_held {G : GG} {z : Nat} {b : Nat → va_E} {σ : MS} : ctM G z b σ 83 = cI G 10 (m_held σ) := rfl
theorem cs_held {G : GG} {z : Nat} {b : Nat → va_E} {σ : MS} {v : Nat → Int32} : va_up (ctM G z b σ) 83 (cI G 10 v) = ctM G z b (m_held_ σ v) := by
  funext k
  by_cases h : k = 83
  · subst h; rfl
  · rw [va_up_ne _ _ h]; unfold ctM; simp only [if_neg h]; rfl
theorem cq_rang {G : GG} {z : Nat} {b : Nat → va_E} {σ : MS} : ctM G z b σ 84 = cI G 10 (m_rang σ) := rfl
theorem cs_rang {G : GG} {z : Nat} {b : Nat → va_E} {σ : MS} {v : Nat → Int32} : va_up (ctM G z b σ) 84 (cI G 10 v) = ctM G z b (m_rang_ σ v) := by
  funext k
  by_cases h : k = 84
  · subst h; rfl
  · rw [va_up_ne _ _ h]; unfold ctM; simp only [if_neg h]; rfl
theorem cq_looked {G : GG} {z : Nat} {b : Nat → va_E} {σ : MS} : ctM G z b σ 85 = cZ G 10 (m_looked σ) := rfl
theorem cs_looked {G : GG} {z : Nat} {b : Nat → va_E} {σ : MS} {v : Nat → Int32} : va_up (ctM G z b σ) 85 (cZ G 10 v) = ctM G z b (m_looked_ σ v) := by
  funext k
  by_cases h : k = 85
  · subst h; rfl
  · rw [va_up_ne _ _ h]; unfold ctM; simp only [if_neg h]; rfl
theorem cs_changes {G : GG} {z : Nat} {b : Nat → va_E} {σ : MS} {v : Int32} : va_up (ctM G z b σ) 71 (.inr (7, (mF z σ).set 10 (.int v))) = ctM G z b (m_changes_ σ v) := by
  funext k
  by_cases h : k = 71
  · subst h; rfl
  · rw [va_up_ne _ _ h]; unfold ctM; simp only [if_neg h]; rfl
theorem cs_alarmMany {G : GG} {z : Nat} {b : Nat → va_E} {σ : MS} {v : Int32} : va_up (ctM G z b σ) 71 (.inr (7, (mF z σ).set 15 (.int v))) = ctM G z b (m_alarmMany_ σ v) := by
  funext k
  by_cases h : k = 71
  · subst h; rfl
  · rw [va_up_ne _ _ h]; unfold ctM; simp only [if_neg h]; rfl
theorem cs_rings {G : GG} {z : Nat} {b : Nat → va_E} {σ : MS} {v : Int32} : va_up (ctM G z b σ) 71 (.inr (7, (mF z σ).set 16 (.int v))) = ctM G z b (m_rings_ σ v) := by
  funext k
  by_cases h : k = 71
  · subst h; rfl
  · rw [va_up_ne _ _ h]; unfold ctM; simp only [if_neg h]; rfl
theorem cs_worth {G : GG} {z : Nat} {b : Nat → va_E} {σ : MS} {v : UInt64} : va_up (ctM G z b σ) 71 (.inr (7, (mF z σ).set 17 (.double v))) = ctM G z b (m_worth_ σ v) := by
  funext k
  by_cases h : k = 71
  · subst h; rfl
  · rw [va_up_ne _ _ h]; unfold ctM; simp only [if_neg h]; rfl
theorem cs_isNone {G : GG} {z : Nat} {b : Nat → va_E} {σ : MS} {v : Int32} : va_up (ctM G z b σ) 71 (.inr (7, (mF z σ).set 18 (.int v))) = ctM G z b (m_isNone_ σ v) := by
  funext k
  by_cases h : k = 71
  · subst h; rfl
  · rw [va_up_ne _ _ h]; unfold ctM; simp only [if_neg h]; rfl
