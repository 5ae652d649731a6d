theorem sw_in {x lo hi : Int} (h : ¬ (x < lo ∨ hi < x)) : ∃ k : Nat, k < (hi - lo).toNat + 1 ∧ x = lo + k := ⟨(x - lo).toNat, by omega, by omega⟩
theorem ob {α β : Type} {x : Option α} {f : α → Option β} {r : β} (h : x.bind f = some r) : ∃ a, x = some a ∧ f a = some r := by
  cases x with
  | none => cases h
  | some a => exact ⟨a, rfl, h⟩
theorem gd {c : Prop} [Decidable c] {α : Type} {a : Option α} {r : α} (h : (if c then a else none) = some r) : c ∧ a = some r := by
  by_cases hc : c
  · rw [if_pos hc] at h; exact ⟨hc, h⟩
  · rw [if_neg hc] at h; cases h
def lq1 {A1 R : Type} (f : (A1 → Option R) → A1 → Option R) : Nat → A1 → Option R
  | 0 => fun _ => none
  | n + 1 => f (lq1 f n)
def lq2 {A1 A2 R : Type} (f : (A1 → A2 → Option R) → A1 → A2 → Option R) : Nat → A1 → A2 → Option R
  | 0 => fun _ _ => none
  | n + 1 => f (lq2 f n)
def lq3 {A1 A2 A3 R : Type} (f : (A1 → A2 → A3 → Option R) → A1 → A2 → A3 → Option R) : Nat → A1 → A2 → A3 → Option R
  | 0 => fun _ _ _ => none
  | n + 1 => f (lq3 f n)
def lq4 {A1 A2 A3 A4 R : Type} (f : (A1 → A2 → A3 → A4 → Option R) → A1 → A2 → A3 → A4 → Option R) : Nat → A1 → A2 → A3 → A4 → Option R
  | 0 => fun _ _ _ _ => none
  | n + 1 => f (lq4 f n)
def lq5 {A1 A2 A3 A4 A5 R : Type} (f : (A1 → A2 → A3 → A4 → A5 → Option R) → A1 → A2 → A3 → A4 → A5 → Option R) : Nat → A1 → A2 → A3 → A4 → A5 → Option R
  | 0 => fun _ _ _ _ _ => none
  | n + 1 => f (lq5 f n)
def lq6 {A1 A2 A3 A4 A5 A6 R : Type} (f : (A1 → A2 → A3 → A4 → A5 → A6 → Option R) → A1 → A2 → A3 → A4 → A5 → A6 → Option R) : Nat → A1 → A2 → A3 → A4 → A5 → A6 → Option R
  | 0 => fun _ _ _ _ _ _ => none
  | n + 1 => f (lq6 f n)
def lq7 {A1 A2 A3 A4 A5 A6 A7 R : Type} (f : (A1 → A2 → A3 → A4 → A5 → A6 → A7 → Option R) → A1 → A2 → A3 → A4 → A5 → A6 → A7 → Option R) : Nat → A1 → A2 → A3 → A4 → A5 → A6 → A7 → Option R
  | 0 => fun _ _ _ _ _ _ _ => none
  | n + 1 => f (lq7 f n)
def lq8 {A1 A2 A3 A4 A5 A6 A7 A8 R : Type} (f : (A1 → A2 → A3 → A4 → A5 → A6 → A7 → A8 → Option R) → A1 → A2 → A3 → A4 → A5 → A6 → A7 → A8 → Option R) : Nat → A1 → A2 → A3 → A4 → A5 → A6 → A7 → A8 → Option R
  | 0 => fun _ _ _ _ _ _ _ _ => none
  | n + 1 => f (lq8 f n)
def lq9 {A1 A2 A3 A4 A5 A6 A7 A8 A9 R : Type} (f : (A1 → A2 → A3 → A4 → A5 → A6 → A7 → A8 → A9 → Option R) → A1 → A2 → A3 → A4 → A5 → A6 → A7 → A8 → A9 → Option R) : Nat → A1 → A2 → A3 → A4 → A5 → A6 → A7 → A8 → A9 → Option R
  | 0 => fun _ _ _ _ _ _ _ _ _ => none
  | n + 1 => f (lq9 f n)
def lq10 {A1 A2 A3 A4 A5 A6 A7 A8 A9 A10 R : Type} (f : (A1 → A2 → A3 → A4 → A5 → A6 → A7 → A8 → A9 → A10 → Option R) → A1 → A2 → A3 → A4 → A5 → A6 → A7 → A8 → A9 → A10 → Option R) : Nat → A1 → A2 → A3 → A4 → A5 → A6 → A7 → A8 → A9 → A10 → Option R
  | 0 => fun _ _ _ _ _ _ _ _ _ _ => none
  | n + 1 => f (lq10 f n)
