/-! what the law's helpers answer for an exception -/
def exv : Nat → Int
  | 1 => -77
  | 2 => -75
  | 3 => -78
  | 4 => -79
  | 5 => -76
  | _ => 0
theorem exv_rng : ∀ n : Nat, -79 ≤ exv n ∧ exv n ≤ 0
  | 0 => by simp [exv]
  | 1 => by simp [exv]
  | 2 => by simp [exv]
  | 3 => by simp [exv]
  | 4 => by simp [exv]
  | 5 => by simp [exv]
  | n + 6 => by simp [exv]
theorem exv_neg {n : Nat} (h : n ≠ 0 ∧ n ≤ 5) : exv n < 0 := by
  rcases (show n = 1 ∨ n = 2 ∨ n = 3 ∨ n = 4 ∨ n = 5 by omega) with e | e | e | e | e <;> subst e <;> simp [exv]
