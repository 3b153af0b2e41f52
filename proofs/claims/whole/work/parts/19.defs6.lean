/-! the reference's codes -/
def inI (v lo hi : Int) : Int := if lo ≤ v ∧ v ≤ hi then 1 else 0
theorem inI_s (v lo hi : Int) : (inI v lo hi = 1 ∧ lo ≤ v ∧ v ≤ hi) ∨ (inI v lo hi = 0 ∧ ¬ (lo ≤ v ∧ v ≤ hi)) := by unfold inI; split <;> omega
def b01 (c : Nat) : Int := if c = 0 then 1 else 0
def cdM (sh it : Nat) (mI : Nat → Int) (zs zi : Int) : Nat := if (0 ≤ zs ∧ zs < (sh : Int)) ∧ (0 ≤ zi ∧ zi < (it : Int)) then (if mI (5 * zs + zi).toNat = 0 then 2 else 0) else 1
theorem cdM_s (sh it : Nat) (mI : Nat → Int) (zs zi : Int) : (cdM sh it mI zs zi = 0 ∧ (0 ≤ zs ∧ zs < (sh : Int)) ∧ (0 ≤ zi ∧ zi < (it : Int)) ∧ mI (5 * zs + zi).toNat ≠ 0) ∨ (cdM sh it mI zs zi = 2 ∧ (0 ≤ zs ∧ zs < (sh : Int)) ∧ (0 ≤ zi ∧ zi < (it : Int)) ∧ mI (5 * zs + zi).toNat = 0) ∨ (cdM sh it mI zs zi = 1 ∧ ¬ ((0 ≤ zs ∧ zs < (sh : Int)) ∧ (0 ≤ zi ∧ zi < (it : Int)))) := by
  unfold cdM
  split
  · split
    · right; left; exact ⟨rfl, by omega, by omega, by assumption⟩
    · left; exact ⟨rfl, by omega, by omega, by assumption⟩
  · right; right; exact ⟨rfl, by assumption⟩
theorem b01_s (c : Nat) : (b01 c = 1 ∧ c = 0) ∨ (b01 c = 0 ∧ c ≠ 0) := by unfold b01; split <;> omega
def cd2 (a b : Prop) [Decidable a] [Decidable b] : Nat := if a then (if b then 0 else 2) else 1
def cd3 (a b d : Prop) [Decidable a] [Decidable b] [Decidable d] : Nat := if a then (if b then (if d then 0 else 3) else 2) else 1
theorem upI_upI (f : Nat → Int) (k : Nat) (v w : Int) : upI (upI f k v) k w = upI f k w := by funext j; simp only [upI]; split <;> rfl
theorem upI_id {f : Nat → Int} {k : Nat} {v : Int} (h : f k = v) : upI f k v = f := by funext j; simp only [upI]; split; (rename_i e; rw [e, h]); rfl
