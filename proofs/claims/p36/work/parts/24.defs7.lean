/-! the reference gives -/
def flF (f g : Nat → Int) (i : Nat) : Nat → Int := fun j => if j < i then g j else f j
theorem flF_0 (f g : Nat → Int) : flF f g 0 = f := by funext j; simp [flF]
theorem flF_s (f g : Nat → Int) (i : Nat) : upI (flF f g i) i (g i) = flF f g (i + 1) := by
  funext j
  simp only [upI, flF]
  by_cases h : j = i
  · subst h; simp
  · rw [if_neg h]
    by_cases h2 : j < i
    · rw [if_pos h2, if_pos (by omega)]
    · rw [if_neg h2, if_neg (by omega)]
def gnI (rq : Nat → Int) (n : Nat) (g0 : Nat → Int) : Nat → Nat → Int
  | 0 => g0
  | k + 1 => if ntI rq (gnI rq n g0 k) n < 0 then gnI rq n g0 k else upI (gnI rq n g0 k) (ntI rq (gnI rq n g0 k) n).toNat (gnI rq n g0 k (ntI rq (gnI rq n g0 k) n).toNat + 1)
theorem gnI_stop {rq g0 : Nat → Int} {n k : Nat} (h : ntI rq (gnI rq n g0 k) n < 0) : ∀ m : Nat, gnI rq n g0 (k + m) = gnI rq n g0 k
  | 0 => rfl
  | m + 1 => by
    have h1 := gnI_stop h m
    rw [show k + (m + 1) = (k + m) + 1 from rfl, gnI, h1, if_pos h]
theorem gnI_rng {rq g0 : Nat → Int} {n : Nat} (h : ∀ j, j < n → 0 ≤ rq j) (h0 : ∀ j, j < n → g0 j = 0) : ∀ (k j : Nat), j < n → 0 ≤ gnI rq n g0 k j ∧ gnI rq n g0 k j ≤ rq j
  | 0, j, hj => by rw [gnI, h0 j hj]; exact ⟨Int.le_refl _, h j hj⟩
  | k + 1, j, hj => by
    have h1 := gnI_rng h h0 k j hj
    have h2 := ntI_rng rq (gnI rq n g0 k) n
    simp only [gnI]
    split
    · exact h1
    · by_cases e : j = (ntI rq (gnI rq n g0 k) n).toNat
      · subst e
        rw [upI_same]
        have h3 := h2.2.2 (by omega)
        omega
      · rw [upI_ne e]; exact h1
theorem rqI_rng {nd pk : Int} (h : nd ≤ 1000000) (hp : 0 < pk ∧ pk ≤ 50) : 0 ≤ rqI nd pk ∧ rqI nd pk ≤ 1000000 := by
  unfold rqI
  split
  · have h1 := div_rng (a := nd + pk - 1) (b := pk) (by omega) hp.1
    refine ⟨h1.1, ?_⟩
    have h2 : (nd + pk - 1) / pk ≤ nd := by
      refine Int.ediv_le_of_le_mul hp.1 ?_
      have h3 : 0 ≤ (nd - 1) * (pk - 1) := Int.mul_nonneg (by omega) (by omega)
      rw [Int.sub_mul, Int.mul_sub, Int.one_mul] at h3
      omega
    omega
  · omega
