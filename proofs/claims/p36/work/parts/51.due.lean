/-! what is due: by days, and by the reference's eight cells -/
theorem du8 {f ar : Nat → Int} {dy : Nat} (h0 : f (dy % 8) = 0) (hk : ∀ j, 1 ≤ j → j < 8 → f ((dy + j) % 8) = ar (dy + j)) (h6 : ar (dy + 6) = 0) (h7 : ar (dy + 7) = 0) : smI f 8 = duI ar dy := by
  have k1 := hk 1 (by omega) (by omega)
  have k2 := hk 2 (by omega) (by omega)
  have k3 := hk 3 (by omega) (by omega)
  have k4 := hk 4 (by omega) (by omega)
  have k5 := hk 5 (by omega) (by omega)
  have k6 := hk 6 (by omega) (by omega)
  have k7 := hk 7 (by omega) (by omega)
  have e : duI ar dy = ar (dy + 1) + ar (dy + 2) + ar (dy + 3) + ar (dy + 4) + ar (dy + 5) := by
    simp only [duI, smI]; simp
  have s : smI f 8 = f 0 + f 1 + f 2 + f 3 + f 4 + f 5 + f 6 + f 7 := by
    simp only [smI]; simp
  rw [e, s]
  have hr : dy % 8 < 8 := Nat.mod_lt _ (by omega)
  rw [Nat.add_mod] at k1 k2 k3 k4 k5 k6 k7
  generalize dy % 8 = r at hr h0 k1 k2 k3 k4 k5 k6 k7
  rcases (show r = 0 ∨ r = 1 ∨ r = 2 ∨ r = 3 ∨ r = 4 ∨ r = 5 ∨ r = 6 ∨ r = 7 by omega) with e | e | e | e | e | e | e | e <;> subst e <;> simp only [Nat.reduceMod, Nat.reduceAdd] at k1 k2 k3 k4 k5 k6 k7 h0 <;> omega
theorem fdI_congr {ar ar' : Nat → Int} {d : Nat} : ∀ n k : Nat, (∀ j, k ≤ j → j < k + n → ar (d + j) = ar' (d + j)) → fdI ar d k n = fdI ar' d k n
  | 0, _, _ => rfl
  | n + 1, k, h => by
    simp only [fdI]
    rw [← h k (Nat.le_refl _) (by omega), fdI_congr n (k + 1) (fun j a b => h j (by omega) (by omega))]
theorem fdI_ext {ar : Nat → Int} {d : Nat} : ∀ n k m : Nat, (∀ j, k + n ≤ j → j < k + n + m → ¬ 0 < ar (d + j)) → fdI ar d k (n + m) = fdI ar d k n
  | 0, k, 0, _ => rfl
  | 0, k, m + 1, h => by
    have ih := fdI_ext (ar := ar) (d := d) 0 (k + 1) m (fun j a b => h j (by omega) (by omega))
    rw [Nat.zero_add] at ih ⊢
    have e : fdI ar d k (m + 1) = fdI ar d (k + 1) m := by rw [fdI, if_neg (h k (by omega) (by omega))]
    rw [e, ih]
    rfl
  | n + 1, k, m, h => by
    rw [show n + 1 + m = (n + m) + 1 from by omega, fdI, fdI, fdI_ext n (k + 1) m (fun j a b => h j (by omega) (by omega))]
