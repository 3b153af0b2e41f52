/-! what is counted is what is given pack by pack -/
/-- a shop's pack comes before another's -/
def klI (rq : Nat → Int) (s : Nat) (g : Int) (o : Nat) (h : Int) : Prop := g * rq o < h * rq s ∨ (g * rq o = h * rq s ∧ s < o)
theorem klI_l {rq : Nat → Int} {s o : Nat} {g h x : Int} (ho : 0 < rq o) (k : klI rq s g o x) (e : h ≤ g) : klI rq s h o x := by
  have h1 : h * rq o ≤ g * rq o := Int.mul_le_mul_of_nonneg_right e (by omega)
  unfold klI at k ⊢
  omega
theorem klI_r {rq : Nat → Int} {s o : Nat} {g x y : Int} (hs : 0 < rq s) (k : klI rq s g o x) (e : x ≤ y) : klI rq s g o y := by
  have h1 : x * rq s ≤ y * rq s := Int.mul_le_mul_of_nonneg_right e (by omega)
  unfold klI at k ⊢
  omega
theorem caI_ub {rq : Nat → Int} {s o : Nat} {h G : Int} (hs : 0 < rq s) (ho : 0 < rq o) (hne : o ≠ s) (k : klI rq s h o G) : caI rq s h o ≤ G := by
  unfold klI at k
  unfold caI
  by_cases h1 : o < s
  · rw [if_pos ⟨ho, h1⟩]
    have h2 : h * rq o / rq s < G := Int.ediv_lt_of_lt_mul hs (by omega)
    omega
  · rw [if_neg (by omega), if_pos ⟨ho, by omega⟩]
    have h2 : (h * rq o + rq s - 1) / rq s < G + 1 := Int.ediv_lt_of_lt_mul hs (by rw [Int.add_mul, Int.one_mul]; omega)
    omega
theorem caI_lb {rq : Nat → Int} {s o : Nat} {h G : Int} (hs : 0 < rq s) (ho : 0 < rq o) (hne : o ≠ s) (k : klI rq o (G - 1) s h) : G ≤ caI rq s h o := by
  unfold klI at k
  rw [Int.sub_mul, Int.one_mul] at k
  unfold caI
  by_cases h1 : o < s
  · rw [if_pos ⟨ho, h1⟩]
    have h2 : G - 1 ≤ h * rq o / rq s := Int.le_ediv_of_mul_le hs (by rw [Int.sub_mul, Int.one_mul]; omega)
    omega
  · rw [if_neg (by omega), if_pos ⟨ho, by omega⟩]
    exact Int.le_ediv_of_mul_le hs (by omega)
theorem caI_0 {rq : Nat → Int} {s o : Nat} {h : Int} (hs : 0 < rq s) (hh : 0 ≤ h) (hr : 0 ≤ rq o) : 0 ≤ caI rq s h o := by
  have h1 : 0 ≤ h * rq o := Int.mul_nonneg hh hr
  unfold caI
  split
  · have := Int.ediv_nonneg h1 (show 0 ≤ rq s by omega); omega
  · split
    · exact Int.ediv_nonneg (by omega) (by omega)
    · omega
theorem q_tr {a b c p q r : Int} (hp : 0 < p) (hq : 0 < q) (hr : 0 < r) (h1 : a * q < b * p) (h2 : b * r ≤ c * q) : a * r < c * p := by
  rcases Int.lt_or_le (a * r) (c * p) with h | h
  · exact h
  · exfalso
    have e1 : a * q * r < b * p * r := Int.mul_lt_mul_of_pos_right h1 hr
    have e2 : b * r * p ≤ c * q * p := Int.mul_le_mul_of_nonneg_right h2 (by omega)
    have e3 : c * p * q ≤ a * r * q := Int.mul_le_mul_of_nonneg_right h (by omega)
    have f1 : a * q * r = a * r * q := by rw [Int.mul_assoc, Int.mul_assoc, Int.mul_comm q r]
    have f2 : b * p * r = b * r * p := by rw [Int.mul_assoc, Int.mul_assoc, Int.mul_comm p r]
    have f3 : c * q * p = c * p * q := by rw [Int.mul_assoc, Int.mul_assoc, Int.mul_comm q p]
    omega
theorem ntI_min {rq gv : Nat → Int} (hg : ∀ j, 0 ≤ gv j) : ∀ n : Nat, (ntI rq gv n < 0 → ∀ o, o < n → ¬ gv o < rq o) ∧ (0 ≤ ntI rq gv n → ∀ o, o < n → gv o < rq o → o = (ntI rq gv n).toNat ∨ klI rq (ntI rq gv n).toNat (gv (ntI rq gv n).toNat) o (gv o))
  | 0 => ⟨fun _ o h => absurd h (Nat.not_lt_zero _), fun _ o h => absurd h (Nat.not_lt_zero _)⟩
  | n + 1 => by
    obtain ⟨h1, h2⟩ := ntI_min (rq := rq) hg n
    have h3 := ntI_rng rq gv n
    simp only [ntI]
    split
    · rename_i q
      refine ⟨fun h => by omega, fun _ o ho hw => ?_⟩
      rw [Int.toNat_natCast]
      by_cases e : o = n
      · exact Or.inl e
      · right
        rcases q.2 with q2 | q2
        · exact absurd hw (h1 q2 o (by omega))
        · by_cases hn : ntI rq gv n < 0
          · exact absurd hw (h1 hn o (by omega))
          · unfold nrI ngI at q2
            rw [if_neg hn, if_neg hn] at q2
            have hw2 := h3.2.2 (by omega)
            have g1 := hg n; have g2 := hg o; have g3 := hg (ntI rq gv n).toNat
            rcases h2 (by omega) o (by omega) hw with e2 | e2
            · rw [e2]; exact Or.inl q2
            · left
              exact q_tr (by omega) (by omega) (by omega) q2 (by unfold klI at e2; omega)
    · rename_i q
      refine ⟨fun h o ho => ?_, fun h o ho hw => ?_⟩
      · by_cases e : o = n
        · subst e; intro hw; exact q ⟨hw, Or.inl h⟩
        · exact h1 h o (by omega)
      · by_cases e : o = n
        · subst e
          right
          have hn : ¬ ntI rq gv o < 0 := by omega
          have q3 : ¬ (gv o * nrI rq (ntI rq gv o) < ngI gv (ntI rq gv o) * rq o) := fun q4 => q ⟨hw, Or.inr q4⟩
          unfold nrI ngI at q3
          rw [if_neg hn, if_neg hn] at q3
          unfold klI
          omega
        · exact h2 h o (by omega) hw
/-- what is given stands in the order of the packs -/
def balI (rq gv : Nat → Int) : Prop := ∀ s o, s < 4 → o < 4 → s ≠ o → 0 < rq o → 0 < gv s → klI rq s (gv s - 1) o (gv o)
theorem balI_gr {rq : Nat → Int} (hr : ∀ j, 0 ≤ rq j) : ∀ k : Nat, balI rq (grI rq k)
  | 0 => fun s o _ _ _ _ h => by simp [grI] at h
  | k + 1 => by
    have hb := balI_gr hr k
    have hg := grI_rng hr k
    have hm := ntI_min (rq := rq) (fun j => (hg j).1) 4
    have hn := ntI_rng rq (grI rq k) 4
    simp only [grI]
    split
    · exact hb
    · rename_i q
      generalize ht : ntI rq (grI rq k) 4 = t at hm hn q
      intro s o hs ho hne hro hgs
      have hw := hn.2.2 (by omega)
      have h0 := (hg t.toNat).1
      have hro2 := hg o
      have hrs := hg s
      by_cases e : s = t.toNat
      · subst e
        rw [upI_same, upI_ne (Ne.symm hne), Int.add_sub_cancel]
        by_cases hwo : grI rq k o < rq o
        · rcases hm.2 (by omega) o ho hwo with e2 | e2
          · exact absurd e2.symm hne
          · exact e2
        · left
          have e1 : grI rq k o = rq o := by omega
          rw [e1, Int.mul_comm (rq o)]
          exact Int.mul_lt_mul_of_pos_right hw hro
      · rw [upI_ne e] at hgs ⊢
        by_cases e2 : o = t.toNat
        · subst e2
          rw [upI_same]
          exact klI_r (by omega) (hb s t.toNat hs ho hne hro hgs) (by omega)
        · rw [upI_ne e2]
          exact hb s o hs ho hne hro hgs
theorem smI_up {g : Nat → Int} {t : Nat} (ht : t < 4) : smI (upI g t (g t + 1)) 4 = smI g 4 + 1 := by
  rcases (show t = 0 ∨ t = 1 ∨ t = 2 ∨ t = 3 by omega) with e | e | e | e <;> subst e <;> simp [smI, upI] <;> omega
theorem smI_wo {g : Nat → Int} {s : Nat} (hs : s < 4) : smI (fun o => if o = s then 0 else g o) 4 + g s = smI g 4 := by
  rcases (show s = 0 ∨ s = 1 ∨ s = 2 ∨ s = 3 by omega) with e | e | e | e <;> subst e <;> simp [smI] <;> omega
theorem smI_mono {f g : Nat → Int} : ∀ {n : Nat}, (∀ j, j < n → f j ≤ g j) → smI f n ≤ smI g n
  | 0, _ => Int.le_refl _
  | n + 1, h => by
    have h1 := smI_mono (n := n) (fun j hj => h j (by omega))
    have h2 := h n (by omega)
    simp only [smI]; omega
theorem grI_sum {rq : Nat → Int} (hr : ∀ j, 0 ≤ rq j) : ∀ k : Nat, smI (grI rq k) 4 ≤ k ∧ (smI (grI rq k) 4 = k ∨ ∀ o, o < 4 → ¬ grI rq k o < rq o)
  | 0 => ⟨by simp [grI, smI], Or.inl (by simp [grI, smI])⟩
  | k + 1 => by
    obtain ⟨h1, h2⟩ := grI_sum hr k
    have hg := grI_rng hr k
    have hm := ntI_min (rq := rq) (fun j => (hg j).1) 4
    have hn := ntI_rng rq (grI rq k) 4
    simp only [grI]
    split
    · rename_i q
      exact ⟨by omega, Or.inr (hm.1 q)⟩
    · rename_i q
      have hw := hn.2.2 (by omega)
      rw [smI_up (by omega)]
      rcases h2 with h2 | h2
      · exact ⟨by omega, Or.inl (by omega)⟩
      · exact absurd hw (h2 _ (by omega))
theorem ctI_spec {rq : Nat → Int} {pn : Int} {s : Nat} {m : Int} : ∀ (n : Nat) (lo hi : Int), lo ≤ m → m ≤ hi → hi - lo < (2 : Int) ^ n → (∀ h, lo ≤ h → h < m → gaI rq s h < pn) → (∀ h, m ≤ h → h < hi → ¬ gaI rq s h < pn) → ctI rq pn s n lo hi = m
  | 0, lo, hi, h1, h2, h3, _, _ => by simp only [ctI]; simp at h3; omega
  | n + 1, lo, hi, h1, h2, h3, h4, h5 => by
    have e : (2 : Int) ^ (n + 1) = 2 ^ n * 2 := Int.pow_succ ..
    rw [e] at h3
    simp only [ctI]
    split
    · omega
    · split
      · rename_i q1 q2
        have h6 : ¬ m ≤ lo + (hi - lo) / 2 := fun h => h5 _ h (by omega) q2
        exact ctI_spec n _ _ (by omega) h2 (by omega) (fun h a b => h4 h (by omega) b) h5
      · rename_i q1 q2
        have h6 : ¬ lo + (hi - lo) / 2 < m := fun h => q2 (h4 _ (by omega) h)
        exact ctI_spec n _ _ h1 (by omega) (by omega) h4 (fun h a b => h5 h a (by omega))
/-- counted by halving, and given pack by pack: the same -/
theorem ctI_gr {rq : Nat → Int} {pn : Int} {s : Nat} (hr : ∀ j, 0 ≤ rq j ∧ rq j ≤ 1000000) (hp : 0 ≤ pn) (hs : s < 4) : ctI rq pn s 32 0 (rq s) = grI rq pn.toNat s := by
  have hr0 := fun j => (hr j).1
  have hg := grI_rng hr0 pn.toNat
  have hb := balI_gr hr0 pn.toNat
  have ht := grI_sum hr0 pn.toNat
  have hrs := hr s
  have hgs := hg s
  have hwo := smI_wo (g := grI rq pn.toNat) hs
  refine ctI_spec 32 0 (rq s) hgs.1 hgs.2 (Int.lt_of_le_of_lt (show rq s - 0 ≤ 1000000 by omega) (by decide)) (fun h h1 h2 => ?_) (fun h h1 h2 => ?_)
  · have hs0 : 0 < rq s := by omega
    unfold gaI
    rw [if_neg (by omega)]
    have h3 : smI (caI rq s h) 4 ≤ smI (fun o => if o = s then 0 else grI rq pn.toNat o) 4 := smI_mono (fun o ho => by
      by_cases e : o = s
      · subst e; rw [if_pos rfl]; unfold caI; rw [if_neg (by omega), if_neg (by omega)]; exact Int.le_refl _
      · rw [if_neg e]
        have hgo := hg o
        by_cases e2 : 0 < rq o
        · exact caI_ub hs0 e2 e (klI_l e2 (hb s o hs ho (Ne.symm e) e2 (by omega)) (by omega))
        · unfold caI; rw [if_neg (by omega), if_neg (by omega)]; exact hgo.1)
    omega
  · have hs0 : 0 < rq s := by omega
    have h0 : 0 ≤ h := by omega
    unfold gaI
    rw [if_neg (by omega)]
    have h3 : smI (fun o => if o = s then 0 else grI rq pn.toNat o) 4 ≤ smI (caI rq s h) 4 := smI_mono (fun o ho => by
      by_cases e : o = s
      · rw [if_pos e]; exact caI_0 hs0 h0 (hr0 o)
      · rw [if_neg e]
        by_cases e2 : 0 < grI rq pn.toNat o
        · have hgo := hg o
          exact caI_lb hs0 (by omega) e (klI_r (by omega) (hb o s ho hs e hs0 e2) h1)
        · have := caI_0 (o := o) hs0 h0 (hr0 o); omega)
    rcases ht.2 with h4 | h4
    · omega
    · exact absurd (show grI rq pn.toNat s < rq s by omega) (h4 s hs)
theorem ntI_congr {rq rq' gv gv' : Nat → Int} : ∀ n : Nat, (∀ j, j < n → rq j = rq' j ∧ gv j = gv' j) → ntI rq gv n = ntI rq' gv' n
  | 0, _ => rfl
  | n + 1, h => by
    have ih := ntI_congr (rq := rq) (rq' := rq') (gv := gv) (gv' := gv') n (fun j hj => h j (by omega))
    have h3 := ntI_rng rq gv n
    have hn := h n (by omega)
    have e1 : nrI rq (ntI rq gv n) = nrI rq' (ntI rq gv n) := by
      unfold nrI; split
      · rfl
      · exact (h _ (by omega)).1
    have e2 : ngI gv (ntI rq gv n) = ngI gv' (ntI rq gv n) := by
      unfold ngI; split
      · rfl
      · exact (h _ (by omega)).2
    simp only [ntI]
    rw [← ih, ← e1, ← e2, ← hn.1, ← hn.2]
theorem ntI_ext {rq gv : Nat → Int} {n : Nat} : ∀ m : Nat, (∀ j, n ≤ j → j < n + m → ¬ gv j < rq j) → ntI rq gv (n + m) = ntI rq gv n
  | 0, _ => rfl
  | m + 1, h => by
    have ih := ntI_ext (rq := rq) (gv := gv) (n := n) m (fun j a b => h j a (by omega))
    rw [← Nat.add_assoc, ntI, if_neg (fun q => h (n + m) (by omega) (by omega) q.1), ih]
theorem gn_gr {rq rq' g0 : Nat → Int} {n : Nat} (hn : n ≤ 4) (hr : ∀ j, 0 ≤ rq j) (h0 : ∀ j, j < n → g0 j = 0) (he : ∀ j, j < n → rq' j = rq j) (hz : ∀ j, n ≤ j → rq j = 0) : ∀ k j : Nat, j < n → gnI rq' n g0 k j = grI rq k j
  | 0, j, hj => by simp only [gnI, grI]; exact h0 j hj
  | k + 1, j, hj => by
    have ih := gn_gr hn hr h0 he hz k
    have hg := grI_rng hr k
    have e1 : ntI rq' (gnI rq' n g0 k) n = ntI rq (grI rq k) n := ntI_congr n (fun i hi => ⟨he i hi, ih i hi⟩)
    have e2 : ntI rq (grI rq k) 4 = ntI rq (grI rq k) n := by
      have := ntI_ext (rq := rq) (gv := grI rq k) (n := n) (4 - n) (fun i a b => by have := hz i a; have := (hg i).1; omega)
      rwa [show n + (4 - n) = 4 from by omega] at this
    have h3 := ntI_rng rq (grI rq k) n
    simp only [gnI, grI]
    rw [e1, e2]
    split
    · exact ih j hj
    · by_cases e : j = (ntI rq (grI rq k) n).toNat
      · subst e; rw [upI_same, upI_same, ih _ hj]
      · rw [upI_ne e, upI_ne e, ih j hj]
