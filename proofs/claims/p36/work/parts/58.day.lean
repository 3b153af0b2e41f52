theorem qS_at {c : Nat → Bool} {f : LT → LT} {LR : Nat → LT} {n a : Nat} (h : a < n) : qS c f LR n a = if c a = true then f (LR a) else LR a := by
  simp only [qS]
  by_cases hc : c a = true
  · rw [if_pos ⟨h, hc⟩, if_pos hc]
  · rw [if_neg (fun q => hc q.2), if_neg hc]
theorem qS_nc {c : Nat → Bool} {f : LT → LT} {LR : Nat → LT} {n a : Nat} (h : ¬ c a = true) : qS c f LR n a = LR a := by
  simp only [qS]
  rw [if_neg (fun q => h q.2)]
theorem dz_at {mD : Nat → Int} {w a k : Nat} (hk : k < 8) : dzI mD w 20 (8 * a + k) = if a < 20 ∧ k = w then 0 else mD (8 * a + k) := by
  simp only [dzI]
  by_cases h : a < 20 ∧ k = w
  · rw [if_pos h, if_pos (by omega)]
  · rw [if_neg h, if_neg (by omega)]
/-- the two states after the night's first half: learnt, the day counted, what was due received -/
theorem JI_day {sh it dy : Nat} {pct lr sr : Int} {lf lrf srf : Nat → Int} {cr : Nat → Bool} {IR : Nat → IT} {LR : Nat → LT} {mL mP mC mI mM mS mV mN mE mA mO mT mD : Nat → Int} (h : JI sh it dy pct lr sr lf lrf srf cr IR LR mL mP mC mI mM mS mV mN mE mA mO mT mD) (hd : dy < 600) :
    JI sh it (dy + 1) pct lr sr lf (upI lrf dy (lrf dy + lr)) (upI srf dy (srf dy + sr)) cr IR (qS cr (rcvR (dy + 1)) (qS (cL cr IR dy) (lrnR dy lr sr) LR 20) 20) mL mP mC mI mM
      (flF mS (fun a => mS a + mD (8 * a + (dy + 1) % 8)) 20) (lrS mI mM mA dy lr sr mV mN mE 20).1 (lrS mI mM mA dy lr sr mV mN mE 20).2.1 (lrS mI mM mA dy lr sr mV mN mE 20).2.2 (flI mA 0 20) mO mT (dzI mD ((dy + 1) % 8) 20) := by
  obtain ⟨c1, c2, c3⟩ := lrS_cl (mI := mI) (mM := mM) (mA := mA) (dy := dy) (lr := lr) (sr := sr) (mV := mV) (mN := mN) (mE := mE) 20
  obtain ⟨h1, h2, h3, h4, h5, h6, h7, h8⟩ := h
  have h4d := (h4 dy).2.2.2.2 (Nat.le_refl _)
  refine ⟨by omega, h2, h3, fun j => ?_, fun i => ⟨fun hi => II_day ((h5 i).1 hi), (h5 i).2⟩, h6, fun a hc => ?_, fun a hc => ?_⟩
  · by_cases e : j = dy
    · subst e
      rw [upI_same, upI_same, h4d.1, h4d.2]
      exact ⟨by omega, by omega, by omega, by omega, fun h => by omega⟩
    · rw [upI_ne e, upI_ne e]
      have := h4 j
      exact ⟨this.1, this.2.1, this.2.2.1, this.2.2.2.1, fun h => this.2.2.2.2 (by omega)⟩
  · obtain ⟨g1, g2, g3, g4⟩ := h7 a hc
    refine ⟨g1, g2, g3, ?_⟩
    have hmI : mI a ≠ 0 := by rw [h6 a, if_pos hc]; omega
    have hmM : mM (1000 * (a % 5) + dy) = ipr (IR (a % 5)) dy := ((h5 (a % 5)).1 g2).2.2.2.2.2.1 dy (by omega)
    have ha : ∀ j, j < dy → upI lrf dy (lrf dy + lr) j = lrf j ∧ upI srf dy (srf dy + sr) j = srf j := fun j hj => ⟨upI_ne (by omega), upI_ne (by omega)⟩
    have hb : upI lrf dy (lrf dy + lr) dy = lr ∧ upI srf dy (srf dy + sr) dy = sr := by rw [upI_same, upI_same, h4d.1, h4d.2]; omega
    have hz : ∀ x, x < 8 → (fun k => dzI mD ((dy + 1) % 8) 20 (8 * a + k)) x = if x = (dy + 1) % 8 then 0 else (fun k => mD (8 * a + k)) x := fun x hx => by
      show dzI mD ((dy + 1) % 8) 20 (8 * a + x) = if x = (dy + 1) % 8 then 0 else mD (8 * a + x)
      rw [dz_at hx]
      by_cases e : x = (dy + 1) % 8
      · rw [if_pos ⟨g1, e⟩, if_pos e]
      · rw [if_neg (fun q => e q.2), if_neg e]
    rw [qS_at g1, if_pos hc, qS_at g1, show flI mA 0 20 a = 0 from by simp only [flI]; rw [if_pos g1], show flF mS (fun a => mS a + mD (8 * a + (dy + 1) % 8)) 20 a = mS a + mD (8 * a + (dy + 1) % 8) from by simp only [flF]; rw [if_pos g1]]
    by_cases hp : ipr (IR (a % 5)) dy = 0
    · rw [if_pos (cL_t hc hp), c1 a, if_pos ⟨g1, hmI, by rw [hmM]; exact hp⟩]
      exact LI_day (LI_learn g4 hp ha hb (fun w hw => (c2 a w hw).trans (if_pos ⟨g1, hmI, by rw [hmM]; exact hp⟩)) (fun k hk => (c3 a k hk).trans (if_pos ⟨g1, hmI, by rw [hmM]; exact hp⟩))) hz
    · have hq : ¬ (a < 20 ∧ mI a ≠ 0 ∧ mM (1000 * (a % 5) + dy) = 0) := fun q => hp (by rw [← hmM]; exact q.2.2)
      rw [if_neg (cL_f (Or.inr hp)), c1 a, if_neg hq]
      exact LI_day (LI_cg (LI_skip g4 hp ha) (fun w hw => (c2 a w hw).trans (if_neg hq)) (fun k hk => (c3 a k hk).trans (if_neg hq)) (fun _ _ => rfl)) hz
  · obtain ⟨g1, g2, g3, g4, g5, g6, g7, g8, g9⟩ := h8 a hc
    have hmI : mI a = 0 := by rw [h6 a, if_neg hc]
    have hq : ¬ (a < 20 ∧ mI a ≠ 0 ∧ mM (1000 * (a % 5) + dy) = 0) := fun q => q.2.1 hmI
    refine ⟨?_, ?_, ?_, ?_, g5, g6, fun w hw => ?_, fun k hk => ?_, fun k hk => ?_⟩
    · rw [qS_nc hc, qS_nc (cL_f (Or.inl hc))]; exact g1
    · simp only [flF]
      split
      · have := g9 ((dy + 1) % 8) (Nat.mod_lt _ (by omega)); omega
      · exact g2
    · rw [c1 a, if_neg hq]; exact g3
    · simp only [flI]
      split
      · rfl
      · exact g4
    · rw [c2 a w hw, if_neg hq]; exact g7 w hw
    · rw [c3 a k hk, if_neg hq]; exact g8 k hk
    · rw [dz_at hk]
      split
      · rfl
      · exact g9 k hk
