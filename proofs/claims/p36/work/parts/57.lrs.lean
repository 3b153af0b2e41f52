/-! the reference's learning, in closed form -/
section LRS
variable {mI mM mA : Nat → Int} {dy : Nat} {lr sr : Int} {mV mN mE : Nat → Int}
theorem lrS_cl : ∀ i : Nat,
    (∀ a, (lrS mI mM mA dy lr sr mV mN mE i).1 a = if a < i ∧ mI a ≠ 0 ∧ mM (1000 * (a % 5) + dy) = 0 then lvI (mV a) (mN (7 * a + dy % 7)) (mA a) lr else mV a) ∧
    (∀ a w, w < 7 → (lrS mI mM mA dy lr sr mV mN mE i).2.1 (7 * a + w) = if a < i ∧ mI a ≠ 0 ∧ mM (1000 * (a % 5) + dy) = 0 then (if 0 < lvI (mV a) (mN (7 * a + dy % 7)) (mA a) lr then upI (fun w => mN (7 * a + w)) (dy % 7) (seI (lvI (mV a) (mN (7 * a + dy % 7)) (mA a) lr) (mN (7 * a + dy % 7)) (mA a) sr) else fun w => mN (7 * a + w)) w else mN (7 * a + w)) ∧
    (∀ a k, k < 21 → (lrS mI mM mA dy lr sr mV mN mE i).2.2 (21 * a + k) = if a < i ∧ mI a ≠ 0 ∧ mM (1000 * (a % 5) + dy) = 0 then upI (fun k => mE (21 * a + k)) (erI (mA a) (unI (mV a) (fun w => mN (7 * a + w)) dy)).toNat (mE (21 * a + (erI (mA a) (unI (mV a) (fun w => mN (7 * a + w)) dy)).toNat) + 1) k else mE (21 * a + k))
  | 0 => ⟨fun a => by simp [lrS], fun a w _ => by simp [lrS], fun a k _ => by simp [lrS]⟩
  | i + 1 => by
    obtain ⟨h1, h2, h3⟩ := lrS_cl i
    have hw : dy % 7 < 7 := Nat.mod_lt _ (by omega)
    have a1 := h1 i
    have a2 := h2 i (dy % 7) hw
    rw [if_neg (by omega)] at a1 a2
    have her := erI_rng (mA i) (unI (mV i) (fun w => mN (7 * i + w)) dy)
    have a3 := h3 i (erI (mA i) (unI (mV i) (fun w => mN (7 * i + w)) dy)).toNat (by omega)
    rw [if_neg (by omega)] at a3
    rw [lrS]
    split
    · rename_i hq
      generalize lrS mI mM mA dy lr sr mV mN mE i = S at h1 h2 h3 a1 a2 a3
      have a4 : unI (S.1 i) (fun w => S.2.1 (7 * i + w)) dy = unI (mV i) (fun w => mN (7 * i + w)) dy := by
        unfold unI thI
        show (S.1 i * S.2.1 (7 * i + dy % 7) / 1000 + 500) / 1000 = (mV i * mN (7 * i + dy % 7) / 1000 + 500) / 1000
        rw [a1, a2]
      refine ⟨fun a => ?_, fun a w hw2 => ?_, fun a k hk => ?_⟩
      · simp only [lr1]
        by_cases e : a = i
        · subst e
          rw [upI_same, if_pos ⟨by omega, hq⟩, a1, a2]
        · rw [upI_ne e, h1 a]
          by_cases c : a < i ∧ mI a ≠ 0 ∧ mM (1000 * (a % 5) + dy) = 0
          · rw [if_pos c, if_pos (show a < i + 1 ∧ mI a ≠ 0 ∧ mM (1000 * (a % 5) + dy) = 0 from ⟨by omega, c.2⟩)]
          · rw [if_neg c, if_neg (fun c2 => c ⟨by omega, c2.2⟩)]
      · simp only [lr1]
        rw [a1, a2]
        by_cases e : a = i
        · subst e
          rw [if_pos (show a < a + 1 ∧ mI a ≠ 0 ∧ mM (1000 * (a % 5) + dy) = 0 from ⟨by omega, hq⟩)]
          have b2 := h2 a w hw2
          rw [if_neg (by omega)] at b2
          split
          · simp only [upI]
            by_cases e2 : w = dy % 7
            · rw [if_pos (by omega), if_pos e2]
            · rw [if_neg (by omega), if_neg e2, b2]
          · exact b2
        · have b2 := h2 a w hw2
          have b3 : (if 0 < lvI (mV i) (mN (7 * i + dy % 7)) (mA i) lr then upI S.2.1 (7 * i + dy % 7) (seI (lvI (mV i) (mN (7 * i + dy % 7)) (mA i) lr) (mN (7 * i + dy % 7)) (mA i) sr) else S.2.1) (7 * a + w) = S.2.1 (7 * a + w) := by
            split
            · exact upI_ne (by omega)
            · rfl
          rw [b3, b2]
          by_cases c : a < i ∧ mI a ≠ 0 ∧ mM (1000 * (a % 5) + dy) = 0
          · rw [if_pos c, if_pos (show a < i + 1 ∧ mI a ≠ 0 ∧ mM (1000 * (a % 5) + dy) = 0 from ⟨by omega, c.2⟩)]
          · rw [if_neg c, if_neg (fun c2 => c ⟨by omega, c2.2⟩)]
      · simp only [lr1]
        rw [a4, a3]
        by_cases e : a = i
        · subst e
          rw [if_pos (show a < a + 1 ∧ mI a ≠ 0 ∧ mM (1000 * (a % 5) + dy) = 0 from ⟨by omega, hq⟩)]
          have b2 := h3 a k hk
          rw [if_neg (by omega)] at b2
          simp only [upI]
          by_cases e2 : k = (erI (mA a) (unI (mV a) (fun w => mN (7 * a + w)) dy)).toNat
          · rw [if_pos (by omega), if_pos e2]
          · rw [if_neg (by omega), if_neg e2, b2]
        · have b2 := h3 a k hk
          rw [upI_ne (by omega), b2]
          by_cases c : a < i ∧ mI a ≠ 0 ∧ mM (1000 * (a % 5) + dy) = 0
          · rw [if_pos c, if_pos (show a < i + 1 ∧ mI a ≠ 0 ∧ mM (1000 * (a % 5) + dy) = 0 from ⟨by omega, c.2⟩)]
          · rw [if_neg c, if_neg (fun c2 => c ⟨by omega, c2.2⟩)]
    · rename_i hq
      refine ⟨fun a => ?_, fun a w hw2 => ?_, fun a k hk => ?_⟩
      · rw [h1 a]
        by_cases c : a < i ∧ mI a ≠ 0 ∧ mM (1000 * (a % 5) + dy) = 0
        · rw [if_pos c, if_pos (show a < i + 1 ∧ mI a ≠ 0 ∧ mM (1000 * (a % 5) + dy) = 0 from ⟨by omega, c.2⟩)]
        · rw [if_neg c, if_neg (fun c2 => by by_cases e : a = i; (subst e; exact hq c2.2); exact c ⟨by omega, c2.2⟩)]
      · rw [h2 a w hw2]
        by_cases c : a < i ∧ mI a ≠ 0 ∧ mM (1000 * (a % 5) + dy) = 0
        · rw [if_pos c, if_pos (show a < i + 1 ∧ mI a ≠ 0 ∧ mM (1000 * (a % 5) + dy) = 0 from ⟨by omega, c.2⟩)]
        · rw [if_neg c, if_neg (fun c2 => by by_cases e : a = i; (subst e; exact hq c2.2); exact c ⟨by omega, c2.2⟩)]
      · rw [h3 a k hk]
        by_cases c : a < i ∧ mI a ≠ 0 ∧ mM (1000 * (a % 5) + dy) = 0
        · rw [if_pos c, if_pos (show a < i + 1 ∧ mI a ≠ 0 ∧ mM (1000 * (a % 5) + dy) = 0 from ⟨by omega, c.2⟩)]
        · rw [if_neg c, if_neg (fun c2 => by by_cases e : a = i; (subst e; exact hq c2.2); exact c ⟨by omega, c2.2⟩)]
end LRS
