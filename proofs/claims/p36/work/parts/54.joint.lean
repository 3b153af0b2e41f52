/-! the class's state and the reference's -/
def l0R : LT := lmk 1 0 0 0 0 0 0 0 0 (fun _ => 1000) (fun _ => 0) (fun _ => 0) (fun _ => 0) (fun _ => 0)
def i0R : IT := imk 1 0 0 (fun _ => 0) (fun _ => 0) (fun _ => 0)
def JI (sh it dy : Nat) (pct lr sr : Int) (lf lrf srf : Nat → Int) (cr : Nat → Bool) (IR : Nat → IT) (LR : Nat → LT) (mL mP mC mI mM mS mV mN mE mA mO mT mD : Nat → Int) : Prop :=
  (sh ≤ 4 ∧ it ≤ 5 ∧ dy ≤ 600) ∧ (1 ≤ pct ∧ pct ≤ 100 ∧ 0 ≤ lr ∧ lr ≤ 100 ∧ 0 ≤ sr ∧ sr ≤ 100) ∧
  (∀ s, (s < sh → mL s = lf s ∧ 1 ≤ lf s ∧ lf s ≤ 5) ∧ (sh ≤ s → mL s = 0)) ∧
  (∀ j, 0 ≤ lrf j ∧ lrf j ≤ 100 ∧ 0 ≤ srf j ∧ srf j ≤ 100 ∧ (dy ≤ j → lrf j = 0 ∧ srf j = 0)) ∧
  (∀ i, (i < it → II dy (IR i) (mP i) (mC i) (fun d => mM (1000 * i + d))) ∧ (it ≤ i → IR i = i0R ∧ mC i = 0 ∧ ∀ d, d < 1000 → mM (1000 * i + d) = 0)) ∧
  (∀ a, mI a = if cr a = true then 1 else 0) ∧
  (∀ a, cr a = true → a < 20 ∧ a % 5 < it ∧ a / 5 < sh ∧ LI 0 dy (lf (a / 5)).toNat lrf srf (ipr (IR (a % 5))) (LR a) (mS a) (mV a) (fun w => mN (7 * a + w)) (fun k => mE (21 * a + k)) (mA a) (mO a) (mT a) (fun k => mD (8 * a + k))) ∧
  (∀ a, ¬ cr a = true → LR a = l0R ∧ mS a = 0 ∧ mV a = 0 ∧ mA a = 0 ∧ mO a = 0 ∧ mT a = 0 ∧ (∀ w, w < 7 → mN (7 * a + w) = 0) ∧ (∀ k, k < 21 → mE (21 * a + k) = 0) ∧ (∀ k, k < 8 → mD (8 * a + k) = 0))
theorem l0_ok (dy : Nat) : lOK dy l0R := by
  refine ⟨⟨Int.le_refl _, ?_⟩, fun w => ⟨?_, ?_⟩, fun j => ⟨Int.le_refl _, ?_⟩, ⟨Int.le_refl _, ?_⟩, ?_, ⟨Int.le_refl _, ?_⟩, ⟨?_, ?_⟩⟩
  · show (0 : Int) ≤ 9990000; omega
  · show (100 : Int) ≤ 1000; omega
  · show (1000 : Int) ≤ 5000; omega
  · show (0 : Int) ≤ 1000; omega
  · show (0 : Int) ≤ 1000; omega
  · show 1 ≤ 5; omega
  · show (0 : Int) ≤ 100000000; omega
  · show (0 : Int) ≤ 0 + 0 + 0 + 0 + 0 + 0; omega
  · show (0 : Int) + 0 + 0 + 0 + 0 + 0 ≤ 100000000; omega
theorem i0_ok : iOK i0R := ⟨⟨by show (0 : Int) < 1; omega, by show (1 : Int) ≤ 50; omega⟩, ⟨Int.le_refl _, by show (0 : Int) ≤ 99999; omega⟩⟩
section JIS
variable {sh it dy : Nat} {pct lr sr : Int} {lf lrf srf : Nat → Int} {cr : Nat → Bool} {IR : Nat → IT} {LR : Nat → LT} {mL mP mC mI mM mS mV mN mE mA mO mT mD : Nat → Int}
theorem JI_lOK (h : JI sh it dy pct lr sr lf lrf srf cr IR LR mL mP mC mI mM mS mV mN mE mA mO mT mD) (a : Nat) : lOK dy (LR a) := by
  obtain ⟨h1, h2, h3, h4, h5, h6, h7, h8⟩ := h
  by_cases hc : cr a = true
  · exact LI_ok (h7 a hc).2.2.2 (by omega) (by omega) (fun j => ⟨(h4 j).1, (h4 j).2.1⟩)
  · rw [(h8 a hc).1]; exact l0_ok dy
theorem JI_iOK (h : JI sh it dy pct lr sr lf lrf srf cr IR LR mL mP mC mI mM mS mV mN mE mA mO mT mD) (i : Nat) : iOK (IR i) := by
  obtain ⟨h1, h2, h3, h4, h5, h6, h7, h8⟩ := h
  by_cases hc : i < it
  · exact II_ok ((h5 i).1 hc)
  · rw [((h5 i).2 (by omega)).1]; exact i0_ok
theorem JI_pr (h : JI sh it dy pct lr sr lf lrf srf cr IR LR mL mP mC mI mM mS mV mN mE mA mO mT mD) (i j : Nat) : 0 ≤ ipr (IR i) j ∧ ipr (IR i) j ≤ 1 := by
  obtain ⟨h1, h2, h3, h4, h5, h6, h7, h8⟩ := h
  by_cases hc : i < it
  · exact ((h5 i).1 hc).2.2.2.2.2.2 j
  · rw [((h5 i).2 (by omega)).1]
    exact ⟨Int.le_refl _, by show (0 : Int) ≤ 1; omega⟩
theorem JI_mI (h : JI sh it dy pct lr sr lf lrf srf cr IR LR mL mP mC mI mM mS mV mN mE mA mO mT mD) (a : Nat) : 0 ≤ mI a ∧ mI a ≤ 1 := by
  rw [h.2.2.2.2.2.1 a]; split <;> omega
theorem JI_mL (h : JI sh it dy pct lr sr lf lrf srf cr IR LR mL mP mC mI mM mS mV mN mE mA mO mT mD) (s : Nat) : 0 ≤ mL s ∧ mL s ≤ 5 := by
  have h3 := h.2.2.1 s
  by_cases hc : s < sh
  · have := h3.1 hc; omega
  · have := h3.2 (by omega); omega
theorem JI_mC (h : JI sh it dy pct lr sr lf lrf srf cr IR LR mL mP mC mI mM mS mV mN mE mA mO mT mD) (i : Nat) : 0 ≤ mC i ∧ mC i ≤ 99999 := by
  have h5 := h.2.2.2.2.1 i
  by_cases hc : i < it
  · have h6 := h5.1 hc
    have h7 := h6.2.1; have h8 := h6.2.2.2.2.1; omega
  · have := (h5.2 (by omega)).2.1; omega
theorem JI_mP (h : JI sh it dy pct lr sr lf lrf srf cr IR LR mL mP mC mI mM mS mV mN mE mA mO mT mD) (i : Nat) (hi : i < it) : 0 < mP i ∧ mP i ≤ 50 := by
  have h6 := (h.2.2.2.2.1 i).1 hi
  have h7 := h6.1; have h8 := h6.2.2.2.2.1; omega
theorem JI_mM (h : JI sh it dy pct lr sr lf lrf srf cr IR LR mL mP mC mI mM mS mV mN mE mA mO mT mD) (j : Nat) : 0 ≤ mM j ∧ mM j ≤ 1 := by
  have h5 := h.2.2.2.2.1 (j / 1000)
  have e : 1000 * (j / 1000) + j % 1000 = j := by omega
  by_cases hc : j / 1000 < it
  · have h6 := h5.1 hc
    have h7 := h6.2.2.2.2.2.1 (j % 1000) (by omega)
    have h8 := h6.2.2.2.2.2.2 (j % 1000)
    simp only [e] at h7
    omega
  · have h7 := (h5.2 (by omega)).2.2 (j % 1000) (by omega)
    rw [e] at h7; omega
theorem JI_mS (h : JI sh it dy pct lr sr lf lrf srf cr IR LR mL mP mC mI mM mS mV mN mE mA mO mT mD) (a : Nat) : 0 ≤ mS a ∧ mS a ≤ 999 + 99999 * ((dy : Int) + 1) := by
  obtain ⟨h1, h2, h3, h4, h5, h6, h7, h8⟩ := h
  by_cases hc : cr a = true
  · obtain ⟨g1, g2, g3, g4, g5, g6, g7, g8, g9, g10, g11, g12, g13, g14, g15⟩ := (h7 a hc).2.2.2
    have a1 := smI_le (f := lar (LR a)) (B := 99999) g6 (dy + 1)
    have a2 := smI_le (f := lsl (LR a)) (B := 999) (fun j => ⟨(g5 j).1, by have := g5 j; have := g3 j; omega⟩) (dy + 1)
    have a3 := g12.1
    omega
  · have := (h8 a hc).2.1; omega
theorem JI_mV (h : JI sh it dy pct lr sr lf lrf srf cr IR LR mL mP mC mI mM mS mV mN mE mA mO mT mD) (a : Nat) : 0 ≤ mV a ∧ mV a ≤ 9990000 := by
  obtain ⟨h1, h2, h3, h4, h5, h6, h7, h8⟩ := h
  by_cases hc : cr a = true
  · have h9 := (h7 a hc).2.2.2
    have h10 := (LI_rp h9 (fun j => ⟨(h4 j).1, (h4 j).2.1⟩)).1
    have h11 := h9.2.2.2.2.2.2.2.2.2.2.2.1.2.1
    omega
  · have := (h8 a hc).2.2.1; omega
theorem JI_mN (h : JI sh it dy pct lr sr lf lrf srf cr IR LR mL mP mC mI mM mS mV mN mE mA mO mT mD) (j : Nat) : (0 ≤ mN j ∧ mN j ≤ 5000) ∧ (cr (j / 7) = true → 100 ≤ mN j) := by
  obtain ⟨h1, h2, h3, h4, h5, h6, h7, h8⟩ := h
  have e : 7 * (j / 7) + j % 7 = j := by omega
  by_cases hc : cr (j / 7) = true
  · have h9 := (h7 _ hc).2.2.2
    have h10 := (LI_rp h9 (fun j => ⟨(h4 j).1, (h4 j).2.1⟩)).2 (j % 7)
    have h11 := h9.2.2.2.2.2.2.2.2.2.2.2.2.1 (j % 7) (by omega)
    simp only [e] at h11
    exact ⟨by omega, fun _ => by omega⟩
  · have h11 := (h8 _ hc).2.2.2.2.2.2.1 (j % 7) (by omega)
    rw [e] at h11
    exact ⟨by omega, fun h => absurd h hc⟩
theorem JI_mE (h : JI sh it dy pct lr sr lf lrf srf cr IR LR mL mP mC mI mM mS mV mN mE mA mO mT mD) (j : Nat) : 0 ≤ mE j ∧ mE j ≤ (dy : Int) := by
  obtain ⟨h1, h2, h3, h4, h5, h6, h7, h8⟩ := h
  have e : 21 * (j / 21) + j % 21 = j := by omega
  by_cases hc : cr (j / 21) = true
  · obtain ⟨g1, g2, g3, g4, g5, g6, g7, g8, g9, g10, g11, g12, g13, g14, g15⟩ := (h7 _ hc).2.2.2
    have h11 := g14 (j % 21) (by omega)
    have h12 := g9.1 (j % 21)
    have h13 := g9.2.2
    simp only [e] at h11
    omega
  · have h11 := (h8 _ hc).2.2.2.2.2.2.2.1 (j % 21) (by omega)
    rw [e] at h11; omega
theorem JI_mA (h : JI sh it dy pct lr sr lf lrf srf cr IR LR mL mP mC mI mM mS mV mN mE mA mO mT mD) (a : Nat) : 0 ≤ mA a ∧ mA a ≤ 999 := by
  obtain ⟨h1, h2, h3, h4, h5, h6, h7, h8⟩ := h
  by_cases hc : cr a = true
  · obtain ⟨g1, g2, g3, g4, g5, g6, g7, g8, g9, g10, g11, g12, g13, g14, g15⟩ := (h7 a hc).2.2.2
    have := g3 dy; have := g12.2.2.1; omega
  · have := (h8 a hc).2.2.2.1; omega
theorem JI_OT (h : JI sh it dy pct lr sr lf lrf srf cr IR LR mL mP mC mI mM mS mV mN mE mA mO mT mD) (a : Nat) : 0 ≤ mO a ∧ 0 ≤ mT a ∧ mO a + mT a ≤ 1000000 := by
  obtain ⟨h1, h2, h3, h4, h5, h6, h7, h8⟩ := h
  by_cases hc : cr a = true
  · obtain ⟨g1, g2, g3, g4, g5, g6, g7, g8, g9, g10, g11, g12, g13, g14, g15⟩ := (h7 a hc).2.2.2
    have a1 := smI_le (f := ldm (LR a)) (B := 999) g3 (dy + 1)
    have a2 := g12.2.2.2; omega
  · have := (h8 a hc).2.2.2.2.1; have := (h8 a hc).2.2.2.2.2.1; omega
theorem JI_mD (h : JI sh it dy pct lr sr lf lrf srf cr IR LR mL mP mC mI mM mS mV mN mE mA mO mT mD) (j : Nat) : 0 ≤ mD j ∧ mD j ≤ 99999 := by
  obtain ⟨h1, h2, h3, h4, h5, h6, h7, h8⟩ := h
  have e : 8 * (j / 8) + j % 8 = j := by omega
  by_cases hc : cr (j / 8) = true
  · obtain ⟨g1, g2, g3, g4, g5, g6, g7, g8, g9, g10, g11, g12, g13, g14, g15⟩ := (h7 _ hc).2.2.2
    by_cases h0 : j % 8 = dy % 8
    · have h11 := g15.1
      simp only [← h0, e] at h11
      omega
    · have h11 := g15.2 ((j % 8 + 8 - dy % 8) % 8) (by omega) (by omega)
      have h12 := g6 (dy + (j % 8 + 8 - dy % 8) % 8)
      simp only [show (dy + (j % 8 + 8 - dy % 8) % 8) % 8 = j % 8 from by omega, e] at h11
      omega
  · have h11 := (h8 _ hc).2.2.2.2.2.2.2.2 (j % 8) (by omega)
    rw [e] at h11; omega
/-- the codes are alike -/
theorem JI_cd (h : JI sh it dy pct lr sr lf lrf srf cr IR LR mL mP mC mI mM mS mV mN mE mA mO mT mD) (LA : Nat → Nat → Nat) (zs zi : Int) : cdM sh it mI zs zi = cdL sh it (lnq cr LA) zs zi := by
  unfold cdM cdL
  split
  · have h6 := h.2.2.2.2.2.1 (zs * 5 + zi).toNat
    rw [show 5 * zs + zi = zs * 5 + zi from by omega]
    unfold lnq
    by_cases hc : cr (zs * 5 + zi).toNat = true
    · rw [if_pos hc] at h6
      rw [if_neg (by omega), if_pos hc, if_neg (by simp)]
    · rw [if_neg hc] at h6
      rw [if_pos h6, if_neg hc, if_pos rfl]
  · rfl
end JIS
