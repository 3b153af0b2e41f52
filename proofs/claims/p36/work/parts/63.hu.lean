/-- what is not sent yet -/
theorem JI_hu {sh it dy : Nat} {pct lr sr : Int} {lf lrf srf : Nat → Int} {cr : Nat → Bool} {IR : Nat → IT} {LR : Nat → LT} {mL mP mC mI mM mS mV mN mE mA mO mT mD : Nat → Int} (h : JI sh it dy pct lr sr lf lrf srf cr IR LR mL mP mC mI mM mS mV mN mE mA mO mT mD) (a : Nat) (hc : cr a = true) : lar (qS cr (rcvR (dy + 1)) (qS (cL cr IR dy) (lrnR dy lr sr) LR 20) 20 a) (dy + 1 + (lf (a / 5)).toNat) = 0 := by
  obtain ⟨g1, -, -, g4⟩ := h.2.2.2.2.2.2.1 a hc
  have hz := LI_z g4
  rw [qS_at g1, if_pos hc, qS_at g1]
  by_cases hp : cL cr IR dy a = true
  · rw [if_pos hp]; exact hz
  · rw [if_neg hp]; exact hz
