/-- what the reference gives, pack by pack, is what the class counts -/
theorem JI_G {sh it dy : Nat} {pct lr sr : Int} {lf lrf srf : Nat → Int} {cr : Nat → Bool} {IR : Nat → IT} {LR : Nat → LT} {mL mP mC mI mM mS mV mN mE mA mO mT mD : Nat → Int} (h : JI sh it dy pct lr sr lf lrf srf cr IR LR mL mP mC mI mM mS mV mN mE mA mO mT mD) {i : Nat} (hi : i < it) (W G0 : Nat → Int) {s : Nat} (hs : s < sh) :
    gnI (flF W (rqM mI mL mS mV mN mE mD dy pct (mP i) i) sh) sh (flI G0 0 sh) (mC i / mP i).toNat s = sntI cr (rqA dy pct cr IR LR i sh) (ist (IR i) / ipk (IR i)) i s := by
  have hlk := fun s => JI_lOK h (s * 5 + i)
  have hik := JI_iOK h i
  have h1 := h.1
  have h2 := h.2.1
  have hII := (h.2.2.2.2.1 i).1 hi
  have hP := hII.2.2.2.2.1
  have hpc : 1 ≤ pct ∧ pct ≤ 100 := by omega
  have hrq := fun j => rqA_rng (cr := cr) (n := sh) (IR := IR) (LR := LR) (tn := i) hlk hpc hik j
  have hpn := pk_rng hik
  have hz : ∀ j, ¬ cr (j * 5 + i) = true → rqA dy pct cr IR LR i sh j = 0 := fun j hj => by unfold rqA; rw [if_neg (fun q => hj q.2)]
  rw [snt_eq (cr := cr) (tn := i) hrq hpn.1 hz (j := s) (by omega), hP.1, hP.2, ← hP.1]
  exact gn_gr (by omega) (fun j => (hrq j).1) (fun j hj => by simp only [flI]; rw [if_pos hj]) (fun j hj => by simp only [flF]; rw [if_pos hj]; exact JI_rq h hi hj) (fun j hj => by unfold rqA; rw [if_neg (fun q => by omega)]) _ s hs
