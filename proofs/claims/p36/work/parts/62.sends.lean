/-- item by item -/
theorem JI_sends {sh it dy : Nat} {pct lr sr : Int} {lf lrf srf : Nat → Int} {cr : Nat → Bool} {IR : Nat → IT} {LR : Nat → LT} {mL mP mC mI mM mS mV mN mE mA mO mT mD : Nat → Int} (h : JI sh it dy pct lr sr lf lrf srf cr IR LR mL mP mC mI mM mS mV mN mE mA mO mT mD) (hu : ∀ a, cr a = true → lar (LR a) (dy + (lf (a / 5)).toNat) = 0) (rq mG mW : Nat → Int) (pn : Int) :
    ∀ i : Nat, i ≤ it → JI sh it dy pct lr sr lf lrf srf cr (ntS dy pct cr sh (IR, LR, rq, pn, 0) i).1 (ntS dy pct cr sh (IR, LR, rq, pn, 0) i).2.1 mL mP (ngS mI mL mP mS mV mN mE dy sh pct mC mD mG mW i).1 mI mM mS mV mN mE mA mO mT (ngS mI mL mP mS mV mN mE dy sh pct mC mD mG mW i).2.1 ∧
      (ntS dy pct cr sh (IR, LR, rq, pn, 0) i).2.2.2.2 = (ngS mI mL mP mS mV mN mE dy sh pct mC mD mG mW i).2.2.2.2
  | 0, _ => ⟨h, rfl⟩
  | i + 1, hi => by
    obtain ⟨g1, g2⟩ := JI_sends h hu rq mG mW pn i (by omega)
    have ho := (ntS_out (dy := dy) (pct := pct) (cr := cr) (sh := sh) (S0 := (IR, LR, rq, pn, 0)) i).2
    have e1 : ntS dy pct cr sh (IR, LR, rq, pn, 0) (i + 1) = nt1 dy pct cr sh (ntS dy pct cr sh (IR, LR, rq, pn, 0) i) i := rfl
    have e2 : ngS mI mL mP mS mV mN mE dy sh pct mC mD mG mW (i + 1) = ng1 mI mL mP mS mV mN mE dy sh pct (ngS mI mL mP mS mV mN mE dy sh pct mC mD mG mW i) i := rfl
    rw [e1, e2]
    have hu2 : ∀ a, cr a = true → a % 5 = i → lar ((ntS dy pct cr sh (IR, LR, rq, pn, 0) i).2.1 a) (dy + (lf (a / 5)).toNat) = 0 := fun a hc ha => by rw [ho a (by omega)]; exact hu a hc
    generalize ntS dy pct cr sh (IR, LR, rq, pn, 0) i = S at g1 g2 hu2
    generalize ngS mI mL mP mS mV mN mE dy sh pct mC mD mG mW i = T at g1 g2
    have hG : ∀ s, s < sh → ngG mI mL mP mS mV mN mE dy sh pct T i s = sntI cr (rqA dy pct cr S.1 S.2.1 i sh) (ist (S.1 i) / ipk (S.1 i)) i s := fun s hs => JI_G g1 (by omega) T.2.2.2.1 T.2.2.1 hs
    refine ⟨JI_send g1 (by omega) hu2 hG, ?_⟩
    show S.2.2.2.2 + smI (sntI cr (rqA dy pct cr S.1 S.2.1 i sh) (ist (S.1 i) / ipk (S.1 i)) i) sh = T.2.2.2.2 + smI (ngG mI mL mP mS mV mN mE dy sh pct T i) sh
    rw [g2, smI_congr (f := ngG mI mL mP mS mV mN mE dy sh pct T i) (fun s hs => hG s hs)]
