/-- how many packs leave in a night -/
theorem JI_cnt {sh it dy : Nat} {pct lr sr : Int} {lf lrf srf : Nat → Int} {cr : Nat → Bool} {IR : Nat → IT} {LR : Nat → LT} {mL mP mC mI mM mS mV mN mE mA mO mT mD : Nat → Int} (h : JI sh it dy pct lr sr lf lrf srf cr IR LR mL mP mC mI mM mS mV mN mE mA mO mT mD) (hu : ∀ a, cr a = true → lar (LR a) (dy + (lf (a / 5)).toNat) = 0) (rq : Nat → Int) (pn : Int) :
    ∀ i : Nat, i ≤ it → 0 ≤ (ntS dy pct cr sh (IR, LR, rq, pn, 0) i).2.2.2.2 ∧ (ntS dy pct cr sh (IR, LR, rq, pn, 0) i).2.2.2.2 ≤ 99999 * (i : Int)
  | 0, _ => ⟨Int.le_refl _, by show (0 : Int) ≤ _; omega⟩
  | i + 1, hi => by
    have ih := JI_cnt h hu rq pn i (by omega)
    obtain ⟨g1, -⟩ := JI_sends h hu rq (fun _ => 0) (fun _ => 0) pn i (by omega)
    have e1 : ntS dy pct cr sh (IR, LR, rq, pn, 0) (i + 1) = nt1 dy pct cr sh (ntS dy pct cr sh (IR, LR, rq, pn, 0) i) i := rfl
    rw [e1]
    generalize ntS dy pct cr sh (IR, LR, rq, pn, 0) i = S at g1 ih
    have hlk := fun s => JI_lOK g1 (s * 5 + i)
    have hik := JI_iOK g1 i
    have h1 := g1.1
    have h2 := g1.2.1
    have hrq := fun j => rqA_rng (cr := cr) (n := sh) (IR := S.1) (LR := S.2.1) (tn := i) hlk (show 1 ≤ pct ∧ pct ≤ 100 by omega) hik j
    have hpn := pk_rng hik
    have hz : ∀ j, ¬ cr (j * 5 + i) = true → rqA dy pct cr S.1 S.2.1 i sh j = 0 := fun j hj => by unfold rqA; rw [if_neg (fun q => hj q.2)]
    have hsum := snt_sum (cr := cr) (tn := i) (n := sh) hrq hpn.1 hz (by omega)
    show 0 ≤ S.2.2.2.2 + smI (sntI cr (rqA dy pct cr S.1 S.2.1 i sh) (ist (S.1 i) / ipk (S.1 i)) i) sh ∧ S.2.2.2.2 + smI (sntI cr (rqA dy pct cr S.1 S.2.1 i sh) (ist (S.1 i) / ipk (S.1 i)) i) sh ≤ 99999 * ((i + 1 : Nat) : Int)
    have hdv := div_rng (a := ist (S.1 i)) (b := ipk (S.1 i)) hik.2.1 hik.1.1
    have := hik.2.2
    omega
