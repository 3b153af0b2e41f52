/-! the answers are alike -/
section ALK
variable {sh it dy : Nat} {pct lr sr : Int} {lf lrf srf : Nat → Int} {cr : Nat → Bool} {IR : Nat → IT} {LR : Nat → LT} {mL mP mC mI mM mS mV mN mE mA mO mT mD : Nat → Int}
theorem JI_mDs (h : JI sh it dy pct lr sr lf lrf srf cr IR LR mL mP mC mI mM mS mV mN mE mA mO mT mD) (a : Nat) : 0 ≤ smI (fun k => mD (8 * a + k)) 8 ∧ smI (fun k => mD (8 * a + k)) 8 ≤ 100000000 := by
  have := smI_le (f := fun k => mD (8 * a + k)) (B := 99999) (fun k => JI_mD h _) 8
  omega
theorem JI_hcar (h : JI sh it dy pct lr sr lf lrf srf cr IR LR mL mP mC mI mM mS mV mN mE mA mO mT mD) (a w : Nat) (_ : a < 20) (hw : w < 7) (hc : mI a ≠ 0) : 100 ≤ mN (7 * a + w) := by
  refine (JI_mN h (7 * a + w)).2 ?_
  rw [show (7 * a + w) / 7 = a from by omega]
  have := h.2.2.2.2.2.1 a
  by_cases q : cr a = true
  · exact q
  · rw [if_neg q] at this; exact absurd this hc
theorem JI_LI (h : JI sh it dy pct lr sr lf lrf srf cr IR LR mL mP mC mI mM mS mV mN mE mA mO mT mD) {a : Nat} (hc : cr a = true) : a < 20 ∧ a % 5 < it ∧ a / 5 < sh ∧ LI 0 dy (lf (a / 5)).toNat lrf srf (ipr (IR (a % 5))) (LR a) (mS a) (mV a) (fun w => mN (7 * a + w)) (fun k => mE (21 * a + k)) (mA a) (mO a) (mT a) (fun k => mD (8 * a + k)) := by
  exact h.2.2.2.2.2.2.1 a hc
theorem JI_lrf (h : JI sh it dy pct lr sr lf lrf srf cr IR LR mL mP mC mI mM mS mV mN mE mA mO mT mD) (j : Nat) : (0 ≤ lrf j ∧ lrf j ≤ 100) ∧ (0 ≤ srf j ∧ srf j ≤ 100) := by
  have := h.2.2.2.1 j; omega
theorem kk_level (h : JI sh it dy pct lr sr lf lrf srf cr IR LR mL mP mC mI mM mS mV mN mE mA mO mT mD) {a : Nat} (hc : cr a = true) : llv (LR a) = mV a ∧ -2147483648 ≤ (llv (LR a)) ∧ (llv (LR a)) < 2147483648 := by
  obtain ⟨ha, hi, hs, hl⟩ := JI_LI h hc
  have hk := JI_lOK h a
  have h1 := h.1
  have h2 := h.2.1
  obtain ⟨g1, g2, g3, g4, g5, g6, g7, g8, g9, g10, g11, g12, g13, g14, g15⟩ := hl
  have := hk.1; omega
theorem kk_stock (h : JI sh it dy pct lr sr lf lrf srf cr IR LR mL mP mC mI mM mS mV mN mE mA mO mT mD) {a : Nat} (hc : cr a = true) : lsk (LR a) = mS a ∧ -2147483648 ≤ (lsk (LR a)) ∧ (lsk (LR a)) < 2147483648 := by
  obtain ⟨ha, hi, hs, hl⟩ := JI_LI h hc
  have hk := JI_lOK h a
  have h1 := h.1
  have h2 := h.2.1
  obtain ⟨g1, g2, g3, g4, g5, g6, g7, g8, g9, g10, g11, g12, g13, g14, g15⟩ := hl
  have := hk.2.2.2.2.2.1; omega
theorem kk_sold (h : JI sh it dy pct lr sr lf lrf srf cr IR LR mL mP mC mI mM mS mV mN mE mA mO mT mD) {a : Nat} (hc : cr a = true) : lso (LR a) = mO a ∧ -2147483648 ≤ (lso (LR a)) ∧ (lso (LR a)) < 2147483648 := by
  obtain ⟨ha, hi, hs, hl⟩ := JI_LI h hc
  have hk := JI_lOK h a
  have h1 := h.1
  have h2 := h.2.1
  have h3 := JI_OT h a
  obtain ⟨g1, g2, g3, g4, g5, g6, g7, g8, g9, g10, g11, g12, g13, g14, g15⟩ := hl
  omega
theorem kk_lost (h : JI sh it dy pct lr sr lf lrf srf cr IR LR mL mP mC mI mM mS mV mN mE mA mO mT mD) {a : Nat} (hc : cr a = true) : llo (LR a) = mT a ∧ -2147483648 ≤ (llo (LR a)) ∧ (llo (LR a)) < 2147483648 := by
  obtain ⟨ha, hi, hs, hl⟩ := JI_LI h hc
  have hk := JI_lOK h a
  have h1 := h.1
  have h2 := h.2.1
  have h3 := JI_OT h a
  obtain ⟨g1, g2, g3, g4, g5, g6, g7, g8, g9, g10, g11, g12, g13, g14, g15⟩ := hl
  omega
theorem kk_demandToday (h : JI sh it dy pct lr sr lf lrf srf cr IR LR mL mP mC mI mM mS mV mN mE mA mO mT mD) {a : Nat} (hc : cr a = true) : ldm (LR a) dy = mA a ∧ -2147483648 ≤ (ldm (LR a) dy) ∧ (ldm (LR a) dy) < 2147483648 := by
  obtain ⟨ha, hi, hs, hl⟩ := JI_LI h hc
  have hk := JI_lOK h a
  have h1 := h.1
  have h2 := h.2.1
  obtain ⟨g1, g2, g3, g4, g5, g6, g7, g8, g9, g10, g11, g12, g13, g14, g15⟩ := hl
  have := g3 dy; omega
theorem kk_safety (h : JI sh it dy pct lr sr lf lrf srf cr IR LR mL mP mC mI mM mS mV mN mE mA mO mT mD) {a : Nat} (hc : cr a = true) : sfI (lef (LR a)) (les (LR a)) pct 0 21 = sfI (fun k => mE (21 * a + k)) (smI (fun k => mE (21 * a + k)) 21) pct 0 21 ∧ -2147483648 ≤ (sfI (lef (LR a)) (les (LR a)) pct 0 21) ∧ (sfI (lef (LR a)) (les (LR a)) pct 0 21) < 2147483648 := by
  obtain ⟨ha, hi, hs, hl⟩ := JI_LI h hc
  have hk := JI_lOK h a
  have h1 := h.1
  have h2 := h.2.1
  have h3 := sfI_rng (er := lef (LR a)) (es := les (LR a)) (pct := pct) 21 0 rfl
  exact ⟨(LI_sf hl pct).symm, by omega, by omega⟩
theorem kk_stockByJournal (h : JI sh it dy pct lr sr lf lrf srf cr IR LR mL mP mC mI mM mS mV mN mE mA mO mT mD) {a : Nat} (hc : cr a = true) : lfk (LR a) + smI (lar (LR a)) (dy + 1) - smI (lsl (LR a)) (dy + 1) = mS a ∧ -2147483648 ≤ (lfk (LR a) + smI (lar (LR a)) (dy + 1) - smI (lsl (LR a)) (dy + 1)) ∧ (lfk (LR a) + smI (lar (LR a)) (dy + 1) - smI (lsl (LR a)) (dy + 1)) < 2147483648 := by
  obtain ⟨ha, hi, hs, hl⟩ := JI_LI h hc
  have hk := JI_lOK h a
  have h1 := h.1
  have h2 := h.2.1
  obtain ⟨g1, g2, g3, g4, g5, g6, g7, g8, g9, g10, g11, g12, g13, g14, g15⟩ := hl
  have := hk.2.2.2.2.2.1; omega
theorem kk_onWay (h : JI sh it dy pct lr sr lf lrf srf cr IR LR mL mP mC mI mM mS mV mN mE mA mO mT mD) {a : Nat} (hc : cr a = true) : duI (lar (LR a)) dy = smI (fun k => mD (8 * a + k)) 8 ∧ -2147483648 ≤ (duI (lar (LR a)) dy) ∧ (duI (lar (LR a)) dy) < 2147483648 := by
  obtain ⟨ha, hi, hs, hl⟩ := JI_LI h hc
  have hk := JI_lOK h a
  have h1 := h.1
  have h2 := h.2.1
  have := hk.2.2.2.2.2.2
  exact ⟨(LI_du hl).symm, by omega, by omega⟩
theorem kk_need (h : JI sh it dy pct lr sr lf lrf srf cr IR LR mL mP mC mI mM mS mV mN mE mA mO mT mD) {a : Nat} (hc : cr a = true) : ndI (llv (LR a)) (lse (LR a)) (lef (LR a)) (les (LR a)) pct (lsk (LR a)) (lar (LR a)) dy (lld (LR a)) = (fcI (mV a) (fun w => mN (7 * a + w)) dy ((mL (a / 5)).toNat + 1) + 999) / 1000 + sfI (fun k => mE (21 * a + k)) (smI (fun k => mE (21 * a + k)) 21) pct 0 21 - mS a - smI (fun k => mD (8 * a + k)) 8 ∧ -2147483648 ≤ (ndI (llv (LR a)) (lse (LR a)) (lef (LR a)) (les (LR a)) pct (lsk (LR a)) (lar (LR a)) dy (lld (LR a))) ∧ (ndI (llv (LR a)) (lse (LR a)) (lef (LR a)) (les (LR a)) pct (lsk (LR a)) (lar (LR a)) dy (lld (LR a))) < 2147483648 := by
  obtain ⟨ha, hi, hs, hl⟩ := JI_LI h hc
  have hk := JI_lOK h a
  have h1 := h.1
  have h2 := h.2.1
  have hml := ((h.2.2.1 (a / 5)).1 hs).1
  have e := LI_nd hl pct
  rw [← hml] at e
  refine ⟨e.symm, ?_⟩
  obtain ⟨k1, k2, k3, k4, k5, k6, k7⟩ := hk
  have hfc : 0 ≤ fcI (llv (LR a)) (lse (LR a)) dy (lld (LR a) + 1) ∧ fcI (llv (LR a)) (lse (LR a)) dy (lld (LR a) + 1) ≤ 299700000 := by
    have h9 := smI_le (f := fun j => thI (llv (LR a)) (lse (LR a)) (dy + j)) (B := 49950000) (fun j => ⟨(thI_rng k1 k2).1, (thI_rng k1 k2).2.1⟩) (lld (LR a) + 1)
    unfold fcI
    have : ((lld (LR a) + 1 : Nat) : Int) ≤ 6 := by omega
    omega
  have h3 := sfI_rng (er := lef (LR a)) (es := les (LR a)) (pct := pct) 21 0 rfl
  unfold ndI
  omega
theorem kk_request (h : JI sh it dy pct lr sr lf lrf srf cr IR LR mL mP mC mI mM mS mV mN mE mA mO mT mD) {a : Nat} (hc : cr a = true) : rqI (ndI (llv (LR a)) (lse (LR a)) (lef (LR a)) (les (LR a)) pct (lsk (LR a)) (lar (LR a)) dy (lld (LR a))) (ipk (IR (a % 5))) = rqI ((fcI (mV a) (fun w => mN (7 * a + w)) dy ((mL (a / 5)).toNat + 1) + 999) / 1000 + sfI (fun k => mE (21 * a + k)) (smI (fun k => mE (21 * a + k)) 21) pct 0 21 - mS a - smI (fun k => mD (8 * a + k)) 8) (mP (a % 5)) ∧ -2147483648 ≤ (rqI (ndI (llv (LR a)) (lse (LR a)) (lef (LR a)) (les (LR a)) pct (lsk (LR a)) (lar (LR a)) dy (lld (LR a))) (ipk (IR (a % 5)))) ∧ (rqI (ndI (llv (LR a)) (lse (LR a)) (lef (LR a)) (les (LR a)) pct (lsk (LR a)) (lar (LR a)) dy (lld (LR a))) (ipk (IR (a % 5)))) < 2147483648 := by
  obtain ⟨ha, hi, hs, hl⟩ := JI_LI h hc
  have hk := JI_lOK h a
  have h1 := h.1
  have h2 := h.2.1
  have hml := ((h.2.2.1 (a / 5)).1 hs).1
  have e := LI_nd hl pct
  rw [← hml] at e
  have hP := ((h.2.2.2.2.1 (a % 5)).1 hi).2.2.2.2.1.1
  have h5 := rqL_rng (dy := dy) (pct := pct) hk (by omega) (JI_iOK h (a % 5)).1
  unfold rqL at h5
  refine ⟨?_, by omega, by omega⟩
  rw [hP, e]
theorem kk_levelByDays (h : JI sh it dy pct lr sr lf lrf srf cr IR LR mL mP mC mI mM mS mV mN mE mA mO mT mD) {a : Nat} (hc : cr a = true) : (rpS (lfv (LR a)) (ipr (IR (a % 5))) (ldm (LR a)) lrf srf (lfd (LR a)) (dy - lfd (LR a))).1 = mV a ∧ -2147483648 ≤ ((rpS (lfv (LR a)) (ipr (IR (a % 5))) (ldm (LR a)) lrf srf (lfd (LR a)) (dy - lfd (LR a))).1) ∧ ((rpS (lfv (LR a)) (ipr (IR (a % 5))) (ldm (LR a)) lrf srf (lfd (LR a)) (dy - lfd (LR a))).1) < 2147483648 := by
  obtain ⟨ha, hi, hs, hl⟩ := JI_LI h hc
  have hk := JI_lOK h a
  have h1 := h.1
  have h2 := h.2.1
  obtain ⟨g1, g2, g3, g4, g5, g6, g7, g8, g9, g10, g11, g12, g13, g14, g15⟩ := hl
  have e : (rpS (lfv (LR a)) (ipr (IR (a % 5))) (ldm (LR a)) lrf srf (lfd (LR a)) (dy - lfd (LR a))).1 = llv (LR a) := (congrArg Prod.fst g10).symm
  have := hk.1
  omega
theorem kk_season (h : JI sh it dy pct lr sr lf lrf srf cr IR LR mL mP mC mI mM mS mV mN mE mA mO mT mD) {a : Nat} (hc : cr a = true) {w : Nat} (hw : w < 7) : lse (LR a) w = mN (7 * a + w) ∧ -2147483648 ≤ (lse (LR a) w) ∧ (lse (LR a) w) < 2147483648 := by
  obtain ⟨ha, hi, hs, hl⟩ := JI_LI h hc
  have hk := JI_lOK h a
  have h1 := h.1
  have h2 := h.2.1
  obtain ⟨g1, g2, g3, g4, g5, g6, g7, g8, g9, g10, g11, g12, g13, g14, g15⟩ := hl
  have e : lse (LR a) w = mN (7 * a + w) := (g13 w hw).symm
  have := hk.2.1 w; omega
theorem kk_errors (h : JI sh it dy pct lr sr lf lrf srf cr IR LR mL mP mC mI mM mS mV mN mE mA mO mT mD) {a : Nat} (hc : cr a = true) {w : Nat} (hw : w < 21) : lef (LR a) w = mE (21 * a + w) ∧ -2147483648 ≤ (lef (LR a) w) ∧ (lef (LR a) w) < 2147483648 := by
  obtain ⟨ha, hi, hs, hl⟩ := JI_LI h hc
  have hk := JI_lOK h a
  have h1 := h.1
  have h2 := h.2.1
  obtain ⟨g1, g2, g3, g4, g5, g6, g7, g8, g9, g10, g11, g12, g13, g14, g15⟩ := hl
  have e : lef (LR a) w = mE (21 * a + w) := (g14 w hw).symm
  have := hk.2.2.1 w; omega
theorem kk_forecast (h : JI sh it dy pct lr sr lf lrf srf cr IR LR mL mP mC mI mM mS mV mN mE mA mO mT mD) {a : Nat} (hc : cr a = true) {w : Nat} : thI (llv (LR a)) (lse (LR a)) w = thI (mV a) (fun w => mN (7 * a + w)) w ∧ -2147483648 ≤ (thI (llv (LR a)) (lse (LR a)) w) ∧ (thI (llv (LR a)) (lse (LR a)) w) < 2147483648 := by
  obtain ⟨ha, hi, hs, hl⟩ := JI_LI h hc
  have hk := JI_lOK h a
  have h1 := h.1
  have h2 := h.2.1
  have h3 := thI_rng (d := w) hk.1 hk.2.1
  obtain ⟨g1, g2, g3, g4, g5, g6, g7, g8, g9, g10, g11, g12, g13, g14, g15⟩ := hl
  refine ⟨?_, by omega, by omega⟩
  unfold thI
  rw [g12.2.1, g13 (w % 7) (Nat.mod_lt _ (by omega))]
theorem fdI_bd {ar : Nat → Int} {d : Nat} : ∀ n k : Nat, -1 ≤ fdI ar d k n ∧ fdI ar d k n ≤ (d : Int) + (k : Int) + (n : Int)
  | 0, k => by simp only [fdI]; omega
  | n + 1, k => by
    have := fdI_bd (ar := ar) (d := d) n (k + 1)
    simp only [fdI]; split <;> omega
theorem kk_nextArrival (h : JI sh it dy pct lr sr lf lrf srf cr IR LR mL mP mC mI mM mS mV mN mE mA mO mT mD) {a : Nat} (hc : cr a = true) : fdI (lar (LR a)) dy 1 5 = fdI (fun d => mD (8 * a + d % 8)) dy 1 7 ∧ -2147483648 ≤ (fdI (lar (LR a)) dy 1 5) ∧ (fdI (lar (LR a)) dy 1 5) < 2147483648 := by
  obtain ⟨ha, hi, hs, hl⟩ := JI_LI h hc
  have hk := JI_lOK h a
  have h1 := h.1
  have h2 := h.2.1
  have h3 := fdI_bd (ar := lar (LR a)) (d := dy) 5 1
  exact ⟨(LI_fd hl).symm, by omega, by omega⟩
theorem kk_share (h : JI sh it dy pct lr sr lf lrf srf cr IR LR mL mP mC mI mM mS mV mN mE mA mO mT mD) (W G0 : Nat → Int) {s i : Nat} (hs : s < sh) (hi : i < it) (hc : cr (s * 5 + i) = true) : ctI (rqA dy pct cr IR LR i sh) (ist (IR i) / ipk (IR i)) s 32 0 (rqA dy pct cr IR LR i sh s) = gnI (flF W (rqM mI mL mS mV mN mE mD dy pct (mP i) i) sh) sh (flI G0 0 sh) (mC i / mP i).toNat s ∧ ctI (rqA dy pct cr IR LR i sh) (ist (IR i) / ipk (IR i)) s 32 0 (rqA dy pct cr IR LR i sh s) = grI (rqA dy pct cr IR LR i sh) (ist (IR i) / ipk (IR i)).toNat s ∧ -2147483648 ≤ (ctI (rqA dy pct cr IR LR i sh) (ist (IR i) / ipk (IR i)) s 32 0 (rqA dy pct cr IR LR i sh s)) ∧ (ctI (rqA dy pct cr IR LR i sh) (ist (IR i) / ipk (IR i)) s 32 0 (rqA dy pct cr IR LR i sh s)) < 2147483648 := by
  have hlk := fun s => JI_lOK h (s * 5 + i)
  have hik := JI_iOK h i
  have h1 := h.1
  have h2 := h.2.1
  have hrq := fun j => rqA_rng (cr := cr) (n := sh) (IR := IR) (LR := LR) (tn := i) hlk (show 1 ≤ pct ∧ pct ≤ 100 by omega) hik j
  have hpn := pk_rng hik
  have e2 := ctI_gr (s := s) hrq hpn.1 (by omega)
  have h3 := grI_rng (fun j => (hrq j).1) (ist (IR i) / ipk (IR i)).toNat s
  have h4 := (hrq s).2
  refine ⟨?_, e2, by omega, by omega⟩
  rw [JI_G h hi W G0 hs]
  unfold sntI
  rw [if_pos hc]
theorem kk_centre (h : JI sh it dy pct lr sr lf lrf srf cr IR LR mL mP mC mI mM mS mV mN mE mA mO mT mD) {i : Nat} (hi : i < it) : ist (IR i) = mC i ∧ -2147483648 ≤ (ist (IR i)) ∧ (ist (IR i)) < 2147483648 := by
  have hl := (h.2.2.2.2.1 i).1 hi
  have hk := JI_iOK h i
  obtain ⟨g1, g2, g3, g4, g5, g6, g7⟩ := hl
  omega
theorem kk_centreByJournal (h : JI sh it dy pct lr sr lf lrf srf cr IR LR mL mP mC mI mM mS mV mN mE mA mO mT mD) {i : Nat} (hi : i < it) : ifs (IR i) + smI (iti (IR i)) (dy + 1) - smI (igo (IR i)) (dy + 1) = mC i ∧ -2147483648 ≤ (ifs (IR i) + smI (iti (IR i)) (dy + 1) - smI (igo (IR i)) (dy + 1)) ∧ (ifs (IR i) + smI (iti (IR i)) (dy + 1) - smI (igo (IR i)) (dy + 1)) < 2147483648 := by
  have hl := (h.2.2.2.2.1 i).1 hi
  have hk := JI_iOK h i
  obtain ⟨g1, g2, g3, g4, g5, g6, g7⟩ := hl
  omega
theorem kk_isMarked (h : JI sh it dy pct lr sr lf lrf srf cr IR LR mL mP mC mI mM mS mV mN mE mA mO mT mD) {i : Nat} (hi : i < it) {d : Nat} (hd : d < 1000) : ipr (IR i) d = mM (1000 * i + d) := by
  have hl := (h.2.2.2.2.1 i).1 hi
  have hk := JI_iOK h i
  obtain ⟨g1, g2, g3, g4, g5, g6, g7⟩ := hl
  exact (g6 d hd).symm
theorem kk_units (h : JI sh it dy pct lr sr lf lrf srf cr IR LR mL mP mC mI mM mS mV mN mE mA mO mT mD) : smI (uiF it IR) 5 + smI (ulF cr LR dy) 20 = smI mC it + smI (fun a => mS a + smI (fun k => mD (8 * a + k)) 8) 20 := by
  have e1 : smI (ulF cr LR dy) 20 = smI (fun a => mS a + smI (fun k => mD (8 * a + k)) 8) 20 := smI_congr (fun a ha => by
    unfold ulF
    by_cases hc : cr a = true
    · rw [if_pos hc, (kk_stock h hc).1, (kk_onWay h hc).1]
    · rw [if_neg hc]
      have g := h.2.2.2.2.2.2.2 a hc
      have z := smI_congr (f := fun k => mD (8 * a + k)) (g := fun _ => 0) (n := 8) g.2.2.2.2.2.2.2.2
      have z0 : smI (fun _ => 0) 8 = 0 := rfl
      show 0 = mS a + smI (fun k => mD (8 * a + k)) 8
      rw [z, z0, g.2.1]; rfl)
  have e2 : ∀ n, n ≤ 5 → smI (uiF it IR) n = smI mC (if n ≤ it then n else it) := fun n => by
    induction n with
    | zero => intro _; rw [if_pos (Nat.zero_le _)]; rfl
    | succ n ih =>
      intro hn
      have ih := ih (by omega)
      simp only [smI]
      rw [ih]
      unfold uiF
      by_cases q : n < it
      · rw [if_pos (by omega), if_pos q, if_pos (by omega), (kk_centre h q).1]; rfl
      · rw [if_neg q, if_neg (show ¬ n + 1 ≤ it by omega)]
        by_cases q2 : n ≤ it
        · rw [if_pos q2, show n = it from by omega]; omega
        · rw [if_neg q2]; omega
  have h1 := h.1
  have e3 := e2 5 (Nat.le_refl _)
  rw [e1, e3]
  by_cases q : 5 ≤ it
  · rw [if_pos q, show it = 5 from by omega]
  · rw [if_neg q]
theorem kk_svf (h : JI sh it dy pct lr sr lf lrf srf cr IR LR mL mP mC mI mM mS mV mN mE mA mO mT mD) {s : Nat} (hs : s < sh) : smI (svF cr LR lso s) it = smI (fun j => mO (5 * s + j)) 5 ∧ smI (svF cr LR lso s) it + smI (svF cr LR llo s) it = smI (fun j => mO (5 * s + j) + mT (5 * s + j)) 5 := by
  have h1 := h.1
  have z : ∀ j, it ≤ j → j < 5 → ¬ cr (s * 5 + j) = true := fun j a b c => by
    have := (JI_LI h c).2.1
    omega
  have eo : ∀ j, j < it → svF cr LR lso s j = mO (5 * s + j) ∧ svF cr LR llo s j = mT (5 * s + j) := fun j hj => by
    unfold svF
    rw [show 5 * s + j = s * 5 + j from by omega]
    by_cases hc : cr (s * 5 + j) = true
    · rw [if_pos hc, if_pos hc, (kk_sold h hc).1, (kk_lost h hc).1]; exact ⟨rfl, rfl⟩
    · rw [if_neg hc, if_neg hc]
      have g := h.2.2.2.2.2.2.2 _ hc
      exact ⟨g.2.2.2.2.1.symm, g.2.2.2.2.2.1.symm⟩
  have ez : ∀ j, it ≤ j → j < 5 → mO (5 * s + j) = 0 ∧ mT (5 * s + j) = 0 := fun j a b => by
    have g := h.2.2.2.2.2.2.2 _ (z j a b)
    rw [show 5 * s + j = s * 5 + j from by omega]
    exact ⟨g.2.2.2.2.1, g.2.2.2.2.2.1⟩
  have ext : ∀ (f : Nat → Int) (n : Nat), (∀ j, it ≤ j → j < it + n → f j = 0) → smI f (it + n) = smI f it := fun f n => by
    induction n with
    | zero => intro _; rfl
    | succ n ih =>
      intro hf
      have := ih (fun j a b => hf j a (by omega))
      show smI f (it + n) + f (it + n) = smI f it
      rw [this, hf (it + n) (by omega) (by omega)]; omega
  have a1 : smI (fun j => mO (5 * s + j)) 5 = smI (fun j => mO (5 * s + j)) it := by
    have := ext (fun j => mO (5 * s + j)) (5 - it) (fun j a b => (ez j a (by omega)).1)
    rwa [show it + (5 - it) = 5 from by omega] at this
  have a2 : smI (fun j => mO (5 * s + j) + mT (5 * s + j)) 5 = smI (fun j => mO (5 * s + j) + mT (5 * s + j)) it := by
    have := ext (fun j => mO (5 * s + j) + mT (5 * s + j)) (5 - it) (fun j a b => by
      have := ez j a (by omega)
      show mO (5 * s + j) + mT (5 * s + j) = 0
      omega)
    rwa [show it + (5 - it) = 5 from by omega] at this
  have ad : ∀ (f g : Nat → Int) (n : Nat), smI f n + smI g n = smI (fun j => f j + g j) n := fun f g n => by
    induction n with
    | zero => rfl
    | succ n ih => simp only [smI]; omega
  refine ⟨?_, ?_⟩
  · rw [a1]; exact smI_congr (fun j hj => (eo j hj).1)
  · rw [a2, ad]
    exact smI_congr (fun j hj => by rw [(eo j hj).1, (eo j hj).2])
end ALK
