/-! packs leave, in both states -/
theorem gvD_at {mL : Nat → Int} {dy i : Nat} {pk : Int} {mD g : Nat → Int} (hi : i < 5) : ∀ n a k : Nat, k < 8 → gvD mL dy i pk mD g n (8 * a + k) = if a % 5 = i ∧ a / 5 < n ∧ k = (dy + (mL (a / 5)).toNat) % 8 then mD (8 * a + k) + g (a / 5) * pk else mD (8 * a + k)
  | 0, a, k, _ => by rw [if_neg (by omega)]; rfl
  | n + 1, a, k, hk => by
    have ih := gvD_at (mL := mL) (dy := dy) (pk := pk) (mD := mD) (g := g) hi n
    have hm : (dy + (mL n).toNat) % 8 < 8 := Nat.mod_lt _ (by omega)
    rw [gvD]
    by_cases e : a % 5 = i ∧ a / 5 = n
    · have ea : 5 * n + i = a := by omega
      rw [ea]
      by_cases e2 : k = (dy + (mL n).toNat) % 8
      · rw [← e2, upI_same, ih a k hk, if_neg (by omega), if_pos (show a % 5 = i ∧ a / 5 < n + 1 ∧ k = (dy + (mL (a / 5)).toNat) % 8 from ⟨e.1, by omega, by rw [e.2]; exact e2⟩), e.2]
      · rw [upI_ne (by omega), ih a k hk, if_neg (by omega), if_neg (fun q => e2 (by rw [← e.2]; exact q.2.2))]
    · rw [upI_ne (by omega), ih a k hk]
      by_cases c : a % 5 = i ∧ a / 5 < n ∧ k = (dy + (mL (a / 5)).toNat) % 8
      · rw [if_pos c, if_pos ⟨c.1, by omega, c.2.2⟩]
      · rw [if_neg c, if_neg (fun q => c ⟨q.1, by omega, q.2.2⟩)]
theorem smI_mulr {f : Nat → Int} {p : Int} : ∀ n : Nat, smI (fun s => f s * p) n = smI f n * p
  | 0 => by simp [smI]
  | n + 1 => by
    simp only [smI]
    rw [smI_mulr n, Int.add_mul]
theorem JI_send {sh it dy : Nat} {pct lr sr : Int} {lf lrf srf : Nat → Int} {cr : Nat → Bool} {IR : Nat → IT} {LR : Nat → LT} {mL mP mC mI mM mS mV mN mE mA mO mT mD : Nat → Int} (h : JI sh it dy pct lr sr lf lrf srf cr IR LR mL mP mC mI mM mS mV mN mE mA mO mT mD) {i : Nat} (hi : i < it) (hu : ∀ a, cr a = true → a % 5 = i → lar (LR a) (dy + (lf (a / 5)).toNat) = 0)
    {G : Nat → Int} (hG : ∀ s, s < sh → G s = sntI cr (rqA dy pct cr IR LR i sh) (ist (IR i) / ipk (IR i)) i s) :
    JI sh it dy pct lr sr lf lrf srf cr (upR IR i (giR dy (smI (sntI cr (rqA dy pct cr IR LR i sh) (ist (IR i) / ipk (IR i)) i) sh) (IR i))) (sdL dy (ipk (IR i)) cr (rqA dy pct cr IR LR i sh) (ist (IR i) / ipk (IR i)) i LR sh)
      mL mP (upI mC i (mC i - smI (fun s => G s * mP i) sh)) mI mM mS mV mN mE mA mO mT (gvD mL dy i (mP i) mD G sh) := by
  have hlk := fun s => JI_lOK h (s * 5 + i)
  have hik := JI_iOK h i
  obtain ⟨h1, h2, h3, h4, h5, h6, h7, h8⟩ := h
  have hpc : 1 ≤ pct ∧ pct ≤ 100 := by omega
  have hrq := fun j => rqA_rng (cr := cr) (n := sh) (IR := IR) (LR := LR) (tn := i) hlk hpc hik j
  have hpn := pk_rng hik
  have hz : ∀ j, ¬ cr (j * 5 + i) = true → rqA dy pct cr IR LR i sh j = 0 := fun j hj => by unfold rqA; rw [if_neg (fun q => hj q.2)]
  have hsum := snt_sum (cr := cr) (tn := i) (n := sh) hrq hpn.1 hz (by omega)
  have hII := (h5 i).1 hi
  have hP := hII.2.2.2.2.1.1
  have hdm : ist (IR i) / ipk (IR i) * ipk (IR i) ≤ ist (IR i) := Int.ediv_mul_le _ (by have := hik.1; omega)
  have hle : ∀ z : Int, 0 ≤ z → z ≤ ist (IR i) / ipk (IR i) → 0 ≤ z * ipk (IR i) ∧ z * ipk (IR i) ≤ ist (IR i) := fun z z0 z1 => ⟨Int.mul_nonneg z0 (by have := hik.1; omega), Int.le_trans (Int.mul_le_mul_of_nonneg_right z1 (by have := hik.1; omega)) hdm⟩
  have hipr : ∀ j, ipr (upR IR i (giR dy (smI (sntI cr (rqA dy pct cr IR LR i sh) (ist (IR i) / ipk (IR i)) i) sh) (IR i)) j) = ipr (IR j) := fun j => by
    by_cases e : j = i
    · subst e; rw [upR_same]; rfl
    · rw [upR_ne e]
  have hmd : ∀ a k, k < 8 → gvD mL dy i (mP i) mD G sh (8 * a + k) = if a % 5 = i ∧ a / 5 < sh ∧ k = (dy + (mL (a / 5)).toNat) % 8 then mD (8 * a + k) + G (a / 5) * mP i else mD (8 * a + k) := fun a k hk => gvD_at (by omega) sh a k hk
  refine ⟨h1, h2, h3, h4, fun j => ⟨fun hj => ?_, fun hj => ?_⟩, h6, fun a hc => ?_, fun a hc => ?_⟩
  · by_cases e : j = i
    · subst e
      rw [upR_same, upI_same, smI_mulr, smI_congr (f := G) (fun s hs => hG s hs), hP]
      have g := II_give hII (hle _ hsum.1 hsum.2)
      rw [hP] at g
      exact g
    · rw [upR_ne e, upI_ne e]; exact (h5 j).1 hj
  · rw [upR_ne (show j ≠ i by omega), upI_ne (show j ≠ i by omega)]; exact (h5 j).2 hj
  · obtain ⟨g1, g2, g3, g4⟩ := h7 a hc
    refine ⟨g1, g2, g3, ?_⟩
    rw [hipr]
    have hml := ((h3 (a / 5)).1 g3).1
    by_cases e : a % 5 = i
    · have ea : a / 5 * 5 + i = a := by omega
      have es : sdL dy (ipk (IR i)) cr (rqA dy pct cr IR LR i sh) (ist (IR i) / ipk (IR i)) i LR sh a = sndR dy (ctI (rqA dy pct cr IR LR i sh) (ist (IR i) / ipk (IR i)) (a / 5) 32 0 (rqA dy pct cr IR LR i sh (a / 5)) * ipk (IR i)) (LR a) := by
        simp only [sdL]; rw [if_pos ⟨e, g3, hc⟩]
      have ect : sntI cr (rqA dy pct cr IR LR i sh) (ist (IR i) / ipk (IR i)) i (a / 5) = ctI (rqA dy pct cr IR LR i sh) (ist (IR i) / ipk (IR i)) (a / 5) 32 0 (rqA dy pct cr IR LR i sh (a / 5)) := by
        unfold sntI; rw [ea, if_pos hc]
      have hct := snt_eq (cr := cr) (tn := i) hrq hpn.1 hz (j := a / 5) (by omega)
      have hgr := grI_rng (fun j => (hrq j).1) (ist (IR i) / ipk (IR i)).toNat
      have h4g := (grI_sum (fun j => (hrq j).1) (ist (IR i) / ipk (IR i)).toNat).1
      have hwo := smI_wo (g := grI (rqA dy pct cr IR LR i sh) (ist (IR i) / ipk (IR i)).toNat) (s := a / 5) (by omega)
      have hnn := smI_mono (f := fun _ => 0) (g := fun o => if o = a / 5 then 0 else grI (rqA dy pct cr IR LR i sh) (ist (IR i) / ipk (IR i)).toNat o) (n := 4) (fun o _ => by
        show (0 : Int) ≤ if o = a / 5 then 0 else grI (rqA dy pct cr IR LR i sh) (ist (IR i) / ipk (IR i)).toNat o
        split
        · omega
        · exact (hgr o).1)
      have h00 : smI (fun _ => 0) 4 = 0 := rfl
      have hg0 := (hgr (a / 5)).1
      rw [ect] at hct
      have hub := hle (ctI (rqA dy pct cr IR LR i sh) (ist (IR i) / ipk (IR i)) (a / 5) 32 0 (rqA dy pct cr IR LR i sh (a / 5))) (by omega) (by omega)
      rw [es]
      refine LI_send g4 (by have := hik.2; omega) (hu a hc e) (fun x hx => ?_)
      show gvD mL dy i (mP i) mD G sh (8 * a + x) = if x = (dy + (lf (a / 5)).toNat) % 8 then mD (8 * a + x) + _ else mD (8 * a + x)
      rw [hmd a x hx, hG _ g3, ect, hml, hP]
      by_cases e2 : x = (dy + (lf (a / 5)).toNat) % 8
      · rw [if_pos ⟨e, g3, e2⟩, if_pos e2]
      · rw [if_neg (fun q => e2 q.2.2), if_neg e2]
    · have es : sdL dy (ipk (IR i)) cr (rqA dy pct cr IR LR i sh) (ist (IR i) / ipk (IR i)) i LR sh a = LR a := by
        simp only [sdL]; rw [if_neg (fun q => e q.1)]
      rw [es]
      exact LI_cg g4 (fun _ _ => rfl) (fun _ _ => rfl) (fun k hk => by
        show gvD mL dy i (mP i) mD G sh (8 * a + k) = mD (8 * a + k)
        rw [hmd a k hk, if_neg (fun q => e q.1)])
  · obtain ⟨g1, g2, g3, g4, g5, g6, g7, g8, g9⟩ := h8 a hc
    have es : sdL dy (ipk (IR i)) cr (rqA dy pct cr IR LR i sh) (ist (IR i) / ipk (IR i)) i LR sh a = LR a := by
      simp only [sdL]; rw [if_neg (fun q => hc q.2.2)]
    rw [es]
    refine ⟨g1, g2, g3, g4, g5, g6, g7, g8, fun k hk => ?_⟩
    rw [hmd a k hk]
    split
    · rename_i q
      have ea : a / 5 * 5 + i = a := by omega
      rw [hG _ q.2.1, g9 k hk]
      unfold sntI
      rw [ea, if_neg hc]; simp
    · exact g9 k hk
