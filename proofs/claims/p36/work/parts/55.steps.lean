/-! steps of the two states together -/
theorem JI_0 : JI 0 0 0 90 20 10 (fun _ => 0) (fun _ => 0) (fun _ => 0) (fun _ => false) (fun _ => i0R) (fun _ => l0R) (fun _ => 0) (fun _ => 0) (fun _ => 0) (fun _ => 0) (fun _ => 0) (fun _ => 0) (fun _ => 0) (fun _ => 0) (fun _ => 0) (fun _ => 0) (fun _ => 0) (fun _ => 0) (fun _ => 0) := by
  refine ⟨by omega, by omega, fun s => ⟨fun h => absurd h (Nat.not_lt_zero _), fun _ => rfl⟩, fun j => ?_, fun i => ⟨fun h => absurd h (Nat.not_lt_zero _), fun _ => ⟨rfl, rfl, fun _ _ => rfl⟩⟩, fun a => ?_, fun a h => ?_, fun a _ => ⟨rfl, rfl, rfl, rfl, rfl, rfl, fun _ _ => rfl, fun _ _ => rfl, fun _ _ => rfl⟩⟩
  · exact ⟨Int.le_refl _, by show (0 : Int) ≤ 100; omega, Int.le_refl _, by show (0 : Int) ≤ 100; omega, fun _ => ⟨rfl, rfl⟩⟩
  · rw [if_neg (by simp)]
  · simp at h
section JS
variable {sh it dy : Nat} {pct lr sr : Int} {lf lrf srf : Nat → Int} {cr : Nat → Bool} {IR : Nat → IT} {LR : Nat → LT} {mL mP mC mI mM mS mV mN mE mA mO mT mD : Nat → Int}
theorem JI_set (h : JI sh it dy pct lr sr lf lrf srf cr IR LR mL mP mC mI mM mS mV mN mE mA mO mT mD) {pct' lr' sr' : Int} (h2 : 1 ≤ pct' ∧ pct' ≤ 100 ∧ 0 ≤ lr' ∧ lr' ≤ 100 ∧ 0 ≤ sr' ∧ sr' ≤ 100) : JI sh it dy pct' lr' sr' lf lrf srf cr IR LR mL mP mC mI mM mS mV mN mE mA mO mT mD :=
  ⟨h.1, h2, h.2.2⟩
theorem JI_shop (h : JI sh it dy pct lr sr lf lrf srf cr IR LR mL mP mC mI mM mS mV mN mE mA mO mT mD) {z : Int} (hz : 1 ≤ z ∧ z ≤ 5) (hs : sh < 4) : JI (sh + 1) it dy pct lr sr (upI lf sh z) lrf srf cr IR LR (upI mL sh z) mP mC mI mM mS mV mN mE mA mO mT mD := by
  obtain ⟨h1, h2, h3, h4, h5, h6, h7, h8⟩ := h
  refine ⟨by omega, h2, fun s => ⟨fun hs2 => ?_, fun hs2 => ?_⟩, h4, h5, h6, fun a hc => ?_, h8⟩
  · by_cases e : s = sh
    · subst e; rw [upI_same, upI_same]; omega
    · rw [upI_ne e, upI_ne e]; exact (h3 s).1 (by omega)
  · rw [upI_ne (by omega)]; exact (h3 s).2 (by omega)
  · obtain ⟨g1, g2, g3, g4⟩ := h7 a hc
    rw [upI_ne (show a / 5 ≠ sh by omega)]
    exact ⟨g1, g2, by omega, g4⟩
theorem JI_item (h : JI sh it dy pct lr sr lf lrf srf cr IR LR mL mP mC mI mM mS mV mN mE mA mO mT mD) {p k : Int} (hp : 1 ≤ p ∧ p ≤ 50) (hk : 0 ≤ k ∧ k ≤ 9999) (hi : it < 5) : JI sh (it + 1) dy pct lr sr lf lrf srf cr (upR IR it (imk p k k (fun _ => 0) (fun _ => 0) (fun _ => 0))) LR mL (upI mP it p) (upI mC it k) mI mM mS mV mN mE mA mO mT mD := by
  obtain ⟨h1, h2, h3, h4, h5, h6, h7, h8⟩ := h
  refine ⟨by omega, h2, h3, h4, fun i => ⟨fun hi2 => ?_, fun hi2 => ?_⟩, h6, fun a hc => ?_, h8⟩
  · by_cases e : i = it
    · subst e
      rw [upR_same, upI_same, upI_same]
      exact II_new hp (by omega) ((h5 i).2 (Nat.le_refl _)).2.2
    · rw [upR_ne e, upI_ne e, upI_ne e]; exact (h5 i).1 (by omega)
  · rw [upR_ne (show i ≠ it by omega), upI_ne (show i ≠ it by omega)]; exact (h5 i).2 (by omega)
  · obtain ⟨g1, g2, g3, g4⟩ := h7 a hc
    rw [upR_ne (show a % 5 ≠ it by omega)]
    exact ⟨g1, by omega, g3, g4⟩
theorem JI_supply (h : JI sh it dy pct lr sr lf lrf srf cr IR LR mL mP mC mI mM mS mV mN mE mA mO mT mD) {i : Nat} {u : Int} (hi : i < it) (hu : 1 ≤ u ∧ ist (IR i) + u ≤ 99999) : JI sh it dy pct lr sr lf lrf srf cr (upR IR i (imk (ipk (IR i)) (ifs (IR i)) (ist (IR i) + u) (upI (iti (IR i)) dy (iti (IR i) dy + u)) (igo (IR i)) (ipr (IR i)))) LR mL mP (upI mC i (mC i + u)) mI mM mS mV mN mE mA mO mT mD := by
  obtain ⟨h1, h2, h3, h4, h5, h6, h7, h8⟩ := h
  refine ⟨h1, h2, h3, h4, fun j => ⟨fun hj => ?_, fun hj => ?_⟩, h6, fun a hc => ?_, h8⟩
  · by_cases e : j = i
    · subst e
      rw [upR_same, upI_same]
      exact II_supply ((h5 j).1 hj) hu
    · rw [upR_ne e, upI_ne e]; exact (h5 j).1 hj
  · rw [upR_ne (show j ≠ i by omega), upI_ne (show j ≠ i by omega)]; exact (h5 j).2 hj
  · obtain ⟨g1, g2, g3, g4⟩ := h7 a hc
    refine ⟨g1, g2, g3, ?_⟩
    by_cases e : a % 5 = i
    · rw [e, upR_same]; rw [e] at g4; exact g4
    · rw [upR_ne e]; exact g4
theorem LI_pr {ld : Nat} {pr pr' : Nat → Int} {r : LT} {s v : Int} {n e : Nat → Int} {ak o t : Int} {d : Nat → Int} (h : LI 0 dy ld lrf srf pr r s v n e ak o t d) (ha : ∀ j, j < dy → pr' j = pr j) : LI 0 dy ld lrf srf pr' r s v n e ak o t d := by
  obtain ⟨h1, h2, h3, h4, h5, h6, h7, h8, h9, h10, h11, h12, h13, h14, h15⟩ := h
  refine ⟨h1, h2, h3, h4, h5, h6, h7, h8, h9, ?_, h11, h12, h13, h14, h15⟩
  rw [h10]
  exact rpS_congr _ (fun j a b => ⟨(ha j (by omega)).symm, rfl, rfl, rfl⟩)
theorem JI_mark (h : JI sh it dy pct lr sr lf lrf srf cr IR LR mL mP mC mI mM mS mV mN mE mA mO mT mD) {i z : Nat} (hi : i < it) (hz : dy ≤ z ∧ z < 1000) : JI sh it dy pct lr sr lf lrf srf cr (upR IR i (imk (ipk (IR i)) (ifs (IR i)) (ist (IR i)) (iti (IR i)) (igo (IR i)) (upI (ipr (IR i)) z 1))) LR mL mP mC mI (upI mM (1000 * i + z) 1) mS mV mN mE mA mO mT mD := by
  obtain ⟨h1, h2, h3, h4, h5, h6, h7, h8⟩ := h
  refine ⟨h1, h2, h3, h4, fun j => ⟨fun hj => ?_, fun hj => ?_⟩, h6, fun a hc => ?_, h8⟩
  · by_cases e : j = i
    · subst e
      rw [upR_same]
      exact II_mark ((h5 j).1 hj) (z := z) (fun k hk => by
        simp only [upI]
        by_cases e2 : k = z
        · rw [if_pos e2, if_pos (by omega)]
        · rw [if_neg e2, if_neg (by omega)])
    · rw [upR_ne e]
      have h9 := (h5 j).1 hj
      obtain ⟨g1, g2, g3, g4, g5, g6, g7⟩ := h9
      exact ⟨g1, g2, g3, g4, g5, fun k hk => (upI_ne (show 1000 * j + k ≠ 1000 * i + z by omega)).trans (g6 k hk), g7⟩
  · rw [upR_ne (show j ≠ i by omega)]
    obtain ⟨g1, g2, g3⟩ := (h5 j).2 hj
    exact ⟨g1, g2, fun k hk => by rw [upI_ne (show 1000 * j + k ≠ 1000 * i + z by omega)]; exact g3 k hk⟩
  · obtain ⟨g1, g2, g3, g4⟩ := h7 a hc
    refine ⟨g1, g2, g3, ?_⟩
    by_cases e : a % 5 = i
    · rw [e, upR_same]; rw [e] at g4
      exact LI_pr g4 (fun j hj => upI_ne (show j ≠ z by omega))
    · rw [upR_ne e]; exact g4
theorem JI_demand (h : JI sh it dy pct lr sr lf lrf srf cr IR LR mL mP mC mI mM mS mV mN mE mA mO mT mD) {a : Nat} {un : Int} (hc : cr a = true) (hu : 1 ≤ un ∧ ldm (LR a) dy + un ≤ 999) :
    JI sh it dy pct lr sr lf lrf srf cr IR (upR LR a (lmk (lld (LR a)) (lfd (LR a)) (lfk (LR a)) (lfv (LR a)) (les (LR a)) (lsk (LR a) - mnI un (lsk (LR a))) (lso (LR a) + mnI un (lsk (LR a))) (llo (LR a) + (un - mnI un (lsk (LR a)))) (llv (LR a)) (lse (LR a)) (lef (LR a)) (upI (ldm (LR a)) dy (ldm (LR a) dy + un)) (upI (lsl (LR a)) dy (lsl (LR a) dy + mnI un (lsk (LR a)))) (lar (LR a))))
      mL mP mC mI mM (upI mS a (mS a - mnI un (lsk (LR a)))) mV mN mE (upI mA a (mA a + un)) (upI mO a (mO a + mnI un (lsk (LR a)))) (upI mT a (mT a + (un - mnI un (lsk (LR a))))) mD := by
  obtain ⟨h1, h2, h3, h4, h5, h6, h7, h8⟩ := h
  refine ⟨h1, h2, h3, h4, h5, h6, fun b hb => ?_, fun b hb => ?_⟩
  · obtain ⟨g1, g2, g3, g4⟩ := h7 b hb
    refine ⟨g1, g2, g3, ?_⟩
    by_cases e : b = a
    · subst e
      rw [upR_same, upI_same, upI_same, upI_same, upI_same]
      exact LI_sell g4 hu
    · rw [upR_ne e, upI_ne e, upI_ne e, upI_ne e, upI_ne e]; exact g4
  · have e : b ≠ a := fun e => hb (by rw [e]; exact hc)
    rw [upR_ne e, upI_ne e, upI_ne e, upI_ne e, upI_ne e]; exact h8 b hb
end JS
