theorem LI_cg {x dy ld : Nat} {lrf srf pr : Nat → Int} {r : LT} {s v : Int} {n e n' e' : Nat → Int} {ak o t : Int} {d d' : Nat → Int} (h : LI x dy ld lrf srf pr r s v n e ak o t d) (hn : ∀ w, w < 7 → n' w = n w) (he : ∀ k, k < 21 → e' k = e k) (hd : ∀ k, k < 8 → d' k = d k) : LI x dy ld lrf srf pr r s v n' e' ak o t d' := by
  obtain ⟨h1, h2, h3, h4, h5, h6, h7, h8, h9, h10, h11, h12, h13, h14, h15⟩ := h
  exact ⟨h1, h2, h3, h4, h5, h6, h7, h8, h9, h10, h11, h12, fun w hw => (hn w hw).trans (h13 w hw), fun k hk => (he k hk).trans (h14 k hk), (hd _ (Nat.mod_lt _ (by omega))).trans h15.1, fun j a b => (hd _ (Nat.mod_lt _ (by omega))).trans (h15.2 j a b)⟩
theorem JI_carry {sh it dy : Nat} {pct lr sr : Int} {lf lrf srf : Nat → Int} {cr : Nat → Bool} {IR : Nat → IT} {LR : Nat → LT} {mL mP mC mI mM mS mV mN mE mA mO mT mD : Nat → Int} (h : JI sh it dy pct lr sr lf lrf srf cr IR LR mL mP mC mI mM mS mV mN mE mA mO mT mD) {s i : Nat} (hs : s < sh) (hi : i < it) (hc : ¬ cr (s * 5 + i) = true) {k f : Int} (hk : 0 ≤ k ∧ k ≤ 999) (hf : 0 ≤ f ∧ f ≤ 99999) {mN' : Nat → Int}
    (hN : ∀ j, mN' j = if 7 * (s * 5 + i) ≤ j ∧ j < 7 * (s * 5 + i) + 7 then 1000 else mN j) :
    JI sh it dy pct lr sr lf lrf srf (upR cr (s * 5 + i) true) IR (upR LR (s * 5 + i) (lmk (lf s).toNat dy k f 0 k 0 0 f (fun _ => 1000) (fun _ => 0) (fun _ => 0) (fun _ => 0) (fun _ => 0))) mL mP mC (upI mI (s * 5 + i) 1) mM (upI mS (s * 5 + i) k) (upI mV (s * 5 + i) f) mN' mE mA mO mT mD := by
  obtain ⟨h1, h2, h3, h4, h5, h6, h7, h8⟩ := h
  have hl := (h3 s).1 hs
  refine ⟨h1, h2, h3, h4, h5, fun b => ?_, fun b hb => ?_, fun b hb => ?_⟩
  · by_cases e : b = s * 5 + i
    · subst e; rw [upI_same, upR_same, if_pos rfl]
    · rw [upI_ne e, upR_ne e]; exact h6 b
  · by_cases e : b = s * 5 + i
    · subst e
      have g := h8 _ hc
      rw [upR_same, upI_same, upI_same, g.2.2.2.1, g.2.2.2.2.1, g.2.2.2.2.2.1]
      refine ⟨by omega, by omega, by omega, ?_⟩
      rw [show (s * 5 + i) / 5 = s from by omega]
      exact LI_new (by omega) hk hf (fun w hw => by show mN' (7 * (s * 5 + i) + w) = 1000; rw [hN, if_pos (by omega)]) g.2.2.2.2.2.2.2.1 g.2.2.2.2.2.2.2.2
    · rw [upR_ne e] at hb
      obtain ⟨g1, g2, g3, g4⟩ := h7 b hb
      rw [upR_ne e, upI_ne e, upI_ne e]
      exact ⟨g1, g2, g3, LI_cg g4 (fun w hw => by show mN' (7 * b + w) = mN (7 * b + w); rw [hN, if_neg (by omega)]) (fun _ _ => rfl) (fun _ _ => rfl)⟩
  · have e : b ≠ s * 5 + i := fun e => hb (by rw [e, upR_same])
    rw [upR_ne e] at hb
    rw [upR_ne e, upI_ne e, upI_ne e]
    obtain ⟨g1, g2, g3, g4, g5, g6, g7, g8, g9⟩ := h8 b hb
    exact ⟨g1, g2, g3, g4, g5, g6, fun w hw => by rw [hN, if_neg (by omega)]; exact g7 w hw, g8, g9⟩
