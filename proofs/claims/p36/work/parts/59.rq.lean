/-! requests: the class's and the reference's -/
theorem fcI_cg {v : Int} {n n' : Nat → Int} {d : Nat} (h : ∀ w, w < 7 → n w = n' w) (m : Nat) : fcI v n d m = fcI v n' d m := by
  unfold fcI
  exact smI_congr (fun j _ => by unfold thI; rw [h _ (Nat.mod_lt _ (by omega))])
theorem sfI_cg {er er' : Nat → Int} {es p : Int} : ∀ n k : Nat, (∀ j, j < k + n → er j = er' j) → sfI er es p k n = sfI er' es p k n
  | 0, _, _ => rfl
  | n + 1, k, h => by
    simp only [sfI]
    rw [smI_congr (f := er) (g := er') (n := k + 1) (fun j hj => h j (by omega)), sfI_cg n (k + 1) (fun j hj => h j (by omega))]
theorem LI_sf {x dy ld : Nat} {lrf srf pr : Nat → Int} {r : LT} {s v : Int} {n e : Nat → Int} {ak o t : Int} {d : Nat → Int} (h : LI x dy ld lrf srf pr r s v n e ak o t d) (p : Int) : sfI e (smI e 21) p 0 21 = sfI (lef r) (les r) p 0 21 := by
  obtain ⟨h1, h2, h3, h4, h5, h6, h7, h8, h9, h10, h11, h12, h13, h14, h15⟩ := h
  rw [h9.2.1, smI_congr (f := e) (g := lef r) (n := 21) (fun j hj => h14 j hj)]
  exact sfI_cg 21 0 (fun j hj => h14 j (by omega))
theorem LI_nd {x dy ld : Nat} {lrf srf pr : Nat → Int} {r : LT} {s v : Int} {n e : Nat → Int} {ak o t : Int} {d : Nat → Int} (h : LI x dy ld lrf srf pr r s v n e ak o t d) (p : Int) : (fcI v n dy (ld + 1) + 999) / 1000 + sfI e (smI e 21) p 0 21 - s - smI d 8 = ndI (llv r) (lse r) (lef r) (les r) p (lsk r) (lar r) dy (lld r) := by
  have e1 := LI_sf h p
  have e2 := LI_du h
  obtain ⟨h1, h2, h3, h4, h5, h6, h7, h8, h9, h10, h11, h12, h13, h14, h15⟩ := h
  unfold ndI
  rw [e1, e2, h12.1, h12.2.1, h1.1, fcI_cg (n := n) (n' := lse r) h13]
theorem JI_rq {sh it dy : Nat} {pct lr sr : Int} {lf lrf srf : Nat → Int} {cr : Nat → Bool} {IR : Nat → IT} {LR : Nat → LT} {mL mP mC mI mM mS mV mN mE mA mO mT mD : Nat → Int} (h : JI sh it dy pct lr sr lf lrf srf cr IR LR mL mP mC mI mM mS mV mN mE mA mO mT mD) {i s : Nat} (hi : i < it) (hs : s < sh) : rqM mI mL mS mV mN mE mD dy pct (mP i) i s = rqA dy pct cr IR LR i sh s := by
  obtain ⟨h1, h2, h3, h4, h5, h6, h7, h8⟩ := h
  have hP := ((h5 i).1 hi).2.2.2.2.1.1
  unfold rqM rqA
  rw [show 5 * s + i = s * 5 + i from by omega]
  by_cases hc : cr (s * 5 + i) = true
  · have h9 := (h7 _ hc).2.2.2
    rw [h6, if_pos hc, if_neg (by omega), if_pos ⟨hs, hc⟩, hP]
    rw [show (s * 5 + i) / 5 = s from by omega] at h9 ⊢
    rw [((h3 s).1 hs).1]
    unfold rqL
    rw [← LI_nd h9 pct]
  · rw [h6, if_neg hc, if_pos rfl, if_neg (fun q => hc q.2)]
