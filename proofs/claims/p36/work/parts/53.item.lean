theorem LI_z {x dy ld : Nat} {lrf srf pr : Nat → Int} {r : LT} {s v : Int} {n e : Nat → Int} {ak o t : Int} {d : Nat → Int} (h : LI x dy ld lrf srf pr r s v n e ak o t d) : lar r (dy + 1 + ld) = 0 := h.2.2.2.2.2.2.1 _ (by omega)
/-! an item: the class's record, and what the reference holds -/
def II (dy : Nat) (r : IT) (pk c : Int) (mk : Nat → Int) : Prop :=
  (0 < ipk r ∧ ipk r ≤ 50) ∧ (0 ≤ ist r ∧ ist r ≤ 99999) ∧ (ist r = ifs r + smI (iti r) (dy + 1) - smI (igo r) (dy + 1)) ∧ (∀ j, dy < j → iti r j = 0 ∧ igo r j = 0) ∧
  (pk = ipk r ∧ c = ist r) ∧ (∀ j, j < 1000 → mk j = ipr r j) ∧ (∀ j, 0 ≤ ipr r j ∧ ipr r j ≤ 1)
section IIS
variable {dy : Nat} {r : IT} {pk c : Int} {mk : Nat → Int}
theorem II_ok (h : II dy r pk c mk) : iOK r := ⟨h.1, h.2.1⟩
theorem II_day (h : II dy r pk c mk) : II (dy + 1) r pk c mk := by
  obtain ⟨h1, h2, h3, h4, h5, h6, h7⟩ := h
  have a := h4 (dy + 1) (by omega)
  refine ⟨h1, h2, ?_, fun j hj => h4 j (by omega), h5, h6, h7⟩
  have b1 : smI (iti r) (dy + 1 + 1) = smI (iti r) (dy + 1) + iti r (dy + 1) := rfl
  have b2 : smI (igo r) (dy + 1 + 1) = smI (igo r) (dy + 1) + igo r (dy + 1) := rfl
  omega
theorem II_supply (h : II dy r pk c mk) {u : Int} (hu : 1 ≤ u ∧ ist r + u ≤ 99999) : II dy (imk (ipk r) (ifs r) (ist r + u) (upI (iti r) dy (iti r dy + u)) (igo r) (ipr r)) pk (c + u) mk := by
  obtain ⟨h1, h2, h3, h4, h5, h6, h7⟩ := h
  refine ⟨h1, ⟨?_, ?_⟩, ?_, fun j hj => ⟨?_, (h4 j hj).2⟩, ⟨h5.1, ?_⟩, h6, h7⟩
  · show 0 ≤ ist r + u; omega
  · show ist r + u ≤ 99999; omega
  · show ist r + u = ifs r + smI (upI (iti r) dy (iti r dy + u)) (dy + 1) - smI (igo r) (dy + 1)
    rw [smI_upl]; omega
  · show upI (iti r) dy (iti r dy + u) j = 0
    rw [upI_ne (by omega)]; exact (h4 j hj).1
  · show c + u = ist r + u; omega
theorem II_give (h : II dy r pk c mk) {P : Int} (hP : 0 ≤ P * ipk r ∧ P * ipk r ≤ ist r) : II dy (giR dy P r) pk (c - P * ipk r) mk := by
  obtain ⟨h1, h2, h3, h4, h5, h6, h7⟩ := h
  refine ⟨h1, ⟨?_, ?_⟩, ?_, fun j hj => ⟨(h4 j hj).1, ?_⟩, ⟨h5.1, ?_⟩, h6, h7⟩
  · show 0 ≤ ist r - P * ipk r; omega
  · show ist r - P * ipk r ≤ 99999; omega
  · show ist r - P * ipk r = ifs r + smI (iti r) (dy + 1) - smI (upI (igo r) dy (igo r dy + P * ipk r)) (dy + 1)
    rw [smI_upl]; omega
  · show upI (igo r) dy (igo r dy + P * ipk r) j = 0
    rw [upI_ne (by omega)]; exact (h4 j hj).2
  · show c - P * ipk r = ist r - P * ipk r; omega
theorem II_mark (h : II dy r pk c mk) {z : Nat} {mk' : Nat → Int} (hm : ∀ j, j < 1000 → mk' j = if j = z then 1 else mk j) : II dy (imk (ipk r) (ifs r) (ist r) (iti r) (igo r) (upI (ipr r) z 1)) pk c mk' := by
  obtain ⟨h1, h2, h3, h4, h5, h6, h7⟩ := h
  refine ⟨h1, h2, h3, h4, h5, fun j hj => ?_, fun j => ?_⟩
  · show mk' j = upI (ipr r) z 1 j
    rw [hm j hj]; simp only [upI]; split
    · rfl
    · exact h6 j hj
  · show 0 ≤ upI (ipr r) z 1 j ∧ upI (ipr r) z 1 j ≤ 1
    simp only [upI]; split
    · omega
    · exact h7 j
theorem II_new {p k : Int} (hp : 1 ≤ p ∧ p ≤ 50) (hk : 0 ≤ k ∧ k ≤ 99999) (hm : ∀ j, j < 1000 → mk j = 0) : II dy (imk p k k (fun _ => 0) (fun _ => 0) (fun _ => 0)) p k mk := by
  have hz : ∀ m : Nat, smI (fun _ => 0) m = 0 := fun m => by
    induction m with
    | zero => rfl
    | succ m ih => simp only [smI]; omega
  refine ⟨⟨?_, hp.2⟩, hk, ?_, fun j _ => ⟨rfl, rfl⟩, ⟨rfl, rfl⟩, hm, fun j => ⟨Int.le_refl _, ?_⟩⟩
  · show 0 < p; omega
  · show k = k + smI (fun _ => 0) (dy + 1) - smI (fun _ => 0) (dy + 1)
    omega
  · show (0 : Int) ≤ 1; omega
end IIS
/-- no more leaves than is there -/
theorem smI_le4 {f : Nat → Int} (h : ∀ j, 0 ≤ f j) {n : Nat} (hn : n ≤ 4) : smI f n ≤ smI f 4 := by
  have h0 := h 0; have h1 := h 1; have h2 := h 2; have h3 := h 3
  rcases (show n = 0 ∨ n = 1 ∨ n = 2 ∨ n = 3 ∨ n = 4 by omega) with e | e | e | e | e <;> subst e <;> simp only [smI] <;> omega
theorem snt_eq {cr : Nat → Bool} {rq : Nat → Int} {pn : Int} {tn : Nat} (hr : ∀ j, 0 ≤ rq j ∧ rq j ≤ 1000000) (hp : 0 ≤ pn) (hz : ∀ j, ¬ cr (j * 5 + tn) = true → rq j = 0) {j : Nat} (hj : j < 4) : sntI cr rq pn tn j = grI rq pn.toNat j := by
  unfold sntI
  split
  · exact ctI_gr hr hp hj
  · rename_i hc
    have h1 := grI_rng (fun j => (hr j).1) pn.toNat j
    have h2 := hz j hc
    omega
theorem snt_sum {cr : Nat → Bool} {rq : Nat → Int} {pn : Int} {tn n : Nat} (hr : ∀ j, 0 ≤ rq j ∧ rq j ≤ 1000000) (hp : 0 ≤ pn) (hz : ∀ j, ¬ cr (j * 5 + tn) = true → rq j = 0) (hn : n ≤ 4) : 0 ≤ smI (sntI cr rq pn tn) n ∧ smI (sntI cr rq pn tn) n ≤ pn := by
  have e : smI (sntI cr rq pn tn) n = smI (grI rq pn.toNat) n := smI_congr (fun j hj => snt_eq hr hp hz (by omega))
  have h1 := smI_le4 (f := grI rq pn.toNat) (fun j => (grI_rng (fun j => (hr j).1) pn.toNat j).1) hn
  have h2 := (grI_sum (fun j => (hr j).1) pn.toNat).1
  have h3 := smI_le (f := fun j => grI rq pn.toNat j) (B := 1000000) (fun j => by have a := grI_rng (fun j => (hr j).1) pn.toNat j; have b := hr j; omega) n
  rw [e]
  have h4 : 0 ≤ smI (grI rq pn.toNat) n := h3.1
  omega
