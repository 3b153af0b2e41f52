/-! the reference's night -/
def lr1 (mA : Nat → Int) (dy : Nat) (lr sr : Int) (S : (Nat → Int) × (Nat → Int) × (Nat → Int)) (i : Nat) : (Nat → Int) × (Nat → Int) × (Nat → Int) :=
  (upI S.1 i (lvI (S.1 i) (S.2.1 (7 * i + dy % 7)) (mA i) lr),
   if 0 < lvI (S.1 i) (S.2.1 (7 * i + dy % 7)) (mA i) lr then upI S.2.1 (7 * i + dy % 7) (seI (lvI (S.1 i) (S.2.1 (7 * i + dy % 7)) (mA i) lr) (S.2.1 (7 * i + dy % 7)) (mA i) sr) else S.2.1,
   upI S.2.2 (21 * i + (erI (mA i) (unI (S.1 i) (fun w => S.2.1 (7 * i + w)) dy)).toNat) (S.2.2 (21 * i + (erI (mA i) (unI (S.1 i) (fun w => S.2.1 (7 * i + w)) dy)).toNat) + 1))
def lrS (mI mM mA : Nat → Int) (dy : Nat) (lr sr : Int) (mV mN mE : Nat → Int) : Nat → (Nat → Int) × (Nat → Int) × (Nat → Int)
  | 0 => (mV, mN, mE)
  | i + 1 => if mI i ≠ 0 ∧ mM (1000 * (i % 5) + dy) = 0 then lr1 mA dy lr sr (lrS mI mM mA dy lr sr mV mN mE i) i else lrS mI mM mA dy lr sr mV mN mE i
theorem lrS_rng {mI mM mA : Nat → Int} {dy : Nat} {lr sr : Int} {mV mN mE : Nat → Int} (hV : ∀ j, 0 ≤ mV j ∧ mV j ≤ 9990000) (hN : ∀ j, 0 ≤ mN j ∧ mN j ≤ 5000) (hE : ∀ j, 0 ≤ mE j ∧ mE j ≤ 900) (hA : ∀ j, 0 ≤ mA j ∧ mA j ≤ 999) (hlr : 0 ≤ lr ∧ lr ≤ 100) (hc : ∀ a w, a < 20 → w < 7 → mI a ≠ 0 → 100 ≤ mN (7 * a + w)) :
    ∀ i : Nat, i ≤ 20 → (∀ j, 0 ≤ (lrS mI mM mA dy lr sr mV mN mE i).1 j ∧ (lrS mI mM mA dy lr sr mV mN mE i).1 j ≤ 9990000) ∧ (∀ j, 0 ≤ (lrS mI mM mA dy lr sr mV mN mE i).2.1 j ∧ (lrS mI mM mA dy lr sr mV mN mE i).2.1 j ≤ 5000) ∧ (∀ j, 0 ≤ (lrS mI mM mA dy lr sr mV mN mE i).2.2 j ∧ (lrS mI mM mA dy lr sr mV mN mE i).2.2 j ≤ 900 + (i : Int)) ∧ (∀ a w, a < 20 → w < 7 → mI a ≠ 0 → 100 ≤ (lrS mI mM mA dy lr sr mV mN mE i).2.1 (7 * a + w))
  | 0, _ => ⟨hV, hN, fun j => by have := hE j; simp only [lrS]; omega, hc⟩
  | i + 1, hi => by
    obtain ⟨h1, h2, h3, h4⟩ := lrS_rng hV hN hE hA hlr hc i (by omega)
    rw [lrS]
    split
    · rename_i hq
      generalize lrS mI mM mA dy lr sr mV mN mE i = S at h1 h2 h3 h4
      have hs1 := h4 i (dy % 7) (by omega) (by omega) hq.1
      have hs2 := (h2 (7 * i + dy % 7)).2
      have hlv := lvI_rng (se1 := S.2.1 (7 * i + dy % 7)) (dem := mA i) (lr := lr) (h1 i) ⟨hs1, hs2⟩ (hA i) hlr
      have hse := seI_rng (lvI (S.1 i) (S.2.1 (7 * i + dy % 7)) (mA i) lr) (S.2.1 (7 * i + dy % 7)) (mA i) sr
      refine ⟨fun j => ?_, fun j => ?_, fun j => ?_, fun a w ha hw hca => ?_⟩
      · simp only [lr1, upI]; split
        · exact hlv
        · exact h1 j
      · simp only [lr1]; split
        · simp only [upI]; split
          · omega
          · exact h2 j
        · exact h2 j
      · simp only [lr1, upI]
        have := h3 j
        have h5 := h3 (21 * i + (erI (mA i) (unI (S.1 i) (fun w => S.2.1 (7 * i + w)) dy)).toNat)
        split <;> omega
      · have h6 := h4 a w ha hw hca
        simp only [lr1]; split
        · simp only [upI]; split
          · omega
          · exact h6
        · exact h6
    · exact ⟨h1, h2, fun j => by have := h3 j; omega, h4⟩
def dzI (mD : Nat → Int) (w i : Nat) : Nat → Int := fun x => if x / 8 < i ∧ x % 8 = w then 0 else mD x
theorem dzI_0 (mD : Nat → Int) (w : Nat) : dzI mD w 0 = mD := by funext x; simp [dzI]
theorem dzI_s (mD : Nat → Int) {w i : Nat} (hw : w < 8) : upI (dzI mD w i) (8 * i + w) 0 = dzI mD w (i + 1) := by
  funext x
  simp only [upI, dzI]
  by_cases h : x = 8 * i + w
  · rw [if_pos h, if_pos (by omega)]
  · rw [if_neg h]
    by_cases h2 : x / 8 < i ∧ x % 8 = w
    · rw [if_pos h2, if_pos (by omega)]
    · rw [if_neg h2, if_neg (by omega)]
theorem dzI_g (mD : Nat → Int) {w i : Nat} (hw : w < 8) : dzI mD w i (8 * i + w) = mD (8 * i + w) := by simp only [dzI]; rw [if_neg (by omega)]
/-- what the lines of an item request -/
def rqM (mI mL mS mV mN mE mD : Nat → Int) (dy : Nat) (sv pk : Int) (i : Nat) : Nat → Int := fun s => if mI (5 * s + i) = 0 then 0 else rqI ((fcI (mV (5 * s + i)) (fun w => mN (7 * (5 * s + i) + w)) dy ((mL ((5 * s + i) / 5)).toNat + 1) + 999) / 1000 + sfI (fun k => mE (21 * (5 * s + i) + k)) (smI (fun k => mE (21 * (5 * s + i) + k)) 21) sv 0 21 - mS (5 * s + i) - smI (fun k => mD (8 * (5 * s + i) + k)) 8) pk
def gvD (mL : Nat → Int) (dy i : Nat) (pk : Int) (mD g : Nat → Int) : Nat → Nat → Int
  | 0 => mD
  | s + 1 => upI (gvD mL dy i pk mD g s) (8 * (5 * s + i) + (dy + (mL s).toNat) % 8) (gvD mL dy i pk mD g s (8 * (5 * s + i) + (dy + (mL s).toNat) % 8) + g s * pk)
abbrev ngT : Type := (Nat → Int) × (Nat → Int) × (Nat → Int) × (Nat → Int) × Int
/-- what is given of an item -/
def ngG (mI mL mP mS mV mN mE : Nat → Int) (dy sh : Nat) (sv : Int) (T : ngT) (i : Nat) : Nat → Int := gnI (flF T.2.2.2.1 (rqM mI mL mS mV mN mE T.2.1 dy sv (mP i) i) sh) sh (flI T.2.2.1 0 sh) (T.1 i / mP i).toNat
def ng1 (mI mL mP mS mV mN mE : Nat → Int) (dy sh : Nat) (sv : Int) (T : ngT) (i : Nat) : ngT :=
  (upI T.1 i (T.1 i - smI (fun s => ngG mI mL mP mS mV mN mE dy sh sv T i s * mP i) sh), gvD mL dy i (mP i) T.2.1 (ngG mI mL mP mS mV mN mE dy sh sv T i) sh, ngG mI mL mP mS mV mN mE dy sh sv T i, flF T.2.2.2.1 (rqM mI mL mS mV mN mE T.2.1 dy sv (mP i) i) sh, T.2.2.2.2 + smI (ngG mI mL mP mS mV mN mE dy sh sv T i) sh)
def ngS (mI mL mP mS mV mN mE : Nat → Int) (dy sh : Nat) (sv : Int) (mC mD mG mW : Nat → Int) : Nat → ngT
  | 0 => (mC, mD, mG, mW, 0)
  | i + 1 => ng1 mI mL mP mS mV mN mE dy sh sv (ngS mI mL mP mS mV mN mE dy sh sv mC mD mG mW i) i
theorem gvD_out {mL : Nat → Int} {dy i : Nat} {pk : Int} {mD g : Nat → Int} (hi : i < 5) : ∀ (s x : Nat), (x / 8) % 5 ≠ i → gvD mL dy i pk mD g s x = mD x
  | 0, x, _ => rfl
  | s + 1, x, h => by
    rw [gvD, upI_ne (by omega)]
    exact gvD_out hi s x h
theorem ngS_out {mI mL mP mS mV mN mE : Nat → Int} {dy sh : Nat} {sv : Int} {mC mD mG mW : Nat → Int} : ∀ (i : Nat), i ≤ 5 → (∀ j, i ≤ j → (ngS mI mL mP mS mV mN mE dy sh sv mC mD mG mW i).1 j = mC j) ∧ (∀ x, i ≤ (x / 8) % 5 → (ngS mI mL mP mS mV mN mE dy sh sv mC mD mG mW i).2.1 x = mD x)
  | 0, _ => ⟨fun _ _ => rfl, fun _ _ => rfl⟩
  | i + 1, hi => by
    obtain ⟨h1, h2⟩ := ngS_out (mI := mI) (mL := mL) (mP := mP) (mS := mS) (mV := mV) (mN := mN) (mE := mE) (dy := dy) (sh := sh) (sv := sv) (mC := mC) (mD := mD) (mG := mG) (mW := mW) i (by omega)
    refine ⟨fun j hj => ?_, fun x hx => ?_⟩
    · rw [ngS]; exact (upI_ne (show j ≠ i by omega)).trans (h1 j (by omega))
    · rw [ngS]; exact (gvD_out (by omega) sh x (by omega)).trans (h2 x (by omega))
