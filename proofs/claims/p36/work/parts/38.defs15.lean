abbrev ntT : Type := (Nat → IT) × (Nat → LT) × (Nat → Int) × Int × Int
/-- an item's packs leave -/
def nt1 (dy : Nat) (pct : Int) (cr : Nat → Bool) (sh : Nat) (S : ntT) (i : Nat) : ntT :=
  (upR S.1 i (giR dy (smI (sntI cr (rqA dy pct cr S.1 S.2.1 i sh) (ist (S.1 i) / ipk (S.1 i)) i) sh) (S.1 i)), sdL dy (ipk (S.1 i)) cr (rqA dy pct cr S.1 S.2.1 i sh) (ist (S.1 i) / ipk (S.1 i)) i S.2.1 sh, rqA dy pct cr S.1 S.2.1 i sh, ist (S.1 i) / ipk (S.1 i), S.2.2.2.2 + smI (sntI cr (rqA dy pct cr S.1 S.2.1 i sh) (ist (S.1 i) / ipk (S.1 i)) i) sh)
def ntS (dy : Nat) (pct : Int) (cr : Nat → Bool) (sh : Nat) (S0 : ntT) : Nat → ntT
  | 0 => S0
  | i + 1 => nt1 dy pct cr sh (ntS dy pct cr sh S0 i) i
theorem ntS_out {dy : Nat} {pct : Int} {cr : Nat → Bool} {sh : Nat} {S0 : ntT} : ∀ i : Nat, (∀ j, i ≤ j → (ntS dy pct cr sh S0 i).1 j = S0.1 j) ∧ (∀ a, i ≤ a % 5 → (ntS dy pct cr sh S0 i).2.1 a = S0.2.1 a)
  | 0 => ⟨fun _ _ => rfl, fun _ _ => rfl⟩
  | i + 1 => by
    obtain ⟨h1, h2⟩ := ntS_out (dy := dy) (pct := pct) (cr := cr) (sh := sh) (S0 := S0) i
    refine ⟨fun j hj => ?_, fun a ha => ?_⟩
    · rw [ntS]; exact (upR_ne (show j ≠ i by omega)).trans (h1 j (by omega))
    · rw [ntS]
      refine Eq.trans ?_ (h2 a (by omega))
      show sdL _ _ _ _ _ _ _ _ a = _
      unfold sdL
      rw [if_neg (fun h => absurd h.1 (by omega))]
def uiF (it : Nat) (IR : Nat → IT) : Nat → Int := fun i => if i < it then ist (IR i) else 0
def ulF (cr : Nat → Bool) (LR : Nat → LT) (dy : Nat) : Nat → Int := fun a => if cr a = true then lsk (LR a) + duI (lar (LR a)) dy else 0
def svF (cr : Nat → Bool) (LR : Nat → LT) (f : LT → Int) (sn : Nat) : Nat → Int := fun i => if cr (sn * 5 + i) = true then f (LR (sn * 5 + i)) else 0
theorem svF_rng {cr : Nat → Bool} {LR : Nat → LT} {f : LT → Int} {sn : Nat} (h : ∀ a, 0 ≤ f (LR a) ∧ f (LR a) ≤ 1000000) (i : Nat) : 0 ≤ svF cr LR f sn i ∧ svF cr LR f sn i ≤ 1000000 := by
  unfold svF; split
  · exact h _
  · omega
