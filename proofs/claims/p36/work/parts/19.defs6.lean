/-! the reference's codes -/
def inI (v lo hi : Int) : Int := if lo ≤ v ∧ v ≤ hi then 1 else 0
theorem inI_s (v lo hi : Int) : (inI v lo hi = 1 ∧ lo ≤ v ∧ v ≤ hi) ∨ (inI v lo hi = 0 ∧ ¬ (lo ≤ v ∧ v ≤ hi)) := by unfold inI; split <;> omega
def b01 (c : Nat) : Int := if c = 0 then 1 else 0
def cdM (sh it : Nat) (mI : Nat → Int) (zs zi : Int) : Nat := if (0 ≤ zs ∧ zs < (sh : Int)) ∧ (0 ≤ zi ∧ zi < (it : Int)) then (if mI (5 * zs + zi).toNat = 0 then 2 else 0) else 1
theorem cdM_s (sh it : Nat) (mI : Nat → Int) (zs zi : Int) : (cdM sh it mI zs zi = 0 ∧ (0 ≤ zs ∧ zs < (sh : Int)) ∧ (0 ≤ zi ∧ zi < (it : Int)) ∧ mI (5 * zs + zi).toNat ≠ 0) ∨ (cdM sh it mI zs zi = 2 ∧ (0 ≤ zs ∧ zs < (sh : Int)) ∧ (0 ≤ zi ∧ zi < (it : Int)) ∧ mI (5 * zs + zi).toNat = 0) ∨ (cdM sh it mI zs zi = 1 ∧ ¬ ((0 ≤ zs ∧ zs < (sh : Int)) ∧ (0 ≤ zi ∧ zi < (it : Int)))) := by
  unfold cdM
  split
  · split
    · right; left; exact ⟨rfl, by omega, by omega, by assumption⟩
    · left; exact ⟨rfl, by omega, by omega, by assumption⟩
  · right; right; exact ⟨rfl, by assumption⟩
theorem b01_s (c : Nat) : (b01 c = 1 ∧ c = 0) ∨ (b01 c = 0 ∧ c ≠ 0) := by unfold b01; split <;> omega
def cd2 (a b : Prop) [Decidable a] [Decidable b] : Nat := if a then (if b then 0 else 2) else 1
def cd3 (a b d : Prop) [Decidable a] [Decidable b] [Decidable d] : Nat := if a then (if b then (if d then 0 else 3) else 2) else 1
theorem upI_upI (f : Nat → Int) (k : Nat) (v w : Int) : upI (upI f k v) k w = upI f k w := by funext j; simp only [upI]; split <;> rfl
theorem upI_id {f : Nat → Int} {k : Nat} {v : Int} (h : f k = v) : upI f k v = f := by funext j; simp only [upI]; split; (rename_i e; rw [e, h]); rfl
def cdx (c : Nat) (b : Prop) [Decidable b] : Nat := if c = 0 then (if b then 0 else 3) else c
def cdD (c : Nat) (a b : Prop) [Decidable a] [Decidable b] : Nat := if c = 0 then (if a then (if b then 0 else 4) else 3) else c
def cdN (c : Nat) (fd : Int) : Nat := if c = 0 then (if fd < 0 then 2 else 0) else c
def flAt (f : Nat → Int) (b : Nat) (v : Int) (i : Nat) : Nat → Int := fun j => if b ≤ j ∧ j < b + i then v else f j
theorem flAt_0 (f : Nat → Int) (b : Nat) (v : Int) : flAt f b v 0 = f := by funext j; simp only [flAt]; rw [if_neg (by omega)]
theorem flAt_s (f : Nat → Int) (b : Nat) (v : Int) (i : Nat) : upI (flAt f b v i) (b + i) v = flAt f b v (i + 1) := by
  funext j
  simp only [upI, flAt]
  by_cases h : j = b + i
  · rw [if_pos h, if_pos (by omega)]
  · rw [if_neg h]
    by_cases h2 : b ≤ j ∧ j < b + i
    · rw [if_pos h2, if_pos (by omega)]
    · rw [if_neg h2, if_neg (by omega)]
theorem nar01 {v : Int} (h : 0 ≤ v ∧ v ≤ 1) : narrow .boolean (.int (iI v)) = .int (iI v) := by
  rcases (show v = 0 ∨ v = 1 by omega) with e | e <;> subst e <;> decide
theorem my_jn {p : Program} {l : Launch} {e : Env} {R : Room} {s : State} {m : MethodId} {args : Array Value} {below : List Frame} {meth : Method} {c : Code} {H : Heap} {locs : List Loc} {cells slots : Nat} {Q : State → Prop} {g : JFrame} {pc2 n : Nat} {stk : List Value} {loc : List (Nat × Value)} (k : ∀ ls : Array Slot, lv_has ls n loc → W p l e R s m args below meth c H locs cells slots Q (F0 m pc2 ls stk)) (k2 : (∀ ls : Array Slot, lv_has ls n loc → W p l e R s m args below meth c H locs cells slots Q (F0 m pc2 ls stk)) → W p l e R s m args below meth c H locs cells slots Q g) : W p l e R s m args below meth c H locs cells slots Q g := k2 k
theorem thI_rng2 {lev : Int} {se : Nat → Int} {d : Nat} (h : 0 ≤ lev ∧ lev ≤ 9990000) (hs : 0 ≤ se (d % 7) ∧ se (d % 7) ≤ 5000) : 0 ≤ thI lev se d ∧ thI lev se d ≤ 49950000 ∧ 0 ≤ lev * se (d % 7) ∧ lev * se (d % 7) ≤ 49950000000 := by
  unfold thI
  have h2 := mul_rng (a := lev) (b := se (d % 7)) (A := 9990000) (B := 5000) h.1 h.2 hs.1 hs.2
  omega
