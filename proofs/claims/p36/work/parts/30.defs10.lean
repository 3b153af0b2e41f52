section MYQ
variable {p : Program} {l : Launch} {e : Env} {R : Room} {s : State} {m : MethodId} {args : Array Value} {below : List Frame} {meth : Method} {c : Code} {H : Heap} {locs : List Loc} {cells slots : Nat} {Q : State → Prop} {pc : Nat} {ls : Array Slot} {rest : List Value}
theorem my_cvq {q : Option Nat} {a : Nat} (h : q = some a) (k : W p l e R s m args below meth c H locs cells slots Q (F0 m pc ls (.ref a :: rest))) : W p l e R s m args below meth c H locs cells slots Q (F0 m pc ls (va_rf q :: rest)) := by rw [h]; exact k
end MYQ
theorem ix5 (a b : Nat) : (((a : Nat) : Int) * 5 + ((b : Nat) : Int)).toNat = a * 5 + b := by omega
theorem cdL_0 {sh it : Nat} {lnf : Nat → Option Nat} {sn tn kn : Nat} (h1 : sn < sh) (h2 : tn < it) (h : lnf (sn * 5 + tn) = some kn) : cdL sh it lnf (sn : Int) (tn : Int) = 0 := by
  unfold cdL
  rw [if_pos (by omega), if_neg]
  rw [ix5, h]; simp
theorem cdS_0 {it tn : Nat} (h2 : tn < it) : cdS it (tn : Int) = 0 := by unfold cdS; rw [if_pos (by omega)]
theorem lnO_0 {sh it : Nat} {lnf : Nat → Option Nat} {sn tn : Nat} (h1 : sn < sh) (h2 : tn < it) : lnO sh it lnf (sn : Int) (tn : Int) = lnf (sn * 5 + tn) := by
  unfold lnO
  rw [if_pos (by omega), ix5]
theorem itO_0 {it : Nat} {itf : Nat → Option Nat} {tn : Nat} (h2 : tn < it) : itO it itf (tn : Int) = itf tn := by
  unfold itO
  rw [if_pos (by omega), Int.toNat_natCast]
theorem fdI_rng (ar : Nat → Int) (d : Nat) : ∀ n k, -1 ≤ fdI ar d k n ∧ fdI ar d k n ≤ (d : Int) + k + n
  | 0, k => by simp only [fdI]; omega
  | n + 1, k => by
    have h := fdI_rng ar d n (k + 1)
    simp only [fdI]
    split <;> omega
/-- the learner's days anew -/
def rpA (dm lrf srf : Nat → Int) (d : Nat) (S : Int × (Nat → Int)) : Int × (Nat → Int) :=
  (lvI S.1 (S.2 (d % 7)) (dm d) (lrf d), snI (lvI S.1 (S.2 (d % 7)) (dm d) (lrf d)) S.2 (d % 7) (dm d) (srf d))
def rpS (v0 : Int) (pm dm lrf srf : Nat → Int) (fd : Nat) : Nat → Int × (Nat → Int)
  | 0 => (v0, fun _ => 1000)
  | n + 1 => if pm (fd + n) = 0 then rpA dm lrf srf (fd + n) (rpS v0 pm dm lrf srf fd n) else rpS v0 pm dm lrf srf fd n
theorem snI_rng {v : Int} {se : Nat → Int} {w : Nat} {d s : Int} (h : ∀ x, 100 ≤ se x ∧ se x ≤ 5000) (x : Nat) : 100 ≤ snI v se w d s x ∧ snI v se w d s x ≤ 5000 := by
  unfold snI
  split
  · simp only [upI]
    split
    · exact seI_rng _ _ _ _
    · exact h x
  · exact h x
theorem rpS_rng {v0 : Int} {pm dm lrf srf : Nat → Int} {fd : Nat} (hv : 0 ≤ v0 ∧ v0 ≤ 9990000) (hd : ∀ j, 0 ≤ dm j ∧ dm j ≤ 999) (hl : ∀ j, 0 ≤ lrf j ∧ lrf j ≤ 100) : ∀ n : Nat, (0 ≤ (rpS v0 pm dm lrf srf fd n).1 ∧ (rpS v0 pm dm lrf srf fd n).1 ≤ 9990000) ∧ (∀ w, 100 ≤ (rpS v0 pm dm lrf srf fd n).2 w ∧ (rpS v0 pm dm lrf srf fd n).2 w ≤ 5000)
  | 0 => ⟨hv, fun _ => by simp only [rpS]; omega⟩
  | n + 1 => by
    obtain ⟨h1, h2⟩ := rpS_rng hv hd hl n
    rw [rpS]
    split
    · generalize rpS v0 pm dm lrf srf fd n = S at h1 h2
      exact ⟨lvI_rng h1 (h2 _) (hd _) (hl _), snI_rng h2⟩
    · exact ⟨h1, h2⟩
def crI (sh it : Nat) (lnf : Nat → Option Nat) (zs zi : Int) : Int := if lnO sh it lnf zs zi = none then 0 else 1
