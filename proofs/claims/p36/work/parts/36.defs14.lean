def lnE (cs : Nat → ClassId) (IA LA : Nat → Nat → Nat) (i a : Nat) (r : LT) : va_W :=
  [(LA a 0, .inr (3, [.ref (IA i 0), .int (iI ((lld r : Nat) : Int)), .int (iI ((lfd r : Nat) : Int)), .int (iI (lfk r)), .int (iI (lfv r)), .ref (LA a 1), .ref (LA a 3), .ref (LA a 4), .ref (LA a 6), .ref (LA a 8), .int (iI (les r)), .int (iI (lsk r)), .int (iI (lso r)), .int (iI (llo r))])),
   (LA a 1, .inr (2, [.ref (LA a 2), .int (iI (llv r))])), (LA a 2, arI cs 7 (lse r)), (LA a 3, arI cs 21 (lef r)), (LA a 4, .inr (0, [.ref (LA a 5)])), (LA a 5, arI cs 1005 (ldm r)), (LA a 6, .inr (0, [.ref (LA a 7)])), (LA a 7, arI cs 1005 (lsl r)), (LA a 8, .inr (0, [.ref (LA a 9)])), (LA a 9, arI cs 1005 (lar r))]
theorem lnE_m {cs : Nat → ClassId} {IA LA : Nat → Nat → Nat} {i a : Nat} {r : LT} (h : a % 5 = i) : lnE cs IA LA i a r = lnD cs IA LA a r := by subst h; rfl
/-- what a line requests -/
def rqL (dy : Nat) (pct pk : Int) (r : LT) : Int := rqI (ndI (llv r) (lse r) (lef r) (les r) pct (lsk r) (lar r) dy (lld r)) pk
def rqA (dy : Nat) (pct : Int) (cr : Nat → Bool) (IR : Nat → IT) (LR : Nat → LT) (tn n : Nat) : Nat → Int := fun j => if j < n ∧ cr (j * 5 + tn) = true then rqL dy pct (ipk (IR tn)) (LR (j * 5 + tn)) else 0
section RQA
variable {dy : Nat} {pct : Int} {cr : Nat → Bool} {IR : Nat → IT} {LR : Nat → LT} {tn n : Nat}
theorem rqA_0 : rqA dy pct cr IR LR tn 0 = fun _ => 0 := by funext j; simp [rqA]
theorem rqA_up (h : cr (n * 5 + tn) = true) : upI (rqA dy pct cr IR LR tn n) n (rqL dy pct (ipk (IR tn)) (LR (n * 5 + tn))) = rqA dy pct cr IR LR tn (n + 1) := by
  funext j
  simp only [upI, rqA]
  by_cases e : j = n
  · subst e; rw [if_pos rfl, if_pos ⟨by omega, h⟩]
  · rw [if_neg e]
    by_cases h2 : j < n ∧ cr (j * 5 + tn) = true
    · rw [if_pos h2, if_pos ⟨by omega, h2.2⟩]
    · rw [if_neg h2, if_neg (fun h3 => h2 ⟨by omega, h3.2⟩)]
theorem rqA_no (h : ¬ cr (n * 5 + tn) = true) : rqA dy pct cr IR LR tn n = rqA dy pct cr IR LR tn (n + 1) := by
  funext j
  simp only [rqA]
  by_cases e : j = n
  · subst e; rw [if_neg (by omega), if_neg (fun h3 => h h3.2)]
  · by_cases h2 : j < n ∧ cr (j * 5 + tn) = true
    · rw [if_pos h2, if_pos ⟨by omega, h2.2⟩]
    · rw [if_neg h2, if_neg (fun h3 => h2 ⟨by omega, h3.2⟩)]
end RQA
/-- a line's numbers in their bounds, at a day -/
def lOK (dy : Nat) (r : LT) : Prop := (0 ≤ llv r ∧ llv r ≤ 9990000) ∧ (∀ w, 100 ≤ lse r w ∧ lse r w ≤ 5000) ∧ (∀ j, 0 ≤ lef r j ∧ lef r j ≤ 1000) ∧ (0 ≤ les r ∧ les r ≤ 1000) ∧ lld r ≤ 5 ∧ (0 ≤ lsk r ∧ lsk r ≤ 100000000) ∧ (0 ≤ duI (lar r) dy ∧ duI (lar r) dy ≤ 100000000)
def iOK (r : IT) : Prop := (0 < ipk r ∧ ipk r ≤ 50) ∧ (0 ≤ ist r ∧ ist r ≤ 99999)
theorem rqL_rng {dy : Nat} {pct pk : Int} {r : LT} (h : lOK dy r) (hpc : 1 ≤ pct ∧ pct ≤ 100) (hp : 0 < pk ∧ pk ≤ 50) : 0 ≤ rqL dy pct pk r ∧ rqL dy pct pk r ≤ 1000000 := by
  obtain ⟨h1, h2, h3, h4, h5, h6, h7⟩ := h
  unfold rqL
  refine rqI_rng ?_ hp
  have hfc : 0 ≤ fcI (llv r) (lse r) dy (lld r + 1) ∧ fcI (llv r) (lse r) dy (lld r + 1) ≤ 299700000 := by
    have h9 := smI_le (f := fun j => thI (llv r) (lse r) (dy + j)) (B := 49950000) (fun j => ⟨(thI_rng h1 h2).1, (thI_rng h1 h2).2.1⟩) (lld r + 1)
    unfold fcI; omega
  have hsf := sfI_rng (er := lef r) (es := les r) (pct := pct) 21 0 rfl
  unfold ndI; omega
theorem rqA_rng {dy : Nat} {pct : Int} {cr : Nat → Bool} {IR : Nat → IT} {LR : Nat → LT} {tn n : Nat} (h : ∀ s, lOK dy (LR (s * 5 + tn))) (hpc : 1 ≤ pct ∧ pct ≤ 100) (hp : iOK (IR tn)) (j : Nat) : 0 ≤ rqA dy pct cr IR LR tn n j ∧ rqA dy pct cr IR LR tn n j ≤ 1000000 := by
  unfold rqA
  split
  · exact rqL_rng (h j) hpc hp.1
  · omega
/-- the packs that leave for a shop -/
def sntI (cr : Nat → Bool) (rq : Nat → Int) (pn : Int) (tn j : Nat) : Int := if cr (j * 5 + tn) = true then ctI rq pn j 32 0 (rq j) else 0
def sndR (dy : Nat) (u : Int) (r : LT) : LT := lmk (lld r) (lfd r) (lfk r) (lfv r) (les r) (lsk r) (lso r) (llo r) (llv r) (lse r) (lef r) (ldm r) (lsl r) (upI (lar r) (dy + lld r) (lar r (dy + lld r) + u))
def giR (dy : Nat) (P : Int) (r : IT) : IT := imk (ipk r) (ifs r) (ist r - P * ipk r) (iti r) (upI (igo r) dy (igo r dy + P * ipk r)) (ipr r)
def sdL (dy : Nat) (pk : Int) (cr : Nat → Bool) (rq : Nat → Int) (pn : Int) (tn : Nat) (LR : Nat → LT) (n : Nat) : Nat → LT := fun a => if a % 5 = tn ∧ a / 5 < n ∧ cr a = true then sndR dy (ctI rq pn (a / 5) 32 0 (rq (a / 5)) * pk) (LR a) else LR a
theorem giR_0 {dy : Nat} {r : IT} : giR dy 0 r = r := by
  obtain ⟨a, b, c, d, e, f⟩ := r
  simp only [giR, imk, ipk, ifs, ist, iti, igo, ipr, Int.zero_mul, Int.sub_zero, Int.add_zero]
  rw [upI_id rfl]
theorem giR_giR {dy : Nat} {a b : Int} {r : IT} : giR dy b (giR dy a r) = giR dy (a + b) r := by
  obtain ⟨a1, b1, c1, d1, e1, f1⟩ := r
  simp only [giR, imk, ipk, ifs, ist, iti, igo, ipr, upI_same, upI_upI]
  rw [show c1 - a * a1 - b * a1 = c1 - (a + b) * a1 from by rw [Int.add_mul]; omega, show e1 dy + a * a1 + b * a1 = e1 dy + (a + b) * a1 from by rw [Int.add_mul]; omega]
theorem upR_upR {α : Type} {f : Nat → α} {k : Nat} {v w : α} : upR (upR f k v) k w = upR f k w := by funext j; simp only [upR]; split <;> rfl
section SDL
variable {dy : Nat} {pk : Int} {cr : Nat → Bool} {rq : Nat → Int} {pn : Int} {tn n : Nat} {LR : Nat → LT}
theorem sdL_0 : sdL dy pk cr rq pn tn LR 0 = LR := by funext a; simp [sdL]
theorem sdL_n : sdL dy pk cr rq pn tn LR n (n * 5 + tn) = LR (n * 5 + tn) := by
  simp only [sdL]
  by_cases h : (n * 5 + tn) % 5 = tn
  · rw [if_neg]; intro h2; omega
  · rw [if_neg]; intro h2; exact h h2.1
theorem sdL_up (ht : tn < 5) (h : cr (n * 5 + tn) = true) : upR (sdL dy pk cr rq pn tn LR n) (n * 5 + tn) (sndR dy (ctI rq pn n 32 0 (rq n) * pk) (LR (n * 5 + tn))) = sdL dy pk cr rq pn tn LR (n + 1) := by
  funext j
  simp only [upR, sdL]
  by_cases e : j = n * 5 + tn
  · subst e
    rw [if_pos rfl, if_pos ⟨by omega, by omega, h⟩, show (n * 5 + tn) / 5 = n from by omega]
  · rw [if_neg e]
    by_cases h2 : j % 5 = tn ∧ j / 5 < n ∧ cr j = true
    · rw [if_pos h2, if_pos ⟨h2.1, by omega, h2.2.2⟩]
    · rw [if_neg h2, if_neg (fun h3 => h2 ⟨h3.1, by omega, h3.2.2⟩)]
theorem sdL_no (ht : tn < 5) (h : ¬ cr (n * 5 + tn) = true) : sdL dy pk cr rq pn tn LR n = sdL dy pk cr rq pn tn LR (n + 1) := by
  funext j
  simp only [sdL]
  by_cases e : j = n * 5 + tn
  · subst e
    rw [if_neg (by omega), if_neg (fun h3 => h h3.2.2)]
  · by_cases h2 : j % 5 = tn ∧ j / 5 < n ∧ cr j = true
    · rw [if_pos h2, if_pos ⟨h2.1, by omega, h2.2.2⟩]
    · rw [if_neg h2, if_neg (fun h3 => h2 ⟨h3.1, by omega, h3.2.2⟩)]
end SDL
theorem pk_rng {r : IT} (h : iOK r) : 0 ≤ ist r / ipk r ∧ ist r / ipk r ≤ 1000000 := by
  have h1 := div_rng (a := ist r) (b := ipk r) h.2.1 h.1.1
  have h2 := h.2.2
  omega
