/-! a line: the class's record, and what the reference holds -/
theorem smI_upl {f : Nat → Int} {n : Nat} {x : Int} : smI (upI f n (f n + x)) (n + 1) = smI f (n + 1) + x := by
  simp only [smI]
  rw [upI_same, smI_congr (f := upI f n (f n + x)) (g := f) (fun j hj => upI_ne (by omega))]
  omega
theorem smI_upa {f : Nat → Int} {n k : Nat} {v : Int} (h : n ≤ k) : smI (upI f k v) n = smI f n := smI_congr (fun j hj => upI_ne (by omega))
theorem smI_up1 {f : Nat → Int} {k : Nat} {x : Int} : ∀ n : Nat, k < n → smI (upI f k (f k + x)) n = smI f n + x
  | 0, h => absurd h (Nat.not_lt_zero _)
  | n + 1, h => by
    by_cases e : k = n
    · subst e; exact smI_upl
    · simp only [smI]
      rw [smI_up1 n (by omega), upI_ne (show n ≠ k by omega)]
      omega
theorem rpS_congr {v0 : Int} {pm pm' dm dm' l l' s s' : Nat → Int} {fd : Nat} : ∀ n : Nat, (∀ j, fd ≤ j → j < fd + n → pm j = pm' j ∧ dm j = dm' j ∧ l j = l' j ∧ s j = s' j) → rpS v0 pm dm l s fd n = rpS v0 pm' dm' l' s' fd n
  | 0, _ => rfl
  | n + 1, h => by
    have ih := rpS_congr (v0 := v0) n (fun j a b => h j a (by omega))
    obtain ⟨h1, h2, h3, h4⟩ := h (fd + n) (by omega) (by omega)
    simp only [rpS, rpA]
    rw [ih, h1, h2, h3, h4]
def LI (dy ld : Nat) (lrf srf pr : Nat → Int) (r : LT) (s v : Int) (n e : Nat → Int) (ak o t : Int) (d : Nat → Int) : Prop :=
  (lld r = ld ∧ 1 ≤ ld ∧ ld ≤ 5 ∧ lfd r ≤ dy) ∧ (0 ≤ lfk r ∧ lfk r ≤ 999 ∧ 0 ≤ lfv r ∧ lfv r ≤ 99999) ∧
  (∀ j, 0 ≤ ldm r j ∧ ldm r j ≤ 999) ∧ (∀ j, dy < j → ldm r j = 0) ∧ (∀ j, 0 ≤ lsl r j ∧ lsl r j ≤ ldm r j) ∧
  (∀ j, 0 ≤ lar r j ∧ lar r j ≤ 99999) ∧ (∀ j, dy + ld < j → lar r j = 0) ∧
  (0 ≤ lsk r ∧ lsk r = lfk r + smI (lar r) (dy + 1) - smI (lsl r) (dy + 1)) ∧
  ((∀ k, 0 ≤ lef r k ∧ lef r k ≤ les r) ∧ les r = smI (lef r) 21 ∧ les r ≤ (dy : Int) - (lfd r : Int)) ∧
  ((llv r, lse r) = rpS (lfv r) pr (ldm r) lrf srf (lfd r) (dy - lfd r)) ∧
  (0 ≤ lso r ∧ 0 ≤ llo r ∧ lso r + llo r = smI (ldm r) (dy + 1)) ∧
  (s = lsk r ∧ v = llv r ∧ ak = ldm r dy ∧ o = lso r ∧ t = llo r) ∧
  (∀ w, w < 7 → n w = lse r w) ∧ (∀ k, k < 21 → e k = lef r k) ∧
  (d (dy % 8) = 0 ∧ ∀ j, 1 ≤ j → j < 8 → d ((dy + j) % 8) = lar r (dy + j))
section LIS
variable {dy ld : Nat} {lrf srf pr : Nat → Int} {r : LT} {s v : Int} {n e : Nat → Int} {ak o t : Int} {d : Nat → Int}
theorem LI_rp (h : LI dy ld lrf srf pr r s v n e ak o t d) (hl : ∀ j, 0 ≤ lrf j ∧ lrf j ≤ 100) : (0 ≤ llv r ∧ llv r ≤ 9990000) ∧ (∀ w, 100 ≤ lse r w ∧ lse r w ≤ 5000) := by
  obtain ⟨h1, h2, h3, h4, h5, h6, h7, h8, h9, h10, h11, h12, h13, h14, h15⟩ := h
  have h := rpS_rng (v0 := lfv r) (pm := pr) (dm := ldm r) (lrf := lrf) (srf := srf) (fd := lfd r) (by omega) h3 hl (dy - lfd r)
  rw [← h10] at h
  exact h
theorem LI_du (h : LI dy ld lrf srf pr r s v n e ak o t d) : smI d 8 = duI (lar r) dy := by
  obtain ⟨h1, h2, h3, h4, h5, h6, h7, h8, h9, h10, h11, h12, h13, h14, h15⟩ := h
  exact du8 h15.1 h15.2 (h7 _ (by omega)) (h7 _ (by omega))
theorem LI_ok (h : LI dy ld lrf srf pr r s v n e ak o t d) (hd : dy ≤ 999) (hl : ∀ j, 0 ≤ lrf j ∧ lrf j ≤ 100) : lOK dy r := by
  have hr := LI_rp h hl
  obtain ⟨h1, h2, h3, h4, h5, h6, h7, h8, h9, h10, h11, h12, h13, h14, h15⟩ := h
  have a1 := smI_le (f := lar r) (B := 99999) h6 (dy + 1)
  have a2 := smI_le (f := lsl r) (B := 999) (fun j => ⟨(h5 j).1, by have := h5 j; have := h3 j; omega⟩) (dy + 1)
  have a3 := smI_le (f := fun j => lar r (dy + (j + 1))) (B := 99999) (fun j => h6 _) 5
  refine ⟨hr.1, hr.2, fun j => ?_, ?_, by omega, ?_, ?_⟩
  · have := h9.1 j; omega
  · have := h9.1 0; omega
  · omega
  · unfold duI; omega
theorem LI_fd (h : LI dy ld lrf srf pr r s v n e ak o t d) : fdI (fun x => d (x % 8)) dy 1 7 = fdI (lar r) dy 1 5 := by
  obtain ⟨h1, h2, h3, h4, h5, h6, h7, h8, h9, h10, h11, h12, h13, h14, h15⟩ := h
  rw [fdI_congr (ar' := lar r) 7 1 (fun j a b => h15.2 j a (by omega))]
  exact fdI_ext 5 1 2 (fun j a b => by rw [h7 (dy + j) (by omega)]; omega)
/-- units are sold, or lost -/
theorem LI_sell (h : LI dy ld lrf srf pr r s v n e ak o t d) {un : Int} (hu : 1 ≤ un ∧ ldm r dy + un ≤ 999) : LI dy ld lrf srf pr (lmk (lld r) (lfd r) (lfk r) (lfv r) (les r) (lsk r - mnI un (lsk r)) (lso r + mnI un (lsk r)) (llo r + (un - mnI un (lsk r))) (llv r) (lse r) (lef r) (upI (ldm r) dy (ldm r dy + un)) (upI (lsl r) dy (lsl r dy + mnI un (lsk r))) (lar r))
    (s - mnI un (lsk r)) v n e (ak + un) (o + mnI un (lsk r)) (t + (un - mnI un (lsk r))) d := by
  obtain ⟨h1, h2, h3, h4, h5, h6, h7, h8, h9, h10, h11, h12, h13, h14, h15⟩ := h
  have hm := @mnI_le un (lsk r)
  have h3d := h3 dy
  have h5d := h5 dy
  refine ⟨h1, h2, fun j => ?_, fun j hj => ?_, fun j => ?_, h6, h7, ⟨?_, ?_⟩, h9, ?_, ⟨?_, ?_, ?_⟩, ⟨?_, h12.2.1, ?_, ?_, ?_⟩, h13, h14, h15⟩
  · show 0 ≤ upI (ldm r) dy (ldm r dy + un) j ∧ upI (ldm r) dy (ldm r dy + un) j ≤ 999
    simp only [upI]; split
    · omega
    · exact h3 j
  · show upI (ldm r) dy (ldm r dy + un) j = 0
    rw [upI_ne (by omega)]; exact h4 j hj
  · show 0 ≤ upI (lsl r) dy (lsl r dy + mnI un (lsk r)) j ∧ upI (lsl r) dy (lsl r dy + mnI un (lsk r)) j ≤ upI (ldm r) dy (ldm r dy + un) j
    simp only [upI]; split
    · omega
    · exact h5 j
  · show 0 ≤ lsk r - mnI un (lsk r); omega
  · show lsk r - mnI un (lsk r) = lfk r + smI (lar r) (dy + 1) - smI (upI (lsl r) dy (lsl r dy + mnI un (lsk r))) (dy + 1)
    rw [smI_upl]; omega
  · show (llv r, lse r) = rpS (lfv r) pr (upI (ldm r) dy (ldm r dy + un)) lrf srf (lfd r) (dy - lfd r)
    rw [h10]
    exact rpS_congr _ (fun j a b => ⟨rfl, (upI_ne (by omega)).symm, rfl, rfl⟩)
  · show 0 ≤ lso r + mnI un (lsk r); omega
  · show 0 ≤ llo r + (un - mnI un (lsk r)); omega
  · show lso r + mnI un (lsk r) + (llo r + (un - mnI un (lsk r))) = smI (upI (ldm r) dy (ldm r dy + un)) (dy + 1)
    rw [smI_upl]; omega
  · show s - mnI un (lsk r) = lsk r - mnI un (lsk r); omega
  · show ak + un = upI (ldm r) dy (ldm r dy + un) dy
    rw [upI_same]; omega
  · show o + mnI un (lsk r) = lso r + mnI un (lsk r); omega
  · show t + (un - mnI un (lsk r)) = llo r + (un - mnI un (lsk r)); omega
end LIS
