/-! a line: the class's record, and what the reference holds -/
theorem smI_upl {f : Nat → Int} {n : Nat} {x : Int} : smI (upI f n (f n + x)) (n + 1) = smI f (n + 1) + x := by
  simp only [smI]
  rw [upI_same, smI_congr (f := upI f n (f n + x)) (g := f) (fun j hj => upI_ne (by omega))]
  omega
theorem smI_upa {f : Nat → Int} {n k : Nat} {v : Int} (h : n ≤ k) : smI (upI f k v) n = smI f n := smI_congr (fun j hj => upI_ne (by omega))
theorem smI_up1 {f : Nat → Int} {k : Nat} {x : Int} : ∀ n : Nat, k < n → smI (upI f k (f k + x)) n = smI f n + x
  | 0, h => absurd h (Nat.not_lt_zero _)
  | n + 1, h => by
    by_cases e : k = n
    · subst e; exact smI_upl
    · simp only [smI]
      rw [smI_up1 n (by omega), upI_ne (show n ≠ k by omega)]
      omega
theorem rpS_congr {v0 : Int} {pm pm' dm dm' l l' s s' : Nat → Int} {fd : Nat} : ∀ n : Nat, (∀ j, fd ≤ j → j < fd + n → pm j = pm' j ∧ dm j = dm' j ∧ l j = l' j ∧ s j = s' j) → rpS v0 pm dm l s fd n = rpS v0 pm' dm' l' s' fd n
  | 0, _ => rfl
  | n + 1, h => by
    have ih := rpS_congr (v0 := v0) n (fun j a b => h j a (by omega))
    obtain ⟨h1, h2, h3, h4⟩ := h (fd + n) (by omega) (by omega)
    simp only [rpS, rpA]
    rw [ih, h1, h2, h3, h4]
def LI (x dy ld : Nat) (lrf srf pr : Nat → Int) (r : LT) (s v : Int) (n e : Nat → Int) (ak o t : Int) (d : Nat → Int) : Prop :=
  (lld r = ld ∧ 1 ≤ ld ∧ ld ≤ 5 ∧ lfd r ≤ dy) ∧ (0 ≤ lfk r ∧ lfk r ≤ 999 ∧ 0 ≤ lfv r ∧ lfv r ≤ 99999) ∧
  (∀ j, 0 ≤ ldm r j ∧ ldm r j ≤ 999) ∧ (∀ j, dy < j → ldm r j = 0) ∧ (∀ j, 0 ≤ lsl r j ∧ lsl r j ≤ ldm r j) ∧
  (∀ j, 0 ≤ lar r j ∧ lar r j ≤ 99999) ∧ (∀ j, dy + ld < j → lar r j = 0) ∧
  (0 ≤ lsk r ∧ lsk r = lfk r + smI (lar r) (dy + 1) - smI (lsl r) (dy + 1)) ∧
  ((∀ k, 0 ≤ lef r k ∧ lef r k ≤ les r) ∧ les r = smI (lef r) 21 ∧ les r ≤ (dy : Int) - (lfd r : Int) + (x : Int)) ∧
  ((llv r, lse r) = rpS (lfv r) pr (ldm r) lrf srf (lfd r) (dy - lfd r + x)) ∧
  (0 ≤ lso r ∧ 0 ≤ llo r ∧ lso r + llo r = smI (ldm r) (dy + 1)) ∧
  (s = lsk r ∧ v = llv r ∧ ak = ldm r dy ∧ o = lso r ∧ t = llo r) ∧
  (∀ w, w < 7 → n w = lse r w) ∧ (∀ k, k < 21 → e k = lef r k) ∧
  (d (dy % 8) = 0 ∧ ∀ j, 1 ≤ j → j < 8 → d ((dy + j) % 8) = lar r (dy + j))
section LIS
variable {x dy ld : Nat} {lrf srf pr : Nat → Int} {r : LT} {s v : Int} {n e : Nat → Int} {ak o t : Int} {d : Nat → Int}
theorem LI_rp (h : LI x dy ld lrf srf pr r s v n e ak o t d) (hl : ∀ j, 0 ≤ lrf j ∧ lrf j ≤ 100) : (0 ≤ llv r ∧ llv r ≤ 9990000) ∧ (∀ w, 100 ≤ lse r w ∧ lse r w ≤ 5000) := by
  obtain ⟨h1, h2, h3, h4, h5, h6, h7, h8, h9, h10, h11, h12, h13, h14, h15⟩ := h
  have h := rpS_rng (v0 := lfv r) (pm := pr) (dm := ldm r) (lrf := lrf) (srf := srf) (fd := lfd r) (by omega) h3 hl (dy - lfd r + x)
  rw [← h10] at h
  exact h
theorem LI_du (h : LI x dy ld lrf srf pr r s v n e ak o t d) : smI d 8 = duI (lar r) dy := by
  obtain ⟨h1, h2, h3, h4, h5, h6, h7, h8, h9, h10, h11, h12, h13, h14, h15⟩ := h
  exact du8 h15.1 h15.2 (h7 _ (by omega)) (h7 _ (by omega))
theorem LI_ok (h : LI x dy ld lrf srf pr r s v n e ak o t d) (hd : dy ≤ 999) (hx : x ≤ 1) (hl : ∀ j, 0 ≤ lrf j ∧ lrf j ≤ 100) : lOK dy r := by
  have hr := LI_rp h hl
  obtain ⟨h1, h2, h3, h4, h5, h6, h7, h8, h9, h10, h11, h12, h13, h14, h15⟩ := h
  have a1 := smI_le (f := lar r) (B := 99999) h6 (dy + 1)
  have a2 := smI_le (f := lsl r) (B := 999) (fun j => ⟨(h5 j).1, by have := h5 j; have := h3 j; omega⟩) (dy + 1)
  have a3 := smI_le (f := fun j => lar r (dy + (j + 1))) (B := 99999) (fun j => h6 _) 5
  refine ⟨hr.1, hr.2, fun j => ?_, ?_, by omega, ?_, ?_⟩
  · have := h9.1 j; omega
  · have := h9.1 0; omega
  · omega
  · unfold duI; omega
theorem LI_fd (h : LI x dy ld lrf srf pr r s v n e ak o t d) : fdI (fun x => d (x % 8)) dy 1 7 = fdI (lar r) dy 1 5 := by
  obtain ⟨h1, h2, h3, h4, h5, h6, h7, h8, h9, h10, h11, h12, h13, h14, h15⟩ := h
  rw [fdI_congr (ar' := lar r) 7 1 (fun j a b => h15.2 j a (by omega))]
  exact fdI_ext 5 1 2 (fun j a b => by rw [h7 (dy + j) (by omega)]; omega)
/-- units are sold, or lost -/
theorem LI_sell (h : LI 0 dy ld lrf srf pr r s v n e ak o t d) {un : Int} (hu : 1 ≤ un ∧ ldm r dy + un ≤ 999) : LI 0 dy ld lrf srf pr (lmk (lld r) (lfd r) (lfk r) (lfv r) (les r) (lsk r - mnI un (lsk r)) (lso r + mnI un (lsk r)) (llo r + (un - mnI un (lsk r))) (llv r) (lse r) (lef r) (upI (ldm r) dy (ldm r dy + un)) (upI (lsl r) dy (lsl r dy + mnI un (lsk r))) (lar r))
    (s - mnI un (lsk r)) v n e (ak + un) (o + mnI un (lsk r)) (t + (un - mnI un (lsk r))) d := by
  obtain ⟨h1, h2, h3, h4, h5, h6, h7, h8, h9, h10, h11, h12, h13, h14, h15⟩ := h
  have hm := @mnI_le un (lsk r)
  have h3d := h3 dy
  have h5d := h5 dy
  refine ⟨h1, h2, fun j => ?_, fun j hj => ?_, fun j => ?_, h6, h7, ⟨?_, ?_⟩, h9, ?_, ⟨?_, ?_, ?_⟩, ⟨?_, h12.2.1, ?_, ?_, ?_⟩, h13, h14, h15⟩
  · show 0 ≤ upI (ldm r) dy (ldm r dy + un) j ∧ upI (ldm r) dy (ldm r dy + un) j ≤ 999
    simp only [upI]; split
    · omega
    · exact h3 j
  · show upI (ldm r) dy (ldm r dy + un) j = 0
    rw [upI_ne (by omega)]; exact h4 j hj
  · show 0 ≤ upI (lsl r) dy (lsl r dy + mnI un (lsk r)) j ∧ upI (lsl r) dy (lsl r dy + mnI un (lsk r)) j ≤ upI (ldm r) dy (ldm r dy + un) j
    simp only [upI]; split
    · omega
    · exact h5 j
  · show 0 ≤ lsk r - mnI un (lsk r); omega
  · show lsk r - mnI un (lsk r) = lfk r + smI (lar r) (dy + 1) - smI (upI (lsl r) dy (lsl r dy + mnI un (lsk r))) (dy + 1)
    rw [smI_upl]; omega
  · show (llv r, lse r) = rpS (lfv r) pr (upI (ldm r) dy (ldm r dy + un)) lrf srf (lfd r) (dy - lfd r + 0)
    rw [h10]
    exact rpS_congr _ (fun j a b => ⟨rfl, (upI_ne (by omega)).symm, rfl, rfl⟩)
  · show 0 ≤ lso r + mnI un (lsk r); omega
  · show 0 ≤ llo r + (un - mnI un (lsk r)); omega
  · show lso r + mnI un (lsk r) + (llo r + (un - mnI un (lsk r))) = smI (upI (ldm r) dy (ldm r dy + un)) (dy + 1)
    rw [smI_upl]; omega
  · show s - mnI un (lsk r) = lsk r - mnI un (lsk r); omega
  · show ak + un = upI (ldm r) dy (ldm r dy + un) dy
    rw [upI_same]; omega
  · show o + mnI un (lsk r) = lso r + mnI un (lsk r); omega
  · show t + (un - mnI un (lsk r)) = llo r + (un - mnI un (lsk r)); omega

/-- a line learns from a day -/
theorem LI_learn (h : LI 0 dy ld lrf srf pr r s v n e ak o t d) {lrf' srf' : Nat → Int} {lr sr : Int} (hp : pr dy = 0) (ha : ∀ j, j < dy → lrf' j = lrf j ∧ srf' j = srf j) (hb : lrf' dy = lr ∧ srf' dy = sr) {n' e' : Nat → Int}
    (hn : ∀ w, w < 7 → n' w = (if 0 < lvI v (n (dy % 7)) ak lr then upI n (dy % 7) (seI (lvI v (n (dy % 7)) ak lr) (n (dy % 7)) ak sr) else n) w)
    (he : ∀ k, k < 21 → e' k = upI e (erI ak (unI v n dy)).toNat (e (erI ak (unI v n dy)).toNat + 1) k) : LI 1 dy ld lrf' srf' pr (lrnR dy lr sr r) s (lvI v (n (dy % 7)) ak lr) n' e' ak o t d := by
  obtain ⟨h1, h2, h3, h4, h5, h6, h7, h8, h9, h10, h11, h12, h13, h14, h15⟩ := h
  have hw : dy % 7 < 7 := Nat.mod_lt _ (by omega)
  have e1 : v = llv r := h12.2.1
  have e2 : ak = ldm r dy := h12.2.2.1
  have e3 : n (dy % 7) = lse r (dy % 7) := h13 _ hw
  have e4 : unI v n dy = unI (llv r) (lse r) dy := by unfold unI thI; rw [e1, e3]
  have her := erI_rng (ldm r dy) (unI (llv r) (lse r) dy)
  rw [e4, e2] at he
  rw [e1, e2, e3] at hn
  rw [e1, e2, e3]
  refine ⟨h1, h2, h3, h4, h5, h6, h7, h8, ⟨fun k => ?_, ?_, ?_⟩, ?_, h11, ⟨h12.1, rfl, rfl, h12.2.2.2⟩, fun w hw2 => ?_, fun k hk => ?_, h15⟩
  · show 0 ≤ upI (lef r) (erI (ldm r dy) (unI (llv r) (lse r) dy)).toNat (lef r (erI (ldm r dy) (unI (llv r) (lse r) dy)).toNat + 1) k ∧ upI (lef r) (erI (ldm r dy) (unI (llv r) (lse r) dy)).toNat (lef r (erI (ldm r dy) (unI (llv r) (lse r) dy)).toNat + 1) k ≤ les r + 1
    have a1 := h9.1 k
    have a2 := h9.1 (erI (ldm r dy) (unI (llv r) (lse r) dy)).toNat
    simp only [upI]; split <;> omega
  · show les r + 1 = smI (upI (lef r) (erI (ldm r dy) (unI (llv r) (lse r) dy)).toNat (lef r (erI (ldm r dy) (unI (llv r) (lse r) dy)).toNat + 1)) 21
    rw [smI_up1 21 (by omega)]; have := h9.2.1; omega
  · show les r + 1 ≤ (dy : Int) - (lfd r : Int) + ((1 : Nat) : Int)
    have := h9.2.2; omega
  · show (lvI (llv r) (lse r (dy % 7)) (ldm r dy) lr, snI (lvI (llv r) (lse r (dy % 7)) (ldm r dy) lr) (lse r) (dy % 7) (ldm r dy) sr) = rpS (lfv r) pr (ldm r) lrf' srf' (lfd r) (dy - lfd r + 1)
    have hd : lfd r + (dy - lfd r) = dy := by omega
    rw [rpS, hd, if_pos hp, rpS_congr (l' := lrf) (s' := srf) (pm' := pr) (dm' := ldm r) (dy - lfd r) (fun j a b => ⟨rfl, rfl, (ha j (by omega)).1, (ha j (by omega)).2⟩)]
    have h10' : rpS (lfv r) pr (ldm r) lrf srf (lfd r) (dy - lfd r) = (llv r, lse r) := h10.symm
    rw [h10']
    simp only [rpA]
    rw [hb.1, hb.2]
  · show n' w = snI (lvI (llv r) (lse r (dy % 7)) (ldm r dy) lr) (lse r) (dy % 7) (ldm r dy) sr w
    rw [hn w hw2]
    unfold snI
    split
    · simp only [upI]; split
      · rfl
      · exact h13 w hw2
    · exact h13 w hw2
  · show e' k = upI (lef r) _ _ k
    rw [he k hk]
    simp only [upI]
    rw [h14 _ (by omega), h14 k hk]
/-- a day with a promotion teaches nothing -/
theorem LI_skip (h : LI 0 dy ld lrf srf pr r s v n e ak o t d) {lrf' srf' : Nat → Int} (hp : pr dy ≠ 0) (ha : ∀ j, j < dy → lrf' j = lrf j ∧ srf' j = srf j) : LI 1 dy ld lrf' srf' pr r s v n e ak o t d := by
  obtain ⟨h1, h2, h3, h4, h5, h6, h7, h8, h9, h10, h11, h12, h13, h14, h15⟩ := h
  refine ⟨h1, h2, h3, h4, h5, h6, h7, h8, ⟨h9.1, h9.2.1, ?_⟩, ?_, h11, h12, h13, h14, h15⟩
  · have := h9.2.2; omega
  · have hd : lfd r + (dy - lfd r) = dy := by omega
    rw [rpS, hd, if_neg hp, rpS_congr (l' := lrf) (s' := srf) (pm' := pr) (dm' := ldm r) (dy - lfd r) (fun j a b => ⟨rfl, rfl, (ha j (by omega)).1, (ha j (by omega)).2⟩)]
    exact h10
/-- the next day comes, with what is due on it -/
theorem LI_day (h : LI 1 dy ld lrf srf pr r s v n e ak o t d) {d' : Nat → Int} (hd : ∀ x, x < 8 → d' x = if x = (dy + 1) % 8 then 0 else d x) : LI 0 (dy + 1) ld lrf srf pr (rcvR (dy + 1) r) (s + d ((dy + 1) % 8)) v n e 0 o t d' := by
  obtain ⟨h1, h2, h3, h4, h5, h6, h7, h8, h9, h10, h11, h12, h13, h14, h15⟩ := h
  have a1 := h6 (dy + 1)
  have a2 := h4 (dy + 1) (by omega)
  have a3 := h5 (dy + 1)
  have a4 := h15.2 1 (by omega) (by omega)
  refine ⟨⟨h1.1, h1.2.1, h1.2.2.1, ?_⟩, h2, h3, fun j hj => h4 j (by omega), h5, h6, fun j hj => h7 j (by omega), ⟨?_, ?_⟩, ⟨h9.1, h9.2.1, ?_⟩, ?_, ⟨h11.1, h11.2.1, ?_⟩, ⟨?_, h12.2.1, ?_, h12.2.2.2⟩, h13, h14, ?_, fun j j1 j2 => ?_⟩
  · show lfd r ≤ dy + 1; omega
  · show 0 ≤ lsk r + lar r (dy + 1); omega
  · show lsk r + lar r (dy + 1) = lfk r + smI (lar r) (dy + 1 + 1) - smI (lsl r) (dy + 1 + 1)
    have b1 : smI (lar r) (dy + 1 + 1) = smI (lar r) (dy + 1) + lar r (dy + 1) := rfl
    have b2 : smI (lsl r) (dy + 1 + 1) = smI (lsl r) (dy + 1) + lsl r (dy + 1) := rfl
    omega
  · show les r ≤ ((dy + 1 : Nat) : Int) - (lfd r : Int) + ((0 : Nat) : Int)
    have := h9.2.2; omega
  · show (llv r, lse r) = rpS (lfv r) pr (ldm r) lrf srf (lfd r) (dy + 1 - lfd r + 0)
    rw [show dy + 1 - lfd r + 0 = dy - lfd r + 1 from by omega]; exact h10
  · show lso r + llo r = smI (ldm r) (dy + 1 + 1)
    have b1 : smI (ldm r) (dy + 1 + 1) = smI (ldm r) (dy + 1) + ldm r (dy + 1) := rfl
    omega
  · show s + d ((dy + 1) % 8) = lsk r + lar r (dy + 1)
    have := h12.1; omega
  · show 0 = ldm r (dy + 1); omega
  · rw [hd _ (Nat.mod_lt _ (by omega)), if_pos rfl]
  · show d' ((dy + 1 + j) % 8) = lar r (dy + 1 + j)
    rw [hd _ (Nat.mod_lt _ (by omega)), if_neg (by omega)]
    by_cases e7 : j = 7
    · subst e7
      rw [show (dy + 1 + 7) % 8 = dy % 8 from by omega, h15.1, h7 _ (by omega)]
    · rw [show dy + 1 + j = dy + (j + 1) from by omega]
      exact h15.2 (j + 1) (by omega) (by omega)
/-- packs leave for a line -/
theorem LI_send (h : LI 0 dy ld lrf srf pr r s v n e ak o t d) {u : Int} (hu : 0 ≤ u ∧ u ≤ 99999) (hz : lar r (dy + ld) = 0) {d' : Nat → Int} (hd : ∀ x, x < 8 → d' x = if x = (dy + ld) % 8 then d x + u else d x) : LI 0 dy ld lrf srf pr (sndR dy u r) s v n e ak o t d' := by
  obtain ⟨h1, h2, h3, h4, h5, h6, h7, h8, h9, h10, h11, h12, h13, h14, h15⟩ := h
  have el : lld r = ld := h1.1
  have hup : ∀ j, upI (lar r) (dy + lld r) (lar r (dy + lld r) + u) j = if j = dy + ld then u else lar r j := fun j => by
    simp only [upI]; rw [el, hz, Int.zero_add]
  refine ⟨h1, h2, h3, h4, h5, fun j => ?_, fun j hj => ?_, ⟨h8.1, ?_⟩, h9, h10, h11, h12, h13, h14, ?_, fun j j1 j2 => ?_⟩
  · show 0 ≤ upI (lar r) (dy + lld r) (lar r (dy + lld r) + u) j ∧ upI (lar r) (dy + lld r) (lar r (dy + lld r) + u) j ≤ 99999
    rw [hup]; split
    · exact hu
    · exact h6 j
  · show upI (lar r) (dy + lld r) (lar r (dy + lld r) + u) j = 0
    rw [hup, if_neg (by omega)]; exact h7 j hj
  · show lsk r = lfk r + smI (upI (lar r) (dy + lld r) (lar r (dy + lld r) + u)) (dy + 1) - smI (lsl r) (dy + 1)
    rw [smI_upa (by omega)]; exact h8.2
  · rw [hd _ (Nat.mod_lt _ (by omega)), if_neg (by omega)]; exact h15.1
  · show d' ((dy + j) % 8) = upI (lar r) (dy + lld r) (lar r (dy + lld r) + u) (dy + j)
    rw [hup, hd _ (Nat.mod_lt _ (by omega)), h15.2 j j1 j2]
    by_cases e8 : j = ld
    · subst e8; rw [if_pos rfl, if_pos rfl, hz, Int.zero_add]
    · rw [if_neg (by omega), if_neg (by omega)]
/-- a line is new -/
theorem LI_new {lrf srf pr : Nat → Int} {dy ld : Nat} {k f : Int} (hl : 1 ≤ ld ∧ ld ≤ 5) (hk : 0 ≤ k ∧ k ≤ 999) (hf : 0 ≤ f ∧ f ≤ 99999) {n e d : Nat → Int} (hn : ∀ w, w < 7 → n w = 1000) (he : ∀ k, k < 21 → e k = 0) (hd : ∀ x, x < 8 → d x = 0) :
    LI 0 dy ld lrf srf pr (lmk ld dy k f 0 k 0 0 f (fun _ => 1000) (fun _ => 0) (fun _ => 0) (fun _ => 0) (fun _ => 0)) k f n e 0 0 0 d := by
  have hz : ∀ m : Nat, smI (fun _ => 0) m = 0 := fun m => by
    induction m with
    | zero => rfl
    | succ m ih => simp only [smI]; omega
  refine ⟨⟨rfl, hl.1, hl.2, Nat.le_refl _⟩, ⟨hk.1, hk.2, hf.1, hf.2⟩, fun j => ⟨Int.le_refl _, by show (0 : Int) ≤ 999; omega⟩, fun j _ => rfl, fun j => ⟨Int.le_refl _, Int.le_refl _⟩, fun j => ⟨Int.le_refl _, by show (0 : Int) ≤ 99999; omega⟩, fun j _ => rfl, ⟨hk.1, ?_⟩, ⟨fun _ => ⟨Int.le_refl _, Int.le_refl _⟩, (hz 21).symm, ?_⟩, ?_, ⟨Int.le_refl _, Int.le_refl _, (hz _).symm⟩, ⟨rfl, rfl, rfl, rfl, rfl⟩, hn, he, hd _ (Nat.mod_lt _ (by omega)), fun j _ _ => hd _ (Nat.mod_lt _ (by omega))⟩
  · show k = k + smI (fun _ => 0) (dy + 1) - smI (fun _ => 0) (dy + 1)
    omega
  · show (0 : Int) ≤ (dy : Int) - (dy : Int) + ((0 : Nat) : Int); omega
  · show (f, fun _ => 1000) = rpS f pr (fun _ => 0) lrf srf dy (dy - dy + 0)
    rw [show dy - dy + 0 = 0 from by omega]; rfl
end LIS
