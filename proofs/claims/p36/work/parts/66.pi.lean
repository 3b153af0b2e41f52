/-! the class's state alone: out of the two states, the reference's numbers forgotten -/
def PI (sh it dy : Nat) (pct lr sr : Int) (lf lrf srf : Nat → Int) (cr : Nat → Bool) (IR : Nat → IT) (LR : Nat → LT) : Prop :=
  ∃ mL mP mC mI mM mS mV mN mE mA mO mT mD : Nat → Int, JI sh it dy pct lr sr lf lrf srf cr IR LR mL mP mC mI mM mS mV mN mE mA mO mT mD
def CI (dy ld : Nat) (lrf srf pr : Nat → Int) (r : LT) : Prop :=
  (lld r = ld ∧ 1 ≤ ld ∧ ld ≤ 5 ∧ lfd r ≤ dy) ∧ (0 ≤ lfk r ∧ lfk r ≤ 999 ∧ 0 ≤ lfv r ∧ lfv r ≤ 99999) ∧
  (∀ j, 0 ≤ ldm r j ∧ ldm r j ≤ 999) ∧ (∀ j, dy < j → ldm r j = 0) ∧ (∀ j, 0 ≤ lsl r j ∧ lsl r j ≤ ldm r j) ∧
  (∀ j, 0 ≤ lar r j ∧ lar r j ≤ 99999) ∧ (∀ j, dy + ld < j → lar r j = 0) ∧
  (0 ≤ lsk r ∧ lsk r = lfk r + smI (lar r) (dy + 1) - smI (lsl r) (dy + 1)) ∧
  ((∀ k, 0 ≤ lef r k ∧ lef r k ≤ les r) ∧ les r = smI (lef r) 21 ∧ les r ≤ (dy : Int) - (lfd r : Int)) ∧
  ((llv r, lse r) = rpS (lfv r) pr (ldm r) lrf srf (lfd r) (dy - lfd r)) ∧
  (0 ≤ lso r ∧ 0 ≤ llo r ∧ lso r + llo r = smI (ldm r) (dy + 1))
theorem LI_CI {dy ld : Nat} {lrf srf pr : Nat → Int} {r : LT} {s v : Int} {n e : Nat → Int} {ak o t : Int} {d : Nat → Int} (h : LI 0 dy ld lrf srf pr r s v n e ak o t d) : CI dy ld lrf srf pr r := by
  obtain ⟨h1, h2, h3, h4, h5, h6, h7, h8, h9, h10, h11, -⟩ := h
  exact ⟨h1, h2, h3, h4, h5, h6, h7, h8, ⟨h9.1, h9.2.1, by have := h9.2.2; omega⟩, h10, h11⟩
section PIS
variable {sh it dy : Nat} {pct lr sr : Int} {lf lrf srf : Nat → Int} {cr : Nat → Bool} {IR : Nat → IT} {LR : Nat → LT}
theorem PI_1 (h : PI sh it dy pct lr sr lf lrf srf cr IR LR) : (sh ≤ 4 ∧ it ≤ 5 ∧ dy ≤ 600) ∧ 1 ≤ pct ∧ pct ≤ 100 ∧ 0 ≤ lr ∧ lr ≤ 100 ∧ 0 ≤ sr ∧ sr ≤ 100 := by
  obtain ⟨_, _, _, _, _, _, _, _, _, _, _, _, _, h⟩ := h
  exact ⟨h.1, h.2.1⟩
theorem PI_lOK (h : PI sh it dy pct lr sr lf lrf srf cr IR LR) (a : Nat) : lOK dy (LR a) := by
  obtain ⟨_, _, _, _, _, _, _, _, _, _, _, _, _, h⟩ := h
  exact JI_lOK h a
theorem PI_iOK (h : PI sh it dy pct lr sr lf lrf srf cr IR LR) (i : Nat) : iOK (IR i) := by
  obtain ⟨_, _, _, _, _, _, _, _, _, _, _, _, _, h⟩ := h
  exact JI_iOK h i
theorem PI_pr (h : PI sh it dy pct lr sr lf lrf srf cr IR LR) (i j : Nat) : 0 ≤ ipr (IR i) j ∧ ipr (IR i) j ≤ 1 := by
  obtain ⟨_, _, _, _, _, _, _, _, _, _, _, _, _, h⟩ := h
  exact JI_pr h i j
theorem PI_lf (h : PI sh it dy pct lr sr lf lrf srf cr IR LR) {s : Nat} (hs : s < sh) : 1 ≤ lf s ∧ lf s ≤ 5 := by
  obtain ⟨_, _, _, _, _, _, _, _, _, _, _, _, _, h⟩ := h
  exact ((h.2.2.1 s).1 hs).2
theorem PI_lrf (h : PI sh it dy pct lr sr lf lrf srf cr IR LR) (j : Nat) : (0 ≤ lrf j ∧ lrf j ≤ 100) ∧ (0 ≤ srf j ∧ srf j ≤ 100) := by
  obtain ⟨_, _, _, _, _, _, _, _, _, _, _, _, _, h⟩ := h
  have := h.2.2.2.1 j
  omega
theorem PI_it (h : PI sh it dy pct lr sr lf lrf srf cr IR LR) {i : Nat} (hi : i < it) : ist (IR i) = ifs (IR i) + smI (iti (IR i)) (dy + 1) - smI (igo (IR i)) (dy + 1) := by
  obtain ⟨_, _, _, _, _, _, _, _, _, _, _, _, _, h⟩ := h
  exact ((h.2.2.2.2.1 i).1 hi).2.2.1
theorem PI_CI (h : PI sh it dy pct lr sr lf lrf srf cr IR LR) {a : Nat} (hc : cr a = true) : a < 20 ∧ a % 5 < it ∧ a / 5 < sh ∧ CI dy (lf (a / 5)).toNat lrf srf (ipr (IR (a % 5))) (LR a) := by
  obtain ⟨_, _, _, _, _, _, _, _, _, _, _, _, _, h⟩ := h
  obtain ⟨g1, g2, g3, g4⟩ := h.2.2.2.2.2.2.1 a hc
  exact ⟨g1, g2, g3, LI_CI g4⟩
theorem PI_nc (h : PI sh it dy pct lr sr lf lrf srf cr IR LR) {a : Nat} (hc : ¬ cr a = true) : LR a = l0R := by
  obtain ⟨_, _, _, _, _, _, _, _, _, _, _, _, _, h⟩ := h
  exact (h.2.2.2.2.2.2.2 a hc).1
theorem PI_ldm (h : PI sh it dy pct lr sr lf lrf srf cr IR LR) (a j : Nat) : 0 ≤ ldm (LR a) j ∧ ldm (LR a) j ≤ 999 := by
  by_cases hc : cr a = true
  · exact (PI_CI h hc).2.2.2.2.2.1 j
  · rw [PI_nc h hc]
    exact ⟨Int.le_refl _, by show (0 : Int) ≤ 999; omega⟩
theorem PI_ci (h : PI sh it dy pct lr sr lf lrf srf cr IR LR) (a : Nat) (hc : cr a = true) : a % 5 < it ∧ a / 5 < sh := ⟨(PI_CI h hc).2.1, (PI_CI h hc).2.2.1⟩
/-! steps -/
theorem PI_0 : PI 0 0 0 90 20 10 (fun _ => 0) (fun _ => 0) (fun _ => 0) (fun _ => false) (fun _ => i0R) (fun _ => l0R) := ⟨_, _, _, _, _, _, _, _, _, _, _, _, _, JI_0⟩
theorem PI_set (h : PI sh it dy pct lr sr lf lrf srf cr IR LR) {pct' lr' sr' : Int} (h2 : 1 ≤ pct' ∧ pct' ≤ 100 ∧ 0 ≤ lr' ∧ lr' ≤ 100 ∧ 0 ≤ sr' ∧ sr' ≤ 100) : PI sh it dy pct' lr' sr' lf lrf srf cr IR LR := by
  obtain ⟨_, _, _, _, _, _, _, _, _, _, _, _, _, h⟩ := h
  exact ⟨_, _, _, _, _, _, _, _, _, _, _, _, _, JI_set h h2⟩
theorem PI_shop (h : PI sh it dy pct lr sr lf lrf srf cr IR LR) {z : Int} (hz : 1 ≤ z ∧ z ≤ 5) (hs : sh < 4) : PI (sh + 1) it dy pct lr sr (upI lf sh z) lrf srf cr IR LR := by
  obtain ⟨_, _, _, _, _, _, _, _, _, _, _, _, _, h⟩ := h
  exact ⟨_, _, _, _, _, _, _, _, _, _, _, _, _, JI_shop h hz hs⟩
theorem PI_item (h : PI sh it dy pct lr sr lf lrf srf cr IR LR) {p k : Int} (hp : 1 ≤ p ∧ p ≤ 50) (hk : 0 ≤ k ∧ k ≤ 9999) (hi : it < 5) : PI sh (it + 1) dy pct lr sr lf lrf srf cr (upR IR it (imk p k k (fun _ => 0) (fun _ => 0) (fun _ => 0))) LR := by
  obtain ⟨_, _, _, _, _, _, _, _, _, _, _, _, _, h⟩ := h
  exact ⟨_, _, _, _, _, _, _, _, _, _, _, _, _, JI_item h hp hk hi⟩
theorem PI_supply (h : PI sh it dy pct lr sr lf lrf srf cr IR LR) {i : Nat} {u : Int} (hi : i < it) (hu : 1 ≤ u ∧ ist (IR i) + u ≤ 99999) : PI sh it dy pct lr sr lf lrf srf cr (upR IR i (imk (ipk (IR i)) (ifs (IR i)) (ist (IR i) + u) (upI (iti (IR i)) dy (iti (IR i) dy + u)) (igo (IR i)) (ipr (IR i)))) LR := by
  obtain ⟨_, _, _, _, _, _, _, _, _, _, _, _, _, h⟩ := h
  exact ⟨_, _, _, _, _, _, _, _, _, _, _, _, _, JI_supply h hi hu⟩
theorem PI_mark (h : PI sh it dy pct lr sr lf lrf srf cr IR LR) {i z : Nat} (hi : i < it) (hz : dy ≤ z ∧ z < 1000) : PI sh it dy pct lr sr lf lrf srf cr (upR IR i (imk (ipk (IR i)) (ifs (IR i)) (ist (IR i)) (iti (IR i)) (igo (IR i)) (upI (ipr (IR i)) z 1))) LR := by
  obtain ⟨_, _, _, _, _, _, _, _, _, _, _, _, _, h⟩ := h
  exact ⟨_, _, _, _, _, _, _, _, _, _, _, _, _, JI_mark h hi hz⟩
/-- a line that has sold -/
def sllR (dy : Nat) (un : Int) (r : LT) : LT := lmk (lld r) (lfd r) (lfk r) (lfv r) (les r) (lsk r - mnI un (lsk r)) (lso r + mnI un (lsk r)) (llo r + (un - mnI un (lsk r))) (llv r) (lse r) (lef r) (upI (ldm r) dy (ldm r dy + un)) (upI (lsl r) dy (lsl r dy + mnI un (lsk r))) (lar r)
theorem PI_demand (h : PI sh it dy pct lr sr lf lrf srf cr IR LR) {a : Nat} {un : Int} (hc : cr a = true) (hu : 1 ≤ un ∧ ldm (LR a) dy + un ≤ 999) : PI sh it dy pct lr sr lf lrf srf cr IR (upR LR a (sllR dy un (LR a))) := by
  obtain ⟨_, _, _, _, _, _, _, _, _, _, _, _, _, h⟩ := h
  exact ⟨_, _, _, _, _, _, _, _, _, _, _, _, _, JI_demand h hc hu⟩
/-- a new line -/
def newR (ld dy : Nat) (k f : Int) : LT := lmk ld dy k f 0 k 0 0 f (fun _ => 1000) (fun _ => 0) (fun _ => 0) (fun _ => 0) (fun _ => 0)
theorem PI_carry (h : PI sh it dy pct lr sr lf lrf srf cr IR LR) {s i : Nat} (hs : s < sh) (hi : i < it) (hc : ¬ cr (s * 5 + i) = true) {k f : Int} (hk : 0 ≤ k ∧ k ≤ 999) (hf : 0 ≤ f ∧ f ≤ 99999) :
    PI sh it dy pct lr sr lf lrf srf (upR cr (s * 5 + i) true) IR (upR LR (s * 5 + i) (newR (lf s).toNat dy k f)) := by
  obtain ⟨_, _, _, _, _, _, _, mN, _, _, _, _, _, h⟩ := h
  exact ⟨_, _, _, _, _, _, _, _, _, _, _, _, _, JI_carry h hs hi hc hk hf (mN' := flAt mN (7 * (s * 5 + i)) 1000 7) (fun _ => rfl)⟩
/-- the lines behind a night's first half -/
abbrev LRn (dy : Nat) (lr sr : Int) (cr : Nat → Bool) (IR : Nat → IT) (LR : Nat → LT) : Nat → LT := qS cr (rcvR (dy + 1)) (qS (cL cr IR dy) (lrnR dy lr sr) LR 20) 20
theorem PI_night (h : PI sh it dy pct lr sr lf lrf srf cr IR LR) (hd : dy < 600) (rq : Nat → Int) (pn : Int) :
    PI sh it (dy + 1) pct lr sr lf (upI lrf dy (lrf dy + lr)) (upI srf dy (srf dy + sr)) cr (ntS (dy + 1) pct cr sh (IR, LRn dy lr sr cr IR LR, rq, pn, 0) it).1 (ntS (dy + 1) pct cr sh (IR, LRn dy lr sr cr IR LR, rq, pn, 0) it).2.1 ∧
    (∀ a, cr a = true → ldm ((ntS (dy + 1) pct cr sh (IR, LRn dy lr sr cr IR LR, rq, pn, 0) it).2.1 a) (dy + 1) = 0) ∧
    (0 ≤ (ntS (dy + 1) pct cr sh (IR, LRn dy lr sr cr IR LR, rq, pn, 0) it).2.2.2.2 ∧ (ntS (dy + 1) pct cr sh (IR, LRn dy lr sr cr IR LR, rq, pn, 0) it).2.2.2.2 ≤ 99999 * (it : Int)) ∧
    (∀ a, lOK (dy + 1) (LRn dy lr sr cr IR LR a)) := by
  obtain ⟨_, _, _, _, _, _, _, _, _, mA, _, _, _, h⟩ := h
  have hnt := JI_sends (JI_day h hd) (JI_hu h) rq (fun _ => 0) (fun _ => 0) pn it (Nat.le_refl _)
  refine ⟨⟨_, _, _, _, _, _, _, _, _, _, _, _, _, hnt.1⟩, fun a hc => ?_, JI_cnt (JI_day h hd) (JI_hu h) rq pn it (Nat.le_refl _), JI_lOK (JI_day h hd)⟩
  obtain ⟨g1, -, -, g4⟩ := hnt.1.2.2.2.2.2.2.1 a hc
  have g5 := g4.2.2.2.2.2.2.2.2.2.2.2.1.2.2.1
  have g6 : flI mA 0 20 a = 0 := by simp only [flI]; rw [if_pos g1]
  rw [g6] at g5
  exact g5.symm
end PIS
/-! which line, which answer -/
def cdK (sh it : Nat) (cr : Nat → Bool) (zs zi : Int) : Nat := if (0 ≤ zs ∧ zs < (sh : Int)) ∧ (0 ≤ zi ∧ zi < (it : Int)) then (if cr (zs * 5 + zi).toNat = true then 0 else 2) else 1
theorem cdL_cdK {sh it : Nat} {cr : Nat → Bool} {LA : Nat → Nat → Nat} (zs zi : Int) : cdL sh it (lnq cr LA) zs zi = cdK sh it cr zs zi := by
  unfold cdL cdK
  split
  · unfold lnq
    by_cases hc : cr (zs * 5 + zi).toNat = true
    · rw [if_pos hc, if_neg (by simp), if_pos hc]
    · rw [if_neg hc, if_pos rfl, if_neg hc]
  · rfl
theorem cdK_le (sh it : Nat) (cr : Nat → Bool) (zs zi : Int) : cdK sh it cr zs zi = 0 ∨ cdK sh it cr zs zi = 1 ∨ cdK sh it cr zs zi = 2 := by
  unfold cdK
  split
  · split
    · exact Or.inl rfl
    · exact Or.inr (Or.inr rfl)
  · exact Or.inr (Or.inl rfl)
theorem cdK_ok {sh it : Nat} {cr : Nat → Bool} {zs zi : Int} (h : cdK sh it cr zs zi = 0) : ∃ sn tn : Nat, zs = ((sn : Nat) : Int) ∧ zi = ((tn : Nat) : Int) ∧ sn < sh ∧ tn < it ∧ cr (sn * 5 + tn) = true := by
  unfold cdK at h
  split at h
  · rename_i h1
    split at h
    · rename_i h2
      refine ⟨zs.toNat, zi.toNat, by omega, by omega, by omega, by omega, ?_⟩
      rwa [show (zs * 5 + zi).toNat = zs.toNat * 5 + zi.toNat from by omega] at h2
    · omega
  · omega
theorem cdK_0 {sh it : Nat} {cr : Nat → Bool} {sn tn : Nat} (hs : sn < sh) (ht : tn < it) (hc : cr (sn * 5 + tn) = true) : cdK sh it cr ((sn : Nat) : Int) ((tn : Nat) : Int) = 0 := by
  unfold cdK
  rw [if_pos (by omega), ix5, if_pos hc]
theorem cdK_2 {sh it : Nat} {cr : Nat → Bool} {sn tn : Nat} (hs : sn < sh) (ht : tn < it) (hc : ¬ cr (sn * 5 + tn) = true) : cdK sh it cr ((sn : Nat) : Int) ((tn : Nat) : Int) = 2 := by
  unfold cdK
  rw [if_pos (by omega), ix5, if_neg hc]
def qC (c : Nat) (v : Int) : Int := if c = 0 then v else exv c
theorem q0 {c : Nat} {v : Int} (h : c = 0) : qC c v = v := if_pos h
theorem qn {c : Nat} {v : Int} (h : ¬ c = 0) : qC c v = exv c := if_neg h
theorem qC_rng {c : Nat} {v B : Int} (hB : 79 ≤ B) (h : c = 0 → -B ≤ v ∧ v ≤ B) : -B ≤ qC c v ∧ qC c v ≤ B := by
  unfold qC
  split
  · rename_i e; exact h e
  · have := exv_rng c; omega
/-! what a line answers -/
def ndL (dy : Nat) (pct : Int) (r : LT) : Int := ndI (llv r) (lse r) (lef r) (les r) pct (lsk r) (lar r) dy (lld r)
/-- a line's share -/
def shF (dy : Nat) (pct : Int) (cr : Nat → Bool) (IR : Nat → IT) (LR : Nat → LT) (sh tn sn : Nat) : Int := ctI (rqA dy pct cr IR LR tn sh) (ist (IR tn) / ipk (IR tn)) sn 32 0 (rqA dy pct cr IR LR tn sh sn)
def nxC (fd : Int) : Nat := if fd < 0 then 2 else 0
theorem lOK_nd {dy : Nat} {pct : Int} {r : LT} (h : lOK dy r) (hpc : 1 ≤ pct ∧ pct ≤ 100) : -1000000000 ≤ ndL dy pct r ∧ ndL dy pct r ≤ 1000000 := by
  obtain ⟨h1, h2, h3, h4, h5, h6, h7⟩ := h
  have hfc : 0 ≤ fcI (llv r) (lse r) dy (lld r + 1) ∧ fcI (llv r) (lse r) dy (lld r + 1) ≤ 299700000 := by
    have h9 := smI_le (f := fun j => thI (llv r) (lse r) (dy + j)) (B := 49950000) (fun j => ⟨(thI_rng h1 h2).1, (thI_rng h1 h2).2.1⟩) (lld r + 1)
    unfold fcI; omega
  have hsf := sfI_rng (er := lef r) (es := les r) (pct := pct) 21 0 rfl
  unfold ndL ndI; omega
section FACTS
variable {sh it dy : Nat} {pct lr sr : Int} {lf lrf srf : Nat → Int} {cr : Nat → Bool} {IR : Nat → IT} {LR : Nat → LT}
theorem PI_rq (h : PI sh it dy pct lr sr lf lrf srf cr IR LR) (tn j : Nat) : 0 ≤ rqA dy pct cr IR LR tn sh j ∧ rqA dy pct cr IR LR tn sh j ≤ 1000000 :=
  rqA_rng (cr := cr) (n := sh) (IR := IR) (LR := LR) (tn := tn) (fun s => PI_lOK h (s * 5 + tn)) (by have := PI_1 h; omega) (PI_iOK h tn) j
theorem PI_gr (h : PI sh it dy pct lr sr lf lrf srf cr IR LR) (tn : Nat) {sn : Nat} (hs : sn < 4) : shF dy pct cr IR LR sh tn sn = grI (rqA dy pct cr IR LR tn sh) (ist (IR tn) / ipk (IR tn)).toNat sn :=
  ctI_gr (fun j => PI_rq h tn j) (pk_rng (PI_iOK h tn)).1 hs
theorem PI_sh (h : PI sh it dy pct lr sr lf lrf srf cr IR LR) (tn : Nat) {sn : Nat} (hs : sn < 4) : 0 ≤ shF dy pct cr IR LR sh tn sn ∧ shF dy pct cr IR LR sh tn sn ≤ rqA dy pct cr IR LR tn sh sn ∧ shF dy pct cr IR LR sh tn sn ≤ 1000000 := by
  have h1 := grI_rng (fun j => (PI_rq h tn j).1) (ist (IR tn) / ipk (IR tn)).toNat sn
  have h2 := (PI_rq h tn sn).2
  rw [PI_gr h tn hs]
  omega
end FACTS
/-- all units -/
def UTI (it : Nat) (IR : Nat → IT) (cr : Nat → Bool) (LR : Nat → LT) (dy : Nat) : Int := smI (uiF it IR) 5 + smI (ulF cr LR dy) 20
