/-! what the law asks of a state: sums, arrivals, errors, shares -/
/-- the law's sum over a state, line by line -/
def suS (it dy : Nat) (pct : Int) (cr : Nat → Bool) (IR : Nat → IT) (LR : Nat → LT) (sh : Nat) : Nat → Int
  | 0 => ((dy : Nat) : Int) + 31 * UTI it IR cr LR dy
  | i + 1 => (((((((31 * (suS it dy pct cr IR LR sh i)) + (qC (cdK sh it cr (((i / 2) : Nat) : Int) (((i % 2) : Nat) : Int)) (lsk (LR ((((i / 2) : Nat) : Int) * 5 + (((i % 2) : Nat) : Int)).toNat)))) + (7 * (qC (cdK sh it cr (((i / 2) : Nat) : Int) (((i % 2) : Nat) : Int)) (llv (LR ((((i / 2) : Nat) : Int) * 5 + (((i % 2) : Nat) : Int)).toNat))))) + (11 * (qC (cdK sh it cr (((i / 2) : Nat) : Int) (((i % 2) : Nat) : Int)) (shF dy pct cr IR LR sh (((i % 2) : Nat) : Int).toNat (((i / 2) : Nat) : Int).toNat)))) + (13 * (qC (cdK sh it cr (((i / 2) : Nat) : Int) (((i % 2) : Nat) : Int)) (ndL dy pct (LR ((((i / 2) : Nat) : Int) * 5 + (((i % 2) : Nat) : Int)).toNat))))) + (17 * (qC (cdK sh it cr (((i / 2) : Nat) : Int) (((i % 2) : Nat) : Int)) (duI (lar (LR ((((i / 2) : Nat) : Int) * 5 + (((i % 2) : Nat) : Int)).toNat)) dy)))) + (qC (cdK sh it cr (((i / 2) : Nat) : Int) (((i % 2) : Nat) : Int)) (ldm (LR ((((i / 2) : Nat) : Int) * 5 + (((i % 2) : Nat) : Int)).toNat) dy))) + (ist (IR (i % 2)))
theorem fdI_sp {ar : Nat → Int} {d : Nat} : ∀ n k : Nat, (fdI ar d k n = -1 ∧ ∀ j, k ≤ j → j < k + n → ¬ 0 < ar (d + j)) ∨ (∃ j, k ≤ j ∧ j < k + n ∧ fdI ar d k n = (d : Int) + (j : Int) ∧ 0 < ar (d + j))
  | 0, k => Or.inl ⟨rfl, fun j a b => by omega⟩
  | n + 1, k => by
    rw [fdI]
    split
    · rename_i h; exact Or.inr ⟨k, Nat.le_refl _, by omega, rfl, h⟩
    · rename_i h
      rcases fdI_sp n (k + 1) with ⟨a, b⟩ | ⟨j, a, b, c, e⟩
      · refine Or.inl ⟨a, fun j h1 h2 => ?_⟩
        by_cases q : j = k
        · subst q; exact h
        · exact b j (by omega) (by omega)
      · exact Or.inr ⟨j, by omega, by omega, c, e⟩
theorem duI_5 (ar : Nat → Int) (d : Nat) : duI ar d = ar (d + 1) + ar (d + 2) + ar (d + 3) + ar (d + 4) + ar (d + 5) := by
  simp only [duI, smI]; simp
section LFA
variable {sh it dy : Nat} {pct lr sr : Int} {lf lrf srf : Nat → Int} {cr : Nat → Bool} {IR : Nat → IT} {LR : Nat → LT}
theorem PI_wr (h : PI sh it dy pct lr sr lf lrf srf cr IR LR) (zs zi : Int) :
    (-1000000000 ≤ qC (cdK sh it cr zs zi) (lsk (LR (zs * 5 + zi).toNat)) ∧ qC (cdK sh it cr zs zi) (lsk (LR (zs * 5 + zi).toNat)) ≤ 1000000000) ∧
    (-1000000000 ≤ qC (cdK sh it cr zs zi) (llv (LR (zs * 5 + zi).toNat)) ∧ qC (cdK sh it cr zs zi) (llv (LR (zs * 5 + zi).toNat)) ≤ 1000000000) ∧
    (-1000000000 ≤ qC (cdK sh it cr zs zi) (ndL dy pct (LR (zs * 5 + zi).toNat)) ∧ qC (cdK sh it cr zs zi) (ndL dy pct (LR (zs * 5 + zi).toNat)) ≤ 1000000000) ∧
    (-1000000000 ≤ qC (cdK sh it cr zs zi) (duI (lar (LR (zs * 5 + zi).toNat)) dy) ∧ qC (cdK sh it cr zs zi) (duI (lar (LR (zs * 5 + zi).toNat)) dy) ≤ 1000000000) ∧
    (-1000000000 ≤ qC (cdK sh it cr zs zi) (ldm (LR (zs * 5 + zi).toNat) dy) ∧ qC (cdK sh it cr zs zi) (ldm (LR (zs * 5 + zi).toNat) dy) ≤ 1000000000) ∧
    (-1000000000 ≤ qC (cdK sh it cr zs zi) (rqL dy pct (ipk (IR zi.toNat)) (LR (zs * 5 + zi).toNat)) ∧ qC (cdK sh it cr zs zi) (rqL dy pct (ipk (IR zi.toNat)) (LR (zs * 5 + zi).toNat)) ≤ 1000000000) ∧
    (-1000000000 ≤ qC (cdK sh it cr zs zi) (llo (LR (zs * 5 + zi).toNat)) ∧ qC (cdK sh it cr zs zi) (llo (LR (zs * 5 + zi).toNat)) ≤ 1000000000) := by
  have h1 := PI_1 h
  have hk := PI_lOK h (zs * 5 + zi).toNat
  have hnd := lOK_nd hk (show 1 ≤ pct ∧ pct ≤ 100 by omega)
  have hrq := rqL_rng hk (show 1 ≤ pct ∧ pct ≤ 100 by omega) (PI_iOK h zi.toNat).1
  have hdm := PI_ldm h (zs * 5 + zi).toNat dy
  obtain ⟨k1, k2, k3, k4, k5, k6, k7⟩ := hk
  refine ⟨qC_rng (by omega) (fun _ => by omega), qC_rng (by omega) (fun _ => by omega), qC_rng (by omega) (fun _ => by omega), qC_rng (by omega) (fun _ => by omega), qC_rng (by omega) (fun _ => by omega), qC_rng (by omega) (fun _ => by omega), qC_rng (by omega) (fun e => ?_)⟩
  obtain ⟨sn, tn, e1, e2, -, -, hcr⟩ := cdK_ok e
  rw [e1, e2, ix5]
  have hC := (PI_CI h hcr).2.2.2
  have c3 := hC.2.2.1
  have c11 := hC.2.2.2.2.2.2.2.2.2.2
  have a1 := smI_le (f := ldm (LR (sn * 5 + tn))) (B := 999) c3 (dy + 1)
  omega
theorem PI_ws (h : PI sh it dy pct lr sr lf lrf srf cr IR LR) (zs zi : Int) : -1000000000 ≤ qC (cdK sh it cr zs zi) (shF dy pct cr IR LR sh zi.toNat zs.toNat) ∧ qC (cdK sh it cr zs zi) (shF dy pct cr IR LR sh zi.toNat zs.toNat) ≤ 1000000000 := by
  have h1 := PI_1 h
  refine qC_rng (by omega) (fun e => ?_)
  obtain ⟨sn, tn, e1, e2, hs, ht, hcr⟩ := cdK_ok e
  rw [e1, e2, Int.toNat_natCast, Int.toNat_natCast]
  have := PI_sh h tn (sn := sn) (by omega)
  omega
/-- nobody asked yet today -/
theorem PI_ask (h : PI sh it dy pct lr sr lf lrf srf cr IR LR) (hz : ∀ a, cr a = true → ldm (LR a) dy = 0) (s t : Nat) (hs : s < sh) (ht : t < it) :
    qC (cdK sh it cr ((s : Nat) : Int) ((t : Nat) : Int)) (ldm (LR (((s : Nat) : Int) * 5 + ((t : Nat) : Int)).toNat) dy) = 0 ∨ qC (cdK sh it cr ((s : Nat) : Int) ((t : Nat) : Int)) (ldm (LR (((s : Nat) : Int) * 5 + ((t : Nat) : Int)).toNat) dy) = -75 := by
  by_cases hc : cr (s * 5 + t) = true
  · left; rw [cdK_0 hs ht hc, ix5, hz _ hc]; rfl
  · right; rw [cdK_2 hs ht hc]; rfl
/-- what is on its way comes within the lead time -/
theorem PI_nx (h : PI sh it dy pct lr sr lf lrf srf cr IR LR) {a : Nat} (hc : cr a = true) :
    (duI (lar (LR a)) dy = 0 ∧ qC (nxC (fdI (lar (LR a)) dy 1 5)) (fdI (lar (LR a)) dy 1 5) = -75) ∨ (0 < duI (lar (LR a)) dy ∧ (dy : Int) < qC (nxC (fdI (lar (LR a)) dy 1 5)) (fdI (lar (LR a)) dy 1 5) ∧ qC (nxC (fdI (lar (LR a)) dy 1 5)) (fdI (lar (LR a)) dy 1 5) ≤ (dy : Int) + lf (a / 5)) := by
  obtain ⟨-, -, hs5, c1, c2, c3, c4, c5, c6, c7, c8, c9, c10, c11⟩ := PI_CI h hc
  have hlf := PI_lf h hs5
  have d5 := duI_5 (lar (LR a)) dy
  have b1 := c6 (dy + 1); have b2 := c6 (dy + 2); have b3 := c6 (dy + 3); have b4 := c6 (dy + 4); have b5 := c6 (dy + 5)
  rcases fdI_sp (ar := lar (LR a)) (d := dy) 5 1 with ⟨e1, e2⟩ | ⟨j, j1, j2, e1, e2⟩
  · left
    have a1 := e2 1 (by omega) (by omega); have a2 := e2 2 (by omega) (by omega); have a3 := e2 3 (by omega) (by omega); have a4 := e2 4 (by omega) (by omega); have a5 := e2 5 (by omega) (by omega)
    refine ⟨by omega, ?_⟩
    rw [e1]; rfl
  · right
    have hj : dy + j ≤ dy + (lf (a / 5)).toNat := Classical.byContradiction fun q => by
      have := c7 (dy + j) (by omega); omega
    have hd : 0 < duI (lar (LR a)) dy := by
      rcases (show j = 1 ∨ j = 2 ∨ j = 3 ∨ j = 4 ∨ j = 5 by omega) with q | q | q | q | q <;> subst q <;> omega
    have hz : nxC (fdI (lar (LR a)) dy 1 5) = 0 := by unfold nxC; rw [if_neg (by omega)]
    rw [q0 hz]
    omega
theorem PI_nxt (h : PI sh it dy pct lr sr lf lrf srf cr IR LR) (s t : Nat) (hs : s < sh) (ht : t < it) :
    qC (if cdK sh it cr ((s : Nat) : Int) ((t : Nat) : Int) = 0 then nxC (fdI (lar (LR (((s : Nat) : Int) * 5 + ((t : Nat) : Int)).toNat)) dy 1 5) else cdK sh it cr ((s : Nat) : Int) ((t : Nat) : Int)) (fdI (lar (LR (((s : Nat) : Int) * 5 + ((t : Nat) : Int)).toNat)) dy 1 5) = -75 ∨
    ((dy : Int) < qC (if cdK sh it cr ((s : Nat) : Int) ((t : Nat) : Int) = 0 then nxC (fdI (lar (LR (((s : Nat) : Int) * 5 + ((t : Nat) : Int)).toNat)) dy 1 5) else cdK sh it cr ((s : Nat) : Int) ((t : Nat) : Int)) (fdI (lar (LR (((s : Nat) : Int) * 5 + ((t : Nat) : Int)).toNat)) dy 1 5) ∧
     qC (if cdK sh it cr ((s : Nat) : Int) ((t : Nat) : Int) = 0 then nxC (fdI (lar (LR (((s : Nat) : Int) * 5 + ((t : Nat) : Int)).toNat)) dy 1 5) else cdK sh it cr ((s : Nat) : Int) ((t : Nat) : Int)) (fdI (lar (LR (((s : Nat) : Int) * 5 + ((t : Nat) : Int)).toNat)) dy 1 5) ≤ (dy : Int) + lf s) := by
  have h1 := PI_1 h
  rw [ix5]
  by_cases hc : cr (s * 5 + t) = true
  · rw [cdK_0 hs ht hc, if_pos rfl]
    have h2 := PI_nx h hc
    rw [show (s * 5 + t) / 5 = s from by omega] at h2
    omega
  · left; rw [cdK_2 hs ht hc, if_neg (by omega)]; rfl
end LFA
/-! errors up to the safety, and below it -/
def upE (f : Nat → Int) (sf : Int) : Nat → Int := smI (fun j => if (j : Int) ≤ sf then f j else 0)
def bwE (f : Nat → Int) (sf : Int) : Nat → Int := smI (fun j => if (j : Int) < sf then f j else 0)
theorem upE_1 {f : Nat → Int} {sf : Int} {k : Nat} (h : (k : Int) ≤ sf) : upE f sf k + f k = upE f sf (k + 1) := by unfold upE; simp only [smI]; rw [if_pos h]
theorem upE_0 {f : Nat → Int} {sf : Int} {k : Nat} (h : ¬ (k : Int) ≤ sf) : upE f sf k = upE f sf (k + 1) := by unfold upE; simp only [smI]; rw [if_neg h]; omega
theorem bwE_1 {f : Nat → Int} {sf : Int} {k : Nat} (h : (k : Int) < sf) : bwE f sf k + f k = bwE f sf (k + 1) := by unfold bwE; simp only [smI]; rw [if_pos h]
theorem bwE_0 {f : Nat → Int} {sf : Int} {k : Nat} (h : ¬ (k : Int) < sf) : bwE f sf k = bwE f sf (k + 1) := by unfold bwE; simp only [smI]; rw [if_neg h]; omega
theorem upE_eq {f : Nat → Int} {j : Nat} : ∀ n : Nat, upE f (j : Int) n = smI f (min n (j + 1))
  | 0 => by simp [upE, smI]
  | n + 1 => by
    have ih := upE_eq (f := f) (j := j) n
    by_cases h : n ≤ j
    · rw [← upE_1 (by omega), ih, show min n (j + 1) = n from by omega, show min (n + 1) (j + 1) = n + 1 from by omega]; rfl
    · rw [← upE_0 (by omega), ih, show min n (j + 1) = j + 1 from by omega, show min (n + 1) (j + 1) = j + 1 from by omega]
theorem bw_up {f : Nat → Int} {sf : Int} (h : ∀ k, 0 ≤ f k) : ∀ n : Nat, 0 ≤ bwE f sf n ∧ bwE f sf n ≤ upE f sf n ∧ upE f sf n ≤ smI f n
  | 0 => by simp [bwE, upE, smI]
  | n + 1 => by
    have ih := bw_up (sf := sf) h n
    have hn := h n
    have e : smI f (n + 1) = smI f n + f n := rfl
    by_cases h1 : (n : Int) < sf
    · rw [← bwE_1 h1, ← upE_1 (by omega)]; omega
    · rw [← bwE_0 h1]
      by_cases h2 : (n : Int) ≤ sf
      · rw [← upE_1 h2]; omega
      · rw [← upE_0 h2]; omega
theorem sfI_sp {er : Nat → Int} {es pct : Int} : ∀ n k : Nat, k + n = 21 → ∃ j : Nat, j ≤ 20 ∧ sfI er es pct k n = (j : Int) ∧ (pct * es ≤ smI er (j + 1) * 100 ∨ j = 20)
  | 0, k, h => ⟨20, Nat.le_refl _, rfl, Or.inr rfl⟩
  | n + 1, k, h => by
    rw [sfI]
    split
    · rename_i q; exact ⟨k, by omega, rfl, Or.inl q⟩
    · exact sfI_sp n (k + 1) (by omega)
theorem sf_facts {f : Nat → Int} {es pct : Int} (hf : ∀ k, 0 ≤ f k) (he : es = smI f 21) (hp : 1 ≤ pct) : (es = 0 → sfI f es pct 0 21 = 0) ∧ (es ≠ 0 → 0 < upE f (sfI f es pct 0 21) 21) ∧ (0 ≤ bwE f (sfI f es pct 0 21) 21 ∧ bwE f (sfI f es pct 0 21) 21 ≤ upE f (sfI f es pct 0 21) 21 ∧ upE f (sfI f es pct 0 21) 21 ≤ es) := by
  have hb := bw_up (sf := sfI f es pct 0 21) hf 21
  refine ⟨fun h => ?_, fun h => ?_, by omega⟩
  · have e1 : smI f 1 = f 0 := by simp [smI]
    have h0 := hf 0
    rw [sfI, if_pos (by rw [h, e1]; omega)]; rfl
  · obtain ⟨j, j1, e1, e2⟩ := sfI_sp (er := f) (es := es) (pct := pct) 21 0 rfl
    rw [e1, upE_eq, show min 21 (j + 1) = j + 1 from by omega]
    have hes : 0 < es := by omega
    rcases e2 with e2 | e2
    · have h3 : es * 1 ≤ es * pct := Int.mul_le_mul_of_nonneg_left hp (by omega)
      rw [Int.mul_comm] at e2
      omega
    · subst e2; rw [← he]; exact hes
/-! requests and shares of an item -/
theorem rq_facts {nd pk : Int} (hp : 0 < pk) : (nd ≤ 0 → rqI nd pk = 0) ∧ (0 < nd → nd ≤ rqI nd pk * pk ∧ (rqI nd pk - 1) * pk < nd ∧ rqI nd pk * pk < nd + pk) := by
  refine ⟨fun h => by unfold rqI; rw [if_neg (by omega)], fun h => ?_⟩
  unfold rqI
  rw [if_pos h]
  have h1 := Int.ediv_mul_le (nd + pk - 1) (show pk ≠ 0 by omega)
  have h2 := Int.lt_ediv_add_one_mul_self (nd + pk - 1) hp
  rw [Int.add_mul, Int.one_mul] at h2
  rw [Int.sub_mul, Int.one_mul]
  omega
/-- what shops get of an item, and what they miss: the first n -/
def shS (dy : Nat) (pct : Int) (cr : Nat → Bool) (IR : Nat → IT) (LR : Nat → LT) (sh i : Nat) : Nat → Int := smI (fun s => if cr (s * 5 + i) = true then shF dy pct cr IR LR sh i s else 0)
def opS (dy : Nat) (pct : Int) (cr : Nat → Bool) (IR : Nat → IT) (LR : Nat → LT) (sh i : Nat) : Nat → Int := smI (fun s => if cr (s * 5 + i) = true then rqL dy pct (ipk (IR i)) (LR (s * 5 + i)) - shF dy pct cr IR LR sh i s else 0)
section SHS
variable {sh it dy : Nat} {pct lr sr : Int} {lf lrf srf : Nat → Int} {cr : Nat → Bool} {IR : Nat → IT} {LR : Nat → LT}
theorem shS_1 {i n : Nat} (h : cr (n * 5 + i) = true) : shS dy pct cr IR LR sh i n + shF dy pct cr IR LR sh i n = shS dy pct cr IR LR sh i (n + 1) := by unfold shS; simp only [smI]; rw [if_pos h]
theorem shS_0 {i n : Nat} (h : ¬ cr (n * 5 + i) = true) : shS dy pct cr IR LR sh i n = shS dy pct cr IR LR sh i (n + 1) := by unfold shS; simp only [smI]; rw [if_neg h]; omega
theorem opS_1 {i n : Nat} (h : cr (n * 5 + i) = true) : opS dy pct cr IR LR sh i n + (rqL dy pct (ipk (IR i)) (LR (n * 5 + i)) - shF dy pct cr IR LR sh i n) = opS dy pct cr IR LR sh i (n + 1) := by unfold opS; simp only [smI]; rw [if_pos h]
theorem opS_0 {i n : Nat} (h : ¬ cr (n * 5 + i) = true) : opS dy pct cr IR LR sh i n = opS dy pct cr IR LR sh i (n + 1) := by unfold opS; simp only [smI]; rw [if_neg h]; omega
theorem PI_rqL (h : PI sh it dy pct lr sr lf lrf srf cr IR LR) {s i : Nat} (hs : s < sh) (hc : cr (s * 5 + i) = true) : rqA dy pct cr IR LR i sh s = rqL dy pct (ipk (IR i)) (LR (s * 5 + i)) := by unfold rqA; rw [if_pos ⟨hs, hc⟩]
theorem PI_over (h : PI sh it dy pct lr sr lf lrf srf cr IR LR) (hsh : sh = 3) (i : Nat) : 0 ≤ shS dy pct cr IR LR sh i 3 ∧ shS dy pct cr IR LR sh i 3 ≤ ist (IR i) / ipk (IR i) ∧ ist (IR i) / ipk (IR i) ≤ 1000000 ∧ 0 ≤ opS dy pct cr IR LR sh i 3 ∧ opS dy pct cr IR LR sh i 3 ≤ 3000000 ∧ (opS dy pct cr IR LR sh i 3 = 0 ∨ shS dy pct cr IR LR sh i 3 = ist (IR i) / ipk (IR i)) := by
  have hpn := pk_rng (PI_iOK h i)
  have hrq := fun j => PI_rq h i j
  have hg := grI_rng (fun j => (hrq j).1) (ist (IR i) / ipk (IR i)).toNat
  have hgs := grI_sum (fun j => (hrq j).1) (ist (IR i) / ipk (IR i)).toNat
  have e1 : ∀ s, s < 3 → (if cr (s * 5 + i) = true then shF dy pct cr IR LR sh i s else 0) = grI (rqA dy pct cr IR LR i sh) (ist (IR i) / ipk (IR i)).toNat s := fun s hs => by
    split
    · exact PI_gr h i (by omega)
    · rename_i hc
      have h2 : rqA dy pct cr IR LR i sh s = 0 := by unfold rqA; rw [if_neg (fun q => hc q.2)]
      have := hg s; omega
  have e2 : ∀ s, s < 3 → (if cr (s * 5 + i) = true then rqL dy pct (ipk (IR i)) (LR (s * 5 + i)) - shF dy pct cr IR LR sh i s else 0) = rqA dy pct cr IR LR i sh s - grI (rqA dy pct cr IR LR i sh) (ist (IR i) / ipk (IR i)).toNat s := fun s hs => by
    split
    · rename_i hc; rw [PI_rqL h (by omega) hc, PI_gr h i (by omega)]
    · rename_i hc
      have h2 : rqA dy pct cr IR LR i sh s = 0 := by unfold rqA; rw [if_neg (fun q => hc q.2)]
      have := hg s; omega
  have a1 : shS dy pct cr IR LR sh i 3 = smI (grI (rqA dy pct cr IR LR i sh) (ist (IR i) / ipk (IR i)).toNat) 3 := smI_congr e1
  have a2 : opS dy pct cr IR LR sh i 3 = smI (fun s => rqA dy pct cr IR LR i sh s - grI (rqA dy pct cr IR LR i sh) (ist (IR i) / ipk (IR i)).toNat s) 3 := smI_congr e2
  have h3 : rqA dy pct cr IR LR i sh 3 = 0 := by unfold rqA; rw [if_neg (fun q => by omega)]
  rw [a1, a2]
  generalize rqA dy pct cr IR LR i sh = rq at *
  generalize hgr : grI rq (ist (IR i) / ipk (IR i)).toNat = g at *
  have b0 := hg 0; have b1 := hg 1; have b2 := hg 2; have b3 := hg 3
  have r0 := hrq 0; have r1 := hrq 1; have r2 := hrq 2
  simp only [smI] at hgs ⊢
  refine ⟨by omega, by omega, by omega, by omega, by omega, ?_⟩
  rcases hgs.2 with q | q
  · right; omega
  · left
    have q0 := q 0 (by omega); have q1 := q 1 (by omega); have q2 := q 2 (by omega)
    omega
end SHS
