/-! units are neither made nor lost; what a night leaves as it was -/
theorem ntS_keep {α : Type} (f : LT → α) (hf : ∀ (dy : Nat) (u : Int) (r : LT), f (sndR dy u r) = f r) {dy : Nat} {pct : Int} {cr : Nat → Bool} {sh : Nat} {S0 : ntT} : ∀ i a : Nat, f ((ntS dy pct cr sh S0 i).2.1 a) = f (S0.2.1 a)
  | 0, _ => rfl
  | i + 1, a => by
    have ih := ntS_keep f hf (dy := dy) (pct := pct) (cr := cr) (sh := sh) (S0 := S0) i a
    rw [ntS]
    show f (sdL _ _ _ _ _ _ _ _ a) = _
    unfold sdL
    split
    · rw [hf]; exact ih
    · exact ih
theorem ntS_ipk {dy : Nat} {pct : Int} {cr : Nat → Bool} {sh : Nat} {S0 : ntT} : ∀ i j : Nat, ipk ((ntS dy pct cr sh S0 i).1 j) = ipk (S0.1 j)
  | 0, _ => rfl
  | i + 1, j => by
    have ih := ntS_ipk (dy := dy) (pct := pct) (cr := cr) (sh := sh) (S0 := S0) i j
    rw [ntS]
    show ipk (upR _ i _ j) = _
    by_cases e : j = i
    · subst e; rw [upR_same]; exact ih
    · rw [upR_ne e]; exact ih
theorem LRn_les {dy : Nat} {lr sr : Int} {cr : Nat → Bool} {IR : Nat → IT} {LR : Nat → LT} {a : Nat} (ha : a < 20) (hc : cr a = true) : les (LRn dy lr sr cr IR LR a) = les (LR a) + (if ipr (IR (a % 5)) dy = 0 then 1 else 0) := by
  unfold LRn
  rw [qS_at ha, if_pos hc]
  show les (qS (cL cr IR dy) (lrnR dy lr sr) LR 20 a) = _
  rw [qS_at ha]
  by_cases hp : ipr (IR (a % 5)) dy = 0
  · rw [if_pos (cL_t hc hp), if_pos hp]; rfl
  · rw [if_neg (cL_f (Or.inr hp)), if_neg hp]; omega
theorem LRn_lar {dy : Nat} {lr sr : Int} {cr : Nat → Bool} {IR : Nat → IT} {LR : Nat → LT} {a : Nat} (ha : a < 20) (hc : cr a = true) : lar (LRn dy lr sr cr IR LR a) = lar (LR a) ∧ lsk (LRn dy lr sr cr IR LR a) = lsk (LR a) + lar (LR a) (dy + 1) ∧ lld (LRn dy lr sr cr IR LR a) = lld (LR a) := by
  unfold LRn
  rw [qS_at ha, if_pos hc]
  show lar (qS (cL cr IR dy) (lrnR dy lr sr) LR 20 a) = _ ∧ lsk (qS (cL cr IR dy) (lrnR dy lr sr) LR 20 a) + lar (qS (cL cr IR dy) (lrnR dy lr sr) LR 20 a) (dy + 1) = _ ∧ lld (qS (cL cr IR dy) (lrnR dy lr sr) LR 20 a) = _
  rw [qS_at ha]
  by_cases hp : cL cr IR dy a = true
  · rw [if_pos hp]; exact ⟨rfl, rfl, rfl⟩
  · rw [if_neg hp]; exact ⟨rfl, rfl, rfl⟩
theorem sm20 {f g h : Nat → Int} {i : Nat} (hi : i < 5) (hg : ∀ a, a < 20 → g a = f a + (if a % 5 = i then h (a / 5) else 0)) : smI g 20 = smI f 20 + smI h 4 := by
  rw [smI_congr hg]
  rcases (show i = 0 ∨ i = 1 ∨ i = 2 ∨ i = 3 ∨ i = 4 by omega) with e | e | e | e | e <;> subst e <;> simp [smI] <;> omega
section UTS
variable {sh it dy : Nat} {pct lr sr : Int} {lf lrf srf : Nat → Int} {cr : Nat → Bool} {IR : Nat → IT} {LR : Nat → LT}
theorem UTI_day (h : PI sh it dy pct lr sr lf lrf srf cr IR LR) : UTI it IR cr (LRn dy lr sr cr IR LR) (dy + 1) = UTI it IR cr LR dy := by
  unfold UTI
  rw [smI_congr (f := ulF cr (LRn dy lr sr cr IR LR) (dy + 1)) (g := ulF cr LR dy) (fun a ha => ?_)]
  unfold ulF
  by_cases hc : cr a = true
  · rw [if_pos hc, if_pos hc]
    obtain ⟨e1, e2, -⟩ := LRn_lar (dy := dy) (lr := lr) (sr := sr) (IR := IR) (LR := LR) ha hc
    obtain ⟨-, -, -, c1, c2, c3, c4, c5, c6, c7, -⟩ := PI_CI h hc
    have z6 := c7 (dy + 6) (by omega)
    rw [e1, e2, duI_5, duI_5]
    show lsk (LR a) + lar (LR a) (dy + 1) + (lar (LR a) (dy + 2) + lar (LR a) (dy + 3) + lar (LR a) (dy + 4) + lar (LR a) (dy + 5) + lar (LR a) (dy + 6)) = _
    omega
  · rw [if_neg hc, if_neg hc]
theorem UTI_nt1 {S : ntT} {i : Nat} (hi : i < it) (hit : it ≤ 5) (hsh : sh ≤ 4) (hl : ∀ a, cr a = true → 1 ≤ lld (S.2.1 a) ∧ lld (S.2.1 a) ≤ 5) : UTI it (nt1 dy pct cr sh S i).1 cr (nt1 dy pct cr sh S i).2.1 dy = UTI it S.1 cr S.2.1 dy := by
  show UTI it (upR S.1 i (giR dy (smI (sntI cr (rqA dy pct cr S.1 S.2.1 i sh) (ist (S.1 i) / ipk (S.1 i)) i) sh) (S.1 i))) cr (sdL dy (ipk (S.1 i)) cr (rqA dy pct cr S.1 S.2.1 i sh) (ist (S.1 i) / ipk (S.1 i)) i S.2.1 sh) dy = _
  generalize rqA dy pct cr S.1 S.2.1 i sh = rq
  generalize ist (S.1 i) / ipk (S.1 i) = pn
  have hu : uiF it (upR S.1 i (giR dy (smI (sntI cr rq pn i) sh) (S.1 i))) = upI (uiF it S.1) i (uiF it S.1 i + -(smI (sntI cr rq pn i) sh * ipk (S.1 i))) := by
    funext j
    unfold uiF
    by_cases e : j = i
    · subst e
      rw [if_pos hi, upR_same, upI_same]
      show ist (S.1 j) - smI (sntI cr rq pn j) sh * ipk (S.1 j) = (if j < it then ist (S.1 j) else 0) + _
      rw [if_pos hi]; omega
    · rw [upR_ne e, upI_ne e]
  have hs : smI (ulF cr (sdL dy (ipk (S.1 i)) cr rq pn i S.2.1 sh) dy) 20 = smI (ulF cr S.2.1 dy) 20 + smI (fun s => if s < sh then sntI cr rq pn i s * ipk (S.1 i) else 0) 4 := by
    refine sm20 (i := i) (by omega) (fun a ha => ?_)
    by_cases e : a % 5 = i
    · rw [if_pos e]
      have ea : a / 5 * 5 + i = a := by omega
      by_cases e2 : a / 5 < sh
      · show _ = _ + (if a / 5 < sh then sntI cr rq pn i (a / 5) * ipk (S.1 i) else 0)
        rw [if_pos e2]
        unfold ulF sntI
        rw [ea]
        by_cases hc : cr a = true
        · rw [if_pos hc, if_pos hc, if_pos hc]
          unfold sdL
          rw [if_pos ⟨e, e2, hc⟩]
          have hla := hl a hc
          show lsk (S.2.1 a) + duI (upI (lar (S.2.1 a)) (dy + lld (S.2.1 a)) (lar (S.2.1 a) (dy + lld (S.2.1 a)) + ctI rq pn (a / 5) 32 0 (rq (a / 5)) * ipk (S.1 i))) dy = _
          rw [duI_5, duI_5]
          generalize lld (S.2.1 a) = ld at hla
          rcases (show ld = 1 ∨ ld = 2 ∨ ld = 3 ∨ ld = 4 ∨ ld = 5 by omega) with q | q | q | q | q <;> subst q <;> simp [upI] <;> omega
        · rw [if_neg hc, if_neg hc, if_neg hc]; omega
      · show _ = _ + (if a / 5 < sh then sntI cr rq pn i (a / 5) * ipk (S.1 i) else 0)
        rw [if_neg e2]
        have es : sdL dy (ipk (S.1 i)) cr rq pn i S.2.1 sh a = S.2.1 a := by simp only [sdL]; rw [if_neg (fun q => e2 q.2.1)]
        unfold ulF
        rw [es]; omega
    · rw [if_neg e]
      have es : sdL dy (ipk (S.1 i)) cr rq pn i S.2.1 sh a = S.2.1 a := by simp only [sdL]; rw [if_neg (fun q => e q.1)]
      unfold ulF
      rw [es]; omega
  have hP : smI (fun s => if s < sh then sntI cr rq pn i s * ipk (S.1 i) else 0) 4 = smI (sntI cr rq pn i) sh * ipk (S.1 i) := by
    rw [← smI_mulr sh]
    rcases (show sh = 0 ∨ sh = 1 ∨ sh = 2 ∨ sh = 3 ∨ sh = 4 by omega) with q | q | q | q | q <;> subst q <;> simp [smI]
  unfold UTI
  rw [hu, smI_up1 5 (by omega), hs, hP]
  omega
theorem UTI_nt {S0 : ntT} (hit : it ≤ 5) (hsh : sh ≤ 4) (hl : ∀ a, cr a = true → 1 ≤ lld (S0.2.1 a) ∧ lld (S0.2.1 a) ≤ 5) : ∀ i : Nat, i ≤ it → UTI it (ntS dy pct cr sh S0 i).1 cr (ntS dy pct cr sh S0 i).2.1 dy = UTI it S0.1 cr S0.2.1 dy
  | 0, _ => rfl
  | i + 1, hi => by
    have ih := UTI_nt (S0 := S0) hit hsh hl i (by omega)
    rw [ntS, UTI_nt1 (by omega) hit hsh (fun a hc => by rw [ntS_keep lld (fun _ _ _ => rfl) i a]; exact hl a hc)]
    exact ih
theorem UTI_night (h : PI sh it dy pct lr sr lf lrf srf cr IR LR) (rq : Nat → Int) (pn : Int) :
    UTI it (ntS (dy + 1) pct cr sh (IR, LRn dy lr sr cr IR LR, rq, pn, 0) it).1 cr (ntS (dy + 1) pct cr sh (IR, LRn dy lr sr cr IR LR, rq, pn, 0) it).2.1 (dy + 1) = UTI it IR cr LR dy := by
  have h1 := PI_1 h
  rw [UTI_nt (pct := pct) h1.1.2.1 h1.1.1 (fun a hc => ?_) it (Nat.le_refl _)]
  · exact UTI_day h
  · obtain ⟨ha, -, -, c1, -⟩ := PI_CI h hc
    show 1 ≤ lld (LRn dy lr sr cr IR LR a) ∧ lld (LRn dy lr sr cr IR LR a) ≤ 5
    rw [(LRn_lar ha hc).2.2]
    omega
theorem night_les (h : PI sh it dy pct lr sr lf lrf srf cr IR LR) (rq : Nat → Int) (pn : Int) {a : Nat} (hc : cr a = true) : les ((ntS (dy + 1) pct cr sh (IR, LRn dy lr sr cr IR LR, rq, pn, 0) it).2.1 a) = les (LR a) + (if ipr (IR (a % 5)) dy = 0 then 1 else 0) := by
  rw [ntS_keep les (fun _ _ _ => rfl) it a]
  exact LRn_les (PI_CI h hc).1 hc
theorem UTI_supply {i : Nat} {u : Int} {t g p : Nat → Int} {q f : Int} (hi : i < it) (hit : it ≤ 5) : UTI it (upR IR i (imk q f (ist (IR i) + u) t g p)) cr LR dy = UTI it IR cr LR dy + u := by
  have hu : uiF it (upR IR i (imk q f (ist (IR i) + u) t g p)) = upI (uiF it IR) i (uiF it IR i + u) := by
    funext j
    unfold uiF
    by_cases e : j = i
    · subst e
      rw [if_pos hi, upR_same, upI_same, if_pos hi]
      rfl
    · rw [upR_ne e, upI_ne e]
  unfold UTI
  rw [hu, smI_up1 5 (by omega)]
  omega
theorem UTI_mark {i : Nat} {t g p : Nat → Int} {q f : Int} : UTI it (upR IR i (imk q f (ist (IR i)) t g p)) cr LR dy = UTI it IR cr LR dy := by
  unfold UTI
  rw [smI_congr (f := uiF it (upR IR i (imk q f (ist (IR i)) t g p))) (g := uiF it IR) (fun j _ => ?_)]
  unfold uiF
  by_cases e : j = i
  · subst e; rw [upR_same]; rfl
  · rw [upR_ne e]
theorem UTI_item {k q f : Int} {t g p : Nat → Int} (hit : it < 5) : UTI (it + 1) (upR IR it (imk q f k t g p)) cr LR dy = UTI it IR cr LR dy + k := by
  have hu : uiF (it + 1) (upR IR it (imk q f k t g p)) = upI (uiF it IR) it (uiF it IR it + k) := by
    funext j
    unfold uiF
    by_cases e : j = it
    · subst e
      rw [if_pos (by omega), upR_same, upI_same, if_neg (by omega)]
      show k = 0 + k
      omega
    · rw [upR_ne e, upI_ne e]
      by_cases e2 : j < it
      · rw [if_pos e2, if_pos (by omega)]
      · rw [if_neg e2, if_neg (by omega)]
  unfold UTI
  rw [hu, smI_up1 5 hit]
  omega
theorem UTI_demand {a : Nat} {un : Int} (ha : a < 20) (hc : cr a = true) : UTI it IR cr (upR LR a (sllR dy un (LR a))) dy = UTI it IR cr LR dy - mnI un (lsk (LR a)) := by
  have hu : ulF cr (upR LR a (sllR dy un (LR a))) dy = upI (ulF cr LR dy) a (ulF cr LR dy a + -(mnI un (lsk (LR a)))) := by
    funext j
    unfold ulF
    by_cases e : j = a
    · subst e
      rw [if_pos hc, upR_same, upI_same, if_pos hc]
      show lsk (LR j) - mnI un (lsk (LR j)) + duI (lar (LR j)) dy = _
      omega
    · rw [upR_ne e, upI_ne e]
  unfold UTI
  rw [hu, smI_up1 20 ha]
  omega
theorem UTI_carry {a ld : Nat} {k f : Int} (ha : a < 20) (hc : ¬ cr a = true) : UTI it IR (upR cr a true) (upR LR a (newR ld dy k f)) dy = UTI it IR cr LR dy + k := by
  have hu : ulF (upR cr a true) (upR LR a (newR ld dy k f)) dy = upI (ulF cr LR dy) a (ulF cr LR dy a + k) := by
    funext j
    unfold ulF
    by_cases e : j = a
    · subst e
      rw [upR_same, if_pos rfl, upR_same, upI_same, if_neg hc]
      show k + duI (fun _ => 0) dy = _
      rw [duI_5]; omega
    · rw [upR_ne e, upR_ne e, upI_ne e]
  unfold UTI
  rw [hu, smI_up1 20 ha]
  omega
theorem UTI_0 : UTI 0 IR (fun _ => false) LR dy = 0 := by
  unfold UTI
  have e1 : uiF 0 IR = fun _ => 0 := by funext j; unfold uiF; rw [if_neg (by omega)]
  have e2 : ulF (fun _ => false) LR dy = fun _ => 0 := by funext j; unfold ulF; rw [if_neg (by simp)]
  rw [e1, e2]
  simp [smI]
end UTS
