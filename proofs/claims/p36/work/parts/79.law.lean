/-! the law's body: what holds at its loop's head -/
def CX (p : Program) (l : Launch) (s : State) (m : MethodId) (args : Array Value) (c : Code) (b L : Nat) (xs : Nat → Int32) (A : Nat → Prop) (D : va_G) (cs : Nat → ClassId) : Prop :=
  p.tables.exec = Jvm.exec ∧ c.code = cL_law ∧ c.maxLocals = 22 ∧ s.vm.findClass RL = some m.cls ∧ (∀ w ∈ ALL, w.before args s = true) ∧ va_X b L xs s s.heap ∧ b < s.heap.size ∧ KK D cs s ∧ NN s ∧ EV A s ∧ L ≤ 260 ∧ l.stackTraces = false ∧ (∀ q : Nat, s.heap.size ≤ q → A q) ∧ ¬ A b
/-- the object's state and the law's own numbers -/
def GI (n sh it dy : Nat) (lc pct lr sr : Int) (lf lrf srf : Nat → Int) (cr : Nat → Bool) (IR : Nat → IT) (LR : Nat → LT) (fp fl fd : Nat → Int) (un sa : Int) : Prop :=
  PI sh it dy pct lr sr lf lrf srf cr IR LR ∧ (sh = 3 ∧ it = 2) ∧ (∀ i, i < 2 → fp i = ipk (IR i)) ∧ (∀ s, s < 3 → fl s = lf s) ∧ (∀ s i, s < 3 → i < 2 → fd (2 * s + i) = if cr (s * 5 + i) = true then les (LR (s * 5 + i)) else -1) ∧
  (dy ≤ n ∧ 0 ≤ lc ∧ lc ≤ (n : Int)) ∧ UTI it IR cr LR dy = un - sa ∧ (0 ≤ sa ∧ sa ≤ 20 * (n : Int)) ∧ (0 ≤ un ∧ un ≤ 400 + 60 * (n : Int))
section GIS
variable {n sh it dy : Nat} {lc pct lr sr : Int} {lf lrf srf : Nat → Int} {cr : Nat → Bool} {IR : Nat → IT} {LR : Nat → LT} {fp fl fd : Nat → Int} {un sa : Int}
theorem GI_same (h : GI n sh it dy lc pct lr sr lf lrf srf cr IR LR fp fl fd un sa) : GI (n + 1) sh it dy lc pct lr sr lf lrf srf cr IR LR fp fl fd un sa := by
  obtain ⟨h1, h2, h3, h4, h5, h6, h7, h8, h9⟩ := h
  exact ⟨h1, h2, h3, h4, h5, by omega, h7, by omega, by omega⟩
theorem GI_set (h : GI n sh it dy lc pct lr sr lf lrf srf cr IR LR fp fl fd un sa) {pct' lr' sr' : Int} (h2 : 1 ≤ pct' ∧ pct' ≤ 100 ∧ 0 ≤ lr' ∧ lr' ≤ 100 ∧ 0 ≤ sr' ∧ sr' ≤ 100) : GI (n + 1) sh it dy lc pct' lr' sr' lf lrf srf cr IR LR fp fl fd un sa := by
  obtain ⟨h1, g2, h3, h4, h5, h6, h7, h8, h9⟩ := h
  exact ⟨PI_set h1 h2, g2, h3, h4, h5, by omega, h7, by omega, by omega⟩
theorem GI_carry (h : GI n sh it dy lc pct lr sr lf lrf srf cr IR LR fp fl fd un sa) {s t : Nat} (hs : s < sh) (ht : t < it) (hc : ¬ cr (s * 5 + t) = true) {k f : Int} (hk : 0 ≤ k ∧ k ≤ 49) (hf : 0 ≤ f ∧ f ≤ 99999) :
    GI (n + 1) sh it dy (lc + 1) pct lr sr lf lrf srf (upR cr (s * 5 + t) true) IR (upR LR (s * 5 + t) (newR (lf s).toNat dy k f)) fp fl (upI fd (2 * s + t) 0) (un + k) sa := by
  obtain ⟨h1, h2, h3, h4, h5, h6, h7, h8, h9⟩ := h
  refine ⟨PI_carry h1 hs ht hc (by omega) hf, h2, h3, h4, fun s' i' hs' hi' => ?_, by omega, ?_, by omega, by omega⟩
  · by_cases e : s' * 5 + i' = s * 5 + t
    · have e1 : s' = s := by omega
      have e2 : i' = t := by omega
      subst e1; subst e2
      rw [upI_same, upR_same, if_pos rfl, upR_same]; rfl
    · rw [upI_ne (by omega), upR_ne e, upR_ne e]; exact h5 s' i' hs' hi'
  · rw [UTI_carry (by omega) hc, h7]; omega
theorem GI_supply (h : GI n sh it dy lc pct lr sr lf lrf srf cr IR LR fp fl fd un sa) {i : Nat} {u : Int} (hi : i < it) (hu : 1 ≤ u ∧ u ≤ 59) (hs : ist (IR i) + u ≤ 99999) :
    GI (n + 1) sh it dy lc pct lr sr lf lrf srf cr (upR IR i (imk (ipk (IR i)) (ifs (IR i)) (ist (IR i) + u) (upI (iti (IR i)) dy (iti (IR i) dy + u)) (igo (IR i)) (ipr (IR i)))) LR fp fl fd (un + u) sa := by
  obtain ⟨h1, h2, h3, h4, h5, h6, h7, h8, h9⟩ := h
  refine ⟨PI_supply h1 hi ⟨hu.1, hs⟩, h2, fun j hj => ?_, h4, h5, by omega, ?_, by omega, by omega⟩
  · rw [h3 j hj]
    by_cases e : j = i
    · subst e; rw [upR_same]; rfl
    · rw [upR_ne e]
  · rw [UTI_supply hi (by omega), h7]; omega
theorem GI_mark (h : GI n sh it dy lc pct lr sr lf lrf srf cr IR LR fp fl fd un sa) {i z : Nat} (hi : i < it) (hz : dy ≤ z ∧ z < 1000) :
    GI (n + 1) sh it dy lc pct lr sr lf lrf srf cr (upR IR i (imk (ipk (IR i)) (ifs (IR i)) (ist (IR i)) (iti (IR i)) (igo (IR i)) (upI (ipr (IR i)) z 1))) LR fp fl fd un sa := by
  obtain ⟨h1, h2, h3, h4, h5, h6, h7, h8, h9⟩ := h
  refine ⟨PI_mark h1 hi hz, h2, fun j hj => ?_, h4, h5, by omega, ?_, by omega, by omega⟩
  · rw [h3 j hj]
    by_cases e : j = i
    · subst e; rw [upR_same]; rfl
    · rw [upR_ne e]
  · rw [UTI_mark, h7]
theorem GI_demand (h : GI n sh it dy lc pct lr sr lf lrf srf cr IR LR fp fl fd un sa) {a : Nat} {u : Int} (hc : cr a = true) (hu : 1 ≤ u ∧ u ≤ 20) (hd : ldm (LR a) dy + u ≤ 999) :
    GI (n + 1) sh it dy lc pct lr sr lf lrf srf cr IR (upR LR a (sllR dy u (LR a))) fp fl fd un (sa + mnI u (lsk (LR a))) := by
  obtain ⟨h1, h2, h3, h4, h5, h6, h7, h8, h9⟩ := h
  have hk := (PI_lOK h1 a).2.2.2.2.2.1
  have hm := @mnI_le u (lsk (LR a))
  refine ⟨PI_demand h1 hc ⟨hu.1, hd⟩, h2, h3, h4, fun s' i' hs' hi' => ?_, by omega, ?_, by omega, by omega⟩
  · rw [h5 s' i' hs' hi']
    by_cases e : s' * 5 + i' = a
    · rw [e, upR_same]; rfl
    · rw [upR_ne e]
  · rw [UTI_demand (PI_CI h1 hc).1 hc, h7]; omega
/-- a line's days behind a night -/
def ndF (dy : Nat) (IR : Nat → IT) (fd : Nat → Int) : Nat → Int := fun j => if 0 ≤ fd j ∧ ipr (IR (j % 2)) dy = 0 then fd j + 1 else fd j
theorem GI_night (h : GI n sh it dy lc pct lr sr lf lrf srf cr IR LR fp fl fd un sa) (hd : dy < 600) (rq : Nat → Int) (pn : Int) :
    GI (n + 1) sh it (dy + 1) lc pct lr sr lf (upI lrf dy (lrf dy + lr)) (upI srf dy (srf dy + sr)) cr (ntS (dy + 1) pct cr sh (IR, LRn dy lr sr cr IR LR, rq, pn, 0) it).1 (ntS (dy + 1) pct cr sh (IR, LRn dy lr sr cr IR LR, rq, pn, 0) it).2.1 fp fl (flF fd (ndF dy IR fd) 6) un sa := by
  obtain ⟨h1, h2, h3, h4, h5, h6, h7, h8, h9⟩ := h
  refine ⟨(PI_night h1 hd rq pn).1, h2, fun j hj => ?_, h4, fun s' i' hs' hi' => ?_, by omega, ?_, by omega, by omega⟩
  · rw [h3 j hj, ntS_ipk]
  · have e6 : flF fd (ndF dy IR fd) 6 (2 * s' + i') = ndF dy IR fd (2 * s' + i') := by simp only [flF]; rw [if_pos (by omega)]
    have e7 := h5 s' i' hs' hi'
    rw [e6]
    unfold ndF
    rw [show (2 * s' + i') % 2 = i' from by omega, e7]
    by_cases hc : cr (s' * 5 + i') = true
    · have e8 := (PI_lOK h1 (s' * 5 + i')).2.2.2.1
      rw [if_pos hc, if_pos hc, night_les h1 rq pn hc, show (s' * 5 + i') % 5 = i' from by omega]
      by_cases hp : ipr (IR i') dy = 0
      · rw [if_pos ⟨e8.1, hp⟩, if_pos hp]
      · rw [if_neg (fun q => hp q.2), if_neg hp]; omega
    · rw [if_neg hc, if_neg hc, if_neg (by omega)]
  · rw [UTI_night h1 rq pn, h7]
end GIS
theorem cdC_s (sh it : Nat) (lnf : Nat → Option Nat) (zs zi zk zl : Int) : cdC sh it lnf zs zi zk zl = 0 ∨ cdC sh it lnf zs zi zk zl = 1 ∨ cdC sh it lnf zs zi zk zl = 3 ∨ cdC sh it lnf zs zi zk zl = 4 := by
  unfold cdC
  split
  · split
    · omega
    · split <;> omega
  · omega
theorem cdC_ok {sh it : Nat} {cr : Nat → Bool} {LA : Nat → Nat → Nat} {zs zi zk zl : Int} (h : cdC sh it (lnq cr LA) zs zi zk zl = 0) : ∃ sn tn : Nat, zs = ((sn : Nat) : Int) ∧ zi = ((tn : Nat) : Int) ∧ sn < sh ∧ tn < it ∧ ¬ cr (sn * 5 + tn) = true := by
  unfold cdC at h
  split at h
  · rename_i h1
    split at h
    · omega
    · split at h
      · rename_i h2
        refine ⟨zs.toNat, zi.toNat, by omega, by omega, by omega, by omega, ?_⟩
        have h3 := lnq_none h2
        rwa [show (zs * 5 + zi).toNat = zs.toNat * 5 + zi.toNat from by omega] at h3
      · omega
  · omega
theorem rm_c {x : Nat} (h : x ≤ 1000000) : x ≤ room_1.cells := Nat.le_trans h (Nat.le_of_ble_eq_true rfl)
theorem rm_s {x : Nat} (h : x ≤ 5900000) : x ≤ room_1.slots := Nat.le_trans h (Nat.le_of_ble_eq_true rfl)
theorem fA_suba {A0 : Nat → Prop} {W : va_W} {H0 H : Heap} {locs : List Loc} (hD : va_D A0 W) (hS : va_S A0 H0 H locs) (hA : ∀ q, H0.size ≤ q → A0 q) : ∀ q, va_A W H.size q → A0 q := by
  intro q h
  rcases h with ⟨k, e, h⟩ | h
  · exact hD.2 k (q, e) h
  · exact hA q (Nat.le_trans hS.1 h)
section LCS
variable {p : Program} {l : Launch} {e : Env} {R : Room} {s : State} {m : MethodId} {args : Array Value} {below : List Frame} {meth : Method} {c : Code} {H : Heap} {locs : List Loc} {cells slots : Nat} {Q : State → Prop} {cc : ByteArray} {pc : Nat} {ls : Array Slot} {rest : List Value}
/-- a long compared with itself -/
theorem my_lcmp_same (hx : p.tables.exec = Jvm.exec) (hb : c.code = cc) {x : Int64} {off : Int} {tgt : Nat} (hd1 : decode cc pc = .ok (.lcmp, 1)) (hdg : decode cc (pc + 1) = .ok (.ifCond .ne off, 3)) (ht : ((pc + 1 : Nat) : Int) + off = (tgt : Int)) (k : W p l e R s m args below meth c H locs cells slots Q (F0 m (pc + 4) ls rest)) : W p l e R s m args below meth c H locs cells slots Q (F0 m pc ls (.long x :: .long x :: rest)) := by
  refine W.lcmp hx hb hd1 ?_
  have e0 : lg_cmp x x = iI 0 := by
    unfold lg_cmp
    rw [if_neg (fun q : x > x => Int64.lt_irrefl q), if_pos rfl]; rfl
  rw [e0]
  exact my_if_ne hx hb (by omega) hdg ht (fun q => absurd rfl q) (fun _ => k)
end LCS
def RS (s : State) (A : Nat → Prop) (D : va_G) (cs : Nat → ClassId) (b n : Nat) (H : Heap) (locs : List Loc) (ls : Array Slot) : Prop :=
  ∃ (oa : Nat → Nat) (IA LA : Nat → Nat → Nat) (sh it dy : Nat) (lc pct lr sr : Int) (lf lrf srf : Nat → Int) (cr : Nat → Bool) (IR : Nat → IT) (LR : Nat → LT) (z : SC) (ap al ad : Nat) (fp fl fd : Nat → Int) (un sa : Int),
    GI n sh it dy lc pct lr sr lf lrf srf cr IR LR fp fl fd un sa ∧ va_P D vwCl ([(ap, arI cs 2 fp), (ad, arI cs 6 fd), (al, arI cs 3 fl)] ++ (OW cs oa IA LA sh it dy lc pct lr sr lf lrf srf cr IR LR z)) H ∧ va_D A ([(ap, arI cs 2 fp), (ad, arI cs 6 fd), (al, arI cs 3 fl)] ++ (OW cs oa IA LA sh it dy lc pct lr sr lf lrf srf cr IR LR z)) ∧ va_S A s.heap H locs ∧ lv_has ls 22 [(0, .ref b), (1, .ref (oa 0)), (2, .ref al), (3, .ref ap), (4, .ref ad), (5, .int (iI (1))), (6, .long (lI (un))), (8, .int (iI ((((7 + 4 * n) : Nat) : Int)))), (9, .int (iI (sa))), (10, .int (iI (((n : Nat) : Int))))]
theorem RS_mk {s : State} {A : Nat → Prop} {D : va_G} {cs : Nat → ClassId} {b n : Nat} {H : Heap} {locs : List Loc} {ls : Array Slot} {oa : Nat → Nat} {IA LA : Nat → Nat → Nat} {sh it dy : Nat} {lc pct lr sr : Int} {lf lrf srf : Nat → Int} {cr : Nat → Bool} {IR : Nat → IT} {LR : Nat → LT} {z : SC} {ap al ad : Nat} {fp fl fd : Nat → Int} {un sa : Int} (hG : GI n sh it dy lc pct lr sr lf lrf srf cr IR LR fp fl fd un sa) (hP : va_P D vwCl ([(ap, arI cs 2 fp), (ad, arI cs 6 fd), (al, arI cs 3 fl)] ++ (OW cs oa IA LA sh it dy lc pct lr sr lf lrf srf cr IR LR z)) H) (hD : va_D A ([(ap, arI cs 2 fp), (ad, arI cs 6 fd), (al, arI cs 3 fl)] ++ (OW cs oa IA LA sh it dy lc pct lr sr lf lrf srf cr IR LR z))) (hS : va_S A s.heap H locs) (hl : lv_has ls 22 [(0, .ref b), (1, .ref (oa 0)), (2, .ref al), (3, .ref ap), (4, .ref ad), (5, .int (iI (1))), (6, .long (lI (un))), (8, .int (iI ((((7 + 4 * n) : Nat) : Int)))), (9, .int (iI (sa))), (10, .int (iI (((n : Nat) : Int))))]) : RS s A D cs b n H locs ls :=
  ⟨oa, IA, LA, sh, it, dy, lc, pct, lr, sr, lf, lrf, srf, cr, IR, LR, z, ap, al, ad, fp, fl, fd, un, sa, hG, hP, hD, hS, hl⟩
