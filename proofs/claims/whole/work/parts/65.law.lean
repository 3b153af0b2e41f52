/-! the law's body: what holds at its loop's head -/
def CX (p : Program) (l : Launch) (s : State) (m : MethodId) (args : Array Value) (c : Code) (b L : Nat) (xs : Nat → Int32) (A : Nat → Prop) (D : va_G) (cs : Nat → ClassId) : Prop :=
  p.tables.exec = Jvm.exec ∧ c.code = cL_law ∧ c.maxLocals = 8 ∧ s.vm.findClass RL = some m.cls ∧ (∀ w ∈ ALL, w.before args s = true) ∧ va_X b L xs s s.heap ∧ b < s.heap.size ∧ KK D cs s ∧ NN s ∧ EV A s ∧ L ≤ 2560 ∧ l.stackTraces = false ∧ (∀ q : Nat, s.heap.size ≤ q → A q) ∧ ¬ A b
def RS (s : State) (A : Nat → Prop) (D : va_G) (cs : Nat → ClassId) (b n i5 : Nat) (H : Heap) (locs : List Loc) (ls : Array Slot) : Prop :=
  ∃ (po pd kr la ia na b4 b6 b8 b10 ulr usr ur uq ug km pL pP pC pI pM pS pV pN pE pA pO pT pD pG pW sh it dy : Nat) (ov : Nat → Int64) (od : Nat → UInt64) (lc pct lr sr rv pn th : Int) (lf lrf srf rse rq gv : Nat → Int) (IA LA : Nat → Nat → Nat) (cr : Nat → Bool) (IR : Nat → IT) (LR : Nat → LT) (mL mP mC mI mM mS mV mN mE mA mO mT mD mG mW : Nat → Int),
    JI sh it dy pct lr sr lf lrf srf cr IR LR mL mP mC mI mM mS mV mN mE mA mO mT mD ∧ dy ≤ n ∧ (0 ≤ lc ∧ lc ≤ (n : Int)) ∧ va_P D vwCl ([(km, .inr (6, [.int (iI (th)), .int (iI (((sh : Nat) : Int))), .int (iI (((it : Nat) : Int))), .int (iI (((dy : Nat) : Int))), .int (iI (lc)), .int (iI (pct)), .int (iI (lr)), .int (iI (sr)), .ref pL, .ref pP, .ref pC, .ref pI, .ref pM, .ref pS, .ref pV, .ref pN, .ref pE, .ref pA, .ref pO, .ref pT, .ref pD, .ref pG, .ref pW])), (pL, arI cs 4 mL), (pP, arI cs 5 mP), (pC, arI cs 5 mC), (pI, arZ cs 20 mI), (pM, arZ cs 5000 mM), (pS, arI cs 20 mS), (pV, arI cs 20 mV), (pN, arI cs 140 mN), (pE, arI cs 420 mE), (pA, arI cs 20 mA), (pO, arI cs 20 mO), (pT, arI cs 20 mT), (pD, arI cs 160 mD), (pG, arI cs 4 mG), (pW, arI cs 4 mW), (pd, .inl (cs 5, 1, .inr (.inr (.inr (.inl od))))), (po, .inl (cs 4, 1, .inr (.inl ov))), (kr, .inr (5, [.ref la, .ref ia, .ref na, .ref b4, .ref b6, .ref b8, .ref b10, .int (iI (((sh : Nat) : Int))), .int (iI (((it : Nat) : Int))), .int (iI (lc)), .int (iI (((dy : Nat) : Int))), .int (iI (pct)), .int (iI (lr)), .int (iI (sr))])), (la, arI cs 4 lf), (ia, arQ cs 2 5 (itq it IA)), (na, arQ cs 3 20 (lnq cr LA)), (b4, .inr (0, [.ref ulr])), (ulr, arI cs 1005 lrf), (b6, .inr (0, [.ref usr])), (usr, arI cs 1005 srf), (b8, .inr (2, [.ref ur, .int (iI (rv))])), (ur, arI cs 7 rse), (b10, .inr (4, [.ref uq, .ref ug, .int (iI (pn))])), (uq, arI cs 4 rq), (ug, arI cs 4 gv)] ++ (aW cs IA LA it cr IR LR)) H ∧ va_D A ([(km, .inr (6, [.int (iI (th)), .int (iI (((sh : Nat) : Int))), .int (iI (((it : Nat) : Int))), .int (iI (((dy : Nat) : Int))), .int (iI (lc)), .int (iI (pct)), .int (iI (lr)), .int (iI (sr)), .ref pL, .ref pP, .ref pC, .ref pI, .ref pM, .ref pS, .ref pV, .ref pN, .ref pE, .ref pA, .ref pO, .ref pT, .ref pD, .ref pG, .ref pW])), (pL, arI cs 4 mL), (pP, arI cs 5 mP), (pC, arI cs 5 mC), (pI, arZ cs 20 mI), (pM, arZ cs 5000 mM), (pS, arI cs 20 mS), (pV, arI cs 20 mV), (pN, arI cs 140 mN), (pE, arI cs 420 mE), (pA, arI cs 20 mA), (pO, arI cs 20 mO), (pT, arI cs 20 mT), (pD, arI cs 160 mD), (pG, arI cs 4 mG), (pW, arI cs 4 mW), (pd, .inl (cs 5, 1, .inr (.inr (.inr (.inl od))))), (po, .inl (cs 4, 1, .inr (.inl ov))), (kr, .inr (5, [.ref la, .ref ia, .ref na, .ref b4, .ref b6, .ref b8, .ref b10, .int (iI (((sh : Nat) : Int))), .int (iI (((it : Nat) : Int))), .int (iI (lc)), .int (iI (((dy : Nat) : Int))), .int (iI (pct)), .int (iI (lr)), .int (iI (sr))])), (la, arI cs 4 lf), (ia, arQ cs 2 5 (itq it IA)), (na, arQ cs 3 20 (lnq cr LA)), (b4, .inr (0, [.ref ulr])), (ulr, arI cs 1005 lrf), (b6, .inr (0, [.ref usr])), (usr, arI cs 1005 srf), (b8, .inr (2, [.ref ur, .int (iI (rv))])), (ur, arI cs 7 rse), (b10, .inr (4, [.ref uq, .ref ug, .int (iI (pn))])), (uq, arI cs 4 rq), (ug, arI cs 4 gv)] ++ (aW cs IA LA it cr IR LR)) ∧ va_S A s.heap H locs ∧ lv_has ls 8 [(0, .ref b), (1, .ref kr), (2, .ref km), (3, .ref po), (4, .ref pd), (5, .int (iI ((i5 : Nat) : Int)))]
theorem RS_mk {s : State} {A : Nat → Prop} {D : va_G} {cs : Nat → ClassId} {b n i5 : Nat} {H : Heap} {locs : List Loc} {ls : Array Slot} {po pd kr la ia na b4 b6 b8 b10 ulr usr ur uq ug km pL pP pC pI pM pS pV pN pE pA pO pT pD pG pW sh it dy : Nat} {ov : Nat → Int64} {od : Nat → UInt64} {lc pct lr sr rv pn th : Int} {lf lrf srf rse rq gv : Nat → Int} {IA LA : Nat → Nat → Nat} {cr : Nat → Bool} {IR : Nat → IT} {LR : Nat → LT} {mL mP mC mI mM mS mV mN mE mA mO mT mD mG mW : Nat → Int} (hJ : JI sh it dy pct lr sr lf lrf srf cr IR LR mL mP mC mI mM mS mV mN mE mA mO mT mD) (h1 : dy ≤ n) (h2 : 0 ≤ lc ∧ lc ≤ (n : Int)) (hP : va_P D vwCl ([(km, .inr (6, [.int (iI (th)), .int (iI (((sh : Nat) : Int))), .int (iI (((it : Nat) : Int))), .int (iI (((dy : Nat) : Int))), .int (iI (lc)), .int (iI (pct)), .int (iI (lr)), .int (iI (sr)), .ref pL, .ref pP, .ref pC, .ref pI, .ref pM, .ref pS, .ref pV, .ref pN, .ref pE, .ref pA, .ref pO, .ref pT, .ref pD, .ref pG, .ref pW])), (pL, arI cs 4 mL), (pP, arI cs 5 mP), (pC, arI cs 5 mC), (pI, arZ cs 20 mI), (pM, arZ cs 5000 mM), (pS, arI cs 20 mS), (pV, arI cs 20 mV), (pN, arI cs 140 mN), (pE, arI cs 420 mE), (pA, arI cs 20 mA), (pO, arI cs 20 mO), (pT, arI cs 20 mT), (pD, arI cs 160 mD), (pG, arI cs 4 mG), (pW, arI cs 4 mW), (pd, .inl (cs 5, 1, .inr (.inr (.inr (.inl od))))), (po, .inl (cs 4, 1, .inr (.inl ov))), (kr, .inr (5, [.ref la, .ref ia, .ref na, .ref b4, .ref b6, .ref b8, .ref b10, .int (iI (((sh : Nat) : Int))), .int (iI (((it : Nat) : Int))), .int (iI (lc)), .int (iI (((dy : Nat) : Int))), .int (iI (pct)), .int (iI (lr)), .int (iI (sr))])), (la, arI cs 4 lf), (ia, arQ cs 2 5 (itq it IA)), (na, arQ cs 3 20 (lnq cr LA)), (b4, .inr (0, [.ref ulr])), (ulr, arI cs 1005 lrf), (b6, .inr (0, [.ref usr])), (usr, arI cs 1005 srf), (b8, .inr (2, [.ref ur, .int (iI (rv))])), (ur, arI cs 7 rse), (b10, .inr (4, [.ref uq, .ref ug, .int (iI (pn))])), (uq, arI cs 4 rq), (ug, arI cs 4 gv)] ++ (aW cs IA LA it cr IR LR)) H) (hD : va_D A ([(km, .inr (6, [.int (iI (th)), .int (iI (((sh : Nat) : Int))), .int (iI (((it : Nat) : Int))), .int (iI (((dy : Nat) : Int))), .int (iI (lc)), .int (iI (pct)), .int (iI (lr)), .int (iI (sr)), .ref pL, .ref pP, .ref pC, .ref pI, .ref pM, .ref pS, .ref pV, .ref pN, .ref pE, .ref pA, .ref pO, .ref pT, .ref pD, .ref pG, .ref pW])), (pL, arI cs 4 mL), (pP, arI cs 5 mP), (pC, arI cs 5 mC), (pI, arZ cs 20 mI), (pM, arZ cs 5000 mM), (pS, arI cs 20 mS), (pV, arI cs 20 mV), (pN, arI cs 140 mN), (pE, arI cs 420 mE), (pA, arI cs 20 mA), (pO, arI cs 20 mO), (pT, arI cs 20 mT), (pD, arI cs 160 mD), (pG, arI cs 4 mG), (pW, arI cs 4 mW), (pd, .inl (cs 5, 1, .inr (.inr (.inr (.inl od))))), (po, .inl (cs 4, 1, .inr (.inl ov))), (kr, .inr (5, [.ref la, .ref ia, .ref na, .ref b4, .ref b6, .ref b8, .ref b10, .int (iI (((sh : Nat) : Int))), .int (iI (((it : Nat) : Int))), .int (iI (lc)), .int (iI (((dy : Nat) : Int))), .int (iI (pct)), .int (iI (lr)), .int (iI (sr))])), (la, arI cs 4 lf), (ia, arQ cs 2 5 (itq it IA)), (na, arQ cs 3 20 (lnq cr LA)), (b4, .inr (0, [.ref ulr])), (ulr, arI cs 1005 lrf), (b6, .inr (0, [.ref usr])), (usr, arI cs 1005 srf), (b8, .inr (2, [.ref ur, .int (iI (rv))])), (ur, arI cs 7 rse), (b10, .inr (4, [.ref uq, .ref ug, .int (iI (pn))])), (uq, arI cs 4 rq), (ug, arI cs 4 gv)] ++ (aW cs IA LA it cr IR LR))) (hS : va_S A s.heap H locs) (hl : lv_has ls 8 [(0, .ref b), (1, .ref kr), (2, .ref km), (3, .ref po), (4, .ref pd), (5, .int (iI ((i5 : Nat) : Int)))]) : RS s A D cs b n i5 H locs ls :=
  ⟨po, pd, kr, la, ia, na, b4, b6, b8, b10, ulr, usr, ur, uq, ug, km, pL, pP, pC, pI, pM, pS, pV, pN, pE, pA, pO, pT, pD, pG, pW, sh, it, dy, ov, od, lc, pct, lr, sr, rv, pn, th, lf, lrf, srf, rse, rq, gv, IA, LA, cr, IR, LR, mL, mP, mC, mI, mM, mS, mV, mN, mE, mA, mO, mT, mD, mG, mW, hJ, h1, h2, hP, hD, hS, hl⟩
theorem rm_c {x : Nat} (h : x ≤ 60000) : x ≤ room_1.cells := Nat.le_trans h (Nat.le_of_ble_eq_true rfl)
theorem rm_s {x : Nat} (h : x ≤ 8900000) : x ≤ room_1.slots := Nat.le_trans h (Nat.le_of_ble_eq_true rfl)
theorem PE_Sa {D : va_G} {cs : Nat → ClassId} {W : va_W} {s : State} {H : Heap} {As : List Value} {A A0 A1 : Nat → Prop} {locs : List Loc} (hK : KK D cs s) (hN : NN s) (hE : EV A s) (hS : va_S A s.heap H locs) (hA : ∀ q, A1 q → A q) (hP : va_P D vwCl W H) (hD : va_D A0 W) : PreS s H (va_Pc As (PE D cs W A1)) As :=
  ⟨PE_blind, fun U hU hW => ⟨rfl, ⟨by rw [hU]; exact hP, va_K.moved hW.alike hK, inW_D hD, hN.warm hW⟩, hE.call hS hA hU hW⟩⟩
theorem PAE_S {D : va_G} {cs : Nat → ClassId} {W ws : va_W} {s : State} {H : Heap} {As : List Value} {A A0 A1 : Nat → Prop} {locs : List Loc} (hK : KK D cs s) (hN : NN s) (hE : EV A s) (hS : va_S A s.heap H locs) (hA : ∀ q, A1 q → A q) (hP : va_P D vwCl ws H) (hD : va_D A0 ws) (is : List Nat) (hn : va_nd is = true) (hp : picks ws is W) : PreS s H (va_Pc As (fun U => U.heap.size = H.size ∧ PE D cs W A1 U)) As :=
  ⟨fun a U g mk q => by
    obtain ⟨q0, q1, qE⟩ := q
    exact ⟨q0, q1, (PE_blind (av := As) a U g mk ⟨q0, qE⟩).2⟩, fun U hU hW => ⟨rfl, by rw [hU], ⟨by rw [hU]; exact P_pick hP is hp, va_K.moved hW.alike hK, inW_D (D_pick hD is hn hp), hN.warm hW⟩, hE.call hS hA hU hW⟩⟩
section MYX
variable {p : Program} {l : Launch} {e : Env} {R : Room} {s : State} {m : MethodId} {args : Array Value} {below : List Frame} {meth : Method} {c : Code} {H : Heap} {locs : List Loc} {cells slots : Nat} {Q : State → Prop} {cc : ByteArray} {pc : Nat} {ls : Array Slot} {rest : List Value} {D : va_G} {cs : Nat → ClassId} {ws : va_W} {A : Nat → Prop} {H0 : Heap}
theorem my_sld (hx : p.tables.exec = Jvm.exec) (hb : c.code = cc) {b L : Nat} {xs : Nat → Int32} (hX : va_X b L xs s H0) (hbl : b < H0.size) (hbA : ¬ A b) (hS : va_S A H0 H locs) {k : Nat} (hk : k < L ∧ L ≤ 2560) {z : Int} (hz : (xs k).toInt = z) (hdg : decode cc pc = .ok (.iaload, 1))
    (kk : W p l e R s m args below meth c H locs cells slots Q (F0 m (pc + 1) ls (.int (iI z) :: rest))) : W p l e R s m args below meth c H locs cells slots Q (F0 m pc ls (.int (iI ((k : Nat) : Int)) :: .ref b :: rest)) := by
  refine va_sld hx hb hX hbl hbA hS (iI_in (by omega)) hdg ?_
  rw [iI_cl (by omega), Int.toNat_natCast, iI_of (xs k), hz]; exact kk
theorem my_lald0 (hx : p.tables.exec = Jvm.exec) (hb : c.code = cc) (hK : KK D cs s) (hP : va_P D vwCl ws H) (q0 : Nat) {a : Nat} {f : Nat → Int64} {x : Int64} (ha : ws[q0]? = some (a, .inl (cs 4, 1, .inr (.inl (vp_updL f 0 x))))) (hdg : decode cc pc = .ok (.laload, 1))
    (kk : W p l e R s m args below meth c H locs cells slots Q (F0 m (pc + 1) ls (.long x :: rest))) : W p l e R s m args below meth c H locs cells slots Q (F0 m pc ls (.int (iI 0) :: .ref a :: rest)) := by
  refine va_lald hx hb hK hP q0 4 ha rfl (iI_in (by omega)) hdg ?_
  rw [iI_cl (by omega)]; exact kk
theorem my_dald0 (hx : p.tables.exec = Jvm.exec) (hb : c.code = cc) (hK : KK D cs s) (hP : va_P D vwCl ws H) (q0 : Nat) {a : Nat} {f : Nat → UInt64} {x : UInt64} (ha : ws[q0]? = some (a, .inl (cs 5, 1, .inr (.inr (.inr (.inl (vf_upd f 0 x))))))) (hdg : decode cc pc = .ok (.daload, 1))
    (kk : W p l e R s m args below meth c H locs cells slots Q (F0 m (pc + 1) ls (.double x :: rest))) : W p l e R s m args below meth c H locs cells slots Q (F0 m pc ls (.int (iI 0) :: .ref a :: rest)) := by
  refine va_dald hx hb hK hP q0 5 ha rfl (iI_in (by omega)) hdg ?_
  rw [iI_cl (by omega)]; exact kk
theorem my_cvf {a z : UInt32} (h : a = z) (k : W p l e R s m args below meth c H locs cells slots Q (F0 m pc ls (.float z :: rest))) : W p l e R s m args below meth c H locs cells slots Q (F0 m pc ls (.float a :: rest)) := by rw [h]; exact k
/-- a double compared with itself -/
theorem my_dcmp0 (hx : p.tables.exec = Jvm.exec) (hb : c.code = cc) {x : UInt64} (h : Jvm.FP.Core.dIsNaN x = false) {op : CmpOp} {off : Int} {tgt : Nat} (hd1 : decode cc pc = .ok (.dcmp op, 1)) (hdg : decode cc (pc + 1) = .ok (.ifCond .eq off, 3)) (ht : ((pc + 1 : Nat) : Int) + off = (tgt : Int)) (k : W p l e R s m args below meth c H locs cells slots Q (F0 m tgt ls rest)) : W p l e R s m args below meth c H locs cells slots Q (F0 m pc ls (.double x :: .double x :: rest)) := by
  refine lv_dcmp hx hb hd1 ?_
  have e0 : FP.dcmp x x = some .eq := Jvm.FP.Core.dcmp_refl h
  rw [e0]
  exact lv_if_eq hx hb hdg ht (fun _ => k) (fun q => absurd rfl q)
end MYX
theorem lnq_t {cr : Nat → Bool} {LA : Nat → Nat → Nat} {a : Nat} (h : cr a = true) : lnq cr LA a = some (LA a 0) := if_pos h
theorem lnq_f {cr : Nat → Bool} {LA : Nat → Nat → Nat} {a : Nat} (h : ¬ cr a = true) : lnq cr LA a = none := if_neg h
theorem itq_t {it : Nat} {IA : Nat → Nat → Nat} {i : Nat} (h : i < it) : itq it IA i = some (IA i 0) := if_pos h
/-! a new item, a new line: their cells come behind -/
theorem fAll_new {n : Nat} {f g : Nat → va_W} {a : Nat} (ha : a < n) (h : ∀ b, b ≠ a → f b = g b) (h0 : f a = []) : (fAll n f ++ g a).Perm (fAll n g) := by
  have e1 := f_op f ha
  rw [h0, List.nil_append, fEx_eq (n := n) (a := a) h] at e1
  exact ((e1.append_right (g a)).trans List.perm_append_comm).trans (f_op g ha).symm
theorem aW_item {cs : Nat → ClassId} {IA LA : Nat → Nat → Nat} {it : Nat} {cr : Nat → Bool} {IR : Nat → IT} {LR : Nat → LT} (u : Nat → Nat) (r : IT) (hi : it < 5) (hci : ∀ a, cr a = true → a % 5 < it) : (aW cs IA LA it cr IR LR ++ itD cs (upR IA it u) it r).Perm (aW cs (upR IA it u) LA (it + 1) cr (upR IR it r) LR) := by
  unfold aW
  have e1 : lnC cs IA LA cr LR = lnC cs (upR IA it u) LA cr LR := by
    funext a
    unfold lnC
    by_cases hc : cr a = true
    · have := hci a hc
      rw [if_pos hc, if_pos hc]
      unfold lnD
      rw [upR_ne (show a % 5 ≠ it by omega)]
    · rw [if_neg hc, if_neg hc]
  have e2 := fAll_new (n := 5) (f := itC cs IA it IR) (g := itC cs (upR IA it u) (it + 1) (upR IR it r)) (a := it) hi (fun b hb => by
    unfold itC
    by_cases q : b < it
    · rw [if_pos q, if_pos (by omega)]
      unfold itD
      rw [upR_ne hb, upR_ne hb]
    · rw [if_neg q, if_neg (by omega)]) (if_neg (by omega))
  rw [show itC cs (upR IA it u) (it + 1) (upR IR it r) it = itD cs (upR IA it u) it r from by unfold itC; rw [if_pos (by omega), upR_same]] at e2
  rw [e1]
  refine List.Perm.trans ?_ (e2.append_right _)
  rw [List.append_assoc, List.append_assoc]
  exact List.perm_append_comm.append_left _
theorem aW_line {cs : Nat → ClassId} {IA LA : Nat → Nat → Nat} {it : Nat} {cr : Nat → Bool} {IR : Nat → IT} {LR : Nat → LT} {a : Nat} (u : Nat → Nat) (r : LT) (ha : a < 20) (hc : ¬ cr a = true) : (aW cs IA LA it cr IR LR ++ lnD cs IA (upR LA a u) a r).Perm (aW cs IA (upR LA a u) it (upR cr a true) IR (upR LR a r)) := by
  unfold aW
  have e2 := fAll_new (n := 20) (f := lnC cs IA LA cr LR) (g := lnC cs IA (upR LA a u) (upR cr a true) (upR LR a r)) (a := a) ha (fun b hb => by
    unfold lnC
    rw [upR_ne hb]
    by_cases q : cr b = true
    · rw [if_pos q, if_pos q]
      unfold lnD
      rw [upR_ne hb, upR_ne hb]
    · rw [if_neg q, if_neg q]) (if_neg hc)
  rw [show lnC cs IA (upR LA a u) (upR cr a true) (upR LR a r) a = lnD cs IA (upR LA a u) a r from by unfold lnC; rw [upR_same, if_pos rfl, upR_same]] at e2
  rw [List.append_assoc]
  exact e2.append_left _
theorem itq_up {it : Nat} {IA : Nat → Nat → Nat} (u : Nat → Nat) : va_up (itq it IA) it (some (u 0)) = itq (it + 1) (upR IA it u) := by
  funext j
  unfold va_up itq
  by_cases e : j = it
  · subst e; rw [if_pos rfl, if_pos (by omega), upR_same]
  · rw [if_neg e, upR_ne e]
    by_cases q : j < it
    · rw [if_pos q, if_pos (by omega)]
    · rw [if_neg q, if_neg (by omega)]
theorem lnq_up {cr : Nat → Bool} {LA : Nat → Nat → Nat} {a : Nat} (u : Nat → Nat) : va_up (lnq cr LA) a (some (u 0)) = lnq (upR cr a true) (upR LA a u) := by
  funext j
  unfold va_up lnq
  by_cases e : j = a
  · subst e; rw [if_pos rfl, upR_same, upR_same, if_pos rfl]
  · rw [if_neg e, upR_ne e, upR_ne e]
theorem JI_ldm {sh it dy : Nat} {pct lr sr : Int} {lf lrf srf : Nat → Int} {cr : Nat → Bool} {IR : Nat → IT} {LR : Nat → LT} {mL mP mC mI mM mS mV mN mE mA mO mT mD : Nat → Int} (h : JI sh it dy pct lr sr lf lrf srf cr IR LR mL mP mC mI mM mS mV mN mE mA mO mT mD) (a j : Nat) : 0 ≤ ldm (LR a) j ∧ ldm (LR a) j ≤ 999 := by
  by_cases hc : cr a = true
  · exact (h.2.2.2.2.2.2.1 a hc).2.2.2.2.2.1 j
  · rw [(h.2.2.2.2.2.2.2 a hc).1]
    exact ⟨Int.le_refl _, by show (0 : Int) ≤ 999; omega⟩
theorem JI_sol {sh it dy : Nat} {pct lr sr : Int} {lf lrf srf : Nat → Int} {cr : Nat → Bool} {IR : Nat → IT} {LR : Nat → LT} {mL mP mC mI mM mS mV mN mE mA mO mT mD : Nat → Int} (h : JI sh it dy pct lr sr lf lrf srf cr IR LR mL mP mC mI mM mS mV mN mE mA mO mT mD) (a : Nat) : (0 ≤ lso (LR a) ∧ lso (LR a) ≤ 1000000) ∧ (0 ≤ llo (LR a) ∧ llo (LR a) ≤ 1000000) := by
  by_cases hc : cr a = true
  · have h3 := JI_OT h a
    have g := (h.2.2.2.2.2.2.1 a hc).2.2.2.2.2.2.2.2.2.2.2.2.2.2.1
    omega
  · rw [(h.2.2.2.2.2.2.2 a hc).1]
    exact ⟨⟨Int.le_refl _, by show (0 : Int) ≤ 1000000; omega⟩, ⟨Int.le_refl _, by show (0 : Int) ≤ 1000000; omega⟩⟩
