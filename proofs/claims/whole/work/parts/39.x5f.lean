abbrev ws_X5_night : List Cond := Cond.code yX5_night cX5_night 3 (some .int) :: ALL
set_option maxHeartbeats 4000000 in
set_option maxRecDepth 100000 in
theorem m_X5_night_no (l : Launch) (hst : l.stackTraces = false) (D : va_G) (cs : Nat → ClassId) (kr la ia na b4 b6 b8 b10 sh it : Nat) (lc : Int) (dy : Nat) (pct lr sr : Int) (hd : dy = 999) : vx_Met l yX5_night ws_X5_night ({ frames := 6, cells := 1, slots := 6, locals := 82 }) (va_Pc [.ref kr] (PE D cs [(kr, .inr (5, [.ref la, .ref ia, .ref na, .ref b4, .ref b6, .ref b8, .ref b10, .int (iI (((sh : Nat) : Int))), .int (iI (((it : Nat) : Int))), .int (iI (lc)), .int (iI (((dy : Nat) : Int))), .int (iI (pct)), .int (iI (lr)), .int (iI (sr))]))] noA)) (va_Qi (fun r (_ : Unit) => 4 = 0 ∧ r = iI (0)) (fun _ _ => True) noA) (vx_X (fun (u : Nat) => u = 4 ∧ u ≠ 0) (fun E u _ => E = exN u) noA) 1 6 noA := by
  refine vx_ofW (cc := cX5_night) (maxL := 3) (ret := (some .int)) (by decide +kernel) rfl ?_
  intro p e s m args below meth c s₁ B hml hnt hv
  obtain ⟨rfl, ⟨hP, hK, hD, hN⟩, hE⟩ := hv
  have hx := B.exec
  have hb := B.bytes
  have hr := B.returns
  have hts : ∀ w ∈ ALL, w.before _ s = true := fun w h => atoms_spec (ws := ws_X5_night) B.pre w (List.mem_cons_of_mem _ h)
  have hown : s.vm.findClass RX5 = some m.cls := findClass_of_methodNamed B.named
  have hlocks := B.notSynchronized
  have hS : va_S noA s.heap s.heap [] := va_S.rf
  generalize inW [(kr, .inr (5, [.ref la, .ref ia, .ref na, .ref b4, .ref b6, .ref b8, .ref b10, .int (iI (((sh : Nat) : Int))), .int (iI (((it : Nat) : Int))), .int (iI (lc)), .int (iI (((dy : Nat) : Int))), .int (iI (pct)), .int (iI (lr)), .int (iI (sr))]))] = A at hD
  have hl := lv_entry ([.ref kr]) (n := 3) (Nat.le_of_ble_eq_true rfl)
  rw [lg_entry_eq]
  generalize (lg_sl ([.ref kr]) ++ List.replicate (3 - (lg_sl ([.ref kr])).length) Slot.unset).toArray = ls at hl ⊢
  have hl : lv_has ls 3 [(0, .ref kr)] := hl
  have hH := rfl (a := s.heap)
  refine lv_aload_n hx hb dX5_night_0 rfl (lv_at hl 0 rfl) ?_
  refine my_get hx hb hts inAX5 hown hK hP 0 rfl rfl 10 (by decide) w_80 rfl rfl dX5_night_1 ?_
  refine lv_sipush (v := iI (999)) hx hb dX5_night_4 (by decide) ?_
  refine my_icmp_lt (tgt := 20) hx hb (by omega) dX5_night_7 (by decide) (fun bh1 => (by omega : False).elim) (fun bh1 => ?_)
  refine my_throw4 hx hb hst hts hown hE hS (hml.trans hl.1.symm) w_208 (List.mem_of_getElem? (i := 17) rfl) hnt hlocks dX5_night_10 dX5_night_13 dX5_night_14 dX5_night_16 dX5_night_19 (Nat.le_of_ble_eq_true rfl) (Nat.le_of_ble_eq_true rfl) (Nat.le_of_ble_eq_true rfl) (Nat.le_of_ble_eq_true rfl) (fun t H1 ht hz1 hk1 hS1 => ?_) hS.2.2 (Nat.le_of_ble_eq_true rfl) (Nat.le_of_ble_eq_true rfl)
  have hcode : 4 = 4 := by
      rfl
  exact ⟨4, ⟨hcode, by decide⟩, rfl, hS1.F ht⟩

set_option maxHeartbeats 4000000 in
set_option maxRecDepth 100000 in
theorem m_X5_night_ok (l : Launch) (hst : l.stackTraces = false) (D : va_G) (cs : Nat → ClassId) (kr la ia na b4 b6 b8 b10 sh it : Nat) (lc : Int) (dy : Nat) (pct lr sr : Int) (ulr usr ur uq ug : Nat) (lf lrf srf rse rq gv : Nat → Int) (rv pn : Int) (IA LA : Nat → Nat → Nat) (cr : Nat → Bool) (IR : Nat → IT) (LR : Nat → LT) (hsh : sh ≤ 4) (hit : it ≤ 5) (hci : ∀ a, cr a = true → a % 5 < it ∧ a / 5 < sh) (hpr : ∀ i j, 0 ≤ ipr (IR i) j ∧ ipr (IR i) j ≤ 1) (hlv : ∀ a, 0 ≤ llv (LR a) ∧ llv (LR a) ≤ 9990000) (hse : ∀ a w, 100 ≤ lse (LR a) w ∧ lse (LR a) w ≤ 5000) (hdm : ∀ a j, 0 ≤ ldm (LR a) j ∧ ldm (LR a) j ≤ 999) (hd : dy < 999) (hlr : 0 ≤ lr ∧ lr ≤ 100) (hsr : 0 ≤ sr ∧ sr ≤ 100) (hpc : 1 ≤ pct ∧ pct ≤ 100) (hlk : ∀ a, lOK (dy + 1) ((qS cr (rcvR (dy + 1)) (qS (cL cr IR dy) (lrnR dy lr sr) LR 20) 20) a)) (hik : ∀ i, iOK (IR i)) : vx_Met l yX5_night ws_X5_night ({ frames := 6, cells := 0, slots := 0, locals := 140 }) (va_Pc [.ref kr] (PE D cs ([(kr, .inr (5, [.ref la, .ref ia, .ref na, .ref b4, .ref b6, .ref b8, .ref b10, .int (iI (((sh : Nat) : Int))), .int (iI (((it : Nat) : Int))), .int (iI (lc)), .int (iI (((dy : Nat) : Int))), .int (iI (pct)), .int (iI (lr)), .int (iI (sr))])), (la, arI cs 4 lf), (ia, arQ cs 2 5 (itq it IA)), (na, arQ cs 3 20 (lnq cr LA)), (b4, .inr (0, [.ref ulr])), (ulr, arI cs 1005 lrf), (b6, .inr (0, [.ref usr])), (usr, arI cs 1005 srf), (b8, .inr (2, [.ref ur, .int (iI (rv))])), (ur, arI cs 7 rse), (b10, .inr (4, [.ref uq, .ref ug, .int (iI (pn))])), (uq, arI cs 4 rq), (ug, arI cs 4 gv)] ++ (aW cs IA LA it cr IR LR)) (inW ([(kr, .inr (5, [.ref la, .ref ia, .ref na, .ref b4, .ref b6, .ref b8, .ref b10, .int (iI (((sh : Nat) : Int))), .int (iI (((it : Nat) : Int))), .int (iI (lc)), .int (iI (((dy : Nat) : Int))), .int (iI (pct)), .int (iI (lr)), .int (iI (sr))])), (la, arI cs 4 lf), (ia, arQ cs 2 5 (itq it IA)), (na, arQ cs 3 20 (lnq cr LA)), (b4, .inr (0, [.ref ulr])), (ulr, arI cs 1005 lrf), (b6, .inr (0, [.ref usr])), (usr, arI cs 1005 srf), (b8, .inr (2, [.ref ur, .int (iI (rv))])), (ur, arI cs 7 rse), (b10, .inr (4, [.ref uq, .ref ug, .int (iI (pn))])), (uq, arI cs 4 rq), (ug, arI cs 4 gv)] ++ (aW cs IA LA it cr IR LR))))) (va_Qi (fun r (_ : Unit) => 0 = 0 ∧ r = iI ((ntS (dy + 1) pct cr sh (IR, (qS cr (rcvR (dy + 1)) (qS (cL cr IR dy) (lrnR dy lr sr) LR 20) 20), rq, pn, 0) it).2.2.2.2)) (fun _ t => va_P D vwCl ([(kr, .inr (5, [.ref la, .ref ia, .ref na, .ref b4, .ref b6, .ref b8, .ref b10, .int (iI (((sh : Nat) : Int))), .int (iI (((it : Nat) : Int))), .int (iI (lc)), .int (iI ((((dy + 1) : Nat) : Int))), .int (iI (pct)), .int (iI (lr)), .int (iI (sr))])), (la, arI cs 4 lf), (ia, arQ cs 2 5 (itq it IA)), (na, arQ cs 3 20 (lnq cr LA)), (b4, .inr (0, [.ref ulr])), (ulr, arI cs 1005 (upI lrf dy (lrf dy + lr))), (b6, .inr (0, [.ref usr])), (usr, arI cs 1005 (upI srf dy (srf dy + sr))), (b8, .inr (2, [.ref ur, .int (iI (rv))])), (ur, arI cs 7 rse), (b10, .inr (4, [.ref uq, .ref ug, .int (iI ((ntS (dy + 1) pct cr sh (IR, (qS cr (rcvR (dy + 1)) (qS (cL cr IR dy) (lrnR dy lr sr) LR 20) 20), rq, pn, 0) it).2.2.2.1))])), (uq, arI cs 4 ((ntS (dy + 1) pct cr sh (IR, (qS cr (rcvR (dy + 1)) (qS (cL cr IR dy) (lrnR dy lr sr) LR 20) 20), rq, pn, 0) it).2.2.1)), (ug, arI cs 4 gv)] ++ (aW cs IA LA it cr ((ntS (dy + 1) pct cr sh (IR, (qS cr (rcvR (dy + 1)) (qS (cL cr IR dy) (lrnR dy lr sr) LR 20) 20), rq, pn, 0) it).1) ((ntS (dy + 1) pct cr sh (IR, (qS cr (rcvR (dy + 1)) (qS (cL cr IR dy) (lrnR dy lr sr) LR 20) 20), rq, pn, 0) it).2.1))) t.heap) (inW ([(kr, .inr (5, [.ref la, .ref ia, .ref na, .ref b4, .ref b6, .ref b8, .ref b10, .int (iI (((sh : Nat) : Int))), .int (iI (((it : Nat) : Int))), .int (iI (lc)), .int (iI (((dy : Nat) : Int))), .int (iI (pct)), .int (iI (lr)), .int (iI (sr))])), (la, arI cs 4 lf), (ia, arQ cs 2 5 (itq it IA)), (na, arQ cs 3 20 (lnq cr LA)), (b4, .inr (0, [.ref ulr])), (ulr, arI cs 1005 lrf), (b6, .inr (0, [.ref usr])), (usr, arI cs 1005 srf), (b8, .inr (2, [.ref ur, .int (iI (rv))])), (ur, arI cs 7 rse), (b10, .inr (4, [.ref uq, .ref ug, .int (iI (pn))])), (uq, arI cs 4 rq), (ug, arI cs 4 gv)] ++ (aW cs IA LA it cr IR LR)))) (vx_X (fun (u : Nat) => u = 0 ∧ u ≠ 0) (fun E u t => E = exN u ∧ va_P D vwCl ([(kr, .inr (5, [.ref la, .ref ia, .ref na, .ref b4, .ref b6, .ref b8, .ref b10, .int (iI (((sh : Nat) : Int))), .int (iI (((it : Nat) : Int))), .int (iI (lc)), .int (iI (((dy : Nat) : Int))), .int (iI (pct)), .int (iI (lr)), .int (iI (sr))])), (la, arI cs 4 lf), (ia, arQ cs 2 5 (itq it IA)), (na, arQ cs 3 20 (lnq cr LA)), (b4, .inr (0, [.ref ulr])), (ulr, arI cs 1005 lrf), (b6, .inr (0, [.ref usr])), (usr, arI cs 1005 srf), (b8, .inr (2, [.ref ur, .int (iI (rv))])), (ur, arI cs 7 rse), (b10, .inr (4, [.ref uq, .ref ug, .int (iI (pn))])), (uq, arI cs 4 rq), (ug, arI cs 4 gv)] ++ (aW cs IA LA it cr IR LR)) t.heap) (inW ([(kr, .inr (5, [.ref la, .ref ia, .ref na, .ref b4, .ref b6, .ref b8, .ref b10, .int (iI (((sh : Nat) : Int))), .int (iI (((it : Nat) : Int))), .int (iI (lc)), .int (iI (((dy : Nat) : Int))), .int (iI (pct)), .int (iI (lr)), .int (iI (sr))])), (la, arI cs 4 lf), (ia, arQ cs 2 5 (itq it IA)), (na, arQ cs 3 20 (lnq cr LA)), (b4, .inr (0, [.ref ulr])), (ulr, arI cs 1005 lrf), (b6, .inr (0, [.ref usr])), (usr, arI cs 1005 srf), (b8, .inr (2, [.ref ur, .int (iI (rv))])), (ur, arI cs 7 rse), (b10, .inr (4, [.ref uq, .ref ug, .int (iI (pn))])), (uq, arI cs 4 rq), (ug, arI cs 4 gv)] ++ (aW cs IA LA it cr IR LR)))) 0 0 (inW ([(kr, .inr (5, [.ref la, .ref ia, .ref na, .ref b4, .ref b6, .ref b8, .ref b10, .int (iI (((sh : Nat) : Int))), .int (iI (((it : Nat) : Int))), .int (iI (lc)), .int (iI (((dy : Nat) : Int))), .int (iI (pct)), .int (iI (lr)), .int (iI (sr))])), (la, arI cs 4 lf), (ia, arQ cs 2 5 (itq it IA)), (na, arQ cs 3 20 (lnq cr LA)), (b4, .inr (0, [.ref ulr])), (ulr, arI cs 1005 lrf), (b6, .inr (0, [.ref usr])), (usr, arI cs 1005 srf), (b8, .inr (2, [.ref ur, .int (iI (rv))])), (ur, arI cs 7 rse), (b10, .inr (4, [.ref uq, .ref ug, .int (iI (pn))])), (uq, arI cs 4 rq), (ug, arI cs 4 gv)] ++ (aW cs IA LA it cr IR LR))) := by
  refine vx_ofW (cc := cX5_night) (maxL := 3) (ret := (some .int)) (by decide +kernel) rfl ?_
  intro p e s m args below meth c s₁ B hml hnt hv
  obtain ⟨rfl, ⟨hP, hK, hD, hN⟩, hE⟩ := hv
  have hx := B.exec
  have hb := B.bytes
  have hr := B.returns
  have hts : ∀ w ∈ ALL, w.before _ s = true := fun w h => atoms_spec (ws := ws_X5_night) B.pre w (List.mem_cons_of_mem _ h)
  have hown : s.vm.findClass RX5 = some m.cls := findClass_of_methodNamed B.named
  have hlocks := B.notSynchronized
  generalize hAe : inW ([(kr, .inr (5, [.ref la, .ref ia, .ref na, .ref b4, .ref b6, .ref b8, .ref b10, .int (iI (((sh : Nat) : Int))), .int (iI (((it : Nat) : Int))), .int (iI (lc)), .int (iI (((dy : Nat) : Int))), .int (iI (pct)), .int (iI (lr)), .int (iI (sr))])), (la, arI cs 4 lf), (ia, arQ cs 2 5 (itq it IA)), (na, arQ cs 3 20 (lnq cr LA)), (b4, .inr (0, [.ref ulr])), (ulr, arI cs 1005 lrf), (b6, .inr (0, [.ref usr])), (usr, arI cs 1005 srf), (b8, .inr (2, [.ref ur, .int (iI (rv))])), (ur, arI cs 7 rse), (b10, .inr (4, [.ref uq, .ref ug, .int (iI (pn))])), (uq, arI cs 4 rq), (ug, arI cs 4 gv)] ++ (aW cs IA LA it cr IR LR)) = A at hD hE ⊢
  have hS : va_S A s.heap s.heap [] := va_S.rf
  have hl := lv_entry ([.ref kr]) (n := 3) (Nat.le_of_ble_eq_true rfl)
  rw [lg_entry_eq]
  generalize (lg_sl ([.ref kr]) ++ List.replicate (3 - (lg_sl ([.ref kr])).length) Slot.unset).toArray = ls at hl ⊢
  have hl : lv_has ls 3 [(0, .ref kr)] := hl
  have hH := rfl (a := s.heap)
  have hout := fun i => ntS_out (dy := dy + 1) (pct := pct) (cr := cr) (sh := sh) (S0 := (IR, (qS cr (rcvR (dy + 1)) (qS (cL cr IR dy) (lrnR dy lr sr) LR 20) 20), rq, pn, 0)) i
  refine lv_aload_n hx hb dX5_night_0 rfl (lv_at hl 0 rfl) ?_
  refine my_get hx hb hts inAX5 hown hK hP 0 rfl rfl 10 (by decide) w_80 rfl rfl dX5_night_1 ?_
  refine lv_sipush (v := iI (999)) hx hb dX5_night_4 (by decide) ?_
  refine my_icmp_lt (tgt := 20) hx hb (by omega) dX5_night_7 (by decide) (fun bh1 => ?_) (fun bh1 => (by omega : False).elim)
  refine lv_aload_n hx hb dX5_night_20 rfl (lv_at hl 0 rfl) ?_
  refine va_callv (va_runV (As := []) (rest := []) ⟨hx, hb, hml, hown, hts⟩ (m_X5_learnToday l D cs kr la ia na b4 b6 b8 b10 sh it lc dy pct lr sr ulr usr ur uq ug lf lrf srf rse rq gv rv pn IA LA cr IR LR (by omega) (by omega) (hci) (hpr) (hlv) (hse) (hdm) (by omega) (hlr) (hsr)) (cwV 0 hts (gV w_515 w_517 w_p10 w_1 w_518) rfl rfl rfl (by decide +kernel) ⟨Nat.le_of_ble_eq_true rfl, Nat.le_of_ble_eq_true rfl⟩) (PC_Va hK hN hP hD rfl rfl) rfl rfl hl.1 rfl (lv_room (Nat.le_of_ble_eq_true rfl)) dX5_night_21 ⟨Nat.le_of_ble_eq_true rfl, Nat.le_of_ble_eq_true rfl⟩) hS (fun q _ h => inW_suba hD q h) (fun q h => inW_suba hD q h) (fun u t H locs ht hvm hw hB hz1 hk1 hS => ?_)
  rw [ht] at hB
  have hP : va_P D vwCl ([(kr, .inr (5, [.ref la, .ref ia, .ref na, .ref b4, .ref b6, .ref b8, .ref b10, .int (iI (((sh : Nat) : Int))), .int (iI (((it : Nat) : Int))), .int (iI (lc)), .int (iI (((dy : Nat) : Int))), .int (iI (pct)), .int (iI (lr)), .int (iI (sr))])), (la, arI cs 4 lf), (ia, arQ cs 2 5 (itq it IA)), (na, arQ cs 3 20 (lnq cr LA)), (b4, .inr (0, [.ref ulr])), (ulr, arI cs 1005 (upI lrf dy (lrf dy + lr))), (b6, .inr (0, [.ref usr])), (usr, arI cs 1005 (upI srf dy (srf dy + sr))), (b8, .inr (2, [.ref ur, .int (iI (rv))])), (ur, arI cs 7 rse), (b10, .inr (4, [.ref uq, .ref ug, .int (iI (pn))])), (uq, arI cs 4 rq), (ug, arI cs 4 gv)] ++ (aW cs IA LA it cr IR (qS (cL cr IR dy) (lrnR dy lr sr) LR 20))) H := hB
  have hD : va_D A ([(kr, .inr (5, [.ref la, .ref ia, .ref na, .ref b4, .ref b6, .ref b8, .ref b10, .int (iI (((sh : Nat) : Int))), .int (iI (((it : Nat) : Int))), .int (iI (lc)), .int (iI (((dy : Nat) : Int))), .int (iI (pct)), .int (iI (lr)), .int (iI (sr))])), (la, arI cs 4 lf), (ia, arQ cs 2 5 (itq it IA)), (na, arQ cs 3 20 (lnq cr LA)), (b4, .inr (0, [.ref ulr])), (ulr, arI cs 1005 (upI lrf dy (lrf dy + lr))), (b6, .inr (0, [.ref usr])), (usr, arI cs 1005 (upI srf dy (srf dy + sr))), (b8, .inr (2, [.ref ur, .int (iI (rv))])), (ur, arI cs 7 rse), (b10, .inr (4, [.ref uq, .ref ug, .int (iI (pn))])), (uq, arI cs 4 rq), (ug, arI cs 4 gv)] ++ (aW cs IA LA it cr IR (qS (cL cr IR dy) (lrnR dy lr sr) LR 20))) := D_fst hD (fst_ap rfl aW_fst)
  refine lv_aload_n hx hb dX5_night_24 rfl (lv_at hl 0 rfl) ?_
  refine lv_dup hx hb dX5_night_25 rfl ?_
  refine my_get hx hb hts inAX5 hown hK hP 0 rfl rfl 10 (by decide) w_80 rfl rfl dX5_night_26 ?_
  refine lv_iconst (v := iI (1)) hx hb dX5_night_29 rfl ?_
  refine my_iadd (z := ((dy : Nat) : Int) + 1) hx hb dX5_night_30 (rfl) ?_
  refine my_cv0 (z := (((dy + 1) : Nat) : Int)) (by omega) ?_
  refine my_put hx hb hts inAX5 tyX5_ok nmX5 hown hK hP hD hS 0 rfl rfl 10 (by decide) w_80 rfl rfl rfl (Nat.le_of_ble_eq_true rfl) dX5_night_31 (fun H locs hP hD hS => ?_)
  have hP : va_P D vwCl ([(kr, .inr (5, [.ref la, .ref ia, .ref na, .ref b4, .ref b6, .ref b8, .ref b10, .int (iI (((sh : Nat) : Int))), .int (iI (((it : Nat) : Int))), .int (iI (lc)), .int (iI ((((dy + 1) : Nat) : Int))), .int (iI (pct)), .int (iI (lr)), .int (iI (sr))])), (la, arI cs 4 lf), (ia, arQ cs 2 5 (itq it IA)), (na, arQ cs 3 20 (lnq cr LA)), (b4, .inr (0, [.ref ulr])), (ulr, arI cs 1005 (upI lrf dy (lrf dy + lr))), (b6, .inr (0, [.ref usr])), (usr, arI cs 1005 (upI srf dy (srf dy + sr))), (b8, .inr (2, [.ref ur, .int (iI (rv))])), (ur, arI cs 7 rse), (b10, .inr (4, [.ref uq, .ref ug, .int (iI (pn))])), (uq, arI cs 4 rq), (ug, arI cs 4 gv)] ++ (aW cs IA LA it cr IR (qS (cL cr IR dy) (lrnR dy lr sr) LR 20))) H := hP
  have hD : va_D A ([(kr, .inr (5, [.ref la, .ref ia, .ref na, .ref b4, .ref b6, .ref b8, .ref b10, .int (iI (((sh : Nat) : Int))), .int (iI (((it : Nat) : Int))), .int (iI (lc)), .int (iI ((((dy + 1) : Nat) : Int))), .int (iI (pct)), .int (iI (lr)), .int (iI (sr))])), (la, arI cs 4 lf), (ia, arQ cs 2 5 (itq it IA)), (na, arQ cs 3 20 (lnq cr LA)), (b4, .inr (0, [.ref ulr])), (ulr, arI cs 1005 (upI lrf dy (lrf dy + lr))), (b6, .inr (0, [.ref usr])), (usr, arI cs 1005 (upI srf dy (srf dy + sr))), (b8, .inr (2, [.ref ur, .int (iI (rv))])), (ur, arI cs 7 rse), (b10, .inr (4, [.ref uq, .ref ug, .int (iI (pn))])), (uq, arI cs 4 rq), (ug, arI cs 4 gv)] ++ (aW cs IA LA it cr IR (qS (cL cr IR dy) (lrnR dy lr sr) LR 20))) := hD
  refine lv_aload_n hx hb dX5_night_34 rfl (lv_at hl 0 rfl) ?_
  refine va_callv (va_runV (As := []) (rest := []) ⟨hx, hb, hml, hown, hts⟩ (m_X5_receiveToday l D cs kr la ia na b4 b6 b8 b10 sh it lc (dy + 1) pct lr sr ulr usr ur uq ug lf (upI lrf dy (lrf dy + lr)) (upI srf dy (srf dy + sr)) rse rq gv rv pn IA LA cr IR (qS (cL cr IR dy) (lrnR dy lr sr) LR 20) (by omega) (by omega) (by omega)) (cwV 0 hts (gV w_555 w_557 w_p11 w_1 w_558) rfl rfl rfl (by decide +kernel) ⟨Nat.le_of_ble_eq_true rfl, Nat.le_of_ble_eq_true rfl⟩) (PC_Va hK hN hP hD rfl rfl) rfl rfl hl.1 rfl (lv_room (Nat.le_of_ble_eq_true rfl)) dX5_night_35 ⟨Nat.le_of_ble_eq_true rfl, Nat.le_of_ble_eq_true rfl⟩) hS (fun q _ h => inW_suba hD q h) (fun q h => inW_suba hD q h) (fun u t H locs ht hvm hw hB hz1 hk1 hS => ?_)
  rw [ht] at hB
  have hP : va_P D vwCl ([(kr, .inr (5, [.ref la, .ref ia, .ref na, .ref b4, .ref b6, .ref b8, .ref b10, .int (iI (((sh : Nat) : Int))), .int (iI (((it : Nat) : Int))), .int (iI (lc)), .int (iI ((((dy + 1) : Nat) : Int))), .int (iI (pct)), .int (iI (lr)), .int (iI (sr))])), (la, arI cs 4 lf), (ia, arQ cs 2 5 (itq it IA)), (na, arQ cs 3 20 (lnq cr LA)), (b4, .inr (0, [.ref ulr])), (ulr, arI cs 1005 (upI lrf dy (lrf dy + lr))), (b6, .inr (0, [.ref usr])), (usr, arI cs 1005 (upI srf dy (srf dy + sr))), (b8, .inr (2, [.ref ur, .int (iI (rv))])), (ur, arI cs 7 rse), (b10, .inr (4, [.ref uq, .ref ug, .int (iI (pn))])), (uq, arI cs 4 rq), (ug, arI cs 4 gv)] ++ (aW cs IA LA it cr IR (qS cr (rcvR (dy + 1)) (qS (cL cr IR dy) (lrnR dy lr sr) LR 20) 20))) H := hB
  have hD : va_D A ([(kr, .inr (5, [.ref la, .ref ia, .ref na, .ref b4, .ref b6, .ref b8, .ref b10, .int (iI (((sh : Nat) : Int))), .int (iI (((it : Nat) : Int))), .int (iI (lc)), .int (iI ((((dy + 1) : Nat) : Int))), .int (iI (pct)), .int (iI (lr)), .int (iI (sr))])), (la, arI cs 4 lf), (ia, arQ cs 2 5 (itq it IA)), (na, arQ cs 3 20 (lnq cr LA)), (b4, .inr (0, [.ref ulr])), (ulr, arI cs 1005 (upI lrf dy (lrf dy + lr))), (b6, .inr (0, [.ref usr])), (usr, arI cs 1005 (upI srf dy (srf dy + sr))), (b8, .inr (2, [.ref ur, .int (iI (rv))])), (ur, arI cs 7 rse), (b10, .inr (4, [.ref uq, .ref ug, .int (iI (pn))])), (uq, arI cs 4 rq), (ug, arI cs 4 gv)] ++ (aW cs IA LA it cr IR (qS cr (rcvR (dy + 1)) (qS (cL cr IR dy) (lrnR dy lr sr) LR 20) 20))) := D_fst hD (fst_ap rfl aW_fst)
  refine lv_iconst (v := iI (0)) hx hb dX5_night_38 rfl ?_
  refine lv_istore_n (lv' := [(1, .int (iI (0))), (0, .ref kr)]) hx hb dX5_night_39 rfl hl (by decide) rfl (fun ls hl => ?_)
  refine lv_iconst (v := iI (0)) hx hb dX5_night_40 rfl ?_
  refine lv_istore_n (lv' := [(2, .int (iI (0))), (1, .int (iI (0))), (0, .ref kr)]) hx hb dX5_night_41 rfl hl (by decide) rfl (fun ls hl => ?_)
  suffices KL : ∀ (n : Nat) (i : Nat), i ≤ it → it - i < n → ∀ (H : Heap) (locs : List Loc) (ls : Array Slot), va_P D vwCl ([(kr, .inr (5, [.ref la, .ref ia, .ref na, .ref b4, .ref b6, .ref b8, .ref b10, .int (iI (((sh : Nat) : Int))), .int (iI (((it : Nat) : Int))), .int (iI (lc)), .int (iI ((((dy + 1) : Nat) : Int))), .int (iI (pct)), .int (iI (lr)), .int (iI (sr))])), (la, arI cs 4 lf), (ia, arQ cs 2 5 (itq it IA)), (na, arQ cs 3 20 (lnq cr LA)), (b4, .inr (0, [.ref ulr])), (ulr, arI cs 1005 (upI lrf dy (lrf dy + lr))), (b6, .inr (0, [.ref usr])), (usr, arI cs 1005 (upI srf dy (srf dy + sr))), (b8, .inr (2, [.ref ur, .int (iI (rv))])), (ur, arI cs 7 rse), (b10, .inr (4, [.ref uq, .ref ug, .int (iI ((ntS (dy + 1) pct cr sh (IR, (qS cr (rcvR (dy + 1)) (qS (cL cr IR dy) (lrnR dy lr sr) LR 20) 20), rq, pn, 0) i).2.2.2.1))])), (uq, arI cs 4 ((ntS (dy + 1) pct cr sh (IR, (qS cr (rcvR (dy + 1)) (qS (cL cr IR dy) (lrnR dy lr sr) LR 20) 20), rq, pn, 0) i).2.2.1)), (ug, arI cs 4 gv)] ++ (aW cs IA LA it cr ((ntS (dy + 1) pct cr sh (IR, (qS cr (rcvR (dy + 1)) (qS (cL cr IR dy) (lrnR dy lr sr) LR 20) 20), rq, pn, 0) i).1) ((ntS (dy + 1) pct cr sh (IR, (qS cr (rcvR (dy + 1)) (qS (cL cr IR dy) (lrnR dy lr sr) LR 20) 20), rq, pn, 0) i).2.1))) H → va_D A ([(kr, .inr (5, [.ref la, .ref ia, .ref na, .ref b4, .ref b6, .ref b8, .ref b10, .int (iI (((sh : Nat) : Int))), .int (iI (((it : Nat) : Int))), .int (iI (lc)), .int (iI ((((dy + 1) : Nat) : Int))), .int (iI (pct)), .int (iI (lr)), .int (iI (sr))])), (la, arI cs 4 lf), (ia, arQ cs 2 5 (itq it IA)), (na, arQ cs 3 20 (lnq cr LA)), (b4, .inr (0, [.ref ulr])), (ulr, arI cs 1005 (upI lrf dy (lrf dy + lr))), (b6, .inr (0, [.ref usr])), (usr, arI cs 1005 (upI srf dy (srf dy + sr))), (b8, .inr (2, [.ref ur, .int (iI (rv))])), (ur, arI cs 7 rse), (b10, .inr (4, [.ref uq, .ref ug, .int (iI ((ntS (dy + 1) pct cr sh (IR, (qS cr (rcvR (dy + 1)) (qS (cL cr IR dy) (lrnR dy lr sr) LR 20) 20), rq, pn, 0) i).2.2.2.1))])), (uq, arI cs 4 ((ntS (dy + 1) pct cr sh (IR, (qS cr (rcvR (dy + 1)) (qS (cL cr IR dy) (lrnR dy lr sr) LR 20) 20), rq, pn, 0) i).2.2.1)), (ug, arI cs 4 gv)] ++ (aW cs IA LA it cr ((ntS (dy + 1) pct cr sh (IR, (qS cr (rcvR (dy + 1)) (qS (cL cr IR dy) (lrnR dy lr sr) LR 20) 20), rq, pn, 0) i).1) ((ntS (dy + 1) pct cr sh (IR, (qS cr (rcvR (dy + 1)) (qS (cL cr IR dy) (lrnR dy lr sr) LR 20) 20), rq, pn, 0) i).2.1))) → va_S A s.heap H locs → lv_has ls 3 [(2, .int (iI (((i : Nat) : Int)))), (1, .int (iI ((ntS (dy + 1) pct cr sh (IR, (qS cr (rcvR (dy + 1)) (qS (cL cr IR dy) (lrnR dy lr sr) LR 20) 20), rq, pn, 0) i).2.2.2.2))), (0, .ref kr)] → W p l e _ s m _ below meth c H locs 0 0 _ (F0 m 42 ls []) from
    KL _ 0 (by omega) (Nat.lt_succ_self _) _ _ _ hP hD hS (lv_sub hl [0, 1, 2] rfl)
  intro n
  induction n with
  | zero => intro i hil h0; exact absurd h0 (Nat.not_lt_zero _)
  | succ n ih =>
    intro i hil hmu H locs ls hP hD hS hl
    refine lv_iload_n hx hb dX5_night_42 rfl (lv_at hl 0 rfl) ?_
    refine lv_aload_n hx hb dX5_night_43 rfl (lv_at hl 2 rfl) ?_
    refine my_get hx hb hts inAX5 hown hK hP 0 rfl rfl 8 (by decide) w_78 rfl rfl dX5_night_44 ?_
    refine my_icmp_ge (tgt := 64) hx hb (by omega) dX5_night_47 (by decide) (fun bh4 => ?_) (fun bh4 => ?_)
    · have ei : i = it := by omega
      rw [ei] at hP hD hl
      refine lv_iload_n hx hb dX5_night_64 rfl (lv_at hl 1 rfl) ?_
      subst hAe
      refine vx_ret ?_
      have hcode : 0 = 0 := by
          rfl
      have hres : iI ((ntS (dy + 1) pct cr sh (IR, (qS cr (rcvR (dy + 1)) (qS (cL cr IR dy) (lrnR dy lr sr) LR 20) 20), rq, pn, 0) it).2.2.2.2) = iI ((ntS (dy + 1) pct cr sh (IR, (qS cr (rcvR (dy + 1)) (qS (cL cr IR dy) (lrnR dy lr sr) LR 20) 20), rq, pn, 0) it).2.2.2.2) := congrArg iI (by
          first | rfl | omega)
      exact W.iret hx hb hr (fun t ht hW => ⟨⟨_, (), rfl, ⟨hcode, hres⟩, by show va_P D vwCl _ t.heap; rw [ht]; exact hP⟩, hS.F ht⟩) hS.2.2 dX5_night_65
    · refine lv_iload_n hx hb dX5_night_50 rfl (lv_at hl 1 rfl) ?_
      refine lv_aload_n hx hb dX5_night_51 rfl (lv_at hl 2 rfl) ?_
      refine lv_iload_n hx hb dX5_night_52 rfl (lv_at hl 0 rfl) ?_
      refine va_calli (va_runV (As := [.int (iI (((i : Nat) : Int)))]) (rest := [.int (iI ((ntS (dy + 1) pct cr sh (IR, (qS cr (rcvR (dy + 1)) (qS (cL cr IR dy) (lrnR dy lr sr) LR 20) 20), rq, pn, 0) i).2.2.2.2))]) ⟨hx, hb, hml, hown, hts⟩ (m_X5_sendPacks l D cs kr la ia na b4 b6 b8 b10 sh it lc (dy + 1) pct lr sr ulr usr ur uq ug lf (upI lrf dy (lrf dy + lr)) (upI srf dy (srf dy + sr)) rse ((ntS (dy + 1) pct cr sh (IR, (qS cr (rcvR (dy + 1)) (qS (cL cr IR dy) (lrnR dy lr sr) LR 20) 20), rq, pn, 0) i).2.2.1) gv rv ((ntS (dy + 1) pct cr sh (IR, (qS cr (rcvR (dy + 1)) (qS (cL cr IR dy) (lrnR dy lr sr) LR 20) 20), rq, pn, 0) i).2.2.2.1) IA LA cr ((ntS (dy + 1) pct cr sh (IR, (qS cr (rcvR (dy + 1)) (qS (cL cr IR dy) (lrnR dy lr sr) LR 20) 20), rq, pn, 0) i).1) ((ntS (dy + 1) pct cr sh (IR, (qS cr (rcvR (dy + 1)) (qS (cL cr IR dy) (lrnR dy lr sr) LR 20) 20), rq, pn, 0) i).2.1) i (by omega) (by omega) (by omega) (by omega) (hpc) (fun s => by rw [(hout i).2 (s * 5 + i) (by omega)]; exact hlk _) (by rw [(hout i).1 i (Nat.le_refl _)]; exact hik i)) (cwV 1 hts (gV w_559 w_561 w_p12 w_1 w_562) rfl rfl rfl (by decide +kernel) ⟨Nat.le_of_ble_eq_true rfl, Nat.le_of_ble_eq_true rfl⟩) (PC_Va hK hN hP hD rfl rfl) rfl rfl hl.1 rfl (lv_room (Nat.le_of_ble_eq_true rfl)) dX5_night_53 ⟨Nat.le_of_ble_eq_true rfl, Nat.le_of_ble_eq_true rfl⟩) hS (fun q _ h => inW_suba hD q h) (fun q h => inW_suba hD q h) (fun r u t H locs ht hvm hw hB hz1 hk1 hS => ?_)
      subst hw
      rw [ht] at hB
      have hP : va_P D vwCl ([(kr, .inr (5, [.ref la, .ref ia, .ref na, .ref b4, .ref b6, .ref b8, .ref b10, .int (iI (((sh : Nat) : Int))), .int (iI (((it : Nat) : Int))), .int (iI (lc)), .int (iI ((((dy + 1) : Nat) : Int))), .int (iI (pct)), .int (iI (lr)), .int (iI (sr))])), (la, arI cs 4 lf), (ia, arQ cs 2 5 (itq it IA)), (na, arQ cs 3 20 (lnq cr LA)), (b4, .inr (0, [.ref ulr])), (ulr, arI cs 1005 (upI lrf dy (lrf dy + lr))), (b6, .inr (0, [.ref usr])), (usr, arI cs 1005 (upI srf dy (srf dy + sr))), (b8, .inr (2, [.ref ur, .int (iI (rv))])), (ur, arI cs 7 rse), (b10, .inr (4, [.ref uq, .ref ug, .int (iI (ist (((ntS (dy + 1) pct cr sh (IR, (qS cr (rcvR (dy + 1)) (qS (cL cr IR dy) (lrnR dy lr sr) LR 20) 20), rq, pn, 0) i).1) i) / ipk (((ntS (dy + 1) pct cr sh (IR, (qS cr (rcvR (dy + 1)) (qS (cL cr IR dy) (lrnR dy lr sr) LR 20) 20), rq, pn, 0) i).1) i)))])), (uq, arI cs 4 (rqA (dy + 1) pct cr ((ntS (dy + 1) pct cr sh (IR, (qS cr (rcvR (dy + 1)) (qS (cL cr IR dy) (lrnR dy lr sr) LR 20) 20), rq, pn, 0) i).1) ((ntS (dy + 1) pct cr sh (IR, (qS cr (rcvR (dy + 1)) (qS (cL cr IR dy) (lrnR dy lr sr) LR 20) 20), rq, pn, 0) i).2.1) i sh)), (ug, arI cs 4 gv)] ++ (aW cs IA LA it cr (upR ((ntS (dy + 1) pct cr sh (IR, (qS cr (rcvR (dy + 1)) (qS (cL cr IR dy) (lrnR dy lr sr) LR 20) 20), rq, pn, 0) i).1) i (giR (dy + 1) (smI (sntI cr (rqA (dy + 1) pct cr ((ntS (dy + 1) pct cr sh (IR, (qS cr (rcvR (dy + 1)) (qS (cL cr IR dy) (lrnR dy lr sr) LR 20) 20), rq, pn, 0) i).1) ((ntS (dy + 1) pct cr sh (IR, (qS cr (rcvR (dy + 1)) (qS (cL cr IR dy) (lrnR dy lr sr) LR 20) 20), rq, pn, 0) i).2.1) i sh) (ist (((ntS (dy + 1) pct cr sh (IR, (qS cr (rcvR (dy + 1)) (qS (cL cr IR dy) (lrnR dy lr sr) LR 20) 20), rq, pn, 0) i).1) i) / ipk (((ntS (dy + 1) pct cr sh (IR, (qS cr (rcvR (dy + 1)) (qS (cL cr IR dy) (lrnR dy lr sr) LR 20) 20), rq, pn, 0) i).1) i)) i) sh) (((ntS (dy + 1) pct cr sh (IR, (qS cr (rcvR (dy + 1)) (qS (cL cr IR dy) (lrnR dy lr sr) LR 20) 20), rq, pn, 0) i).1) i))) (sdL (dy + 1) (ipk (((ntS (dy + 1) pct cr sh (IR, (qS cr (rcvR (dy + 1)) (qS (cL cr IR dy) (lrnR dy lr sr) LR 20) 20), rq, pn, 0) i).1) i)) cr (rqA (dy + 1) pct cr ((ntS (dy + 1) pct cr sh (IR, (qS cr (rcvR (dy + 1)) (qS (cL cr IR dy) (lrnR dy lr sr) LR 20) 20), rq, pn, 0) i).1) ((ntS (dy + 1) pct cr sh (IR, (qS cr (rcvR (dy + 1)) (qS (cL cr IR dy) (lrnR dy lr sr) LR 20) 20), rq, pn, 0) i).2.1) i sh) (ist (((ntS (dy + 1) pct cr sh (IR, (qS cr (rcvR (dy + 1)) (qS (cL cr IR dy) (lrnR dy lr sr) LR 20) 20), rq, pn, 0) i).1) i) / ipk (((ntS (dy + 1) pct cr sh (IR, (qS cr (rcvR (dy + 1)) (qS (cL cr IR dy) (lrnR dy lr sr) LR 20) 20), rq, pn, 0) i).1) i)) i ((ntS (dy + 1) pct cr sh (IR, (qS cr (rcvR (dy + 1)) (qS (cL cr IR dy) (lrnR dy lr sr) LR 20) 20), rq, pn, 0) i).2.1) sh))) H := hB
      have hD : va_D A ([(kr, .inr (5, [.ref la, .ref ia, .ref na, .ref b4, .ref b6, .ref b8, .ref b10, .int (iI (((sh : Nat) : Int))), .int (iI (((it : Nat) : Int))), .int (iI (lc)), .int (iI ((((dy + 1) : Nat) : Int))), .int (iI (pct)), .int (iI (lr)), .int (iI (sr))])), (la, arI cs 4 lf), (ia, arQ cs 2 5 (itq it IA)), (na, arQ cs 3 20 (lnq cr LA)), (b4, .inr (0, [.ref ulr])), (ulr, arI cs 1005 (upI lrf dy (lrf dy + lr))), (b6, .inr (0, [.ref usr])), (usr, arI cs 1005 (upI srf dy (srf dy + sr))), (b8, .inr (2, [.ref ur, .int (iI (rv))])), (ur, arI cs 7 rse), (b10, .inr (4, [.ref uq, .ref ug, .int (iI (ist (((ntS (dy + 1) pct cr sh (IR, (qS cr (rcvR (dy + 1)) (qS (cL cr IR dy) (lrnR dy lr sr) LR 20) 20), rq, pn, 0) i).1) i) / ipk (((ntS (dy + 1) pct cr sh (IR, (qS cr (rcvR (dy + 1)) (qS (cL cr IR dy) (lrnR dy lr sr) LR 20) 20), rq, pn, 0) i).1) i)))])), (uq, arI cs 4 (rqA (dy + 1) pct cr ((ntS (dy + 1) pct cr sh (IR, (qS cr (rcvR (dy + 1)) (qS (cL cr IR dy) (lrnR dy lr sr) LR 20) 20), rq, pn, 0) i).1) ((ntS (dy + 1) pct cr sh (IR, (qS cr (rcvR (dy + 1)) (qS (cL cr IR dy) (lrnR dy lr sr) LR 20) 20), rq, pn, 0) i).2.1) i sh)), (ug, arI cs 4 gv)] ++ (aW cs IA LA it cr (upR ((ntS (dy + 1) pct cr sh (IR, (qS cr (rcvR (dy + 1)) (qS (cL cr IR dy) (lrnR dy lr sr) LR 20) 20), rq, pn, 0) i).1) i (giR (dy + 1) (smI (sntI cr (rqA (dy + 1) pct cr ((ntS (dy + 1) pct cr sh (IR, (qS cr (rcvR (dy + 1)) (qS (cL cr IR dy) (lrnR dy lr sr) LR 20) 20), rq, pn, 0) i).1) ((ntS (dy + 1) pct cr sh (IR, (qS cr (rcvR (dy + 1)) (qS (cL cr IR dy) (lrnR dy lr sr) LR 20) 20), rq, pn, 0) i).2.1) i sh) (ist (((ntS (dy + 1) pct cr sh (IR, (qS cr (rcvR (dy + 1)) (qS (cL cr IR dy) (lrnR dy lr sr) LR 20) 20), rq, pn, 0) i).1) i) / ipk (((ntS (dy + 1) pct cr sh (IR, (qS cr (rcvR (dy + 1)) (qS (cL cr IR dy) (lrnR dy lr sr) LR 20) 20), rq, pn, 0) i).1) i)) i) sh) (((ntS (dy + 1) pct cr sh (IR, (qS cr (rcvR (dy + 1)) (qS (cL cr IR dy) (lrnR dy lr sr) LR 20) 20), rq, pn, 0) i).1) i))) (sdL (dy + 1) (ipk (((ntS (dy + 1) pct cr sh (IR, (qS cr (rcvR (dy + 1)) (qS (cL cr IR dy) (lrnR dy lr sr) LR 20) 20), rq, pn, 0) i).1) i)) cr (rqA (dy + 1) pct cr ((ntS (dy + 1) pct cr sh (IR, (qS cr (rcvR (dy + 1)) (qS (cL cr IR dy) (lrnR dy lr sr) LR 20) 20), rq, pn, 0) i).1) ((ntS (dy + 1) pct cr sh (IR, (qS cr (rcvR (dy + 1)) (qS (cL cr IR dy) (lrnR dy lr sr) LR 20) 20), rq, pn, 0) i).2.1) i sh) (ist (((ntS (dy + 1) pct cr sh (IR, (qS cr (rcvR (dy + 1)) (qS (cL cr IR dy) (lrnR dy lr sr) LR 20) 20), rq, pn, 0) i).1) i) / ipk (((ntS (dy + 1) pct cr sh (IR, (qS cr (rcvR (dy + 1)) (qS (cL cr IR dy) (lrnR dy lr sr) LR 20) 20), rq, pn, 0) i).1) i)) i ((ntS (dy + 1) pct cr sh (IR, (qS cr (rcvR (dy + 1)) (qS (cL cr IR dy) (lrnR dy lr sr) LR 20) 20), rq, pn, 0) i).2.1) sh))) := D_fst hD (fst_ap rfl aW_fst)
      refine my_iadd (z := ((ntS (dy + 1) pct cr sh (IR, (qS cr (rcvR (dy + 1)) (qS (cL cr IR dy) (lrnR dy lr sr) LR 20) 20), rq, pn, 0) i).2.2.2.2) + (smI (sntI cr (rqA (dy + 1) pct cr ((ntS (dy + 1) pct cr sh (IR, (qS cr (rcvR (dy + 1)) (qS (cL cr IR dy) (lrnR dy lr sr) LR 20) 20), rq, pn, 0) i).1) ((ntS (dy + 1) pct cr sh (IR, (qS cr (rcvR (dy + 1)) (qS (cL cr IR dy) (lrnR dy lr sr) LR 20) 20), rq, pn, 0) i).2.1) i sh) (ist (((ntS (dy + 1) pct cr sh (IR, (qS cr (rcvR (dy + 1)) (qS (cL cr IR dy) (lrnR dy lr sr) LR 20) 20), rq, pn, 0) i).1) i) / ipk (((ntS (dy + 1) pct cr sh (IR, (qS cr (rcvR (dy + 1)) (qS (cL cr IR dy) (lrnR dy lr sr) LR 20) 20), rq, pn, 0) i).1) i)) i) sh)) hx hb dX5_night_56 (rfl) ?_
      refine lv_istore_n (lv' := [(1, .int (iI (((ntS (dy + 1) pct cr sh (IR, (qS cr (rcvR (dy + 1)) (qS (cL cr IR dy) (lrnR dy lr sr) LR 20) 20), rq, pn, 0) i).2.2.2.2) + (smI (sntI cr (rqA (dy + 1) pct cr ((ntS (dy + 1) pct cr sh (IR, (qS cr (rcvR (dy + 1)) (qS (cL cr IR dy) (lrnR dy lr sr) LR 20) 20), rq, pn, 0) i).1) ((ntS (dy + 1) pct cr sh (IR, (qS cr (rcvR (dy + 1)) (qS (cL cr IR dy) (lrnR dy lr sr) LR 20) 20), rq, pn, 0) i).2.1) i sh) (ist (((ntS (dy + 1) pct cr sh (IR, (qS cr (rcvR (dy + 1)) (qS (cL cr IR dy) (lrnR dy lr sr) LR 20) 20), rq, pn, 0) i).1) i) / ipk (((ntS (dy + 1) pct cr sh (IR, (qS cr (rcvR (dy + 1)) (qS (cL cr IR dy) (lrnR dy lr sr) LR 20) 20), rq, pn, 0) i).1) i)) i) sh)))), (2, .int (iI (((i : Nat) : Int)))), (0, .ref kr)]) hx hb dX5_night_57 rfl hl (by decide) rfl (fun ls hl => ?_)
      refine lv_iinc (v := iI (((i : Nat) : Int) + 1)) (lv' := [(2, .int (iI (((i : Nat) : Int) + 1))), (1, .int (iI (((ntS (dy + 1) pct cr sh (IR, (qS cr (rcvR (dy + 1)) (qS (cL cr IR dy) (lrnR dy lr sr) LR 20) 20), rq, pn, 0) i).2.2.2.2) + (smI (sntI cr (rqA (dy + 1) pct cr ((ntS (dy + 1) pct cr sh (IR, (qS cr (rcvR (dy + 1)) (qS (cL cr IR dy) (lrnR dy lr sr) LR 20) 20), rq, pn, 0) i).1) ((ntS (dy + 1) pct cr sh (IR, (qS cr (rcvR (dy + 1)) (qS (cL cr IR dy) (lrnR dy lr sr) LR 20) 20), rq, pn, 0) i).2.1) i sh) (ist (((ntS (dy + 1) pct cr sh (IR, (qS cr (rcvR (dy + 1)) (qS (cL cr IR dy) (lrnR dy lr sr) LR 20) 20), rq, pn, 0) i).1) i) / ipk (((ntS (dy + 1) pct cr sh (IR, (qS cr (rcvR (dy + 1)) (qS (cL cr IR dy) (lrnR dy lr sr) LR 20) 20), rq, pn, 0) i).1) i)) i) sh)))), (0, .ref kr)]) hx hb dX5_night_58 hl (k := 1) rfl (by rw [show (((i : Nat) : Int) + 1 : Int) = ((i : Nat) : Int) + 1 from rfl]; exact iI_add _ _) (by decide) rfl (fun ls hl => ?_)
      refine lv_goto (tgt := 42) hx hb dX5_night_61 (by decide) ?_
      have e1 : ((i : Nat) : Int) + 1 = ((i + 1 : Nat) : Int) := by omega
      rw [e1] at hl
      have e5 : (ntS (dy + 1) pct cr sh (IR, (qS cr (rcvR (dy + 1)) (qS (cL cr IR dy) (lrnR dy lr sr) LR 20) 20), rq, pn, 0) (i + 1)) = nt1 (dy + 1) pct cr sh (ntS (dy + 1) pct cr sh (IR, (qS cr (rcvR (dy + 1)) (qS (cL cr IR dy) (lrnR dy lr sr) LR 20) 20), rq, pn, 0) i) i := rfl
      exact ih (i + 1) (by omega) (by omega) _ _ _ (by rw [e5]; exact hP) (by rw [e5]; exact hD) hS (lv_sub hl [0, 1, 2] (by rw [e5]; rfl))

abbrev ws_X5_units : List Cond := Cond.code yX5_units cX5_units 5 (some .long) :: ALL
set_option maxHeartbeats 4000000 in
set_option maxRecDepth 100000 in
theorem m_X5_units (l : Launch) (D : va_G) (cs : Nat → ClassId) (kr la ia na b4 b6 b8 b10 sh it : Nat) (lc : Int) (dy : Nat) (pct lr sr : Int) (ulr usr ur uq ug : Nat) (lf lrf srf rse rq gv : Nat → Int) (rv pn : Int) (IA LA : Nat → Nat → Nat) (cr : Nat → Bool) (IR : Nat → IT) (LR : Nat → LT) (hsh : sh ≤ 4) (hit : it ≤ 5) (hd : dy < 1000) (hlk : ∀ a, lOK dy (LR a)) (hik : ∀ i, iOK (IR i)) : Met l yX5_units ws_X5_units ({ frames := 2, cells := 0, slots := 0, locals := 44 }) (va_Pc [.ref kr] (PC D cs ([(kr, .inr (5, [.ref la, .ref ia, .ref na, .ref b4, .ref b6, .ref b8, .ref b10, .int (iI (((sh : Nat) : Int))), .int (iI (((it : Nat) : Int))), .int (iI (lc)), .int (iI (((dy : Nat) : Int))), .int (iI (pct)), .int (iI (lr)), .int (iI (sr))])), (la, arI cs 4 lf), (ia, arQ cs 2 5 (itq it IA)), (na, arQ cs 3 20 (lnq cr LA)), (b4, .inr (0, [.ref ulr])), (ulr, arI cs 1005 lrf), (b6, .inr (0, [.ref usr])), (usr, arI cs 1005 srf), (b8, .inr (2, [.ref ur, .int (iI (rv))])), (ur, arI cs 7 rse), (b10, .inr (4, [.ref uq, .ref ug, .int (iI (pn))])), (uq, arI cs 4 rq), (ug, arI cs 4 gv)] ++ (aW cs IA LA it cr IR LR)))) (va_Ql (fun r (_ : Unit) => r = lI (smI (uiF it IR) 5 + smI (ulF cr LR dy) 20)) (fun _ _ => True) noA) 0 0 noA := by
  refine Met.ofW (cc := cX5_units) (maxL := 5) (ret := (some .long)) (by decide +kernel) rfl ?_
  intro p e s m args below meth c s₁ B hml hv
  obtain ⟨rfl, hP, hK, hD, hN⟩ := hv
  have hx := B.exec
  have hb := B.bytes
  have hr := B.returns
  have hts : ∀ w ∈ ALL, w.before _ s = true := fun w h => atoms_spec (ws := ws_X5_units) B.pre w (List.mem_cons_of_mem _ h)
  have hown : s.vm.findClass RX5 = some m.cls := findClass_of_methodNamed B.named
  have hlocks := B.notSynchronized
  have hS : va_S noA s.heap s.heap [] := va_S.rf
  generalize inW ([(kr, .inr (5, [.ref la, .ref ia, .ref na, .ref b4, .ref b6, .ref b8, .ref b10, .int (iI (((sh : Nat) : Int))), .int (iI (((it : Nat) : Int))), .int (iI (lc)), .int (iI (((dy : Nat) : Int))), .int (iI (pct)), .int (iI (lr)), .int (iI (sr))])), (la, arI cs 4 lf), (ia, arQ cs 2 5 (itq it IA)), (na, arQ cs 3 20 (lnq cr LA)), (b4, .inr (0, [.ref ulr])), (ulr, arI cs 1005 lrf), (b6, .inr (0, [.ref usr])), (usr, arI cs 1005 srf), (b8, .inr (2, [.ref ur, .int (iI (rv))])), (ur, arI cs 7 rse), (b10, .inr (4, [.ref uq, .ref ug, .int (iI (pn))])), (uq, arI cs 4 rq), (ug, arI cs 4 gv)] ++ (aW cs IA LA it cr IR LR)) = A at hD
  have hl := lv_entry ([.ref kr]) (n := 5) (Nat.le_of_ble_eq_true rfl)
  rw [lg_entry_eq]
  generalize (lg_sl ([.ref kr]) ++ List.replicate (5 - (lg_sl ([.ref kr])).length) Slot.unset).toArray = ls at hl ⊢
  have hl : lv_has ls 5 [(0, .ref kr)] := hl
  have hH := rfl (a := s.heap)
  refine lv_lconst (v := lI 0) hx hb dX5_units_0 (by decide) ?_
  refine lv_lstore_n (lv' := [(1, .long (lI (0))), (0, .ref kr)]) hx hb dX5_units_1 rfl hl (by decide) rfl (fun ls hl => ?_)
  refine lv_iconst (v := iI (0)) hx hb dX5_units_2 rfl ?_
  refine lv_istore_n (lv' := [(3, .int (iI (0))), (1, .long (lI (0))), (0, .ref kr)]) hx hb dX5_units_3 rfl hl (by decide) rfl (fun ls hl => ?_)
  suffices KL : ∀ (n : Nat) (i : Nat), i ≤ 5 → 5 - i < n → ∀ (H : Heap) (locs : List Loc) (ls : Array Slot), va_P D vwCl ([(kr, .inr (5, [.ref la, .ref ia, .ref na, .ref b4, .ref b6, .ref b8, .ref b10, .int (iI (((sh : Nat) : Int))), .int (iI (((it : Nat) : Int))), .int (iI (lc)), .int (iI (((dy : Nat) : Int))), .int (iI (pct)), .int (iI (lr)), .int (iI (sr))])), (la, arI cs 4 lf), (ia, arQ cs 2 5 (itq it IA)), (na, arQ cs 3 20 (lnq cr LA)), (b4, .inr (0, [.ref ulr])), (ulr, arI cs 1005 lrf), (b6, .inr (0, [.ref usr])), (usr, arI cs 1005 srf), (b8, .inr (2, [.ref ur, .int (iI (rv))])), (ur, arI cs 7 rse), (b10, .inr (4, [.ref uq, .ref ug, .int (iI (pn))])), (uq, arI cs 4 rq), (ug, arI cs 4 gv)] ++ (aW cs IA LA it cr IR LR)) H → va_S noA s.heap H locs → lv_has ls 5 [(3, .int (iI (((i : Nat) : Int)))), (1, .long (lI (smI (uiF it IR) i))), (0, .ref kr)] → W p l e _ s m _ below meth c H locs 0 0 _ (F0 m 4 ls []) from
    KL _ 0 (by omega) (Nat.lt_succ_self _) _ _ _ hP hS (lv_sub hl [0, 1, 2] rfl)
  intro n
  induction n with
  | zero => intro i hil h0; exact absurd h0 (Nat.not_lt_zero _)
  | succ n ih =>
    intro i hil hmu H locs ls hP hS hl
    refine lv_iload_n hx hb dX5_units_4 rfl (lv_at hl 0 rfl) ?_
    refine lv_aload_n hx hb dX5_units_5 rfl (lv_at hl 2 rfl) ?_
    refine my_get hx hb hts inAX5 hown hK hP 0 rfl rfl 1 (by decide) w_71 rfl rfl dX5_units_6 ?_
    refine my_alenQ hx hb hK hP 2 2 rfl rfl dX5_units_9 ?_
    refine my_icmp_ge (tgt := 41) hx hb (by omega) dX5_units_10 (by decide) (fun bh1 => ?_) (fun bh1 => ?_)
    · refine lv_iconst (v := iI (0)) hx hb dX5_units_41 rfl ?_
      refine lv_istore_n (lv' := [(3, .int (iI (0))), (1, .long (lI (smI (uiF it IR) i))), (0, .ref kr)]) hx hb dX5_units_42 rfl hl (by decide) rfl (fun ls hl => ?_)
      have ei : i = 5 := by omega
      rw [ei] at hl
      suffices KL1 : ∀ (n1 : Nat) (j : Nat), j ≤ 20 → 20 - j < n1 → ∀ (H : Heap) (locs : List Loc) (ls : Array Slot), va_P D vwCl ([(kr, .inr (5, [.ref la, .ref ia, .ref na, .ref b4, .ref b6, .ref b8, .ref b10, .int (iI (((sh : Nat) : Int))), .int (iI (((it : Nat) : Int))), .int (iI (lc)), .int (iI (((dy : Nat) : Int))), .int (iI (pct)), .int (iI (lr)), .int (iI (sr))])), (la, arI cs 4 lf), (ia, arQ cs 2 5 (itq it IA)), (na, arQ cs 3 20 (lnq cr LA)), (b4, .inr (0, [.ref ulr])), (ulr, arI cs 1005 lrf), (b6, .inr (0, [.ref usr])), (usr, arI cs 1005 srf), (b8, .inr (2, [.ref ur, .int (iI (rv))])), (ur, arI cs 7 rse), (b10, .inr (4, [.ref uq, .ref ug, .int (iI (pn))])), (uq, arI cs 4 rq), (ug, arI cs 4 gv)] ++ (aW cs IA LA it cr IR LR)) H → va_S noA s.heap H locs → lv_has ls 5 [(3, .int (iI (((j : Nat) : Int)))), (1, .long (lI (smI (uiF it IR) 5 + smI (ulF cr LR dy) j))), (0, .ref kr)] → W p l e _ s m _ below meth c H locs 0 0 _ (F0 m 43 ls []) from
        KL1 _ 0 (by omega) (Nat.lt_succ_self _) _ _ _ hP hS (lv_sub hl [0, 1, 2] (by rw [show smI (ulF cr LR dy) 0 = 0 from rfl, Int.add_zero]; rfl))
      intro n1
      induction n1 with
      | zero => intro j hjl h0; exact absurd h0 (Nat.not_lt_zero _)
      | succ n1 ih1 =>
        intro j hjl hmu1 H locs ls hP hS hl
        refine lv_iload_n hx hb dX5_units_43 rfl (lv_at hl 0 rfl) ?_
        refine lv_aload_n hx hb dX5_units_44 rfl (lv_at hl 2 rfl) ?_
        refine my_get hx hb hts inAX5 hown hK hP 0 rfl rfl 2 (by decide) w_72 rfl rfl dX5_units_45 ?_
        refine my_alenQ hx hb hK hP 3 3 rfl rfl dX5_units_48 ?_
        refine my_icmp_ge (tgt := 93) hx hb (by omega) dX5_units_49 (by decide) (fun bh2 => ?_) (fun bh2 => ?_)
        · refine lv_lload_n hx hb dX5_units_93 rfl (lv_at hl 1 rfl) ?_
          have hres : lI (smI (uiF it IR) 5 + smI (ulF cr LR dy) j) = lI (smI (uiF it IR) 5 + smI (ulF cr LR dy) 20) := congrArg lI (by
              have ej : j = 20 := by omega
              rw [ej])
          exact W.lret hx hb hr (fun t ht hW => ⟨⟨_, (), rfl, hres, trivial⟩, hS.F ht⟩) hS.2.2 dX5_units_94
        · refine lv_aload_n hx hb dX5_units_52 rfl (lv_at hl 2 rfl) ?_
          refine my_get hx hb hts inAX5 hown hK hP 0 rfl rfl 2 (by decide) w_72 rfl rfl dX5_units_53 ?_
          refine lv_iload_n hx hb dX5_units_56 rfl (lv_at hl 0 rfl) ?_
          refine my_aald hx hb hK hP 3 3 rfl rfl (by omega) (k := j) (Int.toNat_natCast _) dX5_units_57 ?_
          rcases hq3 : ((lnq cr LA) j) with _ | qa4
          · refine lv_astoreN (lv' := [(4, .null), (3, .int (iI (((j : Nat) : Int)))), (1, .long (lI (smI (uiF it IR) 5 + smI (ulF cr LR dy) j))), (0, .ref kr)]) hx hb dX5_units_58 hl (by decide) rfl (fun ls hl => ?_)
            have hcn := lnq_none hq3
            refine lv_aloadN hx hb dX5_units_60 (lv_at hl 0 rfl) ?_
            refine lv_ifnullN (tgt := 87) hx hb dX5_units_62 (by decide) ?_
            refine lv_iinc (v := iI (((j : Nat) : Int) + 1)) (lv' := [(3, .int (iI (((j : Nat) : Int) + 1))), (4, .null), (1, .long (lI (smI (uiF it IR) 5 + smI (ulF cr LR dy) j))), (0, .ref kr)]) hx hb dX5_units_87 hl (k := 1) rfl (by rw [show (((j : Nat) : Int) + 1 : Int) = ((j : Nat) : Int) + 1 from rfl]; exact iI_add _ _) (by decide) rfl (fun ls hl => ?_)
            refine lv_goto (tgt := 43) hx hb dX5_units_90 (by decide) ?_
            have e1 : ((j : Nat) : Int) + 1 = ((j + 1 : Nat) : Int) := by omega
            rw [e1] at hl
            have e2 : smI (uiF it IR) 5 + smI (ulF cr LR dy) j = smI (uiF it IR) 5 + smI (ulF cr LR dy) (j + 1) := by simp only [smI]; rw [show ulF cr LR dy j = 0 from if_neg hcn, Int.add_zero]
            rw [e2] at hl
            exact ih1 (j + 1) (by omega) (by omega) _ _ _ hP hS (lv_sub hl [0, 2, 3] rfl)
          · refine lv_astore (lv' := [(4, .ref qa4), (3, .int (iI (((j : Nat) : Int)))), (1, .long (lI (smI (uiF it IR) 5 + smI (ulF cr LR dy) j))), (0, .ref kr)]) hx hb dX5_units_58 hl (by decide) rfl (fun ls hl => ?_)
            obtain ⟨hcr, hqa⟩ := lnq_some hq3
            subst hqa
            refine lv_aload hx hb dX5_units_60 (lv_at hl 0 rfl) ?_
            refine lv_ifnull hx hb dX5_units_62 ?_
            have hP := P_pm hP (opL (a := j) (by omega) hcr)
            have hD := D_pm hD (opL (a := j) (by omega) hcr)
            have hP : va_P D vwCl ([(kr, .inr (5, [.ref la, .ref ia, .ref na, .ref b4, .ref b6, .ref b8, .ref b10, .int (iI (((sh : Nat) : Int))), .int (iI (((it : Nat) : Int))), .int (iI (lc)), .int (iI (((dy : Nat) : Int))), .int (iI (pct)), .int (iI (lr)), .int (iI (sr))])), (la, arI cs 4 lf), (ia, arQ cs 2 5 (itq it IA)), (na, arQ cs 3 20 (lnq cr LA)), (b4, .inr (0, [.ref ulr])), (ulr, arI cs 1005 lrf), (b6, .inr (0, [.ref usr])), (usr, arI cs 1005 srf), (b8, .inr (2, [.ref ur, .int (iI (rv))])), (ur, arI cs 7 rse), (b10, .inr (4, [.ref uq, .ref ug, .int (iI (pn))])), (uq, arI cs 4 rq), (ug, arI cs 4 gv), (LA j 0, .inr (3, [.ref (IA (j % 5) 0), .int (iI ((((lld (LR j)) : Nat) : Int))), .int (iI ((((lfd (LR j)) : Nat) : Int))), .int (iI (lfk (LR j))), .int (iI (lfv (LR j))), .ref (LA j 1), .ref (LA j 3), .ref (LA j 4), .ref (LA j 6), .ref (LA j 8), .int (iI (les (LR j))), .int (iI (lsk (LR j))), .int (iI (lso (LR j))), .int (iI (llo (LR j)))])), (LA j 1, .inr (2, [.ref (LA j 2), .int (iI (llv (LR j)))])), (LA j 2, arI cs 7 (lse (LR j))), (LA j 3, arI cs 21 (lef (LR j))), (LA j 4, .inr (0, [.ref (LA j 5)])), (LA j 5, arI cs 1005 (ldm (LR j))), (LA j 6, .inr (0, [.ref (LA j 7)])), (LA j 7, arI cs 1005 (lsl (LR j))), (LA j 8, .inr (0, [.ref (LA j 9)])), (LA j 9, arI cs 1005 (lar (LR j)))] ++ (xL cs IA LA it cr IR LR j)) H := hP
            have hD : va_D A ([(kr, .inr (5, [.ref la, .ref ia, .ref na, .ref b4, .ref b6, .ref b8, .ref b10, .int (iI (((sh : Nat) : Int))), .int (iI (((it : Nat) : Int))), .int (iI (lc)), .int (iI (((dy : Nat) : Int))), .int (iI (pct)), .int (iI (lr)), .int (iI (sr))])), (la, arI cs 4 lf), (ia, arQ cs 2 5 (itq it IA)), (na, arQ cs 3 20 (lnq cr LA)), (b4, .inr (0, [.ref ulr])), (ulr, arI cs 1005 lrf), (b6, .inr (0, [.ref usr])), (usr, arI cs 1005 srf), (b8, .inr (2, [.ref ur, .int (iI (rv))])), (ur, arI cs 7 rse), (b10, .inr (4, [.ref uq, .ref ug, .int (iI (pn))])), (uq, arI cs 4 rq), (ug, arI cs 4 gv), (LA j 0, .inr (3, [.ref (IA (j % 5) 0), .int (iI ((((lld (LR j)) : Nat) : Int))), .int (iI ((((lfd (LR j)) : Nat) : Int))), .int (iI (lfk (LR j))), .int (iI (lfv (LR j))), .ref (LA j 1), .ref (LA j 3), .ref (LA j 4), .ref (LA j 6), .ref (LA j 8), .int (iI (les (LR j))), .int (iI (lsk (LR j))), .int (iI (lso (LR j))), .int (iI (llo (LR j)))])), (LA j 1, .inr (2, [.ref (LA j 2), .int (iI (llv (LR j)))])), (LA j 2, arI cs 7 (lse (LR j))), (LA j 3, arI cs 21 (lef (LR j))), (LA j 4, .inr (0, [.ref (LA j 5)])), (LA j 5, arI cs 1005 (ldm (LR j))), (LA j 6, .inr (0, [.ref (LA j 7)])), (LA j 7, arI cs 1005 (lsl (LR j))), (LA j 8, .inr (0, [.ref (LA j 9)])), (LA j 9, arI cs 1005 (lar (LR j)))] ++ (xL cs IA LA it cr IR LR j)) := hD
            obtain ⟨-, -, -, -, -, hl6, hl7⟩ := hlk j
            refine lv_lload_n hx hb dX5_units_65 rfl (lv_at hl 2 rfl) ?_
            refine lv_aload hx hb dX5_units_66 (lv_at hl 0 rfl) ?_
            refine my_getN hx hb hts inAX3 hown hK hN hP 13 rfl rfl 11 (by decide) 8 rfl rfl rfl dX5_units_68 ?_
            refine my_i2l hx hb dX5_units_71 (by omega) ?_
            refine my_ladd (z := (smI (uiF it IR) 5 + smI (ulF cr LR dy) j) + (lsk (LR j))) hx hb dX5_units_72 (rfl) ?_
            refine lv_lstore_n (lv' := [(1, .long (lI ((smI (uiF it IR) 5 + smI (ulF cr LR dy) j) + (lsk (LR j))))), (4, .ref (LA j 0)), (3, .int (iI (((j : Nat) : Int)))), (0, .ref kr)]) hx hb dX5_units_73 rfl hl (by decide) rfl (fun ls hl => ?_)
            refine lv_lload_n hx hb dX5_units_74 rfl (lv_at hl 0 rfl) ?_
            refine lv_aload hx hb dX5_units_75 (lv_at hl 1 rfl) ?_
            refine lv_aload_n hx hb dX5_units_77 rfl (lv_at hl 3 rfl) ?_
            refine my_get hx hb hts inAX5 hown hK hP 0 rfl rfl 10 (by decide) w_80 rfl rfl dX5_units_78 ?_
            have pk5 : picks ([(kr, .inr (5, [.ref la, .ref ia, .ref na, .ref b4, .ref b6, .ref b8, .ref b10, .int (iI (((sh : Nat) : Int))), .int (iI (((it : Nat) : Int))), .int (iI (lc)), .int (iI (((dy : Nat) : Int))), .int (iI (pct)), .int (iI (lr)), .int (iI (sr))])), (la, arI cs 4 lf), (ia, arQ cs 2 5 (itq it IA)), (na, arQ cs 3 20 (lnq cr LA)), (b4, .inr (0, [.ref ulr])), (ulr, arI cs 1005 lrf), (b6, .inr (0, [.ref usr])), (usr, arI cs 1005 srf), (b8, .inr (2, [.ref ur, .int (iI (rv))])), (ur, arI cs 7 rse), (b10, .inr (4, [.ref uq, .ref ug, .int (iI (pn))])), (uq, arI cs 4 rq), (ug, arI cs 4 gv), (LA j 0, .inr (3, [.ref (IA (j % 5) 0), .int (iI ((((lld (LR j)) : Nat) : Int))), .int (iI ((((lfd (LR j)) : Nat) : Int))), .int (iI (lfk (LR j))), .int (iI (lfv (LR j))), .ref (LA j 1), .ref (LA j 3), .ref (LA j 4), .ref (LA j 6), .ref (LA j 8), .int (iI (les (LR j))), .int (iI (lsk (LR j))), .int (iI (lso (LR j))), .int (iI (llo (LR j)))])), (LA j 1, .inr (2, [.ref (LA j 2), .int (iI (llv (LR j)))])), (LA j 2, arI cs 7 (lse (LR j))), (LA j 3, arI cs 21 (lef (LR j))), (LA j 4, .inr (0, [.ref (LA j 5)])), (LA j 5, arI cs 1005 (ldm (LR j))), (LA j 6, .inr (0, [.ref (LA j 7)])), (LA j 7, arI cs 1005 (lsl (LR j))), (LA j 8, .inr (0, [.ref (LA j 9)])), (LA j 9, arI cs 1005 (lar (LR j)))] ++ (xL cs IA LA it cr IR LR j)) [13, 21, 22] [(LA j 0, .inr (3, [.ref (IA (j % 5) 0), .int (iI ((((lld (LR j)) : Nat) : Int))), .int (iI ((((lfd (LR j)) : Nat) : Int))), .int (iI (lfk (LR j))), .int (iI (lfv (LR j))), .ref (LA j 1), .ref (LA j 3), .ref (LA j 4), .ref (LA j 6), .ref (LA j 8), .int (iI (les (LR j))), .int (iI (lsk (LR j))), .int (iI (lso (LR j))), .int (iI (llo (LR j)))])), (LA j 8, .inr (0, [.ref (LA j 9)])), (LA j 9, arI cs 1005 (lar (LR j)))] := ⟨rfl, rfl, rfl, trivial⟩
            refine va_calli (va_runV (As := [.int (iI (((dy : Nat) : Int)))]) (rest := [.long (lI ((smI (uiF it IR) 5 + smI (ulF cr LR dy) j) + (lsk (LR j))))]) ⟨hx, hb, hml, hown, hts⟩ (m_X3_dueAfter l D cs (LA j 0) (IA (j % 5) 0) (LA j 1) (LA j 3) (LA j 4) (LA j 6) (LA j 8) (((lld (LR j)) : Nat) : Int) (((lfd (LR j)) : Nat) : Int) (lfk (LR j)) (lfv (LR j)) (les (LR j)) (lsk (LR j)) (lso (LR j)) (llo (LR j)) (LA j 9) (lar (LR j)) dy (by omega)) (cwV 1 hts (gV w_121 w_122 w_123 w_13 w_124) rfl rfl rfl (by decide +kernel) ⟨Nat.le_of_ble_eq_true rfl, Nat.le_of_ble_eq_true rfl⟩) (PC_V hK hN hP hD [13, 21, 22] rfl pk5 rfl rfl) rfl rfl hl.1 rfl (lv_room (Nat.le_of_ble_eq_true rfl)) dX5_units_81 ⟨Nat.le_of_ble_eq_true rfl, Nat.le_of_ble_eq_true rfl⟩) hS (fun _ _ h => False.elim h) (fun _ h => False.elim h) (fun r u t H locs ht hvm hw hB hz1 hk1 hS => ?_)
            subst hw
            have hP := P_kept hP hk1
            refine my_i2l hx hb dX5_units_84 (by omega) ?_
            refine my_ladd (z := ((smI (uiF it IR) 5 + smI (ulF cr LR dy) j) + (lsk (LR j))) + (duI (lar (LR j)) dy)) hx hb dX5_units_85 (rfl) ?_
            refine lv_lstore_n (lv' := [(1, .long (lI (((smI (uiF it IR) 5 + smI (ulF cr LR dy) j) + (lsk (LR j))) + (duI (lar (LR j)) dy)))), (4, .ref (LA j 0)), (3, .int (iI (((j : Nat) : Int)))), (0, .ref kr)]) hx hb dX5_units_86 rfl hl (by decide) rfl (fun ls hl => ?_)
            refine lv_iinc (v := iI (((j : Nat) : Int) + 1)) (lv' := [(3, .int (iI (((j : Nat) : Int) + 1))), (1, .long (lI (((smI (uiF it IR) 5 + smI (ulF cr LR dy) j) + (lsk (LR j))) + (duI (lar (LR j)) dy)))), (4, .ref (LA j 0)), (0, .ref kr)]) hx hb dX5_units_87 hl (k := 2) rfl (by rw [show (((j : Nat) : Int) + 1 : Int) = ((j : Nat) : Int) + 1 from rfl]; exact iI_add _ _) (by decide) rfl (fun ls hl => ?_)
            refine lv_goto (tgt := 43) hx hb dX5_units_90 (by decide) ?_
            have e1 : ((j : Nat) : Int) + 1 = ((j + 1 : Nat) : Int) := by omega
            rw [e1] at hl
            have hP : va_P D vwCl ([(kr, .inr (5, [.ref la, .ref ia, .ref na, .ref b4, .ref b6, .ref b8, .ref b10, .int (iI (((sh : Nat) : Int))), .int (iI (((it : Nat) : Int))), .int (iI (lc)), .int (iI (((dy : Nat) : Int))), .int (iI (pct)), .int (iI (lr)), .int (iI (sr))])), (la, arI cs 4 lf), (ia, arQ cs 2 5 (itq it IA)), (na, arQ cs 3 20 (lnq cr LA)), (b4, .inr (0, [.ref ulr])), (ulr, arI cs 1005 lrf), (b6, .inr (0, [.ref usr])), (usr, arI cs 1005 srf), (b8, .inr (2, [.ref ur, .int (iI (rv))])), (ur, arI cs 7 rse), (b10, .inr (4, [.ref uq, .ref ug, .int (iI (pn))])), (uq, arI cs 4 rq), (ug, arI cs 4 gv)] ++ (lnD cs IA LA j (LR j) ++ xL cs IA LA it cr IR LR j)) H := hP
            have hD : va_D A ([(kr, .inr (5, [.ref la, .ref ia, .ref na, .ref b4, .ref b6, .ref b8, .ref b10, .int (iI (((sh : Nat) : Int))), .int (iI (((it : Nat) : Int))), .int (iI (lc)), .int (iI (((dy : Nat) : Int))), .int (iI (pct)), .int (iI (lr)), .int (iI (sr))])), (la, arI cs 4 lf), (ia, arQ cs 2 5 (itq it IA)), (na, arQ cs 3 20 (lnq cr LA)), (b4, .inr (0, [.ref ulr])), (ulr, arI cs 1005 lrf), (b6, .inr (0, [.ref usr])), (usr, arI cs 1005 srf), (b8, .inr (2, [.ref ur, .int (iI (rv))])), (ur, arI cs 7 rse), (b10, .inr (4, [.ref uq, .ref ug, .int (iI (pn))])), (uq, arI cs 4 rq), (ug, arI cs 4 gv)] ++ (lnD cs IA LA j (LR j) ++ xL cs IA LA it cr IR LR j)) := hD
            have hP := P_pm hP (clL (LR j) (by omega) hcr)
            have hD := D_pm hD (clL (LR j) (by omega) hcr)
            rw [upR_id] at hP hD
            have e2 : smI (uiF it IR) 5 + smI (ulF cr LR dy) j + lsk (LR j) + duI (lar (LR j)) dy = smI (uiF it IR) 5 + smI (ulF cr LR dy) (j + 1) := by simp only [smI, ulF]; rw [if_pos hcr]; omega
            rw [e2] at hl
            exact ih1 (j + 1) (by omega) (by omega) _ _ _ hP hS (lv_sub hl [0, 1, 3] rfl)
    · refine lv_aload_n hx hb dX5_units_13 rfl (lv_at hl 2 rfl) ?_
      refine my_get hx hb hts inAX5 hown hK hP 0 rfl rfl 1 (by decide) w_71 rfl rfl dX5_units_14 ?_
      refine lv_iload_n hx hb dX5_units_17 rfl (lv_at hl 0 rfl) ?_
      refine my_aald hx hb hK hP 2 2 rfl rfl (by omega) (k := i) (Int.toNat_natCast _) dX5_units_18 ?_
      rcases hq6 : ((itq it IA) i) with _ | qa7
      · refine lv_astoreN (lv' := [(4, .null), (3, .int (iI (((i : Nat) : Int)))), (1, .long (lI (smI (uiF it IR) i))), (0, .ref kr)]) hx hb dX5_units_19 hl (by decide) rfl (fun ls hl => ?_)
        have hin := itq_none hq6
        refine lv_aloadN hx hb dX5_units_21 (lv_at hl 0 rfl) ?_
        refine lv_ifnullN (tgt := 35) hx hb dX5_units_23 (by decide) ?_
        refine lv_iinc (v := iI (((i : Nat) : Int) + 1)) (lv' := [(3, .int (iI (((i : Nat) : Int) + 1))), (4, .null), (1, .long (lI (smI (uiF it IR) i))), (0, .ref kr)]) hx hb dX5_units_35 hl (k := 1) rfl (by rw [show (((i : Nat) : Int) + 1 : Int) = ((i : Nat) : Int) + 1 from rfl]; exact iI_add _ _) (by decide) rfl (fun ls hl => ?_)
        refine lv_goto (tgt := 4) hx hb dX5_units_38 (by decide) ?_
        have e1 : ((i : Nat) : Int) + 1 = ((i + 1 : Nat) : Int) := by omega
        rw [e1] at hl
        have e2 : smI (uiF it IR) i = smI (uiF it IR) (i + 1) := by simp only [smI]; rw [show uiF it IR i = 0 from if_neg hin, Int.add_zero]
        rw [e2] at hl
        exact ih (i + 1) (by omega) (by omega) _ _ _ hP hS (lv_sub hl [0, 2, 3] rfl)
      · refine lv_astore (lv' := [(4, .ref qa7), (3, .int (iI (((i : Nat) : Int)))), (1, .long (lI (smI (uiF it IR) i))), (0, .ref kr)]) hx hb dX5_units_19 hl (by decide) rfl (fun ls hl => ?_)
        obtain ⟨hti, hqa⟩ := itq_some hq6
        subst hqa
        refine lv_aload hx hb dX5_units_21 (lv_at hl 0 rfl) ?_
        refine lv_ifnull hx hb dX5_units_23 ?_
        have hP := P_pm hP (opI (i := i) (by omega) hti)
        have hD := D_pm hD (opI (i := i) (by omega) hti)
        have hP : va_P D vwCl ([(kr, .inr (5, [.ref la, .ref ia, .ref na, .ref b4, .ref b6, .ref b8, .ref b10, .int (iI (((sh : Nat) : Int))), .int (iI (((it : Nat) : Int))), .int (iI (lc)), .int (iI (((dy : Nat) : Int))), .int (iI (pct)), .int (iI (lr)), .int (iI (sr))])), (la, arI cs 4 lf), (ia, arQ cs 2 5 (itq it IA)), (na, arQ cs 3 20 (lnq cr LA)), (b4, .inr (0, [.ref ulr])), (ulr, arI cs 1005 lrf), (b6, .inr (0, [.ref usr])), (usr, arI cs 1005 srf), (b8, .inr (2, [.ref ur, .int (iI (rv))])), (ur, arI cs 7 rse), (b10, .inr (4, [.ref uq, .ref ug, .int (iI (pn))])), (uq, arI cs 4 rq), (ug, arI cs 4 gv), (IA i 0, .inr (1, [.int (iI (ipk (IR i))), .int (iI (ifs (IR i))), .ref (IA i 1), .ref (IA i 3), .ref (IA i 5), .int (iI (ist (IR i)))])), (IA i 1, .inr (0, [.ref (IA i 2)])), (IA i 2, arI cs 1005 (iti (IR i))), (IA i 3, .inr (0, [.ref (IA i 4)])), (IA i 4, arI cs 1005 (igo (IR i))), (IA i 5, .inr (0, [.ref (IA i 6)])), (IA i 6, arI cs 1005 (ipr (IR i)))] ++ (xI cs IA LA it cr IR LR i)) H := hP
        have hD : va_D A ([(kr, .inr (5, [.ref la, .ref ia, .ref na, .ref b4, .ref b6, .ref b8, .ref b10, .int (iI (((sh : Nat) : Int))), .int (iI (((it : Nat) : Int))), .int (iI (lc)), .int (iI (((dy : Nat) : Int))), .int (iI (pct)), .int (iI (lr)), .int (iI (sr))])), (la, arI cs 4 lf), (ia, arQ cs 2 5 (itq it IA)), (na, arQ cs 3 20 (lnq cr LA)), (b4, .inr (0, [.ref ulr])), (ulr, arI cs 1005 lrf), (b6, .inr (0, [.ref usr])), (usr, arI cs 1005 srf), (b8, .inr (2, [.ref ur, .int (iI (rv))])), (ur, arI cs 7 rse), (b10, .inr (4, [.ref uq, .ref ug, .int (iI (pn))])), (uq, arI cs 4 rq), (ug, arI cs 4 gv), (IA i 0, .inr (1, [.int (iI (ipk (IR i))), .int (iI (ifs (IR i))), .ref (IA i 1), .ref (IA i 3), .ref (IA i 5), .int (iI (ist (IR i)))])), (IA i 1, .inr (0, [.ref (IA i 2)])), (IA i 2, arI cs 1005 (iti (IR i))), (IA i 3, .inr (0, [.ref (IA i 4)])), (IA i 4, arI cs 1005 (igo (IR i))), (IA i 5, .inr (0, [.ref (IA i 6)])), (IA i 6, arI cs 1005 (ipr (IR i)))] ++ (xI cs IA LA it cr IR LR i)) := hD
        have hi9 := (hik i).2
        refine lv_lload_n hx hb dX5_units_26 rfl (lv_at hl 2 rfl) ?_
        refine lv_aload hx hb dX5_units_27 (lv_at hl 0 rfl) ?_
        refine my_getN hx hb hts inAX1 hown hK hN hP 13 rfl rfl 5 (by decide) 0 rfl rfl rfl dX5_units_29 ?_
        refine my_i2l hx hb dX5_units_32 (by omega) ?_
        refine my_ladd (z := (smI (uiF it IR) i) + (ist (IR i))) hx hb dX5_units_33 (rfl) ?_
        refine lv_lstore_n (lv' := [(1, .long (lI ((smI (uiF it IR) i) + (ist (IR i))))), (4, .ref (IA i 0)), (3, .int (iI (((i : Nat) : Int)))), (0, .ref kr)]) hx hb dX5_units_34 rfl hl (by decide) rfl (fun ls hl => ?_)
        refine lv_iinc (v := iI (((i : Nat) : Int) + 1)) (lv' := [(3, .int (iI (((i : Nat) : Int) + 1))), (1, .long (lI ((smI (uiF it IR) i) + (ist (IR i))))), (4, .ref (IA i 0)), (0, .ref kr)]) hx hb dX5_units_35 hl (k := 2) rfl (by rw [show (((i : Nat) : Int) + 1 : Int) = ((i : Nat) : Int) + 1 from rfl]; exact iI_add _ _) (by decide) rfl (fun ls hl => ?_)
        refine lv_goto (tgt := 4) hx hb dX5_units_38 (by decide) ?_
        have e1 : ((i : Nat) : Int) + 1 = ((i + 1 : Nat) : Int) := by omega
        rw [e1] at hl
        have hP : va_P D vwCl ([(kr, .inr (5, [.ref la, .ref ia, .ref na, .ref b4, .ref b6, .ref b8, .ref b10, .int (iI (((sh : Nat) : Int))), .int (iI (((it : Nat) : Int))), .int (iI (lc)), .int (iI (((dy : Nat) : Int))), .int (iI (pct)), .int (iI (lr)), .int (iI (sr))])), (la, arI cs 4 lf), (ia, arQ cs 2 5 (itq it IA)), (na, arQ cs 3 20 (lnq cr LA)), (b4, .inr (0, [.ref ulr])), (ulr, arI cs 1005 lrf), (b6, .inr (0, [.ref usr])), (usr, arI cs 1005 srf), (b8, .inr (2, [.ref ur, .int (iI (rv))])), (ur, arI cs 7 rse), (b10, .inr (4, [.ref uq, .ref ug, .int (iI (pn))])), (uq, arI cs 4 rq), (ug, arI cs 4 gv)] ++ (itD cs IA i (IR i) ++ xI cs IA LA it cr IR LR i)) H := hP
        have hD : va_D A ([(kr, .inr (5, [.ref la, .ref ia, .ref na, .ref b4, .ref b6, .ref b8, .ref b10, .int (iI (((sh : Nat) : Int))), .int (iI (((it : Nat) : Int))), .int (iI (lc)), .int (iI (((dy : Nat) : Int))), .int (iI (pct)), .int (iI (lr)), .int (iI (sr))])), (la, arI cs 4 lf), (ia, arQ cs 2 5 (itq it IA)), (na, arQ cs 3 20 (lnq cr LA)), (b4, .inr (0, [.ref ulr])), (ulr, arI cs 1005 lrf), (b6, .inr (0, [.ref usr])), (usr, arI cs 1005 srf), (b8, .inr (2, [.ref ur, .int (iI (rv))])), (ur, arI cs 7 rse), (b10, .inr (4, [.ref uq, .ref ug, .int (iI (pn))])), (uq, arI cs 4 rq), (ug, arI cs 4 gv)] ++ (itD cs IA i (IR i) ++ xI cs IA LA it cr IR LR i)) := hD
        have hP := P_pm hP (clI (IR i) (by omega) hti)
        have hD := D_pm hD (clI (IR i) (by omega) hti)
        rw [upR_id] at hP hD
        have e2 : smI (uiF it IR) i + ist (IR i) = smI (uiF it IR) (i + 1) := by simp only [smI, uiF]; rw [if_pos hti]
        rw [e2] at hl
        exact ih (i + 1) (by omega) (by omega) _ _ _ hP hS (lv_sub hl [0, 1, 3] rfl)

abbrev ws_X5_service : List Cond := Cond.code yX5_service cX5_service 6 (some .float) :: ALL
set_option maxHeartbeats 4000000 in
set_option maxRecDepth 100000 in
theorem m_X5_service_no (l : Launch) (hst : l.stackTraces = false) (D : va_G) (cs : Nat → ClassId) (kr la ia na b4 b6 b8 b10 sh it : Nat) (lc : Int) (dy : Nat) (pct lr sr : Int) (lf : Nat → Int) (zs : Int) (hsh : sh ≤ 4) (hzs : -2147483648 ≤ zs ∧ zs < 2147483648) (hno : cdS sh zs ≠ 0) : vx_Met l yX5_service ws_X5_service ({ frames := 7, cells := 1, slots := 6, locals := 103 }) (va_Pc [.ref kr, .int (iI (zs))] (PE D cs [(kr, .inr (5, [.ref la, .ref ia, .ref na, .ref b4, .ref b6, .ref b8, .ref b10, .int (iI (((sh : Nat) : Int))), .int (iI (((it : Nat) : Int))), .int (iI (lc)), .int (iI (((dy : Nat) : Int))), .int (iI (pct)), .int (iI (lr)), .int (iI (sr))])), (la, arI cs 4 lf)] noA)) (va_Qf (fun r (_ : Unit) => cdS sh zs = 0 ∧ r = 0) (fun _ _ => True) noA) (vx_X (fun (u : Nat) => u = cdS sh zs ∧ u ≠ 0) (fun E u _ => E = exN u) noA) 1 6 noA := by
  refine vx_ofW (cc := cX5_service) (maxL := 6) (ret := (some .float)) (by decide +kernel) rfl ?_
  intro p e s m args below meth c s₁ B hml hnt hv
  obtain ⟨rfl, ⟨hP, hK, hD, hN⟩, hE⟩ := hv
  have hx := B.exec
  have hb := B.bytes
  have hr := B.returns
  have hts : ∀ w ∈ ALL, w.before _ s = true := fun w h => atoms_spec (ws := ws_X5_service) B.pre w (List.mem_cons_of_mem _ h)
  have hown : s.vm.findClass RX5 = some m.cls := findClass_of_methodNamed B.named
  have hlocks := B.notSynchronized
  have hS : va_S noA s.heap s.heap [] := va_S.rf
  generalize inW [(kr, .inr (5, [.ref la, .ref ia, .ref na, .ref b4, .ref b6, .ref b8, .ref b10, .int (iI (((sh : Nat) : Int))), .int (iI (((it : Nat) : Int))), .int (iI (lc)), .int (iI (((dy : Nat) : Int))), .int (iI (pct)), .int (iI (lr)), .int (iI (sr))])), (la, arI cs 4 lf)] = A at hD
  have hl := lv_entry ([.ref kr, .int (iI (zs))]) (n := 6) (Nat.le_of_ble_eq_true rfl)
  rw [lg_entry_eq]
  generalize (lg_sl ([.ref kr, .int (iI (zs))]) ++ List.replicate (6 - (lg_sl ([.ref kr, .int (iI (zs))])).length) Slot.unset).toArray = ls at hl ⊢
  have hl : lv_has ls 6 [(0, .ref kr), (1, .int (iI (zs)))] := hl
  have hH := rfl (a := s.heap)
  refine lv_aload_n hx hb dX5_service_0 rfl (lv_at hl 0 rfl) ?_
  refine lv_iload_n hx hb dX5_service_1 rfl (lv_at hl 1 rfl) ?_
  have pk1 : picks [(kr, .inr (5, [.ref la, .ref ia, .ref na, .ref b4, .ref b6, .ref b8, .ref b10, .int (iI (((sh : Nat) : Int))), .int (iI (((it : Nat) : Int))), .int (iI (lc)), .int (iI (((dy : Nat) : Int))), .int (iI (pct)), .int (iI (lr)), .int (iI (sr))])), (la, arI cs 4 lf)] [0, 1] [(kr, .inr (5, [.ref la, .ref ia, .ref na, .ref b4, .ref b6, .ref b8, .ref b10, .int (iI (((sh : Nat) : Int))), .int (iI (((it : Nat) : Int))), .int (iI (lc)), .int (iI (((dy : Nat) : Int))), .int (iI (pct)), .int (iI (lr)), .int (iI (sr))])), (la, arI cs 4 lf)] := ⟨rfl, rfl, trivial⟩
  refine vx_callv (vx_runV (As := [.int (iI (zs))]) (rest := []) ⟨hx, hb, hml, hown, hts⟩ (m_X5_requireShop l hst D cs kr la ia na b4 b6 b8 b10 sh it lc dy pct lr sr lf zs (by assumption) (by omega)) (cwV 1 hts (gV w_271 w_273 w_p1 w_1 w_274) rfl rfl rfl (by decide +kernel) ⟨Nat.le_of_ble_eq_true rfl, Nat.le_of_ble_eq_true rfl⟩) (PE_V hK hN hE hS (fun _ h => False.elim h) hP hD [0, 1] rfl pk1 rfl rfl) rfl rfl hl.1 rfl (lv_room (Nat.le_of_ble_eq_true rfl)) dX5_service_2 ⟨Nat.le_of_ble_eq_true rfl, Nat.le_of_ble_eq_true rfl⟩) hS (fun _ _ h => False.elim h) (fun _ h => False.elim h) (fun _ _ h => False.elim h) (fun E ce q9 u t H1 locs1 ht hvm hpx hBX hz1 hk1 hS1 hce hcv hcl => ?_) (fun u t H locs ht hvm hw hB hz1 hk1 hS => ?_)
  · have hcode : u = cdS sh zs := by
        have h9 : u = cdS sh zs := hpx.1
        have h10 : u ≠ 0 := hpx.2
        exact h9
    exact vx_out (fun x hx => (hnt x hx).elim) hlocks hce hcv hcl (fun t2 ht2 _ => ⟨u, ⟨hcode, hpx.2⟩, hBX, hS1.F ht2⟩) hS1.2.2 (Nat.le_of_ble_eq_true rfl) (Nat.le_of_ble_eq_true rfl)
  have hc2 := hw
  have hP := P_kept hP hk1
  have hcs := cdS_s sh zs
  exact absurd hc2 hno

set_option maxHeartbeats 4000000 in
set_option maxRecDepth 100000 in
theorem m_X5_service_ok (l : Launch) (hst : l.stackTraces = false) (D : va_G) (cs : Nat → ClassId) (kr la ia na b4 b6 b8 b10 sh it : Nat) (lc : Int) (dy : Nat) (pct lr sr : Int) (ulr usr ur uq ug : Nat) (lf lrf srf rse rq gv : Nat → Int) (rv pn : Int) (IA LA : Nat → Nat → Nat) (cr : Nat → Bool) (IR : Nat → IT) (LR : Nat → LT) (sn : Nat) (hsh : sh ≤ 4) (hit : it ≤ 5) (hsn : sn < sh) (hso : ∀ a, 0 ≤ lso (LR a) ∧ lso (LR a) ≤ 1000000) (hlo : ∀ a, 0 ≤ llo (LR a) ∧ llo (LR a) ≤ 1000000) : vx_Met l yX5_service ws_X5_service ({ frames := 7, cells := 2, slots := 12, locals := 103 }) (va_Pc [.ref kr, .int (iI (((sn : Nat) : Int)))] (PE D cs ([(kr, .inr (5, [.ref la, .ref ia, .ref na, .ref b4, .ref b6, .ref b8, .ref b10, .int (iI (((sh : Nat) : Int))), .int (iI (((it : Nat) : Int))), .int (iI (lc)), .int (iI (((dy : Nat) : Int))), .int (iI (pct)), .int (iI (lr)), .int (iI (sr))])), (la, arI cs 4 lf), (ia, arQ cs 2 5 (itq it IA)), (na, arQ cs 3 20 (lnq cr LA)), (b4, .inr (0, [.ref ulr])), (ulr, arI cs 1005 lrf), (b6, .inr (0, [.ref usr])), (usr, arI cs 1005 srf), (b8, .inr (2, [.ref ur, .int (iI (rv))])), (ur, arI cs 7 rse), (b10, .inr (4, [.ref uq, .ref ug, .int (iI (pn))])), (uq, arI cs 4 rq), (ug, arI cs 4 gv)] ++ (aW cs IA LA it cr IR LR)) noA)) (va_Qf (fun r (_ : Unit) => (if smI (svF cr LR lso sn) it + smI (svF cr LR llo sn) it = 0 then 2 else 0) = 0 ∧ r = FP.fdiv (FP.i2f (iI (smI (svF cr LR lso sn) it))) (FP.i2f (iI (smI (svF cr LR lso sn) it + smI (svF cr LR llo sn) it)))) (fun _ _ => True) noA) (vx_X (fun (u : Nat) => u = (if smI (svF cr LR lso sn) it + smI (svF cr LR llo sn) it = 0 then 2 else 0) ∧ u ≠ 0) (fun E u _ => E = exN u) noA) 2 12 noA := by
  refine vx_ofW (cc := cX5_service) (maxL := 6) (ret := (some .float)) (by decide +kernel) rfl ?_
  intro p e s m args below meth c s₁ B hml hnt hv
  obtain ⟨rfl, ⟨hP, hK, hD, hN⟩, hE⟩ := hv
  have hx := B.exec
  have hb := B.bytes
  have hr := B.returns
  have hts : ∀ w ∈ ALL, w.before _ s = true := fun w h => atoms_spec (ws := ws_X5_service) B.pre w (List.mem_cons_of_mem _ h)
  have hown : s.vm.findClass RX5 = some m.cls := findClass_of_methodNamed B.named
  have hlocks := B.notSynchronized
  have hS : va_S noA s.heap s.heap [] := va_S.rf
  generalize inW ([(kr, .inr (5, [.ref la, .ref ia, .ref na, .ref b4, .ref b6, .ref b8, .ref b10, .int (iI (((sh : Nat) : Int))), .int (iI (((it : Nat) : Int))), .int (iI (lc)), .int (iI (((dy : Nat) : Int))), .int (iI (pct)), .int (iI (lr)), .int (iI (sr))])), (la, arI cs 4 lf), (ia, arQ cs 2 5 (itq it IA)), (na, arQ cs 3 20 (lnq cr LA)), (b4, .inr (0, [.ref ulr])), (ulr, arI cs 1005 lrf), (b6, .inr (0, [.ref usr])), (usr, arI cs 1005 srf), (b8, .inr (2, [.ref ur, .int (iI (rv))])), (ur, arI cs 7 rse), (b10, .inr (4, [.ref uq, .ref ug, .int (iI (pn))])), (uq, arI cs 4 rq), (ug, arI cs 4 gv)] ++ (aW cs IA LA it cr IR LR)) = A at hD
  have hl := lv_entry ([.ref kr, .int (iI (((sn : Nat) : Int)))]) (n := 6) (Nat.le_of_ble_eq_true rfl)
  rw [lg_entry_eq]
  generalize (lg_sl ([.ref kr, .int (iI (((sn : Nat) : Int)))]) ++ List.replicate (6 - (lg_sl ([.ref kr, .int (iI (((sn : Nat) : Int)))])).length) Slot.unset).toArray = ls at hl ⊢
  have hl : lv_has ls 6 [(0, .ref kr), (1, .int (iI (((sn : Nat) : Int))))] := hl
  have hH := rfl (a := s.heap)
  have hb1 := smI_le (svF_rng (cr := cr) (sn := sn) hso) it
  have hb2 := smI_le (svF_rng (cr := cr) (sn := sn) hlo) it
  refine lv_aload_n hx hb dX5_service_0 rfl (lv_at hl 0 rfl) ?_
  refine lv_iload_n hx hb dX5_service_1 rfl (lv_at hl 1 rfl) ?_
  have pk1 : picks ([(kr, .inr (5, [.ref la, .ref ia, .ref na, .ref b4, .ref b6, .ref b8, .ref b10, .int (iI (((sh : Nat) : Int))), .int (iI (((it : Nat) : Int))), .int (iI (lc)), .int (iI (((dy : Nat) : Int))), .int (iI (pct)), .int (iI (lr)), .int (iI (sr))])), (la, arI cs 4 lf), (ia, arQ cs 2 5 (itq it IA)), (na, arQ cs 3 20 (lnq cr LA)), (b4, .inr (0, [.ref ulr])), (ulr, arI cs 1005 lrf), (b6, .inr (0, [.ref usr])), (usr, arI cs 1005 srf), (b8, .inr (2, [.ref ur, .int (iI (rv))])), (ur, arI cs 7 rse), (b10, .inr (4, [.ref uq, .ref ug, .int (iI (pn))])), (uq, arI cs 4 rq), (ug, arI cs 4 gv)] ++ (aW cs IA LA it cr IR LR)) [0, 1] [(kr, .inr (5, [.ref la, .ref ia, .ref na, .ref b4, .ref b6, .ref b8, .ref b10, .int (iI (((sh : Nat) : Int))), .int (iI (((it : Nat) : Int))), .int (iI (lc)), .int (iI (((dy : Nat) : Int))), .int (iI (pct)), .int (iI (lr)), .int (iI (sr))])), (la, arI cs 4 lf)] := ⟨rfl, rfl, trivial⟩
  refine vx_callv (vx_runV (As := [.int (iI (((sn : Nat) : Int)))]) (rest := []) ⟨hx, hb, hml, hown, hts⟩ (m_X5_requireShop l hst D cs kr la ia na b4 b6 b8 b10 sh it lc dy pct lr sr lf ((sn : Nat) : Int) (by assumption) (by omega)) (cwV 1 hts (gV w_271 w_273 w_p1 w_1 w_274) rfl rfl rfl (by decide +kernel) ⟨Nat.le_of_ble_eq_true rfl, Nat.le_of_ble_eq_true rfl⟩) (PE_V hK hN hE hS (fun _ h => False.elim h) hP hD [0, 1] rfl pk1 rfl rfl) rfl rfl hl.1 rfl (lv_room (Nat.le_of_ble_eq_true rfl)) dX5_service_2 ⟨Nat.le_of_ble_eq_true rfl, Nat.le_of_ble_eq_true rfl⟩) hS (fun _ _ h => False.elim h) (fun _ h => False.elim h) (fun _ _ h => False.elim h) (fun E ce q9 u t H1 locs1 ht hvm hpx hBX hz1 hk1 hS1 hce hcv hcl => ?_) (fun u t H locs ht hvm hw hB hz1 hk1 hS => ?_)
  · have hcode : u = (if smI (svF cr LR lso sn) it + smI (svF cr LR llo sn) it = 0 then 2 else 0) := by
        have h9 : u = cdS sh ((sn : Nat) : Int) := hpx.1
        have h10 : u ≠ 0 := hpx.2
        exact absurd (h9.trans (cdS_0 hsn)) h10
    exact vx_out (fun x hx => (hnt x hx).elim) hlocks hce hcv hcl (fun t2 ht2 _ => ⟨u, ⟨hcode, hpx.2⟩, hBX, hS1.F ht2⟩) hS1.2.2 (Nat.le_of_ble_eq_true rfl) (Nat.le_of_ble_eq_true rfl)
  have hc2 := hw
  have hP := P_kept hP hk1
  have hcs := cdS_s sh ((sn : Nat) : Int)
  refine lv_iconst (v := iI (0)) hx hb dX5_service_5 rfl ?_
  refine lv_istore_n (lv' := [(2, .int (iI (0))), (0, .ref kr), (1, .int (iI (((sn : Nat) : Int))))]) hx hb dX5_service_6 rfl hl (by decide) rfl (fun ls hl => ?_)
  refine lv_iconst (v := iI (0)) hx hb dX5_service_7 rfl ?_
  refine lv_istore_n (lv' := [(3, .int (iI (0))), (2, .int (iI (0))), (0, .ref kr), (1, .int (iI (((sn : Nat) : Int))))]) hx hb dX5_service_8 rfl hl (by decide) rfl (fun ls hl => ?_)
  refine lv_iconst (v := iI (0)) hx hb dX5_service_9 rfl ?_
  refine lv_istore (lv' := [(4, .int (iI (0))), (3, .int (iI (0))), (2, .int (iI (0))), (0, .ref kr), (1, .int (iI (((sn : Nat) : Int))))]) hx hb dX5_service_10 hl (by decide) rfl (fun ls hl => ?_)
  suffices KL : ∀ (n : Nat) (i : Nat), i ≤ it → it - i < n → ∀ (H : Heap) (locs : List Loc) (ls : Array Slot), va_P D vwCl ([(kr, .inr (5, [.ref la, .ref ia, .ref na, .ref b4, .ref b6, .ref b8, .ref b10, .int (iI (((sh : Nat) : Int))), .int (iI (((it : Nat) : Int))), .int (iI (lc)), .int (iI (((dy : Nat) : Int))), .int (iI (pct)), .int (iI (lr)), .int (iI (sr))])), (la, arI cs 4 lf), (ia, arQ cs 2 5 (itq it IA)), (na, arQ cs 3 20 (lnq cr LA)), (b4, .inr (0, [.ref ulr])), (ulr, arI cs 1005 lrf), (b6, .inr (0, [.ref usr])), (usr, arI cs 1005 srf), (b8, .inr (2, [.ref ur, .int (iI (rv))])), (ur, arI cs 7 rse), (b10, .inr (4, [.ref uq, .ref ug, .int (iI (pn))])), (uq, arI cs 4 rq), (ug, arI cs 4 gv)] ++ (aW cs IA LA it cr IR LR)) H → va_S noA s.heap H locs → lv_has ls 6 [(4, .int (iI (((i : Nat) : Int)))), (3, .int (iI (smI (svF cr LR llo sn) i))), (2, .int (iI (smI (svF cr LR lso sn) i))), (0, .ref kr), (1, .int (iI (((sn : Nat) : Int))))] → W p l e _ s m _ below meth c H locs 1 6 _ (F0 m 12 ls []) from
    KL _ 0 (by omega) (Nat.lt_succ_self _) _ _ _ hP hS (lv_sub hl [0, 1, 2, 3, 4] rfl)
  intro n
  induction n with
  | zero => intro i hil h0; exact absurd h0 (Nat.not_lt_zero _)
  | succ n ih =>
    intro i hil hmu H locs ls hP hS hl
    refine lv_iload hx hb dX5_service_12 (lv_at hl 0 rfl) ?_
    refine lv_aload_n hx hb dX5_service_14 rfl (lv_at hl 3 rfl) ?_
    refine my_get hx hb hts inAX5 hown hK hP 0 rfl rfl 8 (by decide) w_78 rfl rfl dX5_service_15 ?_
    refine my_icmp_ge (tgt := 57) hx hb (by omega) dX5_service_18 (by decide) (fun bh3 => ?_) (fun bh3 => ?_)
    · have ei : i = it := by omega
      rw [ei] at hl
      refine lv_iload_n hx hb dX5_service_57 rfl (lv_at hl 2 rfl) ?_
      refine lv_iload_n hx hb dX5_service_58 rfl (lv_at hl 1 rfl) ?_
      refine my_iadd (z := (smI (svF cr LR lso sn) it) + (smI (svF cr LR llo sn) it)) hx hb dX5_service_59 (rfl) ?_
      refine lv_istore (lv' := [(4, .int (iI ((smI (svF cr LR lso sn) it) + (smI (svF cr LR llo sn) it)))), (3, .int (iI (smI (svF cr LR llo sn) it))), (2, .int (iI (smI (svF cr LR lso sn) it))), (0, .ref kr), (1, .int (iI (((sn : Nat) : Int))))]) hx hb dX5_service_60 hl (by decide) rfl (fun ls hl => ?_)
      refine lv_iload hx hb dX5_service_62 (lv_at hl 0 rfl) ?_
      refine my_if_ne (tgt := 78) hx hb (by omega) dX5_service_64 (by decide) (fun bh4 => ?_) (fun bh4 => ?_)
      · refine lv_iload_n hx hb dX5_service_78 rfl (lv_at hl 2 rfl) ?_
        refine lv_i2f hx hb dX5_service_79 ?_
        refine lv_iload hx hb dX5_service_80 (lv_at hl 0 rfl) ?_
        refine lv_i2f hx hb dX5_service_82 ?_
        refine lv_fdiv hx hb dX5_service_83 (fdv_ok (by omega)) ?_
        refine vx_ret ?_
        refine W.widen (k := 2) (n := 12) (by omega) (by omega) ?_
        have hcode : (if smI (svF cr LR lso sn) it + smI (svF cr LR llo sn) it = 0 then 2 else 0) = 0 := by
            rw [if_neg (by omega)]
        have hres : (FP.fdiv (FP.i2f (iI (smI (svF cr LR lso sn) it))) (FP.i2f (iI ((smI (svF cr LR lso sn) it) + (smI (svF cr LR llo sn) it))))) = FP.fdiv (FP.i2f (iI (smI (svF cr LR lso sn) it))) (FP.i2f (iI (smI (svF cr LR lso sn) it + smI (svF cr LR llo sn) it))) := by
            rfl
        exact W.fret hx hb hr (fun t ht hW => ⟨⟨_, (), rfl, ⟨hcode, hres⟩, trivial⟩, hS.F ht⟩) hS.2.2 dX5_service_84 hlocks
      · refine my_throwW2 hx hb hst hts hown hE hS (hml.trans hl.1.symm) w_465 (List.mem_of_getElem? (i := 22) rfl) hnt hlocks dX5_service_67 dX5_service_70 dX5_service_71 dX5_service_74 dX5_service_77 (Nat.le_of_ble_eq_true rfl) (Nat.le_of_ble_eq_true rfl) (Nat.le_of_ble_eq_true rfl) (Nat.le_of_ble_eq_true rfl) (fun t H1 ht hz1 hk1 hS1 => ?_) hS.2.2 (Nat.le_of_ble_eq_true rfl) (Nat.le_of_ble_eq_true rfl)
        have hcode : 2 = (if smI (svF cr LR lso sn) it + smI (svF cr LR llo sn) it = 0 then 2 else 0) := by
            rw [if_pos (by omega)]
        exact ⟨2, ⟨hcode, by decide⟩, rfl, hS1.F ht⟩
    · refine lv_aload_n hx hb dX5_service_21 rfl (lv_at hl 3 rfl) ?_
      refine lv_iload_n hx hb dX5_service_22 rfl (lv_at hl 4 rfl) ?_
      refine lv_iload hx hb dX5_service_23 (lv_at hl 0 rfl) ?_
      have pk5 : picks ([(kr, .inr (5, [.ref la, .ref ia, .ref na, .ref b4, .ref b6, .ref b8, .ref b10, .int (iI (((sh : Nat) : Int))), .int (iI (((it : Nat) : Int))), .int (iI (lc)), .int (iI (((dy : Nat) : Int))), .int (iI (pct)), .int (iI (lr)), .int (iI (sr))])), (la, arI cs 4 lf), (ia, arQ cs 2 5 (itq it IA)), (na, arQ cs 3 20 (lnq cr LA)), (b4, .inr (0, [.ref ulr])), (ulr, arI cs 1005 lrf), (b6, .inr (0, [.ref usr])), (usr, arI cs 1005 srf), (b8, .inr (2, [.ref ur, .int (iI (rv))])), (ur, arI cs 7 rse), (b10, .inr (4, [.ref uq, .ref ug, .int (iI (pn))])), (uq, arI cs 4 rq), (ug, arI cs 4 gv)] ++ (aW cs IA LA it cr IR LR)) [0, 1, 2, 3] [(kr, .inr (5, [.ref la, .ref ia, .ref na, .ref b4, .ref b6, .ref b8, .ref b10, .int (iI (((sh : Nat) : Int))), .int (iI (((it : Nat) : Int))), .int (iI (lc)), .int (iI (((dy : Nat) : Int))), .int (iI (pct)), .int (iI (lr)), .int (iI (sr))])), (la, arI cs 4 lf), (ia, arQ cs 2 5 (itq it IA)), (na, arQ cs 3 20 (lnq cr LA))] := ⟨rfl, rfl, rfl, rfl, trivial⟩
      refine va_callq (va_runV (As := [.int (iI (((sn : Nat) : Int))), .int (iI (((i : Nat) : Int)))]) (rest := []) ⟨hx, hb, hml, hown, hts⟩ (m_X5_lineOrNull l D cs kr la ia na b4 b6 b8 b10 sh it lc dy pct lr sr lf (itq it IA) (lnq cr LA) ((sn : Nat) : Int) ((i : Nat) : Int) (by assumption) (by assumption) (by omega) (by omega)) (cwV 2 hts (gV w_392 w_394 w_p8 w_1 w_395) rfl rfl rfl (by decide +kernel) ⟨Nat.le_of_ble_eq_true rfl, Nat.le_of_ble_eq_true rfl⟩) (PC_V hK hN hP hD [0, 1, 2, 3] rfl pk5 rfl rfl) rfl rfl hl.1 rfl (lv_room (Nat.le_of_ble_eq_true rfl)) dX5_service_25 ⟨Nat.le_of_ble_eq_true rfl, Nat.le_of_ble_eq_true rfl⟩) hS (fun _ _ h => False.elim h) (fun _ h => False.elim h) (fun r u t H locs ht hvm hw hB hz1 hk1 hS => ?_)
      subst hw
      have hP := P_kept hP hk1
      rcases hq6 : (lnO sh it (lnq cr LA) ((sn : Nat) : Int) ((i : Nat) : Int)) with _ | qa7
      · refine lv_astoreN (lv' := [(5, .null), (4, .int (iI (((i : Nat) : Int)))), (3, .int (iI (smI (svF cr LR llo sn) i))), (2, .int (iI (smI (svF cr LR lso sn) i))), (0, .ref kr), (1, .int (iI (((sn : Nat) : Int))))]) hx hb dX5_service_28 hl (by decide) rfl (fun ls hl => ?_)
        have hcn := lnq_none (lnO_s (by omega) (by omega) hq6)
        refine lv_aloadN hx hb dX5_service_30 (lv_at hl 0 rfl) ?_
        refine lv_ifnullN (tgt := 51) hx hb dX5_service_32 (by decide) ?_
        refine lv_iinc (v := iI (((i : Nat) : Int) + 1)) (lv' := [(4, .int (iI (((i : Nat) : Int) + 1))), (5, .null), (3, .int (iI (smI (svF cr LR llo sn) i))), (2, .int (iI (smI (svF cr LR lso sn) i))), (0, .ref kr), (1, .int (iI (((sn : Nat) : Int))))]) hx hb dX5_service_51 hl (k := 1) rfl (by rw [show (((i : Nat) : Int) + 1 : Int) = ((i : Nat) : Int) + 1 from rfl]; exact iI_add _ _) (by decide) rfl (fun ls hl => ?_)
        refine lv_goto (tgt := 12) hx hb dX5_service_54 (by decide) ?_
        have e1 : ((i : Nat) : Int) + 1 = ((i + 1 : Nat) : Int) := by omega
        rw [e1] at hl
        have e2 : smI (svF cr LR lso sn) i = smI (svF cr LR lso sn) (i + 1) := by simp only [smI]; rw [show svF cr LR lso sn i = 0 from if_neg hcn, Int.add_zero]
        have e3 : smI (svF cr LR llo sn) i = smI (svF cr LR llo sn) (i + 1) := by simp only [smI]; rw [show svF cr LR llo sn i = 0 from if_neg hcn, Int.add_zero]
        rw [e2, e3] at hl
        exact ih (i + 1) (by omega) (by omega) _ _ _ hP hS (lv_sub hl [0, 2, 3, 4, 5] rfl)
      · refine lv_astore (lv' := [(5, .ref qa7), (4, .int (iI (((i : Nat) : Int)))), (3, .int (iI (smI (svF cr LR llo sn) i))), (2, .int (iI (smI (svF cr LR lso sn) i))), (0, .ref kr), (1, .int (iI (((sn : Nat) : Int))))]) hx hb dX5_service_28 hl (by decide) rfl (fun ls hl => ?_)
        obtain ⟨hcr, hqa⟩ := lnq_some (lnO_s (by omega) (by omega) hq6)
        subst hqa
        refine lv_aload hx hb dX5_service_30 (lv_at hl 0 rfl) ?_
        refine lv_ifnull hx hb dX5_service_32 ?_
        have hP := P_pm hP (opL (a := sn * 5 + i) (by omega) hcr)
        have hD := D_pm hD (opL (a := sn * 5 + i) (by omega) hcr)
        have hP : va_P D vwCl ([(kr, .inr (5, [.ref la, .ref ia, .ref na, .ref b4, .ref b6, .ref b8, .ref b10, .int (iI (((sh : Nat) : Int))), .int (iI (((it : Nat) : Int))), .int (iI (lc)), .int (iI (((dy : Nat) : Int))), .int (iI (pct)), .int (iI (lr)), .int (iI (sr))])), (la, arI cs 4 lf), (ia, arQ cs 2 5 (itq it IA)), (na, arQ cs 3 20 (lnq cr LA)), (b4, .inr (0, [.ref ulr])), (ulr, arI cs 1005 lrf), (b6, .inr (0, [.ref usr])), (usr, arI cs 1005 srf), (b8, .inr (2, [.ref ur, .int (iI (rv))])), (ur, arI cs 7 rse), (b10, .inr (4, [.ref uq, .ref ug, .int (iI (pn))])), (uq, arI cs 4 rq), (ug, arI cs 4 gv), (LA (sn * 5 + i) 0, .inr (3, [.ref (IA ((sn * 5 + i) % 5) 0), .int (iI ((((lld (LR (sn * 5 + i))) : Nat) : Int))), .int (iI ((((lfd (LR (sn * 5 + i))) : Nat) : Int))), .int (iI (lfk (LR (sn * 5 + i)))), .int (iI (lfv (LR (sn * 5 + i)))), .ref (LA (sn * 5 + i) 1), .ref (LA (sn * 5 + i) 3), .ref (LA (sn * 5 + i) 4), .ref (LA (sn * 5 + i) 6), .ref (LA (sn * 5 + i) 8), .int (iI (les (LR (sn * 5 + i)))), .int (iI (lsk (LR (sn * 5 + i)))), .int (iI (lso (LR (sn * 5 + i)))), .int (iI (llo (LR (sn * 5 + i))))])), (LA (sn * 5 + i) 1, .inr (2, [.ref (LA (sn * 5 + i) 2), .int (iI (llv (LR (sn * 5 + i))))])), (LA (sn * 5 + i) 2, arI cs 7 (lse (LR (sn * 5 + i)))), (LA (sn * 5 + i) 3, arI cs 21 (lef (LR (sn * 5 + i)))), (LA (sn * 5 + i) 4, .inr (0, [.ref (LA (sn * 5 + i) 5)])), (LA (sn * 5 + i) 5, arI cs 1005 (ldm (LR (sn * 5 + i)))), (LA (sn * 5 + i) 6, .inr (0, [.ref (LA (sn * 5 + i) 7)])), (LA (sn * 5 + i) 7, arI cs 1005 (lsl (LR (sn * 5 + i)))), (LA (sn * 5 + i) 8, .inr (0, [.ref (LA (sn * 5 + i) 9)])), (LA (sn * 5 + i) 9, arI cs 1005 (lar (LR (sn * 5 + i))))] ++ (xL cs IA LA it cr IR LR (sn * 5 + i))) H := hP
        have hD : va_D A ([(kr, .inr (5, [.ref la, .ref ia, .ref na, .ref b4, .ref b6, .ref b8, .ref b10, .int (iI (((sh : Nat) : Int))), .int (iI (((it : Nat) : Int))), .int (iI (lc)), .int (iI (((dy : Nat) : Int))), .int (iI (pct)), .int (iI (lr)), .int (iI (sr))])), (la, arI cs 4 lf), (ia, arQ cs 2 5 (itq it IA)), (na, arQ cs 3 20 (lnq cr LA)), (b4, .inr (0, [.ref ulr])), (ulr, arI cs 1005 lrf), (b6, .inr (0, [.ref usr])), (usr, arI cs 1005 srf), (b8, .inr (2, [.ref ur, .int (iI (rv))])), (ur, arI cs 7 rse), (b10, .inr (4, [.ref uq, .ref ug, .int (iI (pn))])), (uq, arI cs 4 rq), (ug, arI cs 4 gv), (LA (sn * 5 + i) 0, .inr (3, [.ref (IA ((sn * 5 + i) % 5) 0), .int (iI ((((lld (LR (sn * 5 + i))) : Nat) : Int))), .int (iI ((((lfd (LR (sn * 5 + i))) : Nat) : Int))), .int (iI (lfk (LR (sn * 5 + i)))), .int (iI (lfv (LR (sn * 5 + i)))), .ref (LA (sn * 5 + i) 1), .ref (LA (sn * 5 + i) 3), .ref (LA (sn * 5 + i) 4), .ref (LA (sn * 5 + i) 6), .ref (LA (sn * 5 + i) 8), .int (iI (les (LR (sn * 5 + i)))), .int (iI (lsk (LR (sn * 5 + i)))), .int (iI (lso (LR (sn * 5 + i)))), .int (iI (llo (LR (sn * 5 + i))))])), (LA (sn * 5 + i) 1, .inr (2, [.ref (LA (sn * 5 + i) 2), .int (iI (llv (LR (sn * 5 + i))))])), (LA (sn * 5 + i) 2, arI cs 7 (lse (LR (sn * 5 + i)))), (LA (sn * 5 + i) 3, arI cs 21 (lef (LR (sn * 5 + i)))), (LA (sn * 5 + i) 4, .inr (0, [.ref (LA (sn * 5 + i) 5)])), (LA (sn * 5 + i) 5, arI cs 1005 (ldm (LR (sn * 5 + i)))), (LA (sn * 5 + i) 6, .inr (0, [.ref (LA (sn * 5 + i) 7)])), (LA (sn * 5 + i) 7, arI cs 1005 (lsl (LR (sn * 5 + i)))), (LA (sn * 5 + i) 8, .inr (0, [.ref (LA (sn * 5 + i) 9)])), (LA (sn * 5 + i) 9, arI cs 1005 (lar (LR (sn * 5 + i))))] ++ (xL cs IA LA it cr IR LR (sn * 5 + i))) := hD
        refine lv_iload_n hx hb dX5_service_35 rfl (lv_at hl 3 rfl) ?_
        refine lv_aload hx hb dX5_service_36 (lv_at hl 0 rfl) ?_
        refine my_getN hx hb hts inAX3 hown hK hN hP 13 rfl rfl 12 (by decide) 9 rfl rfl rfl dX5_service_38 ?_
        refine my_iadd (z := (smI (svF cr LR lso sn) i) + (lso (LR (sn * 5 + i)))) hx hb dX5_service_41 (rfl) ?_
        refine lv_istore_n (lv' := [(2, .int (iI ((smI (svF cr LR lso sn) i) + (lso (LR (sn * 5 + i)))))), (5, .ref (LA (sn * 5 + i) 0)), (4, .int (iI (((i : Nat) : Int)))), (3, .int (iI (smI (svF cr LR llo sn) i))), (0, .ref kr), (1, .int (iI (((sn : Nat) : Int))))]) hx hb dX5_service_42 rfl hl (by decide) rfl (fun ls hl => ?_)
        refine lv_iload_n hx hb dX5_service_43 rfl (lv_at hl 3 rfl) ?_
        refine lv_aload hx hb dX5_service_44 (lv_at hl 1 rfl) ?_
        refine my_getN hx hb hts inAX3 hown hK hN hP 13 rfl rfl 13 (by decide) 10 rfl rfl rfl dX5_service_46 ?_
        refine my_iadd (z := (smI (svF cr LR llo sn) i) + (llo (LR (sn * 5 + i)))) hx hb dX5_service_49 (rfl) ?_
        refine lv_istore_n (lv' := [(3, .int (iI ((smI (svF cr LR llo sn) i) + (llo (LR (sn * 5 + i)))))), (2, .int (iI ((smI (svF cr LR lso sn) i) + (lso (LR (sn * 5 + i)))))), (5, .ref (LA (sn * 5 + i) 0)), (4, .int (iI (((i : Nat) : Int)))), (0, .ref kr), (1, .int (iI (((sn : Nat) : Int))))]) hx hb dX5_service_50 rfl hl (by decide) rfl (fun ls hl => ?_)
        refine lv_iinc (v := iI (((i : Nat) : Int) + 1)) (lv' := [(4, .int (iI (((i : Nat) : Int) + 1))), (3, .int (iI ((smI (svF cr LR llo sn) i) + (llo (LR (sn * 5 + i)))))), (2, .int (iI ((smI (svF cr LR lso sn) i) + (lso (LR (sn * 5 + i)))))), (5, .ref (LA (sn * 5 + i) 0)), (0, .ref kr), (1, .int (iI (((sn : Nat) : Int))))]) hx hb dX5_service_51 hl (k := 3) rfl (by rw [show (((i : Nat) : Int) + 1 : Int) = ((i : Nat) : Int) + 1 from rfl]; exact iI_add _ _) (by decide) rfl (fun ls hl => ?_)
        refine lv_goto (tgt := 12) hx hb dX5_service_54 (by decide) ?_
        have e1 : ((i : Nat) : Int) + 1 = ((i + 1 : Nat) : Int) := by omega
        rw [e1] at hl
        have hP : va_P D vwCl ([(kr, .inr (5, [.ref la, .ref ia, .ref na, .ref b4, .ref b6, .ref b8, .ref b10, .int (iI (((sh : Nat) : Int))), .int (iI (((it : Nat) : Int))), .int (iI (lc)), .int (iI (((dy : Nat) : Int))), .int (iI (pct)), .int (iI (lr)), .int (iI (sr))])), (la, arI cs 4 lf), (ia, arQ cs 2 5 (itq it IA)), (na, arQ cs 3 20 (lnq cr LA)), (b4, .inr (0, [.ref ulr])), (ulr, arI cs 1005 lrf), (b6, .inr (0, [.ref usr])), (usr, arI cs 1005 srf), (b8, .inr (2, [.ref ur, .int (iI (rv))])), (ur, arI cs 7 rse), (b10, .inr (4, [.ref uq, .ref ug, .int (iI (pn))])), (uq, arI cs 4 rq), (ug, arI cs 4 gv)] ++ (lnD cs IA LA (sn * 5 + i) (LR (sn * 5 + i)) ++ xL cs IA LA it cr IR LR (sn * 5 + i))) H := hP
        have hD : va_D A ([(kr, .inr (5, [.ref la, .ref ia, .ref na, .ref b4, .ref b6, .ref b8, .ref b10, .int (iI (((sh : Nat) : Int))), .int (iI (((it : Nat) : Int))), .int (iI (lc)), .int (iI (((dy : Nat) : Int))), .int (iI (pct)), .int (iI (lr)), .int (iI (sr))])), (la, arI cs 4 lf), (ia, arQ cs 2 5 (itq it IA)), (na, arQ cs 3 20 (lnq cr LA)), (b4, .inr (0, [.ref ulr])), (ulr, arI cs 1005 lrf), (b6, .inr (0, [.ref usr])), (usr, arI cs 1005 srf), (b8, .inr (2, [.ref ur, .int (iI (rv))])), (ur, arI cs 7 rse), (b10, .inr (4, [.ref uq, .ref ug, .int (iI (pn))])), (uq, arI cs 4 rq), (ug, arI cs 4 gv)] ++ (lnD cs IA LA (sn * 5 + i) (LR (sn * 5 + i)) ++ xL cs IA LA it cr IR LR (sn * 5 + i))) := hD
        have hP := P_pm hP (clL (LR (sn * 5 + i)) (by omega) hcr)
        have hD := D_pm hD (clL (LR (sn * 5 + i)) (by omega) hcr)
        rw [upR_id] at hP hD
        have e2 : smI (svF cr LR lso sn) i + lso (LR (sn * 5 + i)) = smI (svF cr LR lso sn) (i + 1) := by simp only [smI, svF]; rw [if_pos hcr]
        have e3 : smI (svF cr LR llo sn) i + llo (LR (sn * 5 + i)) = smI (svF cr LR llo sn) (i + 1) := by simp only [smI, svF]; rw [if_pos hcr]
        rw [e2, e3] at hl
        exact ih (i + 1) (by omega) (by omega) _ _ _ hP hS (lv_sub hl [0, 1, 2, 4, 5] rfl)

abbrev ws_X5_share : List Cond := Cond.code yX5_share cX5_share 3 (some .int) :: ALL
set_option maxHeartbeats 4000000 in
set_option maxRecDepth 100000 in
theorem m_X5_share_no (l : Launch) (hst : l.stackTraces = false) (D : va_G) (cs : Nat → ClassId) (kr la ia na b4 b6 b8 b10 sh it : Nat) (lc : Int) (dy : Nat) (pct lr sr : Int) (lf : Nat → Int) (itf : Nat → Option Nat) (lnf : Nat → Option Nat) (zs zi : Int) (hsh : sh ≤ 4) (hit : it ≤ 5) (hitf : ∀ j, j < it → itf j ≠ none) (hzs : -2147483648 ≤ zs ∧ zs < 2147483648) (hzi : -2147483648 ≤ zi ∧ zi < 2147483648) (hno : cdL sh it lnf zs zi ≠ 0) : vx_Met l yX5_share ws_X5_share ({ frames := 8, cells := 3, slots := 18, locals := 127 }) (va_Pc [.ref kr, .int (iI (zs)), .int (iI (zi))] (PE D cs [(kr, .inr (5, [.ref la, .ref ia, .ref na, .ref b4, .ref b6, .ref b8, .ref b10, .int (iI (((sh : Nat) : Int))), .int (iI (((it : Nat) : Int))), .int (iI (lc)), .int (iI (((dy : Nat) : Int))), .int (iI (pct)), .int (iI (lr)), .int (iI (sr))])), (la, arI cs 4 lf), (ia, arQ cs 2 5 itf), (na, arQ cs 3 20 lnf)] noA)) (va_Qi (fun r (_ : Unit) => cdL sh it lnf zs zi = 0 ∧ r = iI (0)) (fun _ _ => True) noA) (vx_X (fun (u : Nat) => u = cdL sh it lnf zs zi ∧ u ≠ 0) (fun E u _ => E = exN u) noA) 3 18 noA := by
  refine vx_ofW (cc := cX5_share) (maxL := 3) (ret := (some .int)) (by decide +kernel) rfl ?_
  intro p e s m args below meth c s₁ B hml hnt hv
  obtain ⟨rfl, ⟨hP, hK, hD, hN⟩, hE⟩ := hv
  have hx := B.exec
  have hb := B.bytes
  have hr := B.returns
  have hts : ∀ w ∈ ALL, w.before _ s = true := fun w h => atoms_spec (ws := ws_X5_share) B.pre w (List.mem_cons_of_mem _ h)
  have hown : s.vm.findClass RX5 = some m.cls := findClass_of_methodNamed B.named
  have hlocks := B.notSynchronized
  have hS : va_S noA s.heap s.heap [] := va_S.rf
  generalize inW [(kr, .inr (5, [.ref la, .ref ia, .ref na, .ref b4, .ref b6, .ref b8, .ref b10, .int (iI (((sh : Nat) : Int))), .int (iI (((it : Nat) : Int))), .int (iI (lc)), .int (iI (((dy : Nat) : Int))), .int (iI (pct)), .int (iI (lr)), .int (iI (sr))])), (la, arI cs 4 lf), (ia, arQ cs 2 5 itf), (na, arQ cs 3 20 lnf)] = A at hD
  have hl := lv_entry ([.ref kr, .int (iI (zs)), .int (iI (zi))]) (n := 3) (Nat.le_of_ble_eq_true rfl)
  rw [lg_entry_eq]
  generalize (lg_sl ([.ref kr, .int (iI (zs)), .int (iI (zi))]) ++ List.replicate (3 - (lg_sl ([.ref kr, .int (iI (zs)), .int (iI (zi))])).length) Slot.unset).toArray = ls at hl ⊢
  have hl : lv_has ls 3 [(0, .ref kr), (1, .int (iI (zs))), (2, .int (iI (zi)))] := hl
  have hH := rfl (a := s.heap)
  refine lv_aload_n hx hb dX5_share_0 rfl (lv_at hl 0 rfl) ?_
  refine lv_iload_n hx hb dX5_share_1 rfl (lv_at hl 1 rfl) ?_
  refine lv_iload_n hx hb dX5_share_2 rfl (lv_at hl 2 rfl) ?_
  have pk1 : picks [(kr, .inr (5, [.ref la, .ref ia, .ref na, .ref b4, .ref b6, .ref b8, .ref b10, .int (iI (((sh : Nat) : Int))), .int (iI (((it : Nat) : Int))), .int (iI (lc)), .int (iI (((dy : Nat) : Int))), .int (iI (pct)), .int (iI (lr)), .int (iI (sr))])), (la, arI cs 4 lf), (ia, arQ cs 2 5 itf), (na, arQ cs 3 20 lnf)] [0, 1, 2, 3] [(kr, .inr (5, [.ref la, .ref ia, .ref na, .ref b4, .ref b6, .ref b8, .ref b10, .int (iI (((sh : Nat) : Int))), .int (iI (((it : Nat) : Int))), .int (iI (lc)), .int (iI (((dy : Nat) : Int))), .int (iI (pct)), .int (iI (lr)), .int (iI (sr))])), (la, arI cs 4 lf), (ia, arQ cs 2 5 itf), (na, arQ cs 3 20 lnf)] := ⟨rfl, rfl, rfl, rfl, trivial⟩
  refine vx_callq (vx_runV (As := [.int (iI (zs)), .int (iI (zi))]) (rest := []) ⟨hx, hb, hml, hown, hts⟩ (m_X5_requireLine l hst D cs kr la ia na b4 b6 b8 b10 sh it lc dy pct lr sr lf itf lnf zs zi (by assumption) (by assumption) (by assumption) (by omega) (by omega)) (cwV 2 hts (gV w_461 w_463 w_p9 w_1 w_464) rfl rfl rfl (by decide +kernel) ⟨Nat.le_of_ble_eq_true rfl, Nat.le_of_ble_eq_true rfl⟩) (PE_V hK hN hE hS (fun _ h => False.elim h) hP hD [0, 1, 2, 3] rfl pk1 rfl rfl) rfl rfl hl.1 rfl (lv_room (Nat.le_of_ble_eq_true rfl)) dX5_share_3 ⟨Nat.le_of_ble_eq_true rfl, Nat.le_of_ble_eq_true rfl⟩) hS (fun _ _ h => False.elim h) (fun _ h => False.elim h) (fun _ _ h => False.elim h) (fun E ce q9 u t H1 locs1 ht hvm hpx hBX hz1 hk1 hS1 hce hcv hcl => ?_) (fun r u t H locs ht hvm hw hB hz1 hk1 hS => ?_)
  · have hcode : u = cdL sh it lnf zs zi := by
        have h9 : u = cdL sh it lnf zs zi := hpx.1
        have h10 : u ≠ 0 := hpx.2
        exact h9
    exact vx_out (fun x hx => (hnt x hx).elim) hlocks hce hcv hcl (fun t2 ht2 _ => ⟨u, ⟨hcode, hpx.2⟩, hBX, hS1.F ht2⟩) hS1.2.2 (Nat.le_of_ble_eq_true rfl) (Nat.le_of_ble_eq_true rfl)
  obtain ⟨hc2, hw⟩ := hw
  subst hw
  have hP := P_kept hP hk1
  exact absurd hc2 hno

abbrev ws_X5_shareByPacks : List Cond := Cond.code yX5_shareByPacks cX5_shareByPacks 3 (some .int) :: ALL
set_option maxHeartbeats 4000000 in
set_option maxRecDepth 100000 in
theorem m_X5_shareByPacks_no (l : Launch) (hst : l.stackTraces = false) (D : va_G) (cs : Nat → ClassId) (kr la ia na b4 b6 b8 b10 sh it : Nat) (lc : Int) (dy : Nat) (pct lr sr : Int) (lf : Nat → Int) (itf : Nat → Option Nat) (lnf : Nat → Option Nat) (zs zi : Int) (hsh : sh ≤ 4) (hit : it ≤ 5) (hitf : ∀ j, j < it → itf j ≠ none) (hzs : -2147483648 ≤ zs ∧ zs < 2147483648) (hzi : -2147483648 ≤ zi ∧ zi < 2147483648) (hno : cdL sh it lnf zs zi ≠ 0) : vx_Met l yX5_shareByPacks ws_X5_shareByPacks ({ frames := 8, cells := 3, slots := 18, locals := 127 }) (va_Pc [.ref kr, .int (iI (zs)), .int (iI (zi))] (PE D cs [(kr, .inr (5, [.ref la, .ref ia, .ref na, .ref b4, .ref b6, .ref b8, .ref b10, .int (iI (((sh : Nat) : Int))), .int (iI (((it : Nat) : Int))), .int (iI (lc)), .int (iI (((dy : Nat) : Int))), .int (iI (pct)), .int (iI (lr)), .int (iI (sr))])), (la, arI cs 4 lf), (ia, arQ cs 2 5 itf), (na, arQ cs 3 20 lnf)] noA)) (va_Qi (fun r (_ : Unit) => cdL sh it lnf zs zi = 0 ∧ r = iI (0)) (fun _ _ => True) noA) (vx_X (fun (u : Nat) => u = cdL sh it lnf zs zi ∧ u ≠ 0) (fun E u _ => E = exN u) noA) 3 18 noA := by
  refine vx_ofW (cc := cX5_shareByPacks) (maxL := 3) (ret := (some .int)) (by decide +kernel) rfl ?_
  intro p e s m args below meth c s₁ B hml hnt hv
  obtain ⟨rfl, ⟨hP, hK, hD, hN⟩, hE⟩ := hv
  have hx := B.exec
  have hb := B.bytes
  have hr := B.returns
  have hts : ∀ w ∈ ALL, w.before _ s = true := fun w h => atoms_spec (ws := ws_X5_shareByPacks) B.pre w (List.mem_cons_of_mem _ h)
  have hown : s.vm.findClass RX5 = some m.cls := findClass_of_methodNamed B.named
  have hlocks := B.notSynchronized
  have hS : va_S noA s.heap s.heap [] := va_S.rf
  generalize inW [(kr, .inr (5, [.ref la, .ref ia, .ref na, .ref b4, .ref b6, .ref b8, .ref b10, .int (iI (((sh : Nat) : Int))), .int (iI (((it : Nat) : Int))), .int (iI (lc)), .int (iI (((dy : Nat) : Int))), .int (iI (pct)), .int (iI (lr)), .int (iI (sr))])), (la, arI cs 4 lf), (ia, arQ cs 2 5 itf), (na, arQ cs 3 20 lnf)] = A at hD
  have hl := lv_entry ([.ref kr, .int (iI (zs)), .int (iI (zi))]) (n := 3) (Nat.le_of_ble_eq_true rfl)
  rw [lg_entry_eq]
  generalize (lg_sl ([.ref kr, .int (iI (zs)), .int (iI (zi))]) ++ List.replicate (3 - (lg_sl ([.ref kr, .int (iI (zs)), .int (iI (zi))])).length) Slot.unset).toArray = ls at hl ⊢
  have hl : lv_has ls 3 [(0, .ref kr), (1, .int (iI (zs))), (2, .int (iI (zi)))] := hl
  have hH := rfl (a := s.heap)
  refine lv_aload_n hx hb dX5_shareByPacks_0 rfl (lv_at hl 0 rfl) ?_
  refine lv_iload_n hx hb dX5_shareByPacks_1 rfl (lv_at hl 1 rfl) ?_
  refine lv_iload_n hx hb dX5_shareByPacks_2 rfl (lv_at hl 2 rfl) ?_
  have pk1 : picks [(kr, .inr (5, [.ref la, .ref ia, .ref na, .ref b4, .ref b6, .ref b8, .ref b10, .int (iI (((sh : Nat) : Int))), .int (iI (((it : Nat) : Int))), .int (iI (lc)), .int (iI (((dy : Nat) : Int))), .int (iI (pct)), .int (iI (lr)), .int (iI (sr))])), (la, arI cs 4 lf), (ia, arQ cs 2 5 itf), (na, arQ cs 3 20 lnf)] [0, 1, 2, 3] [(kr, .inr (5, [.ref la, .ref ia, .ref na, .ref b4, .ref b6, .ref b8, .ref b10, .int (iI (((sh : Nat) : Int))), .int (iI (((it : Nat) : Int))), .int (iI (lc)), .int (iI (((dy : Nat) : Int))), .int (iI (pct)), .int (iI (lr)), .int (iI (sr))])), (la, arI cs 4 lf), (ia, arQ cs 2 5 itf), (na, arQ cs 3 20 lnf)] := ⟨rfl, rfl, rfl, rfl, trivial⟩
  refine vx_callq (vx_runV (As := [.int (iI (zs)), .int (iI (zi))]) (rest := []) ⟨hx, hb, hml, hown, hts⟩ (m_X5_requireLine l hst D cs kr la ia na b4 b6 b8 b10 sh it lc dy pct lr sr lf itf lnf zs zi (by assumption) (by assumption) (by assumption) (by omega) (by omega)) (cwV 2 hts (gV w_461 w_463 w_p9 w_1 w_464) rfl rfl rfl (by decide +kernel) ⟨Nat.le_of_ble_eq_true rfl, Nat.le_of_ble_eq_true rfl⟩) (PE_V hK hN hE hS (fun _ h => False.elim h) hP hD [0, 1, 2, 3] rfl pk1 rfl rfl) rfl rfl hl.1 rfl (lv_room (Nat.le_of_ble_eq_true rfl)) dX5_shareByPacks_3 ⟨Nat.le_of_ble_eq_true rfl, Nat.le_of_ble_eq_true rfl⟩) hS (fun _ _ h => False.elim h) (fun _ h => False.elim h) (fun _ _ h => False.elim h) (fun E ce q9 u t H1 locs1 ht hvm hpx hBX hz1 hk1 hS1 hce hcv hcl => ?_) (fun r u t H locs ht hvm hw hB hz1 hk1 hS => ?_)
  · have hcode : u = cdL sh it lnf zs zi := by
        have h9 : u = cdL sh it lnf zs zi := hpx.1
        have h10 : u ≠ 0 := hpx.2
        exact h9
    exact vx_out (fun x hx => (hnt x hx).elim) hlocks hce hcv hcl (fun t2 ht2 _ => ⟨u, ⟨hcode, hpx.2⟩, hBX, hS1.F ht2⟩) hS1.2.2 (Nat.le_of_ble_eq_true rfl) (Nat.le_of_ble_eq_true rfl)
  obtain ⟨hc2, hw⟩ := hw
  subst hw
  have hP := P_kept hP hk1
  exact absurd hc2 hno

set_option maxHeartbeats 4000000 in
set_option maxRecDepth 100000 in
theorem m_X5_share_ok (l : Launch) (hst : l.stackTraces = false) (D : va_G) (cs : Nat → ClassId) (kr la ia na b4 b6 b8 b10 sh it : Nat) (lc : Int) (dy : Nat) (pct lr sr : Int) (ulr usr ur uq ug : Nat) (lf lrf srf rse rq gv : Nat → Int) (rv pn : Int) (IA LA : Nat → Nat → Nat) (cr : Nat → Bool) (IR : Nat → IT) (LR : Nat → LT) (sn tn : Nat) (hsh : sh ≤ 4) (hit : it ≤ 5) (hsn : sn < sh) (htn : tn < it) (hcr : cr (sn * 5 + tn) = true) (hd : dy < 1000) (hpc : 1 ≤ pct ∧ pct ≤ 100) (hlk : ∀ s, lOK dy (LR (s * 5 + tn))) (hik : iOK (IR tn)) : vx_Met l yX5_share ws_X5_share ({ frames := 8, cells := 3, slots := 18, locals := 127 }) (va_Pc [.ref kr, .int (iI (((sn : Nat) : Int))), .int (iI (((tn : Nat) : Int)))] (PE D cs ([(kr, .inr (5, [.ref la, .ref ia, .ref na, .ref b4, .ref b6, .ref b8, .ref b10, .int (iI (((sh : Nat) : Int))), .int (iI (((it : Nat) : Int))), .int (iI (lc)), .int (iI (((dy : Nat) : Int))), .int (iI (pct)), .int (iI (lr)), .int (iI (sr))])), (la, arI cs 4 lf), (ia, arQ cs 2 5 (itq it IA)), (na, arQ cs 3 20 (lnq cr LA)), (b4, .inr (0, [.ref ulr])), (ulr, arI cs 1005 lrf), (b6, .inr (0, [.ref usr])), (usr, arI cs 1005 srf), (b8, .inr (2, [.ref ur, .int (iI (rv))])), (ur, arI cs 7 rse), (b10, .inr (4, [.ref uq, .ref ug, .int (iI (pn))])), (uq, arI cs 4 rq), (ug, arI cs 4 gv)] ++ (aW cs IA LA it cr IR LR)) (inW ([(kr, .inr (5, [.ref la, .ref ia, .ref na, .ref b4, .ref b6, .ref b8, .ref b10, .int (iI (((sh : Nat) : Int))), .int (iI (((it : Nat) : Int))), .int (iI (lc)), .int (iI (((dy : Nat) : Int))), .int (iI (pct)), .int (iI (lr)), .int (iI (sr))])), (la, arI cs 4 lf), (ia, arQ cs 2 5 (itq it IA)), (na, arQ cs 3 20 (lnq cr LA)), (b4, .inr (0, [.ref ulr])), (ulr, arI cs 1005 lrf), (b6, .inr (0, [.ref usr])), (usr, arI cs 1005 srf), (b8, .inr (2, [.ref ur, .int (iI (rv))])), (ur, arI cs 7 rse), (b10, .inr (4, [.ref uq, .ref ug, .int (iI (pn))])), (uq, arI cs 4 rq), (ug, arI cs 4 gv)] ++ (aW cs IA LA it cr IR LR))))) (va_Qi (fun r (_ : Unit) => 0 = 0 ∧ r = iI (ctI (rqA dy pct cr IR LR tn sh) (ist (IR tn) / ipk (IR tn)) sn 32 0 (rqA dy pct cr IR LR tn sh sn))) (fun _ t => va_P D vwCl ([(kr, .inr (5, [.ref la, .ref ia, .ref na, .ref b4, .ref b6, .ref b8, .ref b10, .int (iI (((sh : Nat) : Int))), .int (iI (((it : Nat) : Int))), .int (iI (lc)), .int (iI (((dy : Nat) : Int))), .int (iI (pct)), .int (iI (lr)), .int (iI (sr))])), (la, arI cs 4 lf), (ia, arQ cs 2 5 (itq it IA)), (na, arQ cs 3 20 (lnq cr LA)), (b4, .inr (0, [.ref ulr])), (ulr, arI cs 1005 lrf), (b6, .inr (0, [.ref usr])), (usr, arI cs 1005 srf), (b8, .inr (2, [.ref ur, .int (iI (rv))])), (ur, arI cs 7 rse), (b10, .inr (4, [.ref uq, .ref ug, .int (iI (ist (IR tn) / ipk (IR tn)))])), (uq, arI cs 4 (rqA dy pct cr IR LR tn sh)), (ug, arI cs 4 gv)] ++ (aW cs IA LA it cr IR LR)) t.heap) (inW ([(kr, .inr (5, [.ref la, .ref ia, .ref na, .ref b4, .ref b6, .ref b8, .ref b10, .int (iI (((sh : Nat) : Int))), .int (iI (((it : Nat) : Int))), .int (iI (lc)), .int (iI (((dy : Nat) : Int))), .int (iI (pct)), .int (iI (lr)), .int (iI (sr))])), (la, arI cs 4 lf), (ia, arQ cs 2 5 (itq it IA)), (na, arQ cs 3 20 (lnq cr LA)), (b4, .inr (0, [.ref ulr])), (ulr, arI cs 1005 lrf), (b6, .inr (0, [.ref usr])), (usr, arI cs 1005 srf), (b8, .inr (2, [.ref ur, .int (iI (rv))])), (ur, arI cs 7 rse), (b10, .inr (4, [.ref uq, .ref ug, .int (iI (pn))])), (uq, arI cs 4 rq), (ug, arI cs 4 gv)] ++ (aW cs IA LA it cr IR LR)))) (vx_X (fun (u : Nat) => u = 0 ∧ u ≠ 0) (fun E u t => E = exN u ∧ va_P D vwCl ([(kr, .inr (5, [.ref la, .ref ia, .ref na, .ref b4, .ref b6, .ref b8, .ref b10, .int (iI (((sh : Nat) : Int))), .int (iI (((it : Nat) : Int))), .int (iI (lc)), .int (iI (((dy : Nat) : Int))), .int (iI (pct)), .int (iI (lr)), .int (iI (sr))])), (la, arI cs 4 lf), (ia, arQ cs 2 5 (itq it IA)), (na, arQ cs 3 20 (lnq cr LA)), (b4, .inr (0, [.ref ulr])), (ulr, arI cs 1005 lrf), (b6, .inr (0, [.ref usr])), (usr, arI cs 1005 srf), (b8, .inr (2, [.ref ur, .int (iI (rv))])), (ur, arI cs 7 rse), (b10, .inr (4, [.ref uq, .ref ug, .int (iI (pn))])), (uq, arI cs 4 rq), (ug, arI cs 4 gv)] ++ (aW cs IA LA it cr IR LR)) t.heap) (inW ([(kr, .inr (5, [.ref la, .ref ia, .ref na, .ref b4, .ref b6, .ref b8, .ref b10, .int (iI (((sh : Nat) : Int))), .int (iI (((it : Nat) : Int))), .int (iI (lc)), .int (iI (((dy : Nat) : Int))), .int (iI (pct)), .int (iI (lr)), .int (iI (sr))])), (la, arI cs 4 lf), (ia, arQ cs 2 5 (itq it IA)), (na, arQ cs 3 20 (lnq cr LA)), (b4, .inr (0, [.ref ulr])), (ulr, arI cs 1005 lrf), (b6, .inr (0, [.ref usr])), (usr, arI cs 1005 srf), (b8, .inr (2, [.ref ur, .int (iI (rv))])), (ur, arI cs 7 rse), (b10, .inr (4, [.ref uq, .ref ug, .int (iI (pn))])), (uq, arI cs 4 rq), (ug, arI cs 4 gv)] ++ (aW cs IA LA it cr IR LR)))) 3 18 (inW ([(kr, .inr (5, [.ref la, .ref ia, .ref na, .ref b4, .ref b6, .ref b8, .ref b10, .int (iI (((sh : Nat) : Int))), .int (iI (((it : Nat) : Int))), .int (iI (lc)), .int (iI (((dy : Nat) : Int))), .int (iI (pct)), .int (iI (lr)), .int (iI (sr))])), (la, arI cs 4 lf), (ia, arQ cs 2 5 (itq it IA)), (na, arQ cs 3 20 (lnq cr LA)), (b4, .inr (0, [.ref ulr])), (ulr, arI cs 1005 lrf), (b6, .inr (0, [.ref usr])), (usr, arI cs 1005 srf), (b8, .inr (2, [.ref ur, .int (iI (rv))])), (ur, arI cs 7 rse), (b10, .inr (4, [.ref uq, .ref ug, .int (iI (pn))])), (uq, arI cs 4 rq), (ug, arI cs 4 gv)] ++ (aW cs IA LA it cr IR LR))) := by
  refine vx_ofW (cc := cX5_share) (maxL := 3) (ret := (some .int)) (by decide +kernel) rfl ?_
  intro p e s m args below meth c s₁ B hml hnt hv
  obtain ⟨rfl, ⟨hP, hK, hD, hN⟩, hE⟩ := hv
  have hx := B.exec
  have hb := B.bytes
  have hr := B.returns
  have hts : ∀ w ∈ ALL, w.before _ s = true := fun w h => atoms_spec (ws := ws_X5_share) B.pre w (List.mem_cons_of_mem _ h)
  have hown : s.vm.findClass RX5 = some m.cls := findClass_of_methodNamed B.named
  have hlocks := B.notSynchronized
  generalize hAe : inW ([(kr, .inr (5, [.ref la, .ref ia, .ref na, .ref b4, .ref b6, .ref b8, .ref b10, .int (iI (((sh : Nat) : Int))), .int (iI (((it : Nat) : Int))), .int (iI (lc)), .int (iI (((dy : Nat) : Int))), .int (iI (pct)), .int (iI (lr)), .int (iI (sr))])), (la, arI cs 4 lf), (ia, arQ cs 2 5 (itq it IA)), (na, arQ cs 3 20 (lnq cr LA)), (b4, .inr (0, [.ref ulr])), (ulr, arI cs 1005 lrf), (b6, .inr (0, [.ref usr])), (usr, arI cs 1005 srf), (b8, .inr (2, [.ref ur, .int (iI (rv))])), (ur, arI cs 7 rse), (b10, .inr (4, [.ref uq, .ref ug, .int (iI (pn))])), (uq, arI cs 4 rq), (ug, arI cs 4 gv)] ++ (aW cs IA LA it cr IR LR)) = A at hD hE ⊢
  have hS : va_S A s.heap s.heap [] := va_S.rf
  have hl := lv_entry ([.ref kr, .int (iI (((sn : Nat) : Int))), .int (iI (((tn : Nat) : Int)))]) (n := 3) (Nat.le_of_ble_eq_true rfl)
  rw [lg_entry_eq]
  generalize (lg_sl ([.ref kr, .int (iI (((sn : Nat) : Int))), .int (iI (((tn : Nat) : Int)))]) ++ List.replicate (3 - (lg_sl ([.ref kr, .int (iI (((sn : Nat) : Int))), .int (iI (((tn : Nat) : Int)))])).length) Slot.unset).toArray = ls at hl ⊢
  have hl : lv_has ls 3 [(0, .ref kr), (1, .int (iI (((sn : Nat) : Int)))), (2, .int (iI (((tn : Nat) : Int))))] := hl
  have hH := rfl (a := s.heap)
  have hitf := itq_lt (it := it) (IA := IA)
  have hrq := fun j => rqA_rng (cr := cr) (n := sh) hlk hpc hik j
  have hpn := pk_rng hik
  refine lv_aload_n hx hb dX5_share_0 rfl (lv_at hl 0 rfl) ?_
  refine lv_iload_n hx hb dX5_share_1 rfl (lv_at hl 1 rfl) ?_
  refine lv_iload_n hx hb dX5_share_2 rfl (lv_at hl 2 rfl) ?_
  have pk1 : picks ([(kr, .inr (5, [.ref la, .ref ia, .ref na, .ref b4, .ref b6, .ref b8, .ref b10, .int (iI (((sh : Nat) : Int))), .int (iI (((it : Nat) : Int))), .int (iI (lc)), .int (iI (((dy : Nat) : Int))), .int (iI (pct)), .int (iI (lr)), .int (iI (sr))])), (la, arI cs 4 lf), (ia, arQ cs 2 5 (itq it IA)), (na, arQ cs 3 20 (lnq cr LA)), (b4, .inr (0, [.ref ulr])), (ulr, arI cs 1005 lrf), (b6, .inr (0, [.ref usr])), (usr, arI cs 1005 srf), (b8, .inr (2, [.ref ur, .int (iI (rv))])), (ur, arI cs 7 rse), (b10, .inr (4, [.ref uq, .ref ug, .int (iI (pn))])), (uq, arI cs 4 rq), (ug, arI cs 4 gv)] ++ (aW cs IA LA it cr IR LR)) [0, 1, 2, 3] [(kr, .inr (5, [.ref la, .ref ia, .ref na, .ref b4, .ref b6, .ref b8, .ref b10, .int (iI (((sh : Nat) : Int))), .int (iI (((it : Nat) : Int))), .int (iI (lc)), .int (iI (((dy : Nat) : Int))), .int (iI (pct)), .int (iI (lr)), .int (iI (sr))])), (la, arI cs 4 lf), (ia, arQ cs 2 5 (itq it IA)), (na, arQ cs 3 20 (lnq cr LA))] := ⟨rfl, rfl, rfl, rfl, trivial⟩
  refine vx_callq (vx_runV (As := [.int (iI (((sn : Nat) : Int))), .int (iI (((tn : Nat) : Int)))]) (rest := []) ⟨hx, hb, hml, hown, hts⟩ (m_X5_requireLine l hst D cs kr la ia na b4 b6 b8 b10 sh it lc dy pct lr sr lf (itq it IA) (lnq cr LA) ((sn : Nat) : Int) ((tn : Nat) : Int) (by assumption) (by assumption) (by assumption) (by omega) (by omega)) (cwV 2 hts (gV w_461 w_463 w_p9 w_1 w_464) rfl rfl rfl (by decide +kernel) ⟨Nat.le_of_ble_eq_true rfl, Nat.le_of_ble_eq_true rfl⟩) (PE_V hK hN hE hS (fun _ h => False.elim h) hP hD [0, 1, 2, 3] rfl pk1 rfl rfl) rfl rfl hl.1 rfl (lv_room (Nat.le_of_ble_eq_true rfl)) dX5_share_3 ⟨Nat.le_of_ble_eq_true rfl, Nat.le_of_ble_eq_true rfl⟩) hS (fun _ _ h => False.elim h) (fun _ h => False.elim h) (fun _ _ h => False.elim h) (fun E ce q9 u t H1 locs1 ht hvm hpx hBX hz1 hk1 hS1 hce hcv hcl => ?_) (fun r u t H locs ht hvm hw hB hz1 hk1 hS => ?_)
  · have hcode : u = 0 := by
        have h9 : u = cdL sh it (lnq cr LA) ((sn : Nat) : Int) ((tn : Nat) : Int) := hpx.1
        have h10 : u ≠ 0 := hpx.2
        exact absurd (h9.trans (cdL_0 (lnf := lnq cr LA) hsn htn (show lnq cr LA (sn * 5 + tn) = some (LA (sn * 5 + tn) 0) from if_pos hcr))) h10
    have hP := P_kept hP hk1
    subst hAe
    exact vx_out (fun x hx => (hnt x hx).elim) hlocks hce hcv hcl (fun t2 ht2 _ => ⟨u, ⟨hcode, hpx.2⟩, ⟨hBX, by show va_P D vwCl _ t2.heap; rw [ht2]; exact hP⟩, hS1.F ht2⟩) hS1.2.2 (Nat.le_of_ble_eq_true rfl) (Nat.le_of_ble_eq_true rfl)
  obtain ⟨hc2, hw⟩ := hw
  subst hw
  have hP := P_kept hP hk1
  refine lv_pop hx hb dX5_share_6 (rf_cat _) ?_
  refine lv_aload_n hx hb dX5_share_7 rfl (lv_at hl 0 rfl) ?_
  refine lv_iload_n hx hb dX5_share_8 rfl (lv_at hl 2 rfl) ?_
  refine va_callv (va_runV (As := [.int (iI (((tn : Nat) : Int)))]) (rest := []) ⟨hx, hb, hml, hown, hts⟩ (m_X5_askForAll l D cs kr la ia na b4 b6 b8 b10 sh it lc dy pct lr sr ulr usr ur uq ug lf lrf srf rse rq gv rv pn IA LA cr IR LR tn (by omega) (by omega) (by omega) (by omega) (hpc) (hlk) (hik)) (cwV 1 hts (gV w_563 w_565 w_p13 w_1 w_566) rfl rfl rfl (by decide +kernel) ⟨Nat.le_of_ble_eq_true rfl, Nat.le_of_ble_eq_true rfl⟩) (PC_Va hK hN hP hD rfl rfl) rfl rfl hl.1 rfl (lv_room (Nat.le_of_ble_eq_true rfl)) dX5_share_9 ⟨Nat.le_of_ble_eq_true rfl, Nat.le_of_ble_eq_true rfl⟩) hS (fun q _ h => inW_suba hD q h) (fun q h => inW_suba hD q h) (fun u t H locs ht hvm hw hB hz1 hk1 hS => ?_)
  rw [ht] at hB
  have hP : va_P D vwCl ([(kr, .inr (5, [.ref la, .ref ia, .ref na, .ref b4, .ref b6, .ref b8, .ref b10, .int (iI (((sh : Nat) : Int))), .int (iI (((it : Nat) : Int))), .int (iI (lc)), .int (iI (((dy : Nat) : Int))), .int (iI (pct)), .int (iI (lr)), .int (iI (sr))])), (la, arI cs 4 lf), (ia, arQ cs 2 5 (itq it IA)), (na, arQ cs 3 20 (lnq cr LA)), (b4, .inr (0, [.ref ulr])), (ulr, arI cs 1005 lrf), (b6, .inr (0, [.ref usr])), (usr, arI cs 1005 srf), (b8, .inr (2, [.ref ur, .int (iI (rv))])), (ur, arI cs 7 rse), (b10, .inr (4, [.ref uq, .ref ug, .int (iI (ist (IR tn) / ipk (IR tn)))])), (uq, arI cs 4 (rqA dy pct cr IR LR tn sh)), (ug, arI cs 4 gv)] ++ (aW cs IA LA it cr IR LR)) H := hB
  have hD : va_D A ([(kr, .inr (5, [.ref la, .ref ia, .ref na, .ref b4, .ref b6, .ref b8, .ref b10, .int (iI (((sh : Nat) : Int))), .int (iI (((it : Nat) : Int))), .int (iI (lc)), .int (iI (((dy : Nat) : Int))), .int (iI (pct)), .int (iI (lr)), .int (iI (sr))])), (la, arI cs 4 lf), (ia, arQ cs 2 5 (itq it IA)), (na, arQ cs 3 20 (lnq cr LA)), (b4, .inr (0, [.ref ulr])), (ulr, arI cs 1005 lrf), (b6, .inr (0, [.ref usr])), (usr, arI cs 1005 srf), (b8, .inr (2, [.ref ur, .int (iI (rv))])), (ur, arI cs 7 rse), (b10, .inr (4, [.ref uq, .ref ug, .int (iI (ist (IR tn) / ipk (IR tn)))])), (uq, arI cs 4 (rqA dy pct cr IR LR tn sh)), (ug, arI cs 4 gv)] ++ (aW cs IA LA it cr IR LR)) := D_fst hD (fst_ap rfl aW_fst)
  refine lv_aload_n hx hb dX5_share_12 rfl (lv_at hl 0 rfl) ?_
  refine my_get hx hb hts inAX5 hown hK hP 0 rfl rfl 6 (by decide) w_76 rfl rfl dX5_share_13 ?_
  refine lv_iload_n hx hb dX5_share_16 rfl (lv_at hl 1 rfl) ?_
  have pk4 : picks ([(kr, .inr (5, [.ref la, .ref ia, .ref na, .ref b4, .ref b6, .ref b8, .ref b10, .int (iI (((sh : Nat) : Int))), .int (iI (((it : Nat) : Int))), .int (iI (lc)), .int (iI (((dy : Nat) : Int))), .int (iI (pct)), .int (iI (lr)), .int (iI (sr))])), (la, arI cs 4 lf), (ia, arQ cs 2 5 (itq it IA)), (na, arQ cs 3 20 (lnq cr LA)), (b4, .inr (0, [.ref ulr])), (ulr, arI cs 1005 lrf), (b6, .inr (0, [.ref usr])), (usr, arI cs 1005 srf), (b8, .inr (2, [.ref ur, .int (iI (rv))])), (ur, arI cs 7 rse), (b10, .inr (4, [.ref uq, .ref ug, .int (iI (ist (IR tn) / ipk (IR tn)))])), (uq, arI cs 4 (rqA dy pct cr IR LR tn sh)), (ug, arI cs 4 gv)] ++ (aW cs IA LA it cr IR LR)) [10, 11, 12] [(b10, .inr (4, [.ref uq, .ref ug, .int (iI (ist (IR tn) / ipk (IR tn)))])), (uq, arI cs 4 (rqA dy pct cr IR LR tn sh)), (ug, arI cs 4 gv)] := ⟨rfl, rfl, rfl, trivial⟩
  refine va_calli (va_runV (As := [.int (iI (((sn : Nat) : Int)))]) (rest := []) ⟨hx, hb, hml, hown, hts⟩ (m_X4_counted l D cs b10 uq ug (rqA dy pct cr IR LR tn sh) gv (ist (IR tn) / ipk (IR tn)) sn (by omega) (hrq) (hpn)) (cwV 1 hts (gV w_599 w_600 w_601 w_4 w_602) rfl rfl rfl (by decide +kernel) ⟨Nat.le_of_ble_eq_true rfl, Nat.le_of_ble_eq_true rfl⟩) (PC_V hK hN hP hD [10, 11, 12] rfl pk4 rfl rfl) rfl rfl hl.1 rfl (lv_room (Nat.le_of_ble_eq_true rfl)) dX5_share_17 ⟨Nat.le_of_ble_eq_true rfl, Nat.le_of_ble_eq_true rfl⟩) hS (fun _ _ h => False.elim h) (fun _ h => False.elim h) (fun r u t H locs ht hvm hw hB hz1 hk1 hS => ?_)
  subst hw
  have hP := P_kept hP hk1
  subst hAe
  refine vx_ret ?_
  refine W.widen (k := 3) (n := 18) (by omega) (by omega) ?_
  have hcode : 0 = 0 := by
      rfl
  have hres : iI (ctI (rqA dy pct cr IR LR tn sh) (ist (IR tn) / ipk (IR tn)) sn 32 0 ((rqA dy pct cr IR LR tn sh) sn)) = iI (ctI (rqA dy pct cr IR LR tn sh) (ist (IR tn) / ipk (IR tn)) sn 32 0 (rqA dy pct cr IR LR tn sh sn)) := congrArg iI (by
      rfl)
  exact W.iret hx hb hr (fun t ht hW => ⟨⟨_, (), rfl, ⟨hcode, hres⟩, by show va_P D vwCl _ t.heap; rw [ht]; exact hP⟩, hS.F ht⟩) hS.2.2 dX5_share_20

set_option maxHeartbeats 4000000 in
set_option maxRecDepth 100000 in
theorem m_X5_shareByPacks_ok (l : Launch) (hst : l.stackTraces = false) (D : va_G) (cs : Nat → ClassId) (kr la ia na b4 b6 b8 b10 sh it : Nat) (lc : Int) (dy : Nat) (pct lr sr : Int) (ulr usr ur uq ug : Nat) (lf lrf srf rse rq gv : Nat → Int) (rv pn : Int) (IA LA : Nat → Nat → Nat) (cr : Nat → Bool) (IR : Nat → IT) (LR : Nat → LT) (sn tn : Nat) (hsh : sh ≤ 4) (hit : it ≤ 5) (hsn : sn < sh) (htn : tn < it) (hcr : cr (sn * 5 + tn) = true) (hd : dy < 1000) (hpc : 1 ≤ pct ∧ pct ≤ 100) (hlk : ∀ s, lOK dy (LR (s * 5 + tn))) (hik : iOK (IR tn)) : vx_Met l yX5_shareByPacks ws_X5_shareByPacks ({ frames := 8, cells := 3, slots := 18, locals := 127 }) (va_Pc [.ref kr, .int (iI (((sn : Nat) : Int))), .int (iI (((tn : Nat) : Int)))] (PE D cs ([(kr, .inr (5, [.ref la, .ref ia, .ref na, .ref b4, .ref b6, .ref b8, .ref b10, .int (iI (((sh : Nat) : Int))), .int (iI (((it : Nat) : Int))), .int (iI (lc)), .int (iI (((dy : Nat) : Int))), .int (iI (pct)), .int (iI (lr)), .int (iI (sr))])), (la, arI cs 4 lf), (ia, arQ cs 2 5 (itq it IA)), (na, arQ cs 3 20 (lnq cr LA)), (b4, .inr (0, [.ref ulr])), (ulr, arI cs 1005 lrf), (b6, .inr (0, [.ref usr])), (usr, arI cs 1005 srf), (b8, .inr (2, [.ref ur, .int (iI (rv))])), (ur, arI cs 7 rse), (b10, .inr (4, [.ref uq, .ref ug, .int (iI (pn))])), (uq, arI cs 4 rq), (ug, arI cs 4 gv)] ++ (aW cs IA LA it cr IR LR)) (inW ([(kr, .inr (5, [.ref la, .ref ia, .ref na, .ref b4, .ref b6, .ref b8, .ref b10, .int (iI (((sh : Nat) : Int))), .int (iI (((it : Nat) : Int))), .int (iI (lc)), .int (iI (((dy : Nat) : Int))), .int (iI (pct)), .int (iI (lr)), .int (iI (sr))])), (la, arI cs 4 lf), (ia, arQ cs 2 5 (itq it IA)), (na, arQ cs 3 20 (lnq cr LA)), (b4, .inr (0, [.ref ulr])), (ulr, arI cs 1005 lrf), (b6, .inr (0, [.ref usr])), (usr, arI cs 1005 srf), (b8, .inr (2, [.ref ur, .int (iI (rv))])), (ur, arI cs 7 rse), (b10, .inr (4, [.ref uq, .ref ug, .int (iI (pn))])), (uq, arI cs 4 rq), (ug, arI cs 4 gv)] ++ (aW cs IA LA it cr IR LR))))) (va_Qi (fun r (_ : Unit) => 0 = 0 ∧ r = iI (grI (rqA dy pct cr IR LR tn sh) (ist (IR tn) / ipk (IR tn)).toNat sn)) (fun _ t => va_P D vwCl ([(kr, .inr (5, [.ref la, .ref ia, .ref na, .ref b4, .ref b6, .ref b8, .ref b10, .int (iI (((sh : Nat) : Int))), .int (iI (((it : Nat) : Int))), .int (iI (lc)), .int (iI (((dy : Nat) : Int))), .int (iI (pct)), .int (iI (lr)), .int (iI (sr))])), (la, arI cs 4 lf), (ia, arQ cs 2 5 (itq it IA)), (na, arQ cs 3 20 (lnq cr LA)), (b4, .inr (0, [.ref ulr])), (ulr, arI cs 1005 lrf), (b6, .inr (0, [.ref usr])), (usr, arI cs 1005 srf), (b8, .inr (2, [.ref ur, .int (iI (rv))])), (ur, arI cs 7 rse), (b10, .inr (4, [.ref uq, .ref ug, .int (iI (ist (IR tn) / ipk (IR tn)))])), (uq, arI cs 4 (rqA dy pct cr IR LR tn sh)), (ug, arI cs 4 (grI (rqA dy pct cr IR LR tn sh) (ist (IR tn) / ipk (IR tn)).toNat))] ++ (aW cs IA LA it cr IR LR)) t.heap) (inW ([(kr, .inr (5, [.ref la, .ref ia, .ref na, .ref b4, .ref b6, .ref b8, .ref b10, .int (iI (((sh : Nat) : Int))), .int (iI (((it : Nat) : Int))), .int (iI (lc)), .int (iI (((dy : Nat) : Int))), .int (iI (pct)), .int (iI (lr)), .int (iI (sr))])), (la, arI cs 4 lf), (ia, arQ cs 2 5 (itq it IA)), (na, arQ cs 3 20 (lnq cr LA)), (b4, .inr (0, [.ref ulr])), (ulr, arI cs 1005 lrf), (b6, .inr (0, [.ref usr])), (usr, arI cs 1005 srf), (b8, .inr (2, [.ref ur, .int (iI (rv))])), (ur, arI cs 7 rse), (b10, .inr (4, [.ref uq, .ref ug, .int (iI (pn))])), (uq, arI cs 4 rq), (ug, arI cs 4 gv)] ++ (aW cs IA LA it cr IR LR)))) (vx_X (fun (u : Nat) => u = 0 ∧ u ≠ 0) (fun E u t => E = exN u ∧ va_P D vwCl ([(kr, .inr (5, [.ref la, .ref ia, .ref na, .ref b4, .ref b6, .ref b8, .ref b10, .int (iI (((sh : Nat) : Int))), .int (iI (((it : Nat) : Int))), .int (iI (lc)), .int (iI (((dy : Nat) : Int))), .int (iI (pct)), .int (iI (lr)), .int (iI (sr))])), (la, arI cs 4 lf), (ia, arQ cs 2 5 (itq it IA)), (na, arQ cs 3 20 (lnq cr LA)), (b4, .inr (0, [.ref ulr])), (ulr, arI cs 1005 lrf), (b6, .inr (0, [.ref usr])), (usr, arI cs 1005 srf), (b8, .inr (2, [.ref ur, .int (iI (rv))])), (ur, arI cs 7 rse), (b10, .inr (4, [.ref uq, .ref ug, .int (iI (pn))])), (uq, arI cs 4 rq), (ug, arI cs 4 gv)] ++ (aW cs IA LA it cr IR LR)) t.heap) (inW ([(kr, .inr (5, [.ref la, .ref ia, .ref na, .ref b4, .ref b6, .ref b8, .ref b10, .int (iI (((sh : Nat) : Int))), .int (iI (((it : Nat) : Int))), .int (iI (lc)), .int (iI (((dy : Nat) : Int))), .int (iI (pct)), .int (iI (lr)), .int (iI (sr))])), (la, arI cs 4 lf), (ia, arQ cs 2 5 (itq it IA)), (na, arQ cs 3 20 (lnq cr LA)), (b4, .inr (0, [.ref ulr])), (ulr, arI cs 1005 lrf), (b6, .inr (0, [.ref usr])), (usr, arI cs 1005 srf), (b8, .inr (2, [.ref ur, .int (iI (rv))])), (ur, arI cs 7 rse), (b10, .inr (4, [.ref uq, .ref ug, .int (iI (pn))])), (uq, arI cs 4 rq), (ug, arI cs 4 gv)] ++ (aW cs IA LA it cr IR LR)))) 3 18 (inW ([(kr, .inr (5, [.ref la, .ref ia, .ref na, .ref b4, .ref b6, .ref b8, .ref b10, .int (iI (((sh : Nat) : Int))), .int (iI (((it : Nat) : Int))), .int (iI (lc)), .int (iI (((dy : Nat) : Int))), .int (iI (pct)), .int (iI (lr)), .int (iI (sr))])), (la, arI cs 4 lf), (ia, arQ cs 2 5 (itq it IA)), (na, arQ cs 3 20 (lnq cr LA)), (b4, .inr (0, [.ref ulr])), (ulr, arI cs 1005 lrf), (b6, .inr (0, [.ref usr])), (usr, arI cs 1005 srf), (b8, .inr (2, [.ref ur, .int (iI (rv))])), (ur, arI cs 7 rse), (b10, .inr (4, [.ref uq, .ref ug, .int (iI (pn))])), (uq, arI cs 4 rq), (ug, arI cs 4 gv)] ++ (aW cs IA LA it cr IR LR))) := by
  refine vx_ofW (cc := cX5_shareByPacks) (maxL := 3) (ret := (some .int)) (by decide +kernel) rfl ?_
  intro p e s m args below meth c s₁ B hml hnt hv
  obtain ⟨rfl, ⟨hP, hK, hD, hN⟩, hE⟩ := hv
  have hx := B.exec
  have hb := B.bytes
  have hr := B.returns
  have hts : ∀ w ∈ ALL, w.before _ s = true := fun w h => atoms_spec (ws := ws_X5_shareByPacks) B.pre w (List.mem_cons_of_mem _ h)
  have hown : s.vm.findClass RX5 = some m.cls := findClass_of_methodNamed B.named
  have hlocks := B.notSynchronized
  generalize hAe : inW ([(kr, .inr (5, [.ref la, .ref ia, .ref na, .ref b4, .ref b6, .ref b8, .ref b10, .int (iI (((sh : Nat) : Int))), .int (iI (((it : Nat) : Int))), .int (iI (lc)), .int (iI (((dy : Nat) : Int))), .int (iI (pct)), .int (iI (lr)), .int (iI (sr))])), (la, arI cs 4 lf), (ia, arQ cs 2 5 (itq it IA)), (na, arQ cs 3 20 (lnq cr LA)), (b4, .inr (0, [.ref ulr])), (ulr, arI cs 1005 lrf), (b6, .inr (0, [.ref usr])), (usr, arI cs 1005 srf), (b8, .inr (2, [.ref ur, .int (iI (rv))])), (ur, arI cs 7 rse), (b10, .inr (4, [.ref uq, .ref ug, .int (iI (pn))])), (uq, arI cs 4 rq), (ug, arI cs 4 gv)] ++ (aW cs IA LA it cr IR LR)) = A at hD hE ⊢
  have hS : va_S A s.heap s.heap [] := va_S.rf
  have hl := lv_entry ([.ref kr, .int (iI (((sn : Nat) : Int))), .int (iI (((tn : Nat) : Int)))]) (n := 3) (Nat.le_of_ble_eq_true rfl)
  rw [lg_entry_eq]
  generalize (lg_sl ([.ref kr, .int (iI (((sn : Nat) : Int))), .int (iI (((tn : Nat) : Int)))]) ++ List.replicate (3 - (lg_sl ([.ref kr, .int (iI (((sn : Nat) : Int))), .int (iI (((tn : Nat) : Int)))])).length) Slot.unset).toArray = ls at hl ⊢
  have hl : lv_has ls 3 [(0, .ref kr), (1, .int (iI (((sn : Nat) : Int)))), (2, .int (iI (((tn : Nat) : Int))))] := hl
  have hH := rfl (a := s.heap)
  have hitf := itq_lt (it := it) (IA := IA)
  have hrq := fun j => rqA_rng (cr := cr) (n := sh) hlk hpc hik j
  have hpn := pk_rng hik
  refine lv_aload_n hx hb dX5_shareByPacks_0 rfl (lv_at hl 0 rfl) ?_
  refine lv_iload_n hx hb dX5_shareByPacks_1 rfl (lv_at hl 1 rfl) ?_
  refine lv_iload_n hx hb dX5_shareByPacks_2 rfl (lv_at hl 2 rfl) ?_
  have pk1 : picks ([(kr, .inr (5, [.ref la, .ref ia, .ref na, .ref b4, .ref b6, .ref b8, .ref b10, .int (iI (((sh : Nat) : Int))), .int (iI (((it : Nat) : Int))), .int (iI (lc)), .int (iI (((dy : Nat) : Int))), .int (iI (pct)), .int (iI (lr)), .int (iI (sr))])), (la, arI cs 4 lf), (ia, arQ cs 2 5 (itq it IA)), (na, arQ cs 3 20 (lnq cr LA)), (b4, .inr (0, [.ref ulr])), (ulr, arI cs 1005 lrf), (b6, .inr (0, [.ref usr])), (usr, arI cs 1005 srf), (b8, .inr (2, [.ref ur, .int (iI (rv))])), (ur, arI cs 7 rse), (b10, .inr (4, [.ref uq, .ref ug, .int (iI (pn))])), (uq, arI cs 4 rq), (ug, arI cs 4 gv)] ++ (aW cs IA LA it cr IR LR)) [0, 1, 2, 3] [(kr, .inr (5, [.ref la, .ref ia, .ref na, .ref b4, .ref b6, .ref b8, .ref b10, .int (iI (((sh : Nat) : Int))), .int (iI (((it : Nat) : Int))), .int (iI (lc)), .int (iI (((dy : Nat) : Int))), .int (iI (pct)), .int (iI (lr)), .int (iI (sr))])), (la, arI cs 4 lf), (ia, arQ cs 2 5 (itq it IA)), (na, arQ cs 3 20 (lnq cr LA))] := ⟨rfl, rfl, rfl, rfl, trivial⟩
  refine vx_callq (vx_runV (As := [.int (iI (((sn : Nat) : Int))), .int (iI (((tn : Nat) : Int)))]) (rest := []) ⟨hx, hb, hml, hown, hts⟩ (m_X5_requireLine l hst D cs kr la ia na b4 b6 b8 b10 sh it lc dy pct lr sr lf (itq it IA) (lnq cr LA) ((sn : Nat) : Int) ((tn : Nat) : Int) (by assumption) (by assumption) (by assumption) (by omega) (by omega)) (cwV 2 hts (gV w_461 w_463 w_p9 w_1 w_464) rfl rfl rfl (by decide +kernel) ⟨Nat.le_of_ble_eq_true rfl, Nat.le_of_ble_eq_true rfl⟩) (PE_V hK hN hE hS (fun _ h => False.elim h) hP hD [0, 1, 2, 3] rfl pk1 rfl rfl) rfl rfl hl.1 rfl (lv_room (Nat.le_of_ble_eq_true rfl)) dX5_shareByPacks_3 ⟨Nat.le_of_ble_eq_true rfl, Nat.le_of_ble_eq_true rfl⟩) hS (fun _ _ h => False.elim h) (fun _ h => False.elim h) (fun _ _ h => False.elim h) (fun E ce q9 u t H1 locs1 ht hvm hpx hBX hz1 hk1 hS1 hce hcv hcl => ?_) (fun r u t H locs ht hvm hw hB hz1 hk1 hS => ?_)
  · have hcode : u = 0 := by
        have h9 : u = cdL sh it (lnq cr LA) ((sn : Nat) : Int) ((tn : Nat) : Int) := hpx.1
        have h10 : u ≠ 0 := hpx.2
        exact absurd (h9.trans (cdL_0 (lnf := lnq cr LA) hsn htn (show lnq cr LA (sn * 5 + tn) = some (LA (sn * 5 + tn) 0) from if_pos hcr))) h10
    have hP := P_kept hP hk1
    subst hAe
    exact vx_out (fun x hx => (hnt x hx).elim) hlocks hce hcv hcl (fun t2 ht2 _ => ⟨u, ⟨hcode, hpx.2⟩, ⟨hBX, by show va_P D vwCl _ t2.heap; rw [ht2]; exact hP⟩, hS1.F ht2⟩) hS1.2.2 (Nat.le_of_ble_eq_true rfl) (Nat.le_of_ble_eq_true rfl)
  obtain ⟨hc2, hw⟩ := hw
  subst hw
  have hP := P_kept hP hk1
  refine lv_pop hx hb dX5_shareByPacks_6 (rf_cat _) ?_
  refine lv_aload_n hx hb dX5_shareByPacks_7 rfl (lv_at hl 0 rfl) ?_
  refine lv_iload_n hx hb dX5_shareByPacks_8 rfl (lv_at hl 2 rfl) ?_
  refine va_callv (va_runV (As := [.int (iI (((tn : Nat) : Int)))]) (rest := []) ⟨hx, hb, hml, hown, hts⟩ (m_X5_askForAll l D cs kr la ia na b4 b6 b8 b10 sh it lc dy pct lr sr ulr usr ur uq ug lf lrf srf rse rq gv rv pn IA LA cr IR LR tn (by omega) (by omega) (by omega) (by omega) (hpc) (hlk) (hik)) (cwV 1 hts (gV w_563 w_565 w_p13 w_1 w_566) rfl rfl rfl (by decide +kernel) ⟨Nat.le_of_ble_eq_true rfl, Nat.le_of_ble_eq_true rfl⟩) (PC_Va hK hN hP hD rfl rfl) rfl rfl hl.1 rfl (lv_room (Nat.le_of_ble_eq_true rfl)) dX5_shareByPacks_9 ⟨Nat.le_of_ble_eq_true rfl, Nat.le_of_ble_eq_true rfl⟩) hS (fun q _ h => inW_suba hD q h) (fun q h => inW_suba hD q h) (fun u t H locs ht hvm hw hB hz1 hk1 hS => ?_)
  rw [ht] at hB
  have hP : va_P D vwCl ([(kr, .inr (5, [.ref la, .ref ia, .ref na, .ref b4, .ref b6, .ref b8, .ref b10, .int (iI (((sh : Nat) : Int))), .int (iI (((it : Nat) : Int))), .int (iI (lc)), .int (iI (((dy : Nat) : Int))), .int (iI (pct)), .int (iI (lr)), .int (iI (sr))])), (la, arI cs 4 lf), (ia, arQ cs 2 5 (itq it IA)), (na, arQ cs 3 20 (lnq cr LA)), (b4, .inr (0, [.ref ulr])), (ulr, arI cs 1005 lrf), (b6, .inr (0, [.ref usr])), (usr, arI cs 1005 srf), (b8, .inr (2, [.ref ur, .int (iI (rv))])), (ur, arI cs 7 rse), (b10, .inr (4, [.ref uq, .ref ug, .int (iI (ist (IR tn) / ipk (IR tn)))])), (uq, arI cs 4 (rqA dy pct cr IR LR tn sh)), (ug, arI cs 4 gv)] ++ (aW cs IA LA it cr IR LR)) H := hB
  have hD : va_D A ([(kr, .inr (5, [.ref la, .ref ia, .ref na, .ref b4, .ref b6, .ref b8, .ref b10, .int (iI (((sh : Nat) : Int))), .int (iI (((it : Nat) : Int))), .int (iI (lc)), .int (iI (((dy : Nat) : Int))), .int (iI (pct)), .int (iI (lr)), .int (iI (sr))])), (la, arI cs 4 lf), (ia, arQ cs 2 5 (itq it IA)), (na, arQ cs 3 20 (lnq cr LA)), (b4, .inr (0, [.ref ulr])), (ulr, arI cs 1005 lrf), (b6, .inr (0, [.ref usr])), (usr, arI cs 1005 srf), (b8, .inr (2, [.ref ur, .int (iI (rv))])), (ur, arI cs 7 rse), (b10, .inr (4, [.ref uq, .ref ug, .int (iI (ist (IR tn) / ipk (IR tn)))])), (uq, arI cs 4 (rqA dy pct cr IR LR tn sh)), (ug, arI cs 4 gv)] ++ (aW cs IA LA it cr IR LR)) := D_fst hD (fst_ap rfl aW_fst)
  refine lv_aload_n hx hb dX5_shareByPacks_12 rfl (lv_at hl 0 rfl) ?_
  refine my_get hx hb hts inAX5 hown hK hP 0 rfl rfl 6 (by decide) w_76 rfl rfl dX5_shareByPacks_13 ?_
  refine lv_iload_n hx hb dX5_shareByPacks_16 rfl (lv_at hl 1 rfl) ?_
  have pk4 : picks ([(kr, .inr (5, [.ref la, .ref ia, .ref na, .ref b4, .ref b6, .ref b8, .ref b10, .int (iI (((sh : Nat) : Int))), .int (iI (((it : Nat) : Int))), .int (iI (lc)), .int (iI (((dy : Nat) : Int))), .int (iI (pct)), .int (iI (lr)), .int (iI (sr))])), (la, arI cs 4 lf), (ia, arQ cs 2 5 (itq it IA)), (na, arQ cs 3 20 (lnq cr LA)), (b4, .inr (0, [.ref ulr])), (ulr, arI cs 1005 lrf), (b6, .inr (0, [.ref usr])), (usr, arI cs 1005 srf), (b8, .inr (2, [.ref ur, .int (iI (rv))])), (ur, arI cs 7 rse), (b10, .inr (4, [.ref uq, .ref ug, .int (iI (ist (IR tn) / ipk (IR tn)))])), (uq, arI cs 4 (rqA dy pct cr IR LR tn sh)), (ug, arI cs 4 gv)] ++ (aW cs IA LA it cr IR LR)) [10, 11, 12] [(b10, .inr (4, [.ref uq, .ref ug, .int (iI (ist (IR tn) / ipk (IR tn)))])), (uq, arI cs 4 (rqA dy pct cr IR LR tn sh)), (ug, arI cs 4 gv)] := ⟨rfl, rfl, rfl, trivial⟩
  refine va_calli (va_runV (As := [.int (iI (((sn : Nat) : Int)))]) (rest := []) ⟨hx, hb, hml, hown, hts⟩ (m_X4_handedOut l D cs b10 uq ug (rqA dy pct cr IR LR tn sh) gv (ist (IR tn) / ipk (IR tn)) sn (by omega) (hrq) (hpn)) (cwV 1 hts (gV w_746 w_747 w_748 w_4 w_749) rfl rfl rfl (by decide +kernel) ⟨Nat.le_of_ble_eq_true rfl, Nat.le_of_ble_eq_true rfl⟩) (PC_V hK hN hP hD [10, 11, 12] rfl pk4 rfl rfl) rfl rfl hl.1 rfl (lv_room (Nat.le_of_ble_eq_true rfl)) dX5_shareByPacks_17 ⟨Nat.le_of_ble_eq_true rfl, Nat.le_of_ble_eq_true rfl⟩) hS (fun q _ h => inW_sub hD [10, 11, 12] pk4 q h) (fun q h => inW_sub hD [10, 11, 12] pk4 q h) (fun r u t H locs ht hvm hw hB hz1 hk1 hS => ?_)
  subst hw
  rw [ht] at hB
  obtain ⟨hP, hD⟩ := my_join (W1 := [(b10, .inr (4, [.ref uq, .ref ug, .int (iI (ist (IR tn) / ipk (IR tn)))])), (uq, arI cs 4 (rqA dy pct cr IR LR tn sh)), (ug, arI cs 4 (grI (rqA dy pct cr IR LR tn sh) (ist (IR tn) / ipk (IR tn)).toNat))]) hP hD [10, 11, 12] rfl pk4 rfl hk1 hB
  have hP : va_P D vwCl ([(kr, .inr (5, [.ref la, .ref ia, .ref na, .ref b4, .ref b6, .ref b8, .ref b10, .int (iI (((sh : Nat) : Int))), .int (iI (((it : Nat) : Int))), .int (iI (lc)), .int (iI (((dy : Nat) : Int))), .int (iI (pct)), .int (iI (lr)), .int (iI (sr))])), (la, arI cs 4 lf), (ia, arQ cs 2 5 (itq it IA)), (na, arQ cs 3 20 (lnq cr LA)), (b4, .inr (0, [.ref ulr])), (ulr, arI cs 1005 lrf), (b6, .inr (0, [.ref usr])), (usr, arI cs 1005 srf), (b8, .inr (2, [.ref ur, .int (iI (rv))])), (ur, arI cs 7 rse), (b10, .inr (4, [.ref uq, .ref ug, .int (iI (ist (IR tn) / ipk (IR tn)))])), (uq, arI cs 4 (rqA dy pct cr IR LR tn sh)), (ug, arI cs 4 (grI (rqA dy pct cr IR LR tn sh) (ist (IR tn) / ipk (IR tn)).toNat))] ++ (aW cs IA LA it cr IR LR)) H := hP
  have hD : va_D A ([(kr, .inr (5, [.ref la, .ref ia, .ref na, .ref b4, .ref b6, .ref b8, .ref b10, .int (iI (((sh : Nat) : Int))), .int (iI (((it : Nat) : Int))), .int (iI (lc)), .int (iI (((dy : Nat) : Int))), .int (iI (pct)), .int (iI (lr)), .int (iI (sr))])), (la, arI cs 4 lf), (ia, arQ cs 2 5 (itq it IA)), (na, arQ cs 3 20 (lnq cr LA)), (b4, .inr (0, [.ref ulr])), (ulr, arI cs 1005 lrf), (b6, .inr (0, [.ref usr])), (usr, arI cs 1005 srf), (b8, .inr (2, [.ref ur, .int (iI (rv))])), (ur, arI cs 7 rse), (b10, .inr (4, [.ref uq, .ref ug, .int (iI (ist (IR tn) / ipk (IR tn)))])), (uq, arI cs 4 (rqA dy pct cr IR LR tn sh)), (ug, arI cs 4 (grI (rqA dy pct cr IR LR tn sh) (ist (IR tn) / ipk (IR tn)).toNat))] ++ (aW cs IA LA it cr IR LR)) := hD
  subst hAe
  refine vx_ret ?_
  refine W.widen (k := 3) (n := 18) (by omega) (by omega) ?_
  have hcode : 0 = 0 := by
      rfl
  have hres : iI (grI (rqA dy pct cr IR LR tn sh) (ist (IR tn) / ipk (IR tn)).toNat sn) = iI (grI (rqA dy pct cr IR LR tn sh) (ist (IR tn) / ipk (IR tn)).toNat sn) := congrArg iI (by
      rfl)
  exact W.iret hx hb hr (fun t ht hW => ⟨⟨_, (), rfl, ⟨hcode, hres⟩, by show va_P D vwCl _ t.heap; rw [ht]; exact hP⟩, hS.F ht⟩) hS.2.2 dX5_shareByPacks_20
