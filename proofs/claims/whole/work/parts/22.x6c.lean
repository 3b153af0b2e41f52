abbrev ws_X6_told : List Cond := Cond.code yX6_told cX6_told 3 (some .int) :: ALL
set_option maxHeartbeats 4000000 in
set_option maxRecDepth 100000 in
theorem m_X6_told (l : Launch) (D : va_G) (cs : Nat → ClassId) (km pL pP pC pI pM pS pV pN pE pA pO pT pD pG pW sh it : Nat) (th : Int) (dy : Nat) (lc sv lr sr : Int) (mV : Nat → Int) (mN : Nat → Int) (aN dn : Nat) (hmV : ∀ j, 0 ≤ mV j ∧ mV j ≤ 9990000) (hmN : ∀ j, 0 ≤ mN j ∧ mN j ≤ 5000) (ha : aN < 20) (hdn : dn < 2147483648) : Met l yX6_told ws_X6_told ({ frames := 0, cells := 0, slots := 0, locals := 0 }) (va_Pc [.ref km, .int (iI (((aN : Nat) : Int))), .int (iI (((dn : Nat) : Int)))] (PC D cs [(km, .inr (6, [.int (iI (th)), .int (iI (((sh : Nat) : Int))), .int (iI (((it : Nat) : Int))), .int (iI (((dy : Nat) : Int))), .int (iI (lc)), .int (iI (sv)), .int (iI (lr)), .int (iI (sr)), .ref pL, .ref pP, .ref pC, .ref pI, .ref pM, .ref pS, .ref pV, .ref pN, .ref pE, .ref pA, .ref pO, .ref pT, .ref pD, .ref pG, .ref pW])), (pV, arI cs 20 mV), (pN, arI cs 140 mN)])) (va_Qi (fun r (_ : Unit) => r = iI (thI (mV aN) (fun w => mN (7 * aN + w)) dn)) (fun _ _ => True) noA) 0 0 noA := by
  refine Met.ofW (cc := cX6_told) (maxL := 3) (ret := (some .int)) (by decide +kernel) rfl ?_
  intro p e s m args below meth c s₁ B hml hv
  obtain ⟨rfl, hP, hK, hD, hN⟩ := hv
  have hx := B.exec
  have hb := B.bytes
  have hr := B.returns
  have hts : ∀ w ∈ ALL, w.before _ s = true := fun w h => atoms_spec (ws := ws_X6_told) B.pre w (List.mem_cons_of_mem _ h)
  have hown : s.vm.findClass RX6 = some m.cls := findClass_of_methodNamed B.named
  have hlocks := B.notSynchronized
  have hS : va_S noA s.heap s.heap [] := va_S.rf
  generalize inW [(km, .inr (6, [.int (iI (th)), .int (iI (((sh : Nat) : Int))), .int (iI (((it : Nat) : Int))), .int (iI (((dy : Nat) : Int))), .int (iI (lc)), .int (iI (sv)), .int (iI (lr)), .int (iI (sr)), .ref pL, .ref pP, .ref pC, .ref pI, .ref pM, .ref pS, .ref pV, .ref pN, .ref pE, .ref pA, .ref pO, .ref pT, .ref pD, .ref pG, .ref pW])), (pV, arI cs 20 mV), (pN, arI cs 140 mN)] = A at hD
  have hl := lv_entry ([.ref km, .int (iI (((aN : Nat) : Int))), .int (iI (((dn : Nat) : Int)))]) (n := 3) (Nat.le_of_ble_eq_true rfl)
  rw [lg_entry_eq]
  generalize (lg_sl ([.ref km, .int (iI (((aN : Nat) : Int))), .int (iI (((dn : Nat) : Int)))]) ++ List.replicate (3 - (lg_sl ([.ref km, .int (iI (((aN : Nat) : Int))), .int (iI (((dn : Nat) : Int)))])).length) Slot.unset).toArray = ls at hl ⊢
  have hl : lv_has ls 3 [(0, .ref km), (1, .int (iI (((aN : Nat) : Int)))), (2, .int (iI (((dn : Nat) : Int))))] := hl
  have hH := rfl (a := s.heap)
  have hth := thI_rng2 (se := (fun w => mN (7 * aN + w))) (d := dn) (hmV aN) (hmN _)
  have hva := hmV aN
  have hna := hmN (7 * aN + dn % 7)
  refine lv_aload_n hx hb dX6_told_0 rfl (lv_at hl 0 rfl) ?_
  refine my_get hx hb hts inAX6 hown hK hP 0 rfl rfl 14 (by decide) w_815 rfl rfl dX6_told_1 ?_
  refine lv_iload_n hx hb dX6_told_4 rfl (lv_at hl 1 rfl) ?_
  refine my_iald hx hb hK hP 1 rfl (by omega) (k := aN) (Int.toNat_natCast _) dX6_told_5 ?_
  refine my_i2l hx hb dX6_told_6 (by omega) ?_
  refine lv_aload_n hx hb dX6_told_7 rfl (lv_at hl 0 rfl) ?_
  refine my_get hx hb hts inAX6 hown hK hP 0 rfl rfl 15 (by decide) w_816 rfl rfl dX6_told_8 ?_
  refine lv_bipush (v := iI (7)) hx hb dX6_told_11 (by decide) ?_
  refine lv_iload_n hx hb dX6_told_13 rfl (lv_at hl 1 rfl) ?_
  refine my_imul (z := 7 * ((aN : Nat) : Int)) hx hb dX6_told_14 (rfl) ?_
  refine lv_iload_n hx hb dX6_told_15 rfl (lv_at hl 2 rfl) ?_
  refine lv_bipush (v := iI (7)) hx hb dX6_told_16 (by decide) ?_
  refine my_irem hx hb dX6_told_18 (by omega) rfl ?_
  refine my_iadd (z := (7 * ((aN : Nat) : Int)) + (((dn : Nat) : Int) % 7)) hx hb dX6_told_19 (rfl) ?_
  refine my_cv0 (z := (((7 * aN + dn % 7) : Nat) : Int)) (by omega) ?_
  refine my_iald hx hb hK hP 2 rfl (by omega) (k := 7 * aN + dn % 7) (Int.toNat_natCast _) dX6_told_20 ?_
  refine my_i2l hx hb dX6_told_21 (by omega) ?_
  refine my_lmul (z := (mV aN) * (mN (7 * aN + dn % 7))) hx hb dX6_told_22 (rfl) ?_
  refine lv_ldc2 (v := lI 1000) hx hb hown (hts _ w_948) dX6_told_23 ?_
  refine my_ldiv hx hb dX6_told_26 (by omega) rfl ?_
  refine my_l2i hx hb dX6_told_27 ?_
  have hres : iI (((mV aN) * (mN (7 * aN + dn % 7))) / 1000) = iI (thI (mV aN) (fun w => mN (7 * aN + w)) dn) := congrArg iI (by
      rfl)
  exact W.iret hx hb hr (fun t ht hW => ⟨⟨_, (), rfl, hres, trivial⟩, hS.F ht⟩) hS.2.2 dX6_told_28

abbrev ws_X6_learns : List Cond := Cond.code yX6_learns cX6_learns 6 (none : Option FieldType) :: ALL
set_option maxHeartbeats 4000000 in
set_option maxRecDepth 100000 in
theorem m_X6_learns (l : Launch) (D : va_G) (cs : Nat → ClassId) (km pL pP pC pI pM pS pV pN pE pA pO pT pD pG pW sh it : Nat) (th : Int) (dy : Nat) (lc sv lr sr : Int) (mV : Nat → Int) (mN : Nat → Int) (mE : Nat → Int) (mA : Nat → Int) (aN : Nat) (hmV : ∀ j, 0 ≤ mV j ∧ mV j ≤ 9990000) (hmN : ∀ j, 0 ≤ mN j ∧ mN j ≤ 5000) (hna : ∀ w, w < 7 → 100 ≤ mN (7 * aN + w)) (hmA : 0 ≤ mA aN ∧ mA aN ≤ 999) (ha : aN < 20) (hdy : dy < 1000000) (hlr : 0 ≤ lr ∧ lr ≤ 100) (hsr : 0 ≤ sr ∧ sr ≤ 100) : Met l yX6_learns ws_X6_learns ({ frames := 1, cells := 0, slots := 0, locals := 23 }) (va_Pc [.ref km, .int (iI (((aN : Nat) : Int)))] (PC D cs [(km, .inr (6, [.int (iI (th)), .int (iI (((sh : Nat) : Int))), .int (iI (((it : Nat) : Int))), .int (iI (((dy : Nat) : Int))), .int (iI (lc)), .int (iI (sv)), .int (iI (lr)), .int (iI (sr)), .ref pL, .ref pP, .ref pC, .ref pI, .ref pM, .ref pS, .ref pV, .ref pN, .ref pE, .ref pA, .ref pO, .ref pT, .ref pD, .ref pG, .ref pW])), (pV, arI cs 20 mV), (pN, arI cs 140 mN), (pE, arI cs 420 mE), (pA, arI cs 20 mA)])) (va_Qv (fun (_ : Unit) => True) (fun _ t => va_P D vwCl [(km, .inr (6, [.int (iI (th)), .int (iI (((sh : Nat) : Int))), .int (iI (((it : Nat) : Int))), .int (iI (((dy : Nat) : Int))), .int (iI (lc)), .int (iI (sv)), .int (iI (lr)), .int (iI (sr)), .ref pL, .ref pP, .ref pC, .ref pI, .ref pM, .ref pS, .ref pV, .ref pN, .ref pE, .ref pA, .ref pO, .ref pT, .ref pD, .ref pG, .ref pW])), (pV, arI cs 20 (upI mV aN (lvI (mV aN) (mN (7 * aN + dy % 7)) (mA aN) lr))), (pN, arI cs 140 (if 0 < lvI (mV aN) (mN (7 * aN + dy % 7)) (mA aN) lr then upI mN (7 * aN + dy % 7) (seI (lvI (mV aN) (mN (7 * aN + dy % 7)) (mA aN) lr) (mN (7 * aN + dy % 7)) (mA aN) sr) else mN)), (pE, arI cs 420 (upI mE (21 * aN + (erI (mA aN) (unI (mV aN) (fun w => mN (7 * aN + w)) dy)).toNat) (mE (21 * aN + (erI (mA aN) (unI (mV aN) (fun w => mN (7 * aN + w)) dy)).toNat) + 1))), (pA, arI cs 20 mA)] t.heap) (inW [(km, .inr (6, [.int (iI (th)), .int (iI (((sh : Nat) : Int))), .int (iI (((it : Nat) : Int))), .int (iI (((dy : Nat) : Int))), .int (iI (lc)), .int (iI (sv)), .int (iI (lr)), .int (iI (sr)), .ref pL, .ref pP, .ref pC, .ref pI, .ref pM, .ref pS, .ref pV, .ref pN, .ref pE, .ref pA, .ref pO, .ref pT, .ref pD, .ref pG, .ref pW])), (pV, arI cs 20 mV), (pN, arI cs 140 mN), (pE, arI cs 420 mE), (pA, arI cs 20 mA)])) 0 0 (inW [(km, .inr (6, [.int (iI (th)), .int (iI (((sh : Nat) : Int))), .int (iI (((it : Nat) : Int))), .int (iI (((dy : Nat) : Int))), .int (iI (lc)), .int (iI (sv)), .int (iI (lr)), .int (iI (sr)), .ref pL, .ref pP, .ref pC, .ref pI, .ref pM, .ref pS, .ref pV, .ref pN, .ref pE, .ref pA, .ref pO, .ref pT, .ref pD, .ref pG, .ref pW])), (pV, arI cs 20 mV), (pN, arI cs 140 mN), (pE, arI cs 420 mE), (pA, arI cs 20 mA)]) := by
  refine Met.ofW (cc := cX6_learns) (maxL := 6) (ret := ((none : Option FieldType))) (by decide +kernel) rfl ?_
  intro p e s m args below meth c s₁ B hml hv
  obtain ⟨rfl, hP, hK, hD, hN⟩ := hv
  have hx := B.exec
  have hb := B.bytes
  have hr := B.returns
  have hts : ∀ w ∈ ALL, w.before _ s = true := fun w h => atoms_spec (ws := ws_X6_learns) B.pre w (List.mem_cons_of_mem _ h)
  have hown : s.vm.findClass RX6 = some m.cls := findClass_of_methodNamed B.named
  have hlocks := B.notSynchronized
  generalize hAe : inW [(km, .inr (6, [.int (iI (th)), .int (iI (((sh : Nat) : Int))), .int (iI (((it : Nat) : Int))), .int (iI (((dy : Nat) : Int))), .int (iI (lc)), .int (iI (sv)), .int (iI (lr)), .int (iI (sr)), .ref pL, .ref pP, .ref pC, .ref pI, .ref pM, .ref pS, .ref pV, .ref pN, .ref pE, .ref pA, .ref pO, .ref pT, .ref pD, .ref pG, .ref pW])), (pV, arI cs 20 mV), (pN, arI cs 140 mN), (pE, arI cs 420 mE), (pA, arI cs 20 mA)] = A at hD ⊢
  have hS : va_S A s.heap s.heap [] := va_S.rf
  have hl := lv_entry ([.ref km, .int (iI (((aN : Nat) : Int)))]) (n := 6) (Nat.le_of_ble_eq_true rfl)
  rw [lg_entry_eq]
  generalize (lg_sl ([.ref km, .int (iI (((aN : Nat) : Int)))]) ++ List.replicate (6 - (lg_sl ([.ref km, .int (iI (((aN : Nat) : Int)))])).length) Slot.unset).toArray = ls at hl ⊢
  have hl : lv_has ls 6 [(0, .ref km), (1, .int (iI (((aN : Nat) : Int))))] := hl
  have hH := rfl (a := s.heap)
  have hva := hmV aN
  have hnw := hmN (7 * aN + dy % 7)
  have hnw1 := hna (dy % 7) (by omega)
  have hth := thI_rng2 (se := (fun w => mN (7 * aN + w))) (d := dy) (hmV aN) (hmN _)
  have hun : 0 ≤ unI (mV aN) (fun w => mN (7 * aN + w)) dy ∧ unI (mV aN) (fun w => mN (7 * aN + w)) dy ≤ 49951 := by unfold unI; omega
  have her := erI_rng (mA aN) (unI (mV aN) (fun w => mN (7 * aN + w)) dy)
  have hlv := lvI_rng (se1 := mN (7 * aN + dy % 7)) (dem := mA aN) (lr := lr) hva (by omega) hmA hlr
  have hq1 : 0 ≤ mA aN * 1000000 / mN (7 * aN + dy % 7) ∧ mA aN * 1000000 / mN (7 * aN + dy % 7) ≤ 999000000 := ⟨Int.ediv_nonneg (by omega) (by omega), by have := (div_rng (a := mA aN * 1000000) (b := mN (7 * aN + dy % 7)) (by omega) (by omega)).2; omega⟩
  have hm1 := mulS (y := mA aN * 1000000 / mN (7 * aN + dy % 7) - mV aN) (B := 1000000000) hlr (by omega)
  refine lv_bipush (v := iI (7)) hx hb dX6_learns_0 (by decide) ?_
  refine lv_iload_n hx hb dX6_learns_2 rfl (lv_at hl 1 rfl) ?_
  refine my_imul (z := 7 * ((aN : Nat) : Int)) hx hb dX6_learns_3 (rfl) ?_
  refine lv_aload_n hx hb dX6_learns_4 rfl (lv_at hl 0 rfl) ?_
  refine my_get hx hb hts inAX6 hown hK hP 0 rfl rfl 3 (by decide) w_804 rfl rfl dX6_learns_5 ?_
  refine lv_bipush (v := iI (7)) hx hb dX6_learns_8 (by decide) ?_
  refine my_irem hx hb dX6_learns_10 (by omega) rfl ?_
  refine my_iadd (z := (7 * ((aN : Nat) : Int)) + (((dy : Nat) : Int) % 7)) hx hb dX6_learns_11 (rfl) ?_
  refine my_cv0 (z := (((7 * aN + dy % 7) : Nat) : Int)) (by omega) ?_
  refine lv_istore_n (lv' := [(2, .int (iI ((((7 * aN + dy % 7) : Nat) : Int)))), (0, .ref km), (1, .int (iI (((aN : Nat) : Int))))]) hx hb dX6_learns_12 rfl hl (by decide) rfl (fun ls hl => ?_)
  refine lv_aload_n hx hb dX6_learns_13 rfl (lv_at hl 1 rfl) ?_
  refine my_get hx hb hts inAX6 hown hK hP 0 rfl rfl 17 (by decide) w_818 rfl rfl dX6_learns_14 ?_
  refine lv_iload_n hx hb dX6_learns_17 rfl (lv_at hl 2 rfl) ?_
  refine my_iald hx hb hK hP 4 rfl (by omega) (k := aN) (Int.toNat_natCast _) dX6_learns_18 ?_
  refine lv_aload_n hx hb dX6_learns_19 rfl (lv_at hl 1 rfl) ?_
  refine lv_iload_n hx hb dX6_learns_20 rfl (lv_at hl 2 rfl) ?_
  refine lv_aload_n hx hb dX6_learns_21 rfl (lv_at hl 1 rfl) ?_
  refine my_get hx hb hts inAX6 hown hK hP 0 rfl rfl 3 (by decide) w_804 rfl rfl dX6_learns_22 ?_
  have pk1 : picks [(km, .inr (6, [.int (iI (th)), .int (iI (((sh : Nat) : Int))), .int (iI (((it : Nat) : Int))), .int (iI (((dy : Nat) : Int))), .int (iI (lc)), .int (iI (sv)), .int (iI (lr)), .int (iI (sr)), .ref pL, .ref pP, .ref pC, .ref pI, .ref pM, .ref pS, .ref pV, .ref pN, .ref pE, .ref pA, .ref pO, .ref pT, .ref pD, .ref pG, .ref pW])), (pV, arI cs 20 mV), (pN, arI cs 140 mN), (pE, arI cs 420 mE), (pA, arI cs 20 mA)] [0, 1, 2] [(km, .inr (6, [.int (iI (th)), .int (iI (((sh : Nat) : Int))), .int (iI (((it : Nat) : Int))), .int (iI (((dy : Nat) : Int))), .int (iI (lc)), .int (iI (sv)), .int (iI (lr)), .int (iI (sr)), .ref pL, .ref pP, .ref pC, .ref pI, .ref pM, .ref pS, .ref pV, .ref pN, .ref pE, .ref pA, .ref pO, .ref pT, .ref pD, .ref pG, .ref pW])), (pV, arI cs 20 mV), (pN, arI cs 140 mN)] := ⟨rfl, rfl, rfl, trivial⟩
  refine va_calli (va_runV (As := [.int (iI (((aN : Nat) : Int))), .int (iI (((dy : Nat) : Int)))]) (rest := [.int (iI (mA aN))]) ⟨hx, hb, hml, hown, hts⟩ (m_X6_told l D cs km pL pP pC pI pM pS pV pN pE pA pO pT pD pG pW sh it th dy lc sv lr sr mV mN aN dy (hmV) (hmN) (by omega) (by omega)) (cwV 2 hts (gV w_944 w_946 w_p21 w_5 w_947) rfl rfl rfl (by decide +kernel) ⟨Nat.le_of_ble_eq_true rfl, Nat.le_of_ble_eq_true rfl⟩) (PC_V hK hN hP hD [0, 1, 2] rfl pk1 rfl rfl) rfl rfl hl.1 rfl (lv_room (Nat.le_of_ble_eq_true rfl)) dX6_learns_25 ⟨Nat.le_of_ble_eq_true rfl, Nat.le_of_ble_eq_true rfl⟩) hS (fun _ _ h => False.elim h) (fun _ h => False.elim h) (fun r u t H locs ht hvm hw hB hz1 hk1 hS => ?_)
  subst hw
  have hP := P_kept hP hk1
  refine lv_sipush (v := iI (500)) hx hb dX6_learns_28 (by decide) ?_
  refine my_iadd (z := (thI (mV aN) (fun w => mN (7 * aN + w)) dy) + 500) hx hb dX6_learns_31 (rfl) ?_
  refine lv_sipush (v := iI (1000)) hx hb dX6_learns_32 (by decide) ?_
  refine my_idiv hx hb dX6_learns_35 (by omega) rfl ?_
  refine my_isub (z := (mA aN) - (((thI (mV aN) (fun w => mN (7 * aN + w)) dy) + 500) / 1000)) hx hb dX6_learns_36 (rfl) ?_
  refine my_cv0 (z := mA aN - (unI (mV aN) (fun w => mN (7 * aN + w)) dy)) (rfl) ?_
  refine lv_istore_n (lv' := [(3, .int (iI (mA aN - (unI (mV aN) (fun w => mN (7 * aN + w)) dy)))), (2, .int (iI ((((7 * aN + dy % 7) : Nat) : Int)))), (0, .ref km), (1, .int (iI (((aN : Nat) : Int))))]) hx hb dX6_learns_37 rfl hl (by decide) rfl (fun ls hl => ?_)
  refine lv_iload_n hx hb dX6_learns_38 rfl (lv_at hl 0 rfl) ?_
  refine my_jn (pc2 := 66) (stk := [.int (iI ((((21 * aN + (erI (mA aN) (unI (mV aN) (fun w => mN (7 * aN + w)) dy)).toNat) : Nat) : Int))), .ref pE]) (n := 6) (loc := [(2, .int (iI ((((7 * aN + dy % 7) : Nat) : Int)))), (0, .ref km), (1, .int (iI (((aN : Nat) : Int))))]) (fun ls hl => ?_) (fun J66 => ?_)
  · refine lv_dup2_11 hx hb dX6_learns_66 rfl rfl ?_
    refine my_iald hx hb hK hP 3 rfl (by omega) (k := 21 * aN + (erI (mA aN) (unI (mV aN) (fun w => mN (7 * aN + w)) dy)).toNat) (Int.toNat_natCast _) dX6_learns_67 ?_
    refine lv_iconst (v := iI (1)) hx hb dX6_learns_68 rfl ?_
    refine my_iadd (z := (mE (21 * aN + (erI (mA aN) (unI (mV aN) (fun w => mN (7 * aN + w)) dy)).toNat)) + 1) hx hb dX6_learns_69 (rfl) ?_
    refine my_iast hx hb hK hP hD hS 3 rfl (by omega) (k := 21 * aN + (erI (mA aN) (unI (mV aN) (fun w => mN (7 * aN + w)) dy)).toNat) (Int.toNat_natCast _) dX6_learns_70 (fun H locs hP hD hS => ?_)
    have hP : va_P D vwCl [(km, .inr (6, [.int (iI (th)), .int (iI (((sh : Nat) : Int))), .int (iI (((it : Nat) : Int))), .int (iI (((dy : Nat) : Int))), .int (iI (lc)), .int (iI (sv)), .int (iI (lr)), .int (iI (sr)), .ref pL, .ref pP, .ref pC, .ref pI, .ref pM, .ref pS, .ref pV, .ref pN, .ref pE, .ref pA, .ref pO, .ref pT, .ref pD, .ref pG, .ref pW])), (pV, arI cs 20 mV), (pN, arI cs 140 mN), (pE, arI cs 420 (upI mE (21 * aN + (erI (mA aN) (unI (mV aN) (fun w => mN (7 * aN + w)) dy)).toNat) ((mE (21 * aN + (erI (mA aN) (unI (mV aN) (fun w => mN (7 * aN + w)) dy)).toNat)) + 1))), (pA, arI cs 20 mA)] H := hP
    have hD : va_D A [(km, .inr (6, [.int (iI (th)), .int (iI (((sh : Nat) : Int))), .int (iI (((it : Nat) : Int))), .int (iI (((dy : Nat) : Int))), .int (iI (lc)), .int (iI (sv)), .int (iI (lr)), .int (iI (sr)), .ref pL, .ref pP, .ref pC, .ref pI, .ref pM, .ref pS, .ref pV, .ref pN, .ref pE, .ref pA, .ref pO, .ref pT, .ref pD, .ref pG, .ref pW])), (pV, arI cs 20 mV), (pN, arI cs 140 mN), (pE, arI cs 420 (upI mE (21 * aN + (erI (mA aN) (unI (mV aN) (fun w => mN (7 * aN + w)) dy)).toNat) ((mE (21 * aN + (erI (mA aN) (unI (mV aN) (fun w => mN (7 * aN + w)) dy)).toNat)) + 1))), (pA, arI cs 20 mA)] := hD
    refine lv_ldc2 (v := lI 1000000) hx hb hown (hts _ w_949) dX6_learns_71 ?_
    refine lv_aload_n hx hb dX6_learns_74 rfl (lv_at hl 1 rfl) ?_
    refine my_get hx hb hts inAX6 hown hK hP 0 rfl rfl 17 (by decide) w_818 rfl rfl dX6_learns_75 ?_
    refine lv_iload_n hx hb dX6_learns_78 rfl (lv_at hl 2 rfl) ?_
    refine my_iald hx hb hK hP 4 rfl (by omega) (k := aN) (Int.toNat_natCast _) dX6_learns_79 ?_
    refine my_i2l hx hb dX6_learns_80 (by omega) ?_
    refine my_lmul (z := 1000000 * (mA aN)) hx hb dX6_learns_81 (rfl) ?_
    refine my_cvl (z := mA aN * 1000000) (by omega) ?_
    refine lv_lstore (lv' := [(4, .long (lI (mA aN * 1000000))), (2, .int (iI ((((7 * aN + dy % 7) : Nat) : Int)))), (0, .ref km), (1, .int (iI (((aN : Nat) : Int))))]) hx hb dX6_learns_82 hl (by decide) rfl (fun ls hl => ?_)
    refine lv_aload_n hx hb dX6_learns_84 rfl (lv_at hl 2 rfl) ?_
    refine my_get hx hb hts inAX6 hown hK hP 0 rfl rfl 14 (by decide) w_815 rfl rfl dX6_learns_85 ?_
    refine lv_iload_n hx hb dX6_learns_88 rfl (lv_at hl 3 rfl) ?_
    refine lv_dup2_11 hx hb dX6_learns_89 rfl rfl ?_
    refine my_iald hx hb hK hP 1 rfl (by omega) (k := aN) (Int.toNat_natCast _) dX6_learns_90 ?_
    refine lv_aload_n hx hb dX6_learns_91 rfl (lv_at hl 2 rfl) ?_
    refine my_get hx hb hts inAX6 hown hK hP 0 rfl rfl 6 (by decide) w_807 rfl rfl dX6_learns_92 ?_
    refine my_i2l hx hb dX6_learns_95 (by omega) ?_
    refine lv_lload hx hb dX6_learns_96 (lv_at hl 0 rfl) ?_
    refine lv_aload_n hx hb dX6_learns_98 rfl (lv_at hl 2 rfl) ?_
    refine my_get hx hb hts inAX6 hown hK hP 0 rfl rfl 15 (by decide) w_816 rfl rfl dX6_learns_99 ?_
    refine lv_iload_n hx hb dX6_learns_102 rfl (lv_at hl 1 rfl) ?_
    refine my_iald hx hb hK hP 2 rfl (by omega) (k := 7 * aN + dy % 7) (Int.toNat_natCast _) dX6_learns_103 ?_
    refine my_i2l hx hb dX6_learns_104 (by omega) ?_
    refine my_ldiv hx hb dX6_learns_105 (by omega) rfl ?_
    refine lv_aload_n hx hb dX6_learns_106 rfl (lv_at hl 2 rfl) ?_
    refine my_get hx hb hts inAX6 hown hK hP 0 rfl rfl 14 (by decide) w_815 rfl rfl dX6_learns_107 ?_
    refine lv_iload_n hx hb dX6_learns_110 rfl (lv_at hl 3 rfl) ?_
    refine my_iald hx hb hK hP 1 rfl (by omega) (k := aN) (Int.toNat_natCast _) dX6_learns_111 ?_
    refine my_i2l hx hb dX6_learns_112 (by omega) ?_
    refine my_lsub (z := ((mA aN * 1000000) / (mN (7 * aN + dy % 7))) - (mV aN)) hx hb dX6_learns_113 (rfl) ?_
    refine my_lmul (z := lr * (((mA aN * 1000000) / (mN (7 * aN + dy % 7))) - (mV aN))) hx hb dX6_learns_114 (rfl) ?_
    refine lv_ldc2 (v := lI 100) hx hb hown (hts _ w_950) dX6_learns_115 ?_
    have pk2 : picks [(km, .inr (6, [.int (iI (th)), .int (iI (((sh : Nat) : Int))), .int (iI (((it : Nat) : Int))), .int (iI (((dy : Nat) : Int))), .int (iI (lc)), .int (iI (sv)), .int (iI (lr)), .int (iI (sr)), .ref pL, .ref pP, .ref pC, .ref pI, .ref pM, .ref pS, .ref pV, .ref pN, .ref pE, .ref pA, .ref pO, .ref pT, .ref pD, .ref pG, .ref pW])), (pV, arI cs 20 mV), (pN, arI cs 140 mN), (pE, arI cs 420 (upI mE (21 * aN + (erI (mA aN) (unI (mV aN) (fun w => mN (7 * aN + w)) dy)).toNat) ((mE (21 * aN + (erI (mA aN) (unI (mV aN) (fun w => mN (7 * aN + w)) dy)).toNat)) + 1))), (pA, arI cs 20 mA)] [] [] := trivial
    refine va_calll (va_runS (As := [.long (lI (lr * (((mA aN * 1000000) / (mN (7 * aN + dy % 7))) - (mV aN)))), .long (lI (100))]) (rest := [.int (iI (mV aN)), .int (iI (((aN : Nat) : Int))), .ref pV]) ⟨hx, hb, hml, hown, hts⟩ (m_X6_down l D cs (lr * (((mA aN * 1000000) / (mN (7 * aN + dy % 7))) - (mV aN))) (by omega)) (va_cwS 2 hts (gS w_951 w_952 w_5 w_953) rfl rfl rfl (by decide +kernel) ⟨Nat.le_of_ble_eq_true rfl, Nat.le_of_ble_eq_true rfl⟩) (PC_S hK hN hP hD [] rfl pk2) rfl rfl hl.1 rfl (lv_room (Nat.le_of_ble_eq_true rfl)) dX6_learns_118 ⟨Nat.le_of_ble_eq_true rfl, Nat.le_of_ble_eq_true rfl⟩) hS (fun _ _ h => False.elim h) (fun _ h => False.elim h) (fun r u t H locs ht hvm hw hB hz1 hk1 hS => ?_)
    subst hw
    have hP := P_kept hP hk1
    refine my_l2i hx hb dX6_learns_121 ?_
    refine my_iadd (z := (mV aN) + ((lr * (((mA aN * 1000000) / (mN (7 * aN + dy % 7))) - (mV aN))) / 100)) hx hb dX6_learns_122 (rfl) ?_
    refine my_cv0 (z := lvI (mV aN) (mN (7 * aN + dy % 7)) (mA aN) lr) (rfl) ?_
    refine my_iast hx hb hK hP hD hS 1 rfl (by omega) (k := aN) (Int.toNat_natCast _) dX6_learns_123 (fun H locs hP hD hS => ?_)
    have hP : va_P D vwCl [(km, .inr (6, [.int (iI (th)), .int (iI (((sh : Nat) : Int))), .int (iI (((it : Nat) : Int))), .int (iI (((dy : Nat) : Int))), .int (iI (lc)), .int (iI (sv)), .int (iI (lr)), .int (iI (sr)), .ref pL, .ref pP, .ref pC, .ref pI, .ref pM, .ref pS, .ref pV, .ref pN, .ref pE, .ref pA, .ref pO, .ref pT, .ref pD, .ref pG, .ref pW])), (pV, arI cs 20 (upI mV aN (lvI (mV aN) (mN (7 * aN + dy % 7)) (mA aN) lr))), (pN, arI cs 140 mN), (pE, arI cs 420 (upI mE (21 * aN + (erI (mA aN) (unI (mV aN) (fun w => mN (7 * aN + w)) dy)).toNat) ((mE (21 * aN + (erI (mA aN) (unI (mV aN) (fun w => mN (7 * aN + w)) dy)).toNat)) + 1))), (pA, arI cs 20 mA)] H := hP
    have hD : va_D A [(km, .inr (6, [.int (iI (th)), .int (iI (((sh : Nat) : Int))), .int (iI (((it : Nat) : Int))), .int (iI (((dy : Nat) : Int))), .int (iI (lc)), .int (iI (sv)), .int (iI (lr)), .int (iI (sr)), .ref pL, .ref pP, .ref pC, .ref pI, .ref pM, .ref pS, .ref pV, .ref pN, .ref pE, .ref pA, .ref pO, .ref pT, .ref pD, .ref pG, .ref pW])), (pV, arI cs 20 (upI mV aN (lvI (mV aN) (mN (7 * aN + dy % 7)) (mA aN) lr))), (pN, arI cs 140 mN), (pE, arI cs 420 (upI mE (21 * aN + (erI (mA aN) (unI (mV aN) (fun w => mN (7 * aN + w)) dy)).toNat) ((mE (21 * aN + (erI (mA aN) (unI (mV aN) (fun w => mN (7 * aN + w)) dy)).toNat)) + 1))), (pA, arI cs 20 mA)] := hD
    refine lv_aload_n hx hb dX6_learns_124 rfl (lv_at hl 2 rfl) ?_
    refine my_get hx hb hts inAX6 hown hK hP 0 rfl rfl 14 (by decide) w_815 rfl rfl dX6_learns_125 ?_
    refine lv_iload_n hx hb dX6_learns_128 rfl (lv_at hl 3 rfl) ?_
    refine my_iald hx hb hK hP 1 rfl (by omega) (k := aN) (Int.toNat_natCast _) dX6_learns_129 ?_
    refine my_cv0 (z := lvI (mV aN) (mN (7 * aN + dy % 7)) (mA aN) lr) (upI_same) ?_
    refine my_if_ne (tgt := 134) hx hb (by omega) dX6_learns_130 (by decide) (fun b3 => ?_) (fun b3 => ?_)
    · refine lv_aload_n hx hb dX6_learns_134 rfl (lv_at hl 2 rfl) ?_
      refine my_get hx hb hts inAX6 hown hK hP 0 rfl rfl 15 (by decide) w_816 rfl rfl dX6_learns_135 ?_
      refine lv_iload_n hx hb dX6_learns_138 rfl (lv_at hl 1 rfl) ?_
      refine lv_dup2_11 hx hb dX6_learns_139 rfl rfl ?_
      refine my_iald hx hb hK hP 2 rfl (by omega) (k := 7 * aN + dy % 7) (Int.toNat_natCast _) dX6_learns_140 ?_
      refine lv_aload_n hx hb dX6_learns_141 rfl (lv_at hl 2 rfl) ?_
      refine my_get hx hb hts inAX6 hown hK hP 0 rfl rfl 7 (by decide) w_808 rfl rfl dX6_learns_142 ?_
      refine my_i2l hx hb dX6_learns_145 (by omega) ?_
      refine lv_lload hx hb dX6_learns_146 (lv_at hl 0 rfl) ?_
      refine lv_aload_n hx hb dX6_learns_148 rfl (lv_at hl 2 rfl) ?_
      refine my_get hx hb hts inAX6 hown hK hP 0 rfl rfl 14 (by decide) w_815 rfl rfl dX6_learns_149 ?_
      refine lv_iload_n hx hb dX6_learns_152 rfl (lv_at hl 3 rfl) ?_
      refine my_iald hx hb hK hP 1 rfl (by omega) (k := aN) (Int.toNat_natCast _) dX6_learns_153 ?_
      refine my_cv0 (z := lvI (mV aN) (mN (7 * aN + dy % 7)) (mA aN) lr) (upI_same) ?_
      have hq2 : 0 ≤ mA aN * 1000000 / (lvI (mV aN) (mN (7 * aN + dy % 7)) (mA aN) lr) ∧ mA aN * 1000000 / (lvI (mV aN) (mN (7 * aN + dy % 7)) (mA aN) lr) ≤ 999000000 := ⟨Int.ediv_nonneg (by omega) (by omega), by have := (div_rng (a := mA aN * 1000000) (b := lvI (mV aN) (mN (7 * aN + dy % 7)) (mA aN) lr) (by omega) (by omega)).2; omega⟩
      have hm2 := mulS (y := mA aN * 1000000 / (lvI (mV aN) (mN (7 * aN + dy % 7)) (mA aN) lr) - mN (7 * aN + dy % 7)) (B := 1000000000) hsr (by omega)
      refine my_i2l hx hb dX6_learns_154 (by omega) ?_
      refine my_ldiv hx hb dX6_learns_155 (by omega) rfl ?_
      refine lv_aload_n hx hb dX6_learns_156 rfl (lv_at hl 2 rfl) ?_
      refine my_get hx hb hts inAX6 hown hK hP 0 rfl rfl 15 (by decide) w_816 rfl rfl dX6_learns_157 ?_
      refine lv_iload_n hx hb dX6_learns_160 rfl (lv_at hl 1 rfl) ?_
      refine my_iald hx hb hK hP 2 rfl (by omega) (k := 7 * aN + dy % 7) (Int.toNat_natCast _) dX6_learns_161 ?_
      refine my_i2l hx hb dX6_learns_162 (by omega) ?_
      refine my_lsub (z := ((mA aN * 1000000) / (lvI (mV aN) (mN (7 * aN + dy % 7)) (mA aN) lr)) - (mN (7 * aN + dy % 7))) hx hb dX6_learns_163 (rfl) ?_
      refine my_lmul (z := sr * (((mA aN * 1000000) / (lvI (mV aN) (mN (7 * aN + dy % 7)) (mA aN) lr)) - (mN (7 * aN + dy % 7)))) hx hb dX6_learns_164 (rfl) ?_
      refine lv_ldc2 (v := lI 100) hx hb hown (hts _ w_950) dX6_learns_165 ?_
      have pk4 : picks [(km, .inr (6, [.int (iI (th)), .int (iI (((sh : Nat) : Int))), .int (iI (((it : Nat) : Int))), .int (iI (((dy : Nat) : Int))), .int (iI (lc)), .int (iI (sv)), .int (iI (lr)), .int (iI (sr)), .ref pL, .ref pP, .ref pC, .ref pI, .ref pM, .ref pS, .ref pV, .ref pN, .ref pE, .ref pA, .ref pO, .ref pT, .ref pD, .ref pG, .ref pW])), (pV, arI cs 20 (upI mV aN (lvI (mV aN) (mN (7 * aN + dy % 7)) (mA aN) lr))), (pN, arI cs 140 mN), (pE, arI cs 420 (upI mE (21 * aN + (erI (mA aN) (unI (mV aN) (fun w => mN (7 * aN + w)) dy)).toNat) ((mE (21 * aN + (erI (mA aN) (unI (mV aN) (fun w => mN (7 * aN + w)) dy)).toNat)) + 1))), (pA, arI cs 20 mA)] [] [] := trivial
      refine va_calll (va_runS (As := [.long (lI (sr * (((mA aN * 1000000) / (lvI (mV aN) (mN (7 * aN + dy % 7)) (mA aN) lr)) - (mN (7 * aN + dy % 7))))), .long (lI (100))]) (rest := [.int (iI (mN (7 * aN + dy % 7))), .int (iI ((((7 * aN + dy % 7) : Nat) : Int))), .ref pN]) ⟨hx, hb, hml, hown, hts⟩ (m_X6_down l D cs (sr * (((mA aN * 1000000) / (lvI (mV aN) (mN (7 * aN + dy % 7)) (mA aN) lr)) - (mN (7 * aN + dy % 7)))) (by omega)) (va_cwS 2 hts (gS w_951 w_952 w_5 w_953) rfl rfl rfl (by decide +kernel) ⟨Nat.le_of_ble_eq_true rfl, Nat.le_of_ble_eq_true rfl⟩) (PC_S hK hN hP hD [] rfl pk4) rfl rfl hl.1 rfl (lv_room (Nat.le_of_ble_eq_true rfl)) dX6_learns_168 ⟨Nat.le_of_ble_eq_true rfl, Nat.le_of_ble_eq_true rfl⟩) hS (fun _ _ h => False.elim h) (fun _ h => False.elim h) (fun r u t H locs ht hvm hw hB hz1 hk1 hS => ?_)
      subst hw
      have hP := P_kept hP hk1
      refine my_l2i hx hb dX6_learns_171 ?_
      refine my_iadd (z := (mN (7 * aN + dy % 7)) + ((sr * (((mA aN * 1000000) / (lvI (mV aN) (mN (7 * aN + dy % 7)) (mA aN) lr)) - (mN (7 * aN + dy % 7)))) / 100)) hx hb dX6_learns_172 (rfl) ?_
      refine my_cv0 (z := mN (7 * aN + dy % 7) + sr * (mA aN * 1000000 / (lvI (mV aN) (mN (7 * aN + dy % 7)) (mA aN) lr) - mN (7 * aN + dy % 7)) / 100) (rfl) ?_
      refine my_iast hx hb hK hP hD hS 2 rfl (by omega) (k := 7 * aN + dy % 7) (Int.toNat_natCast _) dX6_learns_173 (fun H locs hP hD hS => ?_)
      have hP : va_P D vwCl [(km, .inr (6, [.int (iI (th)), .int (iI (((sh : Nat) : Int))), .int (iI (((it : Nat) : Int))), .int (iI (((dy : Nat) : Int))), .int (iI (lc)), .int (iI (sv)), .int (iI (lr)), .int (iI (sr)), .ref pL, .ref pP, .ref pC, .ref pI, .ref pM, .ref pS, .ref pV, .ref pN, .ref pE, .ref pA, .ref pO, .ref pT, .ref pD, .ref pG, .ref pW])), (pV, arI cs 20 (upI mV aN (lvI (mV aN) (mN (7 * aN + dy % 7)) (mA aN) lr))), (pN, arI cs 140 (upI mN (7 * aN + dy % 7) (mN (7 * aN + dy % 7) + sr * (mA aN * 1000000 / (lvI (mV aN) (mN (7 * aN + dy % 7)) (mA aN) lr) - mN (7 * aN + dy % 7)) / 100))), (pE, arI cs 420 (upI mE (21 * aN + (erI (mA aN) (unI (mV aN) (fun w => mN (7 * aN + w)) dy)).toNat) ((mE (21 * aN + (erI (mA aN) (unI (mV aN) (fun w => mN (7 * aN + w)) dy)).toNat)) + 1))), (pA, arI cs 20 mA)] H := hP
      have hD : va_D A [(km, .inr (6, [.int (iI (th)), .int (iI (((sh : Nat) : Int))), .int (iI (((it : Nat) : Int))), .int (iI (((dy : Nat) : Int))), .int (iI (lc)), .int (iI (sv)), .int (iI (lr)), .int (iI (sr)), .ref pL, .ref pP, .ref pC, .ref pI, .ref pM, .ref pS, .ref pV, .ref pN, .ref pE, .ref pA, .ref pO, .ref pT, .ref pD, .ref pG, .ref pW])), (pV, arI cs 20 (upI mV aN (lvI (mV aN) (mN (7 * aN + dy % 7)) (mA aN) lr))), (pN, arI cs 140 (upI mN (7 * aN + dy % 7) (mN (7 * aN + dy % 7) + sr * (mA aN * 1000000 / (lvI (mV aN) (mN (7 * aN + dy % 7)) (mA aN) lr) - mN (7 * aN + dy % 7)) / 100))), (pE, arI cs 420 (upI mE (21 * aN + (erI (mA aN) (unI (mV aN) (fun w => mN (7 * aN + w)) dy)).toNat) ((mE (21 * aN + (erI (mA aN) (unI (mV aN) (fun w => mN (7 * aN + w)) dy)).toNat)) + 1))), (pA, arI cs 20 mA)] := hD
      refine lv_aload_n hx hb dX6_learns_174 rfl (lv_at hl 2 rfl) ?_
      refine my_get hx hb hts inAX6 hown hK hP 0 rfl rfl 15 (by decide) w_816 rfl rfl dX6_learns_175 ?_
      refine lv_iload_n hx hb dX6_learns_178 rfl (lv_at hl 1 rfl) ?_
      refine my_iald hx hb hK hP 2 rfl (by omega) (k := 7 * aN + dy % 7) (Int.toNat_natCast _) dX6_learns_179 ?_
      refine my_cv0 (z := mN (7 * aN + dy % 7) + sr * (mA aN * 1000000 / (lvI (mV aN) (mN (7 * aN + dy % 7)) (mA aN) lr) - mN (7 * aN + dy % 7)) / 100) (upI_same) ?_
      refine lv_bipush (v := iI (100)) hx hb dX6_learns_180 (by decide) ?_
      refine my_icmp_ge (tgt := 193) hx hb (by omega) dX6_learns_182 (by decide) (fun b5 => ?_) (fun b5 => ?_)
      · refine lv_aload_n hx hb dX6_learns_193 rfl (lv_at hl 2 rfl) ?_
        refine my_get hx hb hts inAX6 hown hK hP 0 rfl rfl 15 (by decide) w_816 rfl rfl dX6_learns_194 ?_
        refine lv_iload_n hx hb dX6_learns_197 rfl (lv_at hl 1 rfl) ?_
        refine my_iald hx hb hK hP 2 rfl (by omega) (k := 7 * aN + dy % 7) (Int.toNat_natCast _) dX6_learns_198 ?_
        refine my_cv0 (z := mN (7 * aN + dy % 7) + sr * (mA aN * 1000000 / (lvI (mV aN) (mN (7 * aN + dy % 7)) (mA aN) lr) - mN (7 * aN + dy % 7)) / 100) (upI_same) ?_
        refine lv_sipush (v := iI (5000)) hx hb dX6_learns_199 (by decide) ?_
        refine my_icmp_le (tgt := 214) hx hb (by omega) dX6_learns_202 (by decide) (fun b6 => ?_) (fun b6 => ?_)
        · have hWe : ([(km, .inr (6, [.int (iI (th)), .int (iI (((sh : Nat) : Int))), .int (iI (((it : Nat) : Int))), .int (iI (((dy : Nat) : Int))), .int (iI (lc)), .int (iI (sv)), .int (iI (lr)), .int (iI (sr)), .ref pL, .ref pP, .ref pC, .ref pI, .ref pM, .ref pS, .ref pV, .ref pN, .ref pE, .ref pA, .ref pO, .ref pT, .ref pD, .ref pG, .ref pW])), (pV, arI cs 20 (upI mV aN (lvI (mV aN) (mN (7 * aN + dy % 7)) (mA aN) lr))), (pN, arI cs 140 (upI mN (7 * aN + dy % 7) (mN (7 * aN + dy % 7) + sr * (mA aN * 1000000 / (lvI (mV aN) (mN (7 * aN + dy % 7)) (mA aN) lr) - mN (7 * aN + dy % 7)) / 100))), (pE, arI cs 420 (upI mE (21 * aN + (erI (mA aN) (unI (mV aN) (fun w => mN (7 * aN + w)) dy)).toNat) ((mE (21 * aN + (erI (mA aN) (unI (mV aN) (fun w => mN (7 * aN + w)) dy)).toNat)) + 1))), (pA, arI cs 20 mA)] : va_W) = [(km, .inr (6, [.int (iI (th)), .int (iI (((sh : Nat) : Int))), .int (iI (((it : Nat) : Int))), .int (iI (((dy : Nat) : Int))), .int (iI (lc)), .int (iI (sv)), .int (iI (lr)), .int (iI (sr)), .ref pL, .ref pP, .ref pC, .ref pI, .ref pM, .ref pS, .ref pV, .ref pN, .ref pE, .ref pA, .ref pO, .ref pT, .ref pD, .ref pG, .ref pW])), (pV, arI cs 20 (upI mV aN (lvI (mV aN) (mN (7 * aN + dy % 7)) (mA aN) lr))), (pN, arI cs 140 (if 0 < lvI (mV aN) (mN (7 * aN + dy % 7)) (mA aN) lr then upI mN (7 * aN + dy % 7) (seI (lvI (mV aN) (mN (7 * aN + dy % 7)) (mA aN) lr) (mN (7 * aN + dy % 7)) (mA aN) sr) else mN)), (pE, arI cs 420 (upI mE (21 * aN + (erI (mA aN) (unI (mV aN) (fun w => mN (7 * aN + w)) dy)).toNat) (mE (21 * aN + (erI (mA aN) (unI (mV aN) (fun w => mN (7 * aN + w)) dy)).toNat) + 1))), (pA, arI cs 20 mA)] := by
            rw [if_pos (by omega)]
            first | rw [upI_upI, upI_upI] | rw [upI_upI] | skip
            rw [show seI (lvI (mV aN) (mN (7 * aN + dy % 7)) (mA aN) lr) (mN (7 * aN + dy % 7)) (mA aN) sr = (mN (7 * aN + dy % 7) + sr * (mA aN * 1000000 / (lvI (mV aN) (mN (7 * aN + dy % 7)) (mA aN) lr) - mN (7 * aN + dy % 7)) / 100) from by unfold seI mxI mnI; (repeat' split) <;> omega]
          rw [hWe] at hP
          subst hAe
          exact W.vret hx hb hr (fun t ht hW => ⟨⟨(), rfl, trivial, by show va_P D vwCl _ t.heap; rw [ht]; exact hP⟩, hS.F ht⟩) hS.2.2 dX6_learns_214
        · refine lv_aload_n hx hb dX6_learns_205 rfl (lv_at hl 2 rfl) ?_
          refine my_get hx hb hts inAX6 hown hK hP 0 rfl rfl 15 (by decide) w_816 rfl rfl dX6_learns_206 ?_
          refine lv_iload_n hx hb dX6_learns_209 rfl (lv_at hl 1 rfl) ?_
          refine lv_sipush (v := iI (5000)) hx hb dX6_learns_210 (by decide) ?_
          refine my_iast hx hb hK hP hD hS 2 rfl (by omega) (k := 7 * aN + dy % 7) (Int.toNat_natCast _) dX6_learns_213 (fun H locs hP hD hS => ?_)
          have hP : va_P D vwCl [(km, .inr (6, [.int (iI (th)), .int (iI (((sh : Nat) : Int))), .int (iI (((it : Nat) : Int))), .int (iI (((dy : Nat) : Int))), .int (iI (lc)), .int (iI (sv)), .int (iI (lr)), .int (iI (sr)), .ref pL, .ref pP, .ref pC, .ref pI, .ref pM, .ref pS, .ref pV, .ref pN, .ref pE, .ref pA, .ref pO, .ref pT, .ref pD, .ref pG, .ref pW])), (pV, arI cs 20 (upI mV aN (lvI (mV aN) (mN (7 * aN + dy % 7)) (mA aN) lr))), (pN, arI cs 140 (upI (upI mN (7 * aN + dy % 7) (mN (7 * aN + dy % 7) + sr * (mA aN * 1000000 / (lvI (mV aN) (mN (7 * aN + dy % 7)) (mA aN) lr) - mN (7 * aN + dy % 7)) / 100)) (7 * aN + dy % 7) 5000)), (pE, arI cs 420 (upI mE (21 * aN + (erI (mA aN) (unI (mV aN) (fun w => mN (7 * aN + w)) dy)).toNat) ((mE (21 * aN + (erI (mA aN) (unI (mV aN) (fun w => mN (7 * aN + w)) dy)).toNat)) + 1))), (pA, arI cs 20 mA)] H := hP
          have hD : va_D A [(km, .inr (6, [.int (iI (th)), .int (iI (((sh : Nat) : Int))), .int (iI (((it : Nat) : Int))), .int (iI (((dy : Nat) : Int))), .int (iI (lc)), .int (iI (sv)), .int (iI (lr)), .int (iI (sr)), .ref pL, .ref pP, .ref pC, .ref pI, .ref pM, .ref pS, .ref pV, .ref pN, .ref pE, .ref pA, .ref pO, .ref pT, .ref pD, .ref pG, .ref pW])), (pV, arI cs 20 (upI mV aN (lvI (mV aN) (mN (7 * aN + dy % 7)) (mA aN) lr))), (pN, arI cs 140 (upI (upI mN (7 * aN + dy % 7) (mN (7 * aN + dy % 7) + sr * (mA aN * 1000000 / (lvI (mV aN) (mN (7 * aN + dy % 7)) (mA aN) lr) - mN (7 * aN + dy % 7)) / 100)) (7 * aN + dy % 7) 5000)), (pE, arI cs 420 (upI mE (21 * aN + (erI (mA aN) (unI (mV aN) (fun w => mN (7 * aN + w)) dy)).toNat) ((mE (21 * aN + (erI (mA aN) (unI (mV aN) (fun w => mN (7 * aN + w)) dy)).toNat)) + 1))), (pA, arI cs 20 mA)] := hD
          have hWe : ([(km, .inr (6, [.int (iI (th)), .int (iI (((sh : Nat) : Int))), .int (iI (((it : Nat) : Int))), .int (iI (((dy : Nat) : Int))), .int (iI (lc)), .int (iI (sv)), .int (iI (lr)), .int (iI (sr)), .ref pL, .ref pP, .ref pC, .ref pI, .ref pM, .ref pS, .ref pV, .ref pN, .ref pE, .ref pA, .ref pO, .ref pT, .ref pD, .ref pG, .ref pW])), (pV, arI cs 20 (upI mV aN (lvI (mV aN) (mN (7 * aN + dy % 7)) (mA aN) lr))), (pN, arI cs 140 (upI (upI mN (7 * aN + dy % 7) (mN (7 * aN + dy % 7) + sr * (mA aN * 1000000 / (lvI (mV aN) (mN (7 * aN + dy % 7)) (mA aN) lr) - mN (7 * aN + dy % 7)) / 100)) (7 * aN + dy % 7) 5000)), (pE, arI cs 420 (upI mE (21 * aN + (erI (mA aN) (unI (mV aN) (fun w => mN (7 * aN + w)) dy)).toNat) ((mE (21 * aN + (erI (mA aN) (unI (mV aN) (fun w => mN (7 * aN + w)) dy)).toNat)) + 1))), (pA, arI cs 20 mA)] : va_W) = [(km, .inr (6, [.int (iI (th)), .int (iI (((sh : Nat) : Int))), .int (iI (((it : Nat) : Int))), .int (iI (((dy : Nat) : Int))), .int (iI (lc)), .int (iI (sv)), .int (iI (lr)), .int (iI (sr)), .ref pL, .ref pP, .ref pC, .ref pI, .ref pM, .ref pS, .ref pV, .ref pN, .ref pE, .ref pA, .ref pO, .ref pT, .ref pD, .ref pG, .ref pW])), (pV, arI cs 20 (upI mV aN (lvI (mV aN) (mN (7 * aN + dy % 7)) (mA aN) lr))), (pN, arI cs 140 (if 0 < lvI (mV aN) (mN (7 * aN + dy % 7)) (mA aN) lr then upI mN (7 * aN + dy % 7) (seI (lvI (mV aN) (mN (7 * aN + dy % 7)) (mA aN) lr) (mN (7 * aN + dy % 7)) (mA aN) sr) else mN)), (pE, arI cs 420 (upI mE (21 * aN + (erI (mA aN) (unI (mV aN) (fun w => mN (7 * aN + w)) dy)).toNat) (mE (21 * aN + (erI (mA aN) (unI (mV aN) (fun w => mN (7 * aN + w)) dy)).toNat) + 1))), (pA, arI cs 20 mA)] := by
            rw [if_pos (by omega)]
            first | rw [upI_upI, upI_upI] | rw [upI_upI] | skip
            rw [show seI (lvI (mV aN) (mN (7 * aN + dy % 7)) (mA aN) lr) (mN (7 * aN + dy % 7)) (mA aN) sr = 5000 from by unfold seI mxI mnI; (repeat' split) <;> omega]
          rw [hWe] at hP
          subst hAe
          exact W.vret hx hb hr (fun t ht hW => ⟨⟨(), rfl, trivial, by show va_P D vwCl _ t.heap; rw [ht]; exact hP⟩, hS.F ht⟩) hS.2.2 dX6_learns_214
      · refine lv_aload_n hx hb dX6_learns_185 rfl (lv_at hl 2 rfl) ?_
        refine my_get hx hb hts inAX6 hown hK hP 0 rfl rfl 15 (by decide) w_816 rfl rfl dX6_learns_186 ?_
        refine lv_iload_n hx hb dX6_learns_189 rfl (lv_at hl 1 rfl) ?_
        refine lv_bipush (v := iI (100)) hx hb dX6_learns_190 (by decide) ?_
        refine my_iast hx hb hK hP hD hS 2 rfl (by omega) (k := 7 * aN + dy % 7) (Int.toNat_natCast _) dX6_learns_192 (fun H locs hP hD hS => ?_)
        have hP : va_P D vwCl [(km, .inr (6, [.int (iI (th)), .int (iI (((sh : Nat) : Int))), .int (iI (((it : Nat) : Int))), .int (iI (((dy : Nat) : Int))), .int (iI (lc)), .int (iI (sv)), .int (iI (lr)), .int (iI (sr)), .ref pL, .ref pP, .ref pC, .ref pI, .ref pM, .ref pS, .ref pV, .ref pN, .ref pE, .ref pA, .ref pO, .ref pT, .ref pD, .ref pG, .ref pW])), (pV, arI cs 20 (upI mV aN (lvI (mV aN) (mN (7 * aN + dy % 7)) (mA aN) lr))), (pN, arI cs 140 (upI (upI mN (7 * aN + dy % 7) (mN (7 * aN + dy % 7) + sr * (mA aN * 1000000 / (lvI (mV aN) (mN (7 * aN + dy % 7)) (mA aN) lr) - mN (7 * aN + dy % 7)) / 100)) (7 * aN + dy % 7) 100)), (pE, arI cs 420 (upI mE (21 * aN + (erI (mA aN) (unI (mV aN) (fun w => mN (7 * aN + w)) dy)).toNat) ((mE (21 * aN + (erI (mA aN) (unI (mV aN) (fun w => mN (7 * aN + w)) dy)).toNat)) + 1))), (pA, arI cs 20 mA)] H := hP
        have hD : va_D A [(km, .inr (6, [.int (iI (th)), .int (iI (((sh : Nat) : Int))), .int (iI (((it : Nat) : Int))), .int (iI (((dy : Nat) : Int))), .int (iI (lc)), .int (iI (sv)), .int (iI (lr)), .int (iI (sr)), .ref pL, .ref pP, .ref pC, .ref pI, .ref pM, .ref pS, .ref pV, .ref pN, .ref pE, .ref pA, .ref pO, .ref pT, .ref pD, .ref pG, .ref pW])), (pV, arI cs 20 (upI mV aN (lvI (mV aN) (mN (7 * aN + dy % 7)) (mA aN) lr))), (pN, arI cs 140 (upI (upI mN (7 * aN + dy % 7) (mN (7 * aN + dy % 7) + sr * (mA aN * 1000000 / (lvI (mV aN) (mN (7 * aN + dy % 7)) (mA aN) lr) - mN (7 * aN + dy % 7)) / 100)) (7 * aN + dy % 7) 100)), (pE, arI cs 420 (upI mE (21 * aN + (erI (mA aN) (unI (mV aN) (fun w => mN (7 * aN + w)) dy)).toNat) ((mE (21 * aN + (erI (mA aN) (unI (mV aN) (fun w => mN (7 * aN + w)) dy)).toNat)) + 1))), (pA, arI cs 20 mA)] := hD
        refine lv_aload_n hx hb dX6_learns_193 rfl (lv_at hl 2 rfl) ?_
        refine my_get hx hb hts inAX6 hown hK hP 0 rfl rfl 15 (by decide) w_816 rfl rfl dX6_learns_194 ?_
        refine lv_iload_n hx hb dX6_learns_197 rfl (lv_at hl 1 rfl) ?_
        refine my_iald hx hb hK hP 2 rfl (by omega) (k := 7 * aN + dy % 7) (Int.toNat_natCast _) dX6_learns_198 ?_
        refine my_cv0 (z := 100) (upI_same) ?_
        refine lv_sipush (v := iI (5000)) hx hb dX6_learns_199 (by decide) ?_
        refine my_icmp_le (tgt := 214) hx hb (by omega) dX6_learns_202 (by decide) (fun b7 => ?_) (fun b7 => ?_)
        · have hWe : ([(km, .inr (6, [.int (iI (th)), .int (iI (((sh : Nat) : Int))), .int (iI (((it : Nat) : Int))), .int (iI (((dy : Nat) : Int))), .int (iI (lc)), .int (iI (sv)), .int (iI (lr)), .int (iI (sr)), .ref pL, .ref pP, .ref pC, .ref pI, .ref pM, .ref pS, .ref pV, .ref pN, .ref pE, .ref pA, .ref pO, .ref pT, .ref pD, .ref pG, .ref pW])), (pV, arI cs 20 (upI mV aN (lvI (mV aN) (mN (7 * aN + dy % 7)) (mA aN) lr))), (pN, arI cs 140 (upI (upI mN (7 * aN + dy % 7) (mN (7 * aN + dy % 7) + sr * (mA aN * 1000000 / (lvI (mV aN) (mN (7 * aN + dy % 7)) (mA aN) lr) - mN (7 * aN + dy % 7)) / 100)) (7 * aN + dy % 7) 100)), (pE, arI cs 420 (upI mE (21 * aN + (erI (mA aN) (unI (mV aN) (fun w => mN (7 * aN + w)) dy)).toNat) ((mE (21 * aN + (erI (mA aN) (unI (mV aN) (fun w => mN (7 * aN + w)) dy)).toNat)) + 1))), (pA, arI cs 20 mA)] : va_W) = [(km, .inr (6, [.int (iI (th)), .int (iI (((sh : Nat) : Int))), .int (iI (((it : Nat) : Int))), .int (iI (((dy : Nat) : Int))), .int (iI (lc)), .int (iI (sv)), .int (iI (lr)), .int (iI (sr)), .ref pL, .ref pP, .ref pC, .ref pI, .ref pM, .ref pS, .ref pV, .ref pN, .ref pE, .ref pA, .ref pO, .ref pT, .ref pD, .ref pG, .ref pW])), (pV, arI cs 20 (upI mV aN (lvI (mV aN) (mN (7 * aN + dy % 7)) (mA aN) lr))), (pN, arI cs 140 (if 0 < lvI (mV aN) (mN (7 * aN + dy % 7)) (mA aN) lr then upI mN (7 * aN + dy % 7) (seI (lvI (mV aN) (mN (7 * aN + dy % 7)) (mA aN) lr) (mN (7 * aN + dy % 7)) (mA aN) sr) else mN)), (pE, arI cs 420 (upI mE (21 * aN + (erI (mA aN) (unI (mV aN) (fun w => mN (7 * aN + w)) dy)).toNat) (mE (21 * aN + (erI (mA aN) (unI (mV aN) (fun w => mN (7 * aN + w)) dy)).toNat) + 1))), (pA, arI cs 20 mA)] := by
            rw [if_pos (by omega)]
            first | rw [upI_upI, upI_upI] | rw [upI_upI] | skip
            rw [show seI (lvI (mV aN) (mN (7 * aN + dy % 7)) (mA aN) lr) (mN (7 * aN + dy % 7)) (mA aN) sr = 100 from by unfold seI mxI mnI; (repeat' split) <;> omega]
          rw [hWe] at hP
          subst hAe
          exact W.vret hx hb hr (fun t ht hW => ⟨⟨(), rfl, trivial, by show va_P D vwCl _ t.heap; rw [ht]; exact hP⟩, hS.F ht⟩) hS.2.2 dX6_learns_214
        · refine lv_aload_n hx hb dX6_learns_205 rfl (lv_at hl 2 rfl) ?_
          refine my_get hx hb hts inAX6 hown hK hP 0 rfl rfl 15 (by decide) w_816 rfl rfl dX6_learns_206 ?_
          refine lv_iload_n hx hb dX6_learns_209 rfl (lv_at hl 1 rfl) ?_
          refine lv_sipush (v := iI (5000)) hx hb dX6_learns_210 (by decide) ?_
          refine my_iast hx hb hK hP hD hS 2 rfl (by omega) (k := 7 * aN + dy % 7) (Int.toNat_natCast _) dX6_learns_213 (fun H locs hP hD hS => ?_)
          have hP : va_P D vwCl [(km, .inr (6, [.int (iI (th)), .int (iI (((sh : Nat) : Int))), .int (iI (((it : Nat) : Int))), .int (iI (((dy : Nat) : Int))), .int (iI (lc)), .int (iI (sv)), .int (iI (lr)), .int (iI (sr)), .ref pL, .ref pP, .ref pC, .ref pI, .ref pM, .ref pS, .ref pV, .ref pN, .ref pE, .ref pA, .ref pO, .ref pT, .ref pD, .ref pG, .ref pW])), (pV, arI cs 20 (upI mV aN (lvI (mV aN) (mN (7 * aN + dy % 7)) (mA aN) lr))), (pN, arI cs 140 (upI (upI (upI mN (7 * aN + dy % 7) (mN (7 * aN + dy % 7) + sr * (mA aN * 1000000 / (lvI (mV aN) (mN (7 * aN + dy % 7)) (mA aN) lr) - mN (7 * aN + dy % 7)) / 100)) (7 * aN + dy % 7) 100) (7 * aN + dy % 7) 5000)), (pE, arI cs 420 (upI mE (21 * aN + (erI (mA aN) (unI (mV aN) (fun w => mN (7 * aN + w)) dy)).toNat) ((mE (21 * aN + (erI (mA aN) (unI (mV aN) (fun w => mN (7 * aN + w)) dy)).toNat)) + 1))), (pA, arI cs 20 mA)] H := hP
          have hD : va_D A [(km, .inr (6, [.int (iI (th)), .int (iI (((sh : Nat) : Int))), .int (iI (((it : Nat) : Int))), .int (iI (((dy : Nat) : Int))), .int (iI (lc)), .int (iI (sv)), .int (iI (lr)), .int (iI (sr)), .ref pL, .ref pP, .ref pC, .ref pI, .ref pM, .ref pS, .ref pV, .ref pN, .ref pE, .ref pA, .ref pO, .ref pT, .ref pD, .ref pG, .ref pW])), (pV, arI cs 20 (upI mV aN (lvI (mV aN) (mN (7 * aN + dy % 7)) (mA aN) lr))), (pN, arI cs 140 (upI (upI (upI mN (7 * aN + dy % 7) (mN (7 * aN + dy % 7) + sr * (mA aN * 1000000 / (lvI (mV aN) (mN (7 * aN + dy % 7)) (mA aN) lr) - mN (7 * aN + dy % 7)) / 100)) (7 * aN + dy % 7) 100) (7 * aN + dy % 7) 5000)), (pE, arI cs 420 (upI mE (21 * aN + (erI (mA aN) (unI (mV aN) (fun w => mN (7 * aN + w)) dy)).toNat) ((mE (21 * aN + (erI (mA aN) (unI (mV aN) (fun w => mN (7 * aN + w)) dy)).toNat)) + 1))), (pA, arI cs 20 mA)] := hD
          have hWe : ([(km, .inr (6, [.int (iI (th)), .int (iI (((sh : Nat) : Int))), .int (iI (((it : Nat) : Int))), .int (iI (((dy : Nat) : Int))), .int (iI (lc)), .int (iI (sv)), .int (iI (lr)), .int (iI (sr)), .ref pL, .ref pP, .ref pC, .ref pI, .ref pM, .ref pS, .ref pV, .ref pN, .ref pE, .ref pA, .ref pO, .ref pT, .ref pD, .ref pG, .ref pW])), (pV, arI cs 20 (upI mV aN (lvI (mV aN) (mN (7 * aN + dy % 7)) (mA aN) lr))), (pN, arI cs 140 (upI (upI (upI mN (7 * aN + dy % 7) (mN (7 * aN + dy % 7) + sr * (mA aN * 1000000 / (lvI (mV aN) (mN (7 * aN + dy % 7)) (mA aN) lr) - mN (7 * aN + dy % 7)) / 100)) (7 * aN + dy % 7) 100) (7 * aN + dy % 7) 5000)), (pE, arI cs 420 (upI mE (21 * aN + (erI (mA aN) (unI (mV aN) (fun w => mN (7 * aN + w)) dy)).toNat) ((mE (21 * aN + (erI (mA aN) (unI (mV aN) (fun w => mN (7 * aN + w)) dy)).toNat)) + 1))), (pA, arI cs 20 mA)] : va_W) = [(km, .inr (6, [.int (iI (th)), .int (iI (((sh : Nat) : Int))), .int (iI (((it : Nat) : Int))), .int (iI (((dy : Nat) : Int))), .int (iI (lc)), .int (iI (sv)), .int (iI (lr)), .int (iI (sr)), .ref pL, .ref pP, .ref pC, .ref pI, .ref pM, .ref pS, .ref pV, .ref pN, .ref pE, .ref pA, .ref pO, .ref pT, .ref pD, .ref pG, .ref pW])), (pV, arI cs 20 (upI mV aN (lvI (mV aN) (mN (7 * aN + dy % 7)) (mA aN) lr))), (pN, arI cs 140 (if 0 < lvI (mV aN) (mN (7 * aN + dy % 7)) (mA aN) lr then upI mN (7 * aN + dy % 7) (seI (lvI (mV aN) (mN (7 * aN + dy % 7)) (mA aN) lr) (mN (7 * aN + dy % 7)) (mA aN) sr) else mN)), (pE, arI cs 420 (upI mE (21 * aN + (erI (mA aN) (unI (mV aN) (fun w => mN (7 * aN + w)) dy)).toNat) (mE (21 * aN + (erI (mA aN) (unI (mV aN) (fun w => mN (7 * aN + w)) dy)).toNat) + 1))), (pA, arI cs 20 mA)] := by
            rw [if_pos (by omega)]
            first | rw [upI_upI, upI_upI] | rw [upI_upI] | skip
            rw [show seI (lvI (mV aN) (mN (7 * aN + dy % 7)) (mA aN) lr) (mN (7 * aN + dy % 7)) (mA aN) sr = 5000 from by unfold seI mxI mnI; (repeat' split) <;> omega]
          rw [hWe] at hP
          subst hAe
          exact W.vret hx hb hr (fun t ht hW => ⟨⟨(), rfl, trivial, by show va_P D vwCl _ t.heap; rw [ht]; exact hP⟩, hS.F ht⟩) hS.2.2 dX6_learns_214
    · have hWe : ([(km, .inr (6, [.int (iI (th)), .int (iI (((sh : Nat) : Int))), .int (iI (((it : Nat) : Int))), .int (iI (((dy : Nat) : Int))), .int (iI (lc)), .int (iI (sv)), .int (iI (lr)), .int (iI (sr)), .ref pL, .ref pP, .ref pC, .ref pI, .ref pM, .ref pS, .ref pV, .ref pN, .ref pE, .ref pA, .ref pO, .ref pT, .ref pD, .ref pG, .ref pW])), (pV, arI cs 20 (upI mV aN (lvI (mV aN) (mN (7 * aN + dy % 7)) (mA aN) lr))), (pN, arI cs 140 mN), (pE, arI cs 420 (upI mE (21 * aN + (erI (mA aN) (unI (mV aN) (fun w => mN (7 * aN + w)) dy)).toNat) ((mE (21 * aN + (erI (mA aN) (unI (mV aN) (fun w => mN (7 * aN + w)) dy)).toNat)) + 1))), (pA, arI cs 20 mA)] : va_W) = [(km, .inr (6, [.int (iI (th)), .int (iI (((sh : Nat) : Int))), .int (iI (((it : Nat) : Int))), .int (iI (((dy : Nat) : Int))), .int (iI (lc)), .int (iI (sv)), .int (iI (lr)), .int (iI (sr)), .ref pL, .ref pP, .ref pC, .ref pI, .ref pM, .ref pS, .ref pV, .ref pN, .ref pE, .ref pA, .ref pO, .ref pT, .ref pD, .ref pG, .ref pW])), (pV, arI cs 20 (upI mV aN (lvI (mV aN) (mN (7 * aN + dy % 7)) (mA aN) lr))), (pN, arI cs 140 (if 0 < lvI (mV aN) (mN (7 * aN + dy % 7)) (mA aN) lr then upI mN (7 * aN + dy % 7) (seI (lvI (mV aN) (mN (7 * aN + dy % 7)) (mA aN) lr) (mN (7 * aN + dy % 7)) (mA aN) sr) else mN)), (pE, arI cs 420 (upI mE (21 * aN + (erI (mA aN) (unI (mV aN) (fun w => mN (7 * aN + w)) dy)).toNat) (mE (21 * aN + (erI (mA aN) (unI (mV aN) (fun w => mN (7 * aN + w)) dy)).toNat) + 1))), (pA, arI cs 20 mA)] := by
        rw [if_neg (by omega)]
      rw [hWe] at hP
      subst hAe
      exact W.vret hx hb hr (fun t ht hW => ⟨⟨(), rfl, trivial, by show va_P D vwCl _ t.heap; rw [ht]; exact hP⟩, hS.F ht⟩) hS.2.2 dX6_learns_133
  refine my_if_ge (tgt := 45) hx hb (by omega) dX6_learns_39 (by decide) (fun b8 => ?_) (fun b8 => ?_)
  · refine lv_aload_n hx hb dX6_learns_45 rfl (lv_at hl 2 rfl) ?_
    refine my_get hx hb hts inAX6 hown hK hP 0 rfl rfl 16 (by decide) w_817 rfl rfl dX6_learns_46 ?_
    refine lv_bipush (v := iI (21)) hx hb dX6_learns_49 (by decide) ?_
    refine lv_iload_n hx hb dX6_learns_51 rfl (lv_at hl 3 rfl) ?_
    refine my_imul (z := 21 * ((aN : Nat) : Int)) hx hb dX6_learns_52 (rfl) ?_
    refine lv_iload_n hx hb dX6_learns_53 rfl (lv_at hl 0 rfl) ?_
    refine lv_bipush (v := iI (20)) hx hb dX6_learns_54 (by decide) ?_
    refine my_icmp_le (tgt := 64) hx hb (by omega) dX6_learns_56 (by decide) (fun b9 => ?_) (fun b9 => ?_)
    · refine lv_iload_n hx hb dX6_learns_64 rfl (lv_at hl 0 rfl) ?_
      refine my_iadd (z := (21 * ((aN : Nat) : Int)) + (mA aN - (unI (mV aN) (fun w => mN (7 * aN + w)) dy))) hx hb dX6_learns_65 (rfl) ?_
      have herx : erI (mA aN) (unI (mV aN) (fun w => mN (7 * aN + w)) dy) = (mA aN - (unI (mV aN) (fun w => mN (7 * aN + w)) dy)) := by unfold erI mnI abI; (repeat' split) <;> omega
      refine my_cv0 (z := (((21 * aN + (erI (mA aN) (unI (mV aN) (fun w => mN (7 * aN + w)) dy)).toNat) : Nat) : Int)) (by omega) ?_
      exact J66 ls (lv_sub hl [1, 2, 3] rfl)
    · refine lv_bipush (v := iI (20)) hx hb dX6_learns_59 (by decide) ?_
      refine lv_goto (tgt := 65) hx hb dX6_learns_61 (by decide) ?_
      refine my_iadd (z := (21 * ((aN : Nat) : Int)) + 20) hx hb dX6_learns_65 (rfl) ?_
      have herx : erI (mA aN) (unI (mV aN) (fun w => mN (7 * aN + w)) dy) = 20 := by unfold erI mnI abI; (repeat' split) <;> omega
      refine my_cv0 (z := (((21 * aN + (erI (mA aN) (unI (mV aN) (fun w => mN (7 * aN + w)) dy)).toNat) : Nat) : Int)) (by omega) ?_
      exact J66 ls (lv_sub hl [1, 2, 3] rfl)
  · refine lv_iload_n hx hb dX6_learns_42 rfl (lv_at hl 0 rfl) ?_
    refine my_ineg hx hb dX6_learns_43 rfl ?_
    refine lv_istore_n (lv' := [(3, .int (iI (-(mA aN - (unI (mV aN) (fun w => mN (7 * aN + w)) dy))))), (2, .int (iI ((((7 * aN + dy % 7) : Nat) : Int)))), (0, .ref km), (1, .int (iI (((aN : Nat) : Int))))]) hx hb dX6_learns_44 rfl hl (by decide) rfl (fun ls hl => ?_)
    refine lv_aload_n hx hb dX6_learns_45 rfl (lv_at hl 2 rfl) ?_
    refine my_get hx hb hts inAX6 hown hK hP 0 rfl rfl 16 (by decide) w_817 rfl rfl dX6_learns_46 ?_
    refine lv_bipush (v := iI (21)) hx hb dX6_learns_49 (by decide) ?_
    refine lv_iload_n hx hb dX6_learns_51 rfl (lv_at hl 3 rfl) ?_
    refine my_imul (z := 21 * ((aN : Nat) : Int)) hx hb dX6_learns_52 (rfl) ?_
    refine lv_iload_n hx hb dX6_learns_53 rfl (lv_at hl 0 rfl) ?_
    refine lv_bipush (v := iI (20)) hx hb dX6_learns_54 (by decide) ?_
    refine my_icmp_le (tgt := 64) hx hb (by omega) dX6_learns_56 (by decide) (fun b10 => ?_) (fun b10 => ?_)
    · refine lv_iload_n hx hb dX6_learns_64 rfl (lv_at hl 0 rfl) ?_
      refine my_iadd (z := (21 * ((aN : Nat) : Int)) + (-(mA aN - (unI (mV aN) (fun w => mN (7 * aN + w)) dy)))) hx hb dX6_learns_65 (rfl) ?_
      have herx : erI (mA aN) (unI (mV aN) (fun w => mN (7 * aN + w)) dy) = (-(mA aN - (unI (mV aN) (fun w => mN (7 * aN + w)) dy))) := by unfold erI mnI abI; (repeat' split) <;> omega
      refine my_cv0 (z := (((21 * aN + (erI (mA aN) (unI (mV aN) (fun w => mN (7 * aN + w)) dy)).toNat) : Nat) : Int)) (by omega) ?_
      exact J66 ls (lv_sub hl [1, 2, 3] rfl)
    · refine lv_bipush (v := iI (20)) hx hb dX6_learns_59 (by decide) ?_
      refine lv_goto (tgt := 65) hx hb dX6_learns_61 (by decide) ?_
      refine my_iadd (z := (21 * ((aN : Nat) : Int)) + 20) hx hb dX6_learns_65 (rfl) ?_
      have herx : erI (mA aN) (unI (mV aN) (fun w => mN (7 * aN + w)) dy) = 20 := by unfold erI mnI abI; (repeat' split) <;> omega
      refine my_cv0 (z := (((21 * aN + (erI (mA aN) (unI (mV aN) (fun w => mN (7 * aN + w)) dy)).toNat) : Nat) : Int)) (by omega) ?_
      exact J66 ls (lv_sub hl [1, 2, 3] rfl)

abbrev ws_X6_safetyOf : List Cond := Cond.code yX6_safetyOf cX6_safetyOf 5 (some .int) :: ALL
set_option maxHeartbeats 4000000 in
set_option maxRecDepth 100000 in
theorem m_X6_safetyOf (l : Launch) (D : va_G) (cs : Nat → ClassId) (km pL pP pC pI pM pS pV pN pE pA pO pT pD pG pW sh it : Nat) (th : Int) (dy : Nat) (lc sv lr sr : Int) (mE : Nat → Int) (aN : Nat) (hmE : ∀ j, 0 ≤ mE j ∧ mE j ≤ 1000) (ha : aN < 20) (hsv : 1 ≤ sv ∧ sv ≤ 100) : Met l yX6_safetyOf ws_X6_safetyOf ({ frames := 0, cells := 0, slots := 0, locals := 0 }) (va_Pc [.ref km, .int (iI (((aN : Nat) : Int)))] (PC D cs [(km, .inr (6, [.int (iI (th)), .int (iI (((sh : Nat) : Int))), .int (iI (((it : Nat) : Int))), .int (iI (((dy : Nat) : Int))), .int (iI (lc)), .int (iI (sv)), .int (iI (lr)), .int (iI (sr)), .ref pL, .ref pP, .ref pC, .ref pI, .ref pM, .ref pS, .ref pV, .ref pN, .ref pE, .ref pA, .ref pO, .ref pT, .ref pD, .ref pG, .ref pW])), (pE, arI cs 420 mE)])) (va_Qi (fun r (_ : Unit) => r = iI (sfI (fun k => mE (21 * aN + k)) (smI (fun k => mE (21 * aN + k)) 21) sv 0 21)) (fun _ _ => True) noA) 0 0 noA := by
  refine Met.ofW (cc := cX6_safetyOf) (maxL := 5) (ret := (some .int)) (by decide +kernel) rfl ?_
  intro p e s m args below meth c s₁ B hml hv
  obtain ⟨rfl, hP, hK, hD, hN⟩ := hv
  have hx := B.exec
  have hb := B.bytes
  have hr := B.returns
  have hts : ∀ w ∈ ALL, w.before _ s = true := fun w h => atoms_spec (ws := ws_X6_safetyOf) B.pre w (List.mem_cons_of_mem _ h)
  have hown : s.vm.findClass RX6 = some m.cls := findClass_of_methodNamed B.named
  have hlocks := B.notSynchronized
  have hS : va_S noA s.heap s.heap [] := va_S.rf
  generalize inW [(km, .inr (6, [.int (iI (th)), .int (iI (((sh : Nat) : Int))), .int (iI (((it : Nat) : Int))), .int (iI (((dy : Nat) : Int))), .int (iI (lc)), .int (iI (sv)), .int (iI (lr)), .int (iI (sr)), .ref pL, .ref pP, .ref pC, .ref pI, .ref pM, .ref pS, .ref pV, .ref pN, .ref pE, .ref pA, .ref pO, .ref pT, .ref pD, .ref pG, .ref pW])), (pE, arI cs 420 mE)] = A at hD
  have hl := lv_entry ([.ref km, .int (iI (((aN : Nat) : Int)))]) (n := 5) (Nat.le_of_ble_eq_true rfl)
  rw [lg_entry_eq]
  generalize (lg_sl ([.ref km, .int (iI (((aN : Nat) : Int)))]) ++ List.replicate (5 - (lg_sl ([.ref km, .int (iI (((aN : Nat) : Int)))])).length) Slot.unset).toArray = ls at hl ⊢
  have hl : lv_has ls 5 [(0, .ref km), (1, .int (iI (((aN : Nat) : Int))))] := hl
  have hH := rfl (a := s.heap)
  have hs21 := smI_le (f := (fun k => mE (21 * aN + k))) (B := 1000) (fun j => hmE _) 21
  have hsv1 := mul_rng (a := sv) (b := smI (fun k => mE (21 * aN + k)) 21) (A := 100) (B := smI (fun k => mE (21 * aN + k)) 21) (by omega) hsv.2 hs21.1 (Int.le_refl _)
  refine lv_iconst (v := iI (0)) hx hb dX6_safetyOf_0 rfl ?_
  refine lv_istore_n (lv' := [(2, .int (iI (0))), (0, .ref km), (1, .int (iI (((aN : Nat) : Int))))]) hx hb dX6_safetyOf_1 rfl hl (by decide) rfl (fun ls hl => ?_)
  refine lv_iconst (v := iI (0)) hx hb dX6_safetyOf_2 rfl ?_
  refine lv_istore_n (lv' := [(3, .int (iI (0))), (2, .int (iI (0))), (0, .ref km), (1, .int (iI (((aN : Nat) : Int))))]) hx hb dX6_safetyOf_3 rfl hl (by decide) rfl (fun ls hl => ?_)
  suffices KL : ∀ (n : Nat) (i : Nat), i ≤ 21 → 21 - i < n → ∀ (H : Heap) (locs : List Loc) (ls : Array Slot), va_P D vwCl [(km, .inr (6, [.int (iI (th)), .int (iI (((sh : Nat) : Int))), .int (iI (((it : Nat) : Int))), .int (iI (((dy : Nat) : Int))), .int (iI (lc)), .int (iI (sv)), .int (iI (lr)), .int (iI (sr)), .ref pL, .ref pP, .ref pC, .ref pI, .ref pM, .ref pS, .ref pV, .ref pN, .ref pE, .ref pA, .ref pO, .ref pT, .ref pD, .ref pG, .ref pW])), (pE, arI cs 420 mE)] H → va_S noA s.heap H locs → lv_has ls 5 [(3, .int (iI (((i : Nat) : Int)))), (2, .int (iI (smI (fun k => mE (21 * aN + k)) i))), (0, .ref km), (1, .int (iI (((aN : Nat) : Int))))] → W p l e _ s m _ below meth c H locs 0 0 _ (F0 m 4 ls []) from
    KL _ 0 (Nat.zero_le _) (Nat.lt_succ_self _) _ _ _ hP hS (lv_sub hl [0, 1, 2, 3] rfl)
  intro n
  induction n with
  | zero => intro i hil h0; exact absurd h0 (Nat.not_lt_zero _)
  | succ n ih =>
    intro i hil hmu H locs ls hP hS hl
    refine lv_iload_n hx hb dX6_safetyOf_4 rfl (lv_at hl 0 rfl) ?_
    refine lv_bipush (v := iI (21)) hx hb dX6_safetyOf_5 (by decide) ?_
    refine my_icmp_ge (tgt := 30) hx hb (by omega) dX6_safetyOf_7 (by decide) (fun b1 => ?_) (fun b1 => ?_)
    · have ei : i = 21 := by omega
      rw [ei] at hl
      refine lv_aload_n hx hb dX6_safetyOf_30 rfl (lv_at hl 2 rfl) ?_
      refine my_get hx hb hts inAX6 hown hK hP 0 rfl rfl 16 (by decide) w_817 rfl rfl dX6_safetyOf_31 ?_
      refine lv_bipush (v := iI (21)) hx hb dX6_safetyOf_34 (by decide) ?_
      refine lv_iload_n hx hb dX6_safetyOf_36 rfl (lv_at hl 3 rfl) ?_
      refine my_imul (z := 21 * ((aN : Nat) : Int)) hx hb dX6_safetyOf_37 (rfl) ?_
      refine my_cv0 (z := (((21 * aN + 0) : Nat) : Int)) (by omega) ?_
      refine my_iald hx hb hK hP 1 rfl (by omega) (k := 21 * aN + 0) (Int.toNat_natCast _) dX6_safetyOf_38 ?_
      refine lv_istore_n (lv' := [(3, .int (iI (mE (21 * aN + 0)))), (2, .int (iI (smI (fun k => mE (21 * aN + k)) 21))), (0, .ref km), (1, .int (iI (((aN : Nat) : Int))))]) hx hb dX6_safetyOf_39 rfl hl (by decide) rfl (fun ls hl => ?_)
      refine lv_iconst (v := iI (0)) hx hb dX6_safetyOf_40 rfl ?_
      refine lv_istore (lv' := [(4, .int (iI (0))), (3, .int (iI (mE (21 * aN + 0)))), (2, .int (iI (smI (fun k => mE (21 * aN + k)) 21))), (0, .ref km), (1, .int (iI (((aN : Nat) : Int))))]) hx hb dX6_safetyOf_41 hl (by decide) rfl (fun ls hl => ?_)
      suffices KL1 : ∀ (n1 : Nat) (j : Nat), j ≤ 20 → sfI (fun k => mE (21 * aN + k)) (smI (fun k => mE (21 * aN + k)) 21) sv 0 21 = sfI (fun k => mE (21 * aN + k)) (smI (fun k => mE (21 * aN + k)) 21) sv j (21 - j) → 21 - j < n1 → ∀ (H : Heap) (locs : List Loc) (ls : Array Slot), va_P D vwCl [(km, .inr (6, [.int (iI (th)), .int (iI (((sh : Nat) : Int))), .int (iI (((it : Nat) : Int))), .int (iI (((dy : Nat) : Int))), .int (iI (lc)), .int (iI (sv)), .int (iI (lr)), .int (iI (sr)), .ref pL, .ref pP, .ref pC, .ref pI, .ref pM, .ref pS, .ref pV, .ref pN, .ref pE, .ref pA, .ref pO, .ref pT, .ref pD, .ref pG, .ref pW])), (pE, arI cs 420 mE)] H → va_S noA s.heap H locs → lv_has ls 5 [(4, .int (iI (((j : Nat) : Int)))), (3, .int (iI (smI (fun k => mE (21 * aN + k)) (j + 1)))), (2, .int (iI (smI (fun k => mE (21 * aN + k)) 21))), (0, .ref km), (1, .int (iI (((aN : Nat) : Int))))] → W p l e _ s m _ below meth c H locs 0 0 _ (F0 m 43 ls []) from
        KL1 _ 0 (by omega) (rfl) (Nat.lt_succ_self _) _ _ _ hP hS (lv_sub hl [0, 1, 2, 3, 4] (by rw [show smI (fun k => mE (21 * aN + k)) (0 + 1) = mE (21 * aN + 0) from by simp [smI]]; rfl))
      intro n1
      induction n1 with
      | zero => intro j hjl hs h0; exact absurd h0 (Nat.not_lt_zero _)
      | succ n1 ih1 =>
        intro j hjl hs hmu1 H locs ls hP hS hl
        have hsj := smI_le (f := (fun k => mE (21 * aN + k))) (B := 1000) (fun j => hmE _) (j + 1)
        have hj20 : j = 20 → smI (fun k => mE (21 * aN + k)) (j + 1) = smI (fun k => mE (21 * aN + k)) 21 := fun e => by rw [e]
        refine lv_bipush (v := iI (100)) hx hb dX6_safetyOf_43 (by decide) ?_
        refine lv_iload_n hx hb dX6_safetyOf_45 rfl (lv_at hl 1 rfl) ?_
        refine my_imul (z := 100 * (smI (fun k => mE (21 * aN + k)) (j + 1))) hx hb dX6_safetyOf_46 (rfl) ?_
        refine lv_aload_n hx hb dX6_safetyOf_47 rfl (lv_at hl 3 rfl) ?_
        refine my_get hx hb hts inAX6 hown hK hP 0 rfl rfl 5 (by decide) w_806 rfl rfl dX6_safetyOf_48 ?_
        refine lv_iload_n hx hb dX6_safetyOf_51 rfl (lv_at hl 2 rfl) ?_
        refine my_imul (z := sv * (smI (fun k => mE (21 * aN + k)) 21)) hx hb dX6_safetyOf_52 (rfl) ?_
        refine my_icmp_ge (tgt := 77) hx hb (by omega) dX6_safetyOf_53 (by decide) (fun b2 => ?_) (fun b2 => ?_)
        · refine lv_iload hx hb dX6_safetyOf_77 (lv_at hl 0 rfl) ?_
          have hres : iI (((j : Nat) : Int)) = iI (sfI (fun k => mE (21 * aN + k)) (smI (fun k => mE (21 * aN + k)) 21) sv 0 21) := congrArg iI (by
              rw [hs, show 21 - j = (21 - (j + 1)) + 1 from by omega, sfI, if_pos (by omega)])
          exact W.iret hx hb hr (fun t ht hW => ⟨⟨_, (), rfl, hres, trivial⟩, hS.F ht⟩) hS.2.2 dX6_safetyOf_79
        · refine lv_iinc (v := iI (((j : Nat) : Int) + 1)) (lv' := [(4, .int (iI (((j : Nat) : Int) + 1))), (3, .int (iI (smI (fun k => mE (21 * aN + k)) (j + 1)))), (2, .int (iI (smI (fun k => mE (21 * aN + k)) 21))), (0, .ref km), (1, .int (iI (((aN : Nat) : Int))))]) hx hb dX6_safetyOf_56 hl (k := 0) rfl (by rw [show (((j : Nat) : Int) + 1 : Int) = ((j : Nat) : Int) + 1 from rfl]; exact iI_add _ _) (by decide) rfl (fun ls hl => ?_)
          refine lv_iload_n hx hb dX6_safetyOf_59 rfl (lv_at hl 1 rfl) ?_
          refine lv_aload_n hx hb dX6_safetyOf_60 rfl (lv_at hl 3 rfl) ?_
          refine my_get hx hb hts inAX6 hown hK hP 0 rfl rfl 16 (by decide) w_817 rfl rfl dX6_safetyOf_61 ?_
          refine lv_bipush (v := iI (21)) hx hb dX6_safetyOf_64 (by decide) ?_
          refine lv_iload_n hx hb dX6_safetyOf_66 rfl (lv_at hl 4 rfl) ?_
          refine my_imul (z := 21 * ((aN : Nat) : Int)) hx hb dX6_safetyOf_67 (rfl) ?_
          refine lv_iload hx hb dX6_safetyOf_68 (lv_at hl 0 rfl) ?_
          refine my_iadd (z := (21 * ((aN : Nat) : Int)) + (((j : Nat) : Int) + 1)) hx hb dX6_safetyOf_70 (rfl) ?_
          refine my_cv0 (z := (((21 * aN + (j + 1)) : Nat) : Int)) (by omega) ?_
          refine my_iald hx hb hK hP 1 rfl (by omega) (k := 21 * aN + (j + 1)) (Int.toNat_natCast _) dX6_safetyOf_71 ?_
          refine my_iadd (z := (smI (fun k => mE (21 * aN + k)) (j + 1)) + (mE (21 * aN + (j + 1)))) hx hb dX6_safetyOf_72 (rfl) ?_
          refine lv_istore_n (lv' := [(3, .int (iI ((smI (fun k => mE (21 * aN + k)) (j + 1)) + (mE (21 * aN + (j + 1)))))), (4, .int (iI (((j : Nat) : Int) + 1))), (2, .int (iI (smI (fun k => mE (21 * aN + k)) 21))), (0, .ref km), (1, .int (iI (((aN : Nat) : Int))))]) hx hb dX6_safetyOf_73 rfl hl (by decide) rfl (fun ls hl => ?_)
          refine lv_goto (tgt := 43) hx hb dX6_safetyOf_74 (by decide) ?_
          have e1 : ((j : Nat) : Int) + 1 = ((j + 1 : Nat) : Int) := by omega
          have e2 : smI (fun k => mE (21 * aN + k)) (j + 1) + mE (21 * aN + (j + 1)) = smI (fun k => mE (21 * aN + k)) (j + 1 + 1) := rfl
          rw [e1, e2] at hl
          exact ih1 (j + 1) (by omega) (by rw [hs, show 21 - j = (21 - (j + 1)) + 1 from by omega, sfI, if_neg (by omega)]) (by omega) _ _ _ hP hS (lv_sub hl [1, 0, 2, 3, 4] rfl)
    · refine lv_iload_n hx hb dX6_safetyOf_10 rfl (lv_at hl 1 rfl) ?_
      refine lv_aload_n hx hb dX6_safetyOf_11 rfl (lv_at hl 2 rfl) ?_
      refine my_get hx hb hts inAX6 hown hK hP 0 rfl rfl 16 (by decide) w_817 rfl rfl dX6_safetyOf_12 ?_
      refine lv_bipush (v := iI (21)) hx hb dX6_safetyOf_15 (by decide) ?_
      refine lv_iload_n hx hb dX6_safetyOf_17 rfl (lv_at hl 3 rfl) ?_
      refine my_imul (z := 21 * ((aN : Nat) : Int)) hx hb dX6_safetyOf_18 (rfl) ?_
      refine lv_iload_n hx hb dX6_safetyOf_19 rfl (lv_at hl 0 rfl) ?_
      refine my_iadd (z := (21 * ((aN : Nat) : Int)) + ((i : Nat) : Int)) hx hb dX6_safetyOf_20 (rfl) ?_
      refine my_cv0 (z := (((21 * aN + i) : Nat) : Int)) (by omega) ?_
      refine my_iald hx hb hK hP 1 rfl (by omega) (k := 21 * aN + i) (Int.toNat_natCast _) dX6_safetyOf_21 ?_
      refine my_iadd (z := (smI (fun k => mE (21 * aN + k)) i) + (mE (21 * aN + i))) hx hb dX6_safetyOf_22 (rfl) ?_
      refine lv_istore_n (lv' := [(2, .int (iI ((smI (fun k => mE (21 * aN + k)) i) + (mE (21 * aN + i))))), (3, .int (iI (((i : Nat) : Int)))), (0, .ref km), (1, .int (iI (((aN : Nat) : Int))))]) hx hb dX6_safetyOf_23 rfl hl (by decide) rfl (fun ls hl => ?_)
      refine lv_iinc (v := iI (((i : Nat) : Int) + 1)) (lv' := [(3, .int (iI (((i : Nat) : Int) + 1))), (2, .int (iI ((smI (fun k => mE (21 * aN + k)) i) + (mE (21 * aN + i))))), (0, .ref km), (1, .int (iI (((aN : Nat) : Int))))]) hx hb dX6_safetyOf_24 hl (k := 1) rfl (by rw [show (((i : Nat) : Int) + 1 : Int) = ((i : Nat) : Int) + 1 from rfl]; exact iI_add _ _) (by decide) rfl (fun ls hl => ?_)
      refine lv_goto (tgt := 4) hx hb dX6_safetyOf_27 (by decide) ?_
      have e1 : ((i : Nat) : Int) + 1 = ((i + 1 : Nat) : Int) := by omega
      have e2 : smI (fun k => mE (21 * aN + k)) i + mE (21 * aN + i) = smI (fun k => mE (21 * aN + k)) (i + 1) := rfl
      rw [e1, e2] at hl
      exact ih (i + 1) (by omega) (by omega) _ _ _ hP hS (lv_sub hl [0, 1, 2, 3] rfl)

abbrev ws_X6_coming : List Cond := Cond.code yX6_coming cX6_coming 4 (some .int) :: ALL
set_option maxHeartbeats 4000000 in
set_option maxRecDepth 100000 in
theorem m_X6_coming (l : Launch) (D : va_G) (cs : Nat → ClassId) (km pL pP pC pI pM pS pV pN pE pA pO pT pD pG pW sh it : Nat) (th : Int) (dy : Nat) (lc sv lr sr : Int) (mD : Nat → Int) (aN : Nat) (ha : aN < 20) : Met l yX6_coming ws_X6_coming ({ frames := 0, cells := 0, slots := 0, locals := 0 }) (va_Pc [.ref km, .int (iI (((aN : Nat) : Int)))] (PC D cs [(km, .inr (6, [.int (iI (th)), .int (iI (((sh : Nat) : Int))), .int (iI (((it : Nat) : Int))), .int (iI (((dy : Nat) : Int))), .int (iI (lc)), .int (iI (sv)), .int (iI (lr)), .int (iI (sr)), .ref pL, .ref pP, .ref pC, .ref pI, .ref pM, .ref pS, .ref pV, .ref pN, .ref pE, .ref pA, .ref pO, .ref pT, .ref pD, .ref pG, .ref pW])), (pD, arI cs 160 mD)])) (va_Qi (fun r (_ : Unit) => r = iI (smI (fun k => mD (8 * aN + k)) 8)) (fun _ _ => True) noA) 0 0 noA := by
  refine Met.ofW (cc := cX6_coming) (maxL := 4) (ret := (some .int)) (by decide +kernel) rfl ?_
  intro p e s m args below meth c s₁ B hml hv
  obtain ⟨rfl, hP, hK, hD, hN⟩ := hv
  have hx := B.exec
  have hb := B.bytes
  have hr := B.returns
  have hts : ∀ w ∈ ALL, w.before _ s = true := fun w h => atoms_spec (ws := ws_X6_coming) B.pre w (List.mem_cons_of_mem _ h)
  have hown : s.vm.findClass RX6 = some m.cls := findClass_of_methodNamed B.named
  have hlocks := B.notSynchronized
  have hS : va_S noA s.heap s.heap [] := va_S.rf
  generalize inW [(km, .inr (6, [.int (iI (th)), .int (iI (((sh : Nat) : Int))), .int (iI (((it : Nat) : Int))), .int (iI (((dy : Nat) : Int))), .int (iI (lc)), .int (iI (sv)), .int (iI (lr)), .int (iI (sr)), .ref pL, .ref pP, .ref pC, .ref pI, .ref pM, .ref pS, .ref pV, .ref pN, .ref pE, .ref pA, .ref pO, .ref pT, .ref pD, .ref pG, .ref pW])), (pD, arI cs 160 mD)] = A at hD
  have hl := lv_entry ([.ref km, .int (iI (((aN : Nat) : Int)))]) (n := 4) (Nat.le_of_ble_eq_true rfl)
  rw [lg_entry_eq]
  generalize (lg_sl ([.ref km, .int (iI (((aN : Nat) : Int)))]) ++ List.replicate (4 - (lg_sl ([.ref km, .int (iI (((aN : Nat) : Int)))])).length) Slot.unset).toArray = ls at hl ⊢
  have hl : lv_has ls 4 [(0, .ref km), (1, .int (iI (((aN : Nat) : Int))))] := hl
  have hH := rfl (a := s.heap)
  refine lv_iconst (v := iI (0)) hx hb dX6_coming_0 rfl ?_
  refine lv_istore_n (lv' := [(2, .int (iI (0))), (0, .ref km), (1, .int (iI (((aN : Nat) : Int))))]) hx hb dX6_coming_1 rfl hl (by decide) rfl (fun ls hl => ?_)
  refine lv_iconst (v := iI (0)) hx hb dX6_coming_2 rfl ?_
  refine lv_istore_n (lv' := [(3, .int (iI (0))), (2, .int (iI (0))), (0, .ref km), (1, .int (iI (((aN : Nat) : Int))))]) hx hb dX6_coming_3 rfl hl (by decide) rfl (fun ls hl => ?_)
  suffices KL : ∀ (n : Nat) (i : Nat), i ≤ 8 → 8 - i < n → ∀ (H : Heap) (locs : List Loc) (ls : Array Slot), va_P D vwCl [(km, .inr (6, [.int (iI (th)), .int (iI (((sh : Nat) : Int))), .int (iI (((it : Nat) : Int))), .int (iI (((dy : Nat) : Int))), .int (iI (lc)), .int (iI (sv)), .int (iI (lr)), .int (iI (sr)), .ref pL, .ref pP, .ref pC, .ref pI, .ref pM, .ref pS, .ref pV, .ref pN, .ref pE, .ref pA, .ref pO, .ref pT, .ref pD, .ref pG, .ref pW])), (pD, arI cs 160 mD)] H → va_S noA s.heap H locs → lv_has ls 4 [(3, .int (iI (((i : Nat) : Int)))), (2, .int (iI (smI (fun k => mD (8 * aN + k)) i))), (0, .ref km), (1, .int (iI (((aN : Nat) : Int))))] → W p l e _ s m _ below meth c H locs 0 0 _ (F0 m 4 ls []) from
    KL _ 0 (Nat.zero_le _) (Nat.lt_succ_self _) _ _ _ hP hS (lv_sub hl [0, 1, 2, 3] rfl)
  intro n
  induction n with
  | zero => intro i hil h0; exact absurd h0 (Nat.not_lt_zero _)
  | succ n ih =>
    intro i hil hmu H locs ls hP hS hl
    refine lv_iload_n hx hb dX6_coming_4 rfl (lv_at hl 0 rfl) ?_
    refine lv_bipush (v := iI (8)) hx hb dX6_coming_5 (by decide) ?_
    refine my_icmp_ge (tgt := 30) hx hb (by omega) dX6_coming_7 (by decide) (fun b1 => ?_) (fun b1 => ?_)
    · refine lv_iload_n hx hb dX6_coming_30 rfl (lv_at hl 1 rfl) ?_
      have hres : iI (smI (fun k => mD (8 * aN + k)) i) = iI (smI (fun k => mD (8 * aN + k)) 8) := congrArg iI (by
          have ei : i = 8 := by omega
          rw [ei])
      exact W.iret hx hb hr (fun t ht hW => ⟨⟨_, (), rfl, hres, trivial⟩, hS.F ht⟩) hS.2.2 dX6_coming_31
    · refine lv_iload_n hx hb dX6_coming_10 rfl (lv_at hl 1 rfl) ?_
      refine lv_aload_n hx hb dX6_coming_11 rfl (lv_at hl 2 rfl) ?_
      refine my_get hx hb hts inAX6 hown hK hP 0 rfl rfl 20 (by decide) w_821 rfl rfl dX6_coming_12 ?_
      refine lv_bipush (v := iI (8)) hx hb dX6_coming_15 (by decide) ?_
      refine lv_iload_n hx hb dX6_coming_17 rfl (lv_at hl 3 rfl) ?_
      refine my_imul (z := 8 * ((aN : Nat) : Int)) hx hb dX6_coming_18 (rfl) ?_
      refine lv_iload_n hx hb dX6_coming_19 rfl (lv_at hl 0 rfl) ?_
      refine my_iadd (z := (8 * ((aN : Nat) : Int)) + ((i : Nat) : Int)) hx hb dX6_coming_20 (rfl) ?_
      refine my_cv0 (z := (((8 * aN + i) : Nat) : Int)) (by omega) ?_
      refine my_iald hx hb hK hP 1 rfl (by omega) (k := 8 * aN + i) (Int.toNat_natCast _) dX6_coming_21 ?_
      refine my_iadd (z := (smI (fun k => mD (8 * aN + k)) i) + (mD (8 * aN + i))) hx hb dX6_coming_22 (rfl) ?_
      refine lv_istore_n (lv' := [(2, .int (iI ((smI (fun k => mD (8 * aN + k)) i) + (mD (8 * aN + i))))), (3, .int (iI (((i : Nat) : Int)))), (0, .ref km), (1, .int (iI (((aN : Nat) : Int))))]) hx hb dX6_coming_23 rfl hl (by decide) rfl (fun ls hl => ?_)
      refine lv_iinc (v := iI (((i : Nat) : Int) + 1)) (lv' := [(3, .int (iI (((i : Nat) : Int) + 1))), (2, .int (iI ((smI (fun k => mD (8 * aN + k)) i) + (mD (8 * aN + i))))), (0, .ref km), (1, .int (iI (((aN : Nat) : Int))))]) hx hb dX6_coming_24 hl (k := 1) rfl (by rw [show (((i : Nat) : Int) + 1 : Int) = ((i : Nat) : Int) + 1 from rfl]; exact iI_add _ _) (by decide) rfl (fun ls hl => ?_)
      refine lv_goto (tgt := 4) hx hb dX6_coming_27 (by decide) ?_
      have e1 : ((i : Nat) : Int) + 1 = ((i + 1 : Nat) : Int) := by omega
      have e2 : smI (fun k => mD (8 * aN + k)) i + mD (8 * aN + i) = smI (fun k => mD (8 * aN + k)) (i + 1) := rfl
      rw [e1, e2] at hl
      exact ih (i + 1) (by omega) (by omega) _ _ _ hP hS (lv_sub hl [0, 1, 2, 3] rfl)

abbrev ws_X6_needOf : List Cond := Cond.code yX6_needOf cX6_needOf 4 (some .int) :: ALL
set_option maxHeartbeats 4000000 in
set_option maxRecDepth 100000 in
theorem m_X6_needOf (l : Launch) (D : va_G) (cs : Nat → ClassId) (km pL pP pC pI pM pS pV pN pE pA pO pT pD pG pW sh it : Nat) (th : Int) (dy : Nat) (lc sv lr sr : Int) (mL : Nat → Int) (mS : Nat → Int) (mV : Nat → Int) (mN : Nat → Int) (mE : Nat → Int) (mD : Nat → Int) (aN ldn : Nat) (hmV : ∀ j, 0 ≤ mV j ∧ mV j ≤ 9990000) (hmN : ∀ j, 0 ≤ mN j ∧ mN j ≤ 5000) (hmE : ∀ j, 0 ≤ mE j ∧ mE j ≤ 1000) (ha : aN < 20) (hsv : 1 ≤ sv ∧ sv ≤ 100) (hdy : dy < 1000000) (hld : mL (aN / 5) = ((ldn : Nat) : Int)) (hld5 : ldn ≤ 5) (hmS : 0 ≤ mS aN ∧ mS aN ≤ 100000000) (hdu : 0 ≤ smI (fun k => mD (8 * aN + k)) 8 ∧ smI (fun k => mD (8 * aN + k)) 8 ≤ 100000000) : Met l yX6_needOf ws_X6_needOf ({ frames := 1, cells := 0, slots := 0, locals := 24 }) (va_Pc [.ref km, .int (iI (((aN : Nat) : Int)))] (PC D cs [(km, .inr (6, [.int (iI (th)), .int (iI (((sh : Nat) : Int))), .int (iI (((it : Nat) : Int))), .int (iI (((dy : Nat) : Int))), .int (iI (lc)), .int (iI (sv)), .int (iI (lr)), .int (iI (sr)), .ref pL, .ref pP, .ref pC, .ref pI, .ref pM, .ref pS, .ref pV, .ref pN, .ref pE, .ref pA, .ref pO, .ref pT, .ref pD, .ref pG, .ref pW])), (pL, arI cs 4 mL), (pS, arI cs 20 mS), (pV, arI cs 20 mV), (pN, arI cs 140 mN), (pE, arI cs 420 mE), (pD, arI cs 160 mD)])) (va_Qi (fun r (_ : Unit) => r = iI ((fcI (mV aN) (fun w => mN (7 * aN + w)) dy (ldn + 1) + 999) / 1000 + sfI (fun k => mE (21 * aN + k)) (smI (fun k => mE (21 * aN + k)) 21) sv 0 21 - mS aN - smI (fun k => mD (8 * aN + k)) 8)) (fun _ _ => True) noA) 0 0 noA := by
  refine Met.ofW (cc := cX6_needOf) (maxL := 4) (ret := (some .int)) (by decide +kernel) rfl ?_
  intro p e s m args below meth c s₁ B hml hv
  obtain ⟨rfl, hP, hK, hD, hN⟩ := hv
  have hx := B.exec
  have hb := B.bytes
  have hr := B.returns
  have hts : ∀ w ∈ ALL, w.before _ s = true := fun w h => atoms_spec (ws := ws_X6_needOf) B.pre w (List.mem_cons_of_mem _ h)
  have hown : s.vm.findClass RX6 = some m.cls := findClass_of_methodNamed B.named
  have hlocks := B.notSynchronized
  have hS : va_S noA s.heap s.heap [] := va_S.rf
  generalize inW [(km, .inr (6, [.int (iI (th)), .int (iI (((sh : Nat) : Int))), .int (iI (((it : Nat) : Int))), .int (iI (((dy : Nat) : Int))), .int (iI (lc)), .int (iI (sv)), .int (iI (lr)), .int (iI (sr)), .ref pL, .ref pP, .ref pC, .ref pI, .ref pM, .ref pS, .ref pV, .ref pN, .ref pE, .ref pA, .ref pO, .ref pT, .ref pD, .ref pG, .ref pW])), (pL, arI cs 4 mL), (pS, arI cs 20 mS), (pV, arI cs 20 mV), (pN, arI cs 140 mN), (pE, arI cs 420 mE), (pD, arI cs 160 mD)] = A at hD
  have hl := lv_entry ([.ref km, .int (iI (((aN : Nat) : Int)))]) (n := 4) (Nat.le_of_ble_eq_true rfl)
  rw [lg_entry_eq]
  generalize (lg_sl ([.ref km, .int (iI (((aN : Nat) : Int)))]) ++ List.replicate (4 - (lg_sl ([.ref km, .int (iI (((aN : Nat) : Int)))])).length) Slot.unset).toArray = ls at hl ⊢
  have hl : lv_has ls 4 [(0, .ref km), (1, .int (iI (((aN : Nat) : Int))))] := hl
  have hH := rfl (a := s.heap)
  have hfc : ∀ n : Nat, n ≤ 6 → 0 ≤ fcI (mV aN) (fun w => mN (7 * aN + w)) dy n ∧ fcI (mV aN) (fun w => mN (7 * aN + w)) dy n ≤ 299700000 := fun n hn => by have h1 := smI_le (f := fun j => thI (mV aN) (fun w => mN (7 * aN + w)) (dy + j)) (B := 49950000) (fun j => ⟨(thI_rng2 (se := (fun w => mN (7 * aN + w))) (hmV aN) (hmN _)).1, (thI_rng2 (se := (fun w => mN (7 * aN + w))) (hmV aN) (hmN _)).2.1⟩) n; unfold fcI; omega
  have hsf := sfI_rng (er := (fun k => mE (21 * aN + k))) (es := smI (fun k => mE (21 * aN + k)) 21) (pct := sv) 21 0 rfl
  refine lv_iconst (v := iI (0)) hx hb dX6_needOf_0 rfl ?_
  refine lv_istore_n (lv' := [(2, .int (iI (0))), (0, .ref km), (1, .int (iI (((aN : Nat) : Int))))]) hx hb dX6_needOf_1 rfl hl (by decide) rfl (fun ls hl => ?_)
  refine lv_iconst (v := iI (0)) hx hb dX6_needOf_2 rfl ?_
  refine lv_istore_n (lv' := [(3, .int (iI (0))), (2, .int (iI (0))), (0, .ref km), (1, .int (iI (((aN : Nat) : Int))))]) hx hb dX6_needOf_3 rfl hl (by decide) rfl (fun ls hl => ?_)
  suffices KL : ∀ (n : Nat) (i : Nat), i ≤ ldn + 1 → ldn + 1 - i < n → ∀ (H : Heap) (locs : List Loc) (ls : Array Slot), va_P D vwCl [(km, .inr (6, [.int (iI (th)), .int (iI (((sh : Nat) : Int))), .int (iI (((it : Nat) : Int))), .int (iI (((dy : Nat) : Int))), .int (iI (lc)), .int (iI (sv)), .int (iI (lr)), .int (iI (sr)), .ref pL, .ref pP, .ref pC, .ref pI, .ref pM, .ref pS, .ref pV, .ref pN, .ref pE, .ref pA, .ref pO, .ref pT, .ref pD, .ref pG, .ref pW])), (pL, arI cs 4 mL), (pS, arI cs 20 mS), (pV, arI cs 20 mV), (pN, arI cs 140 mN), (pE, arI cs 420 mE), (pD, arI cs 160 mD)] H → va_S noA s.heap H locs → lv_has ls 4 [(3, .int (iI (((i : Nat) : Int)))), (2, .int (iI (fcI (mV aN) (fun w => mN (7 * aN + w)) dy i))), (0, .ref km), (1, .int (iI (((aN : Nat) : Int))))] → W p l e _ s m _ below meth c H locs 0 0 _ (F0 m 4 ls []) from
    KL _ 0 (Nat.zero_le _) (Nat.lt_succ_self _) _ _ _ hP hS (lv_sub hl [0, 1, 2, 3] rfl)
  intro n
  induction n with
  | zero => intro i hil h0; exact absurd h0 (Nat.not_lt_zero _)
  | succ n ih =>
    intro i hil hmu H locs ls hP hS hl
    have hfc1 := hfc i (by omega)
    refine lv_iload_n hx hb dX6_needOf_4 rfl (lv_at hl 0 rfl) ?_
    refine lv_aload_n hx hb dX6_needOf_5 rfl (lv_at hl 2 rfl) ?_
    refine my_get hx hb hts inAX6 hown hK hP 0 rfl rfl 8 (by decide) w_809 rfl rfl dX6_needOf_6 ?_
    refine lv_iload_n hx hb dX6_needOf_9 rfl (lv_at hl 3 rfl) ?_
    refine lv_iconst (v := iI (5)) hx hb dX6_needOf_10 rfl ?_
    refine my_idiv hx hb dX6_needOf_11 (by omega) rfl ?_
    refine my_cv0 (z := (((aN / 5) : Nat) : Int)) (by omega) ?_
    refine my_iald hx hb hK hP 1 rfl (by omega) (k := aN / 5) (Int.toNat_natCast _) dX6_needOf_12 ?_
    refine my_cv0 (z := ((ldn : Nat) : Int)) (hld) ?_
    refine my_icmp_gt (tgt := 36) hx hb (by omega) dX6_needOf_13 (by decide) (fun b1 => ?_) (fun b1 => ?_)
    · have ei : i = ldn + 1 := by omega
      refine lv_iload_n hx hb dX6_needOf_36 rfl (lv_at hl 1 rfl) ?_
      refine lv_sipush (v := iI (999)) hx hb dX6_needOf_37 (by decide) ?_
      refine my_iadd (z := (fcI (mV aN) (fun w => mN (7 * aN + w)) dy i) + 999) hx hb dX6_needOf_40 (rfl) ?_
      refine lv_sipush (v := iI (1000)) hx hb dX6_needOf_41 (by decide) ?_
      refine my_idiv hx hb dX6_needOf_44 (by omega) rfl ?_
      refine lv_aload_n hx hb dX6_needOf_45 rfl (lv_at hl 2 rfl) ?_
      refine lv_iload_n hx hb dX6_needOf_46 rfl (lv_at hl 3 rfl) ?_
      have pk2 : picks [(km, .inr (6, [.int (iI (th)), .int (iI (((sh : Nat) : Int))), .int (iI (((it : Nat) : Int))), .int (iI (((dy : Nat) : Int))), .int (iI (lc)), .int (iI (sv)), .int (iI (lr)), .int (iI (sr)), .ref pL, .ref pP, .ref pC, .ref pI, .ref pM, .ref pS, .ref pV, .ref pN, .ref pE, .ref pA, .ref pO, .ref pT, .ref pD, .ref pG, .ref pW])), (pL, arI cs 4 mL), (pS, arI cs 20 mS), (pV, arI cs 20 mV), (pN, arI cs 140 mN), (pE, arI cs 420 mE), (pD, arI cs 160 mD)] [0, 5] [(km, .inr (6, [.int (iI (th)), .int (iI (((sh : Nat) : Int))), .int (iI (((it : Nat) : Int))), .int (iI (((dy : Nat) : Int))), .int (iI (lc)), .int (iI (sv)), .int (iI (lr)), .int (iI (sr)), .ref pL, .ref pP, .ref pC, .ref pI, .ref pM, .ref pS, .ref pV, .ref pN, .ref pE, .ref pA, .ref pO, .ref pT, .ref pD, .ref pG, .ref pW])), (pE, arI cs 420 mE)] := ⟨rfl, rfl, trivial⟩
      refine va_calli (va_runV (As := [.int (iI (((aN : Nat) : Int)))]) (rest := [.int (iI (((fcI (mV aN) (fun w => mN (7 * aN + w)) dy i) + 999) / 1000))]) ⟨hx, hb, hml, hown, hts⟩ (m_X6_safetyOf l D cs km pL pP pC pI pM pS pV pN pE pA pO pT pD pG pW sh it th dy lc sv lr sr mE aN (hmE) (by omega) (by assumption)) (cwV 1 hts (gV w_966 w_968 w_p25 w_5 w_969) rfl rfl rfl (by decide +kernel) ⟨Nat.le_of_ble_eq_true rfl, Nat.le_of_ble_eq_true rfl⟩) (PC_V hK hN hP hD [0, 5] rfl pk2 rfl rfl) rfl rfl hl.1 rfl (lv_room (Nat.le_of_ble_eq_true rfl)) dX6_needOf_47 ⟨Nat.le_of_ble_eq_true rfl, Nat.le_of_ble_eq_true rfl⟩) hS (fun _ _ h => False.elim h) (fun _ h => False.elim h) (fun r u t H locs ht hvm hw hB hz1 hk1 hS => ?_)
      subst hw
      have hP := P_kept hP hk1
      refine my_iadd (z := (((fcI (mV aN) (fun w => mN (7 * aN + w)) dy i) + 999) / 1000) + (sfI (fun k => mE (21 * aN + k)) (smI (fun k => mE (21 * aN + k)) 21) sv 0 21)) hx hb dX6_needOf_50 (rfl) ?_
      refine lv_aload_n hx hb dX6_needOf_51 rfl (lv_at hl 2 rfl) ?_
      refine my_get hx hb hts inAX6 hown hK hP 0 rfl rfl 13 (by decide) w_814 rfl rfl dX6_needOf_52 ?_
      refine lv_iload_n hx hb dX6_needOf_55 rfl (lv_at hl 3 rfl) ?_
      refine my_iald hx hb hK hP 2 rfl (by omega) (k := aN) (Int.toNat_natCast _) dX6_needOf_56 ?_
      refine my_isub (z := ((((fcI (mV aN) (fun w => mN (7 * aN + w)) dy i) + 999) / 1000) + (sfI (fun k => mE (21 * aN + k)) (smI (fun k => mE (21 * aN + k)) 21) sv 0 21)) - (mS aN)) hx hb dX6_needOf_57 (rfl) ?_
      refine lv_aload_n hx hb dX6_needOf_58 rfl (lv_at hl 2 rfl) ?_
      refine lv_iload_n hx hb dX6_needOf_59 rfl (lv_at hl 3 rfl) ?_
      have pk3 : picks [(km, .inr (6, [.int (iI (th)), .int (iI (((sh : Nat) : Int))), .int (iI (((it : Nat) : Int))), .int (iI (((dy : Nat) : Int))), .int (iI (lc)), .int (iI (sv)), .int (iI (lr)), .int (iI (sr)), .ref pL, .ref pP, .ref pC, .ref pI, .ref pM, .ref pS, .ref pV, .ref pN, .ref pE, .ref pA, .ref pO, .ref pT, .ref pD, .ref pG, .ref pW])), (pL, arI cs 4 mL), (pS, arI cs 20 mS), (pV, arI cs 20 mV), (pN, arI cs 140 mN), (pE, arI cs 420 mE), (pD, arI cs 160 mD)] [0, 6] [(km, .inr (6, [.int (iI (th)), .int (iI (((sh : Nat) : Int))), .int (iI (((it : Nat) : Int))), .int (iI (((dy : Nat) : Int))), .int (iI (lc)), .int (iI (sv)), .int (iI (lr)), .int (iI (sr)), .ref pL, .ref pP, .ref pC, .ref pI, .ref pM, .ref pS, .ref pV, .ref pN, .ref pE, .ref pA, .ref pO, .ref pT, .ref pD, .ref pG, .ref pW])), (pD, arI cs 160 mD)] := ⟨rfl, rfl, trivial⟩
      refine va_calli (va_runV (As := [.int (iI (((aN : Nat) : Int)))]) (rest := [.int (iI (((((fcI (mV aN) (fun w => mN (7 * aN + w)) dy i) + 999) / 1000) + (sfI (fun k => mE (21 * aN + k)) (smI (fun k => mE (21 * aN + k)) 21) sv 0 21)) - (mS aN)))]) ⟨hx, hb, hml, hown, hts⟩ (m_X6_coming l D cs km pL pP pC pI pM pS pV pN pE pA pO pT pD pG pW sh it th dy lc sv lr sr mD aN (by omega)) (cwV 1 hts (gV w_970 w_972 w_p26 w_5 w_973) rfl rfl rfl (by decide +kernel) ⟨Nat.le_of_ble_eq_true rfl, Nat.le_of_ble_eq_true rfl⟩) (PC_V hK hN hP hD [0, 6] rfl pk3 rfl rfl) rfl rfl hl.1 rfl (lv_room (Nat.le_of_ble_eq_true rfl)) dX6_needOf_60 ⟨Nat.le_of_ble_eq_true rfl, Nat.le_of_ble_eq_true rfl⟩) hS (fun _ _ h => False.elim h) (fun _ h => False.elim h) (fun r u t H locs ht hvm hw hB hz1 hk1 hS => ?_)
      subst hw
      have hP := P_kept hP hk1
      refine my_isub (z := (((((fcI (mV aN) (fun w => mN (7 * aN + w)) dy i) + 999) / 1000) + (sfI (fun k => mE (21 * aN + k)) (smI (fun k => mE (21 * aN + k)) 21) sv 0 21)) - (mS aN)) - (smI (fun k => mD (8 * aN + k)) 8)) hx hb dX6_needOf_63 (rfl) ?_
      have hres : iI ((((((fcI (mV aN) (fun w => mN (7 * aN + w)) dy i) + 999) / 1000) + (sfI (fun k => mE (21 * aN + k)) (smI (fun k => mE (21 * aN + k)) 21) sv 0 21)) - (mS aN)) - (smI (fun k => mD (8 * aN + k)) 8)) = iI ((fcI (mV aN) (fun w => mN (7 * aN + w)) dy (ldn + 1) + 999) / 1000 + sfI (fun k => mE (21 * aN + k)) (smI (fun k => mE (21 * aN + k)) 21) sv 0 21 - mS aN - smI (fun k => mD (8 * aN + k)) 8) := congrArg iI (by
          rw [ei])
      exact W.iret hx hb hr (fun t ht hW => ⟨⟨_, (), rfl, hres, trivial⟩, hS.F ht⟩) hS.2.2 dX6_needOf_64
    · refine lv_iload_n hx hb dX6_needOf_16 rfl (lv_at hl 1 rfl) ?_
      refine lv_aload_n hx hb dX6_needOf_17 rfl (lv_at hl 2 rfl) ?_
      refine lv_iload_n hx hb dX6_needOf_18 rfl (lv_at hl 3 rfl) ?_
      refine lv_aload_n hx hb dX6_needOf_19 rfl (lv_at hl 2 rfl) ?_
      refine my_get hx hb hts inAX6 hown hK hP 0 rfl rfl 3 (by decide) w_804 rfl rfl dX6_needOf_20 ?_
      refine lv_iload_n hx hb dX6_needOf_23 rfl (lv_at hl 0 rfl) ?_
      refine my_iadd (z := ((dy : Nat) : Int) + ((i : Nat) : Int)) hx hb dX6_needOf_24 (rfl) ?_
      refine my_cv0 (z := (((dy + i) : Nat) : Int)) (by omega) ?_
      have pk4 : picks [(km, .inr (6, [.int (iI (th)), .int (iI (((sh : Nat) : Int))), .int (iI (((it : Nat) : Int))), .int (iI (((dy : Nat) : Int))), .int (iI (lc)), .int (iI (sv)), .int (iI (lr)), .int (iI (sr)), .ref pL, .ref pP, .ref pC, .ref pI, .ref pM, .ref pS, .ref pV, .ref pN, .ref pE, .ref pA, .ref pO, .ref pT, .ref pD, .ref pG, .ref pW])), (pL, arI cs 4 mL), (pS, arI cs 20 mS), (pV, arI cs 20 mV), (pN, arI cs 140 mN), (pE, arI cs 420 mE), (pD, arI cs 160 mD)] [0, 3, 4] [(km, .inr (6, [.int (iI (th)), .int (iI (((sh : Nat) : Int))), .int (iI (((it : Nat) : Int))), .int (iI (((dy : Nat) : Int))), .int (iI (lc)), .int (iI (sv)), .int (iI (lr)), .int (iI (sr)), .ref pL, .ref pP, .ref pC, .ref pI, .ref pM, .ref pS, .ref pV, .ref pN, .ref pE, .ref pA, .ref pO, .ref pT, .ref pD, .ref pG, .ref pW])), (pV, arI cs 20 mV), (pN, arI cs 140 mN)] := ⟨rfl, rfl, rfl, trivial⟩
      refine va_calli (va_runV (As := [.int (iI (((aN : Nat) : Int))), .int (iI ((((dy + i) : Nat) : Int)))]) (rest := [.int (iI (fcI (mV aN) (fun w => mN (7 * aN + w)) dy i))]) ⟨hx, hb, hml, hown, hts⟩ (m_X6_told l D cs km pL pP pC pI pM pS pV pN pE pA pO pT pD pG pW sh it th dy lc sv lr sr mV mN aN (dy + i) (hmV) (hmN) (by omega) (by omega)) (cwV 2 hts (gV w_944 w_946 w_p21 w_5 w_947) rfl rfl rfl (by decide +kernel) ⟨Nat.le_of_ble_eq_true rfl, Nat.le_of_ble_eq_true rfl⟩) (PC_V hK hN hP hD [0, 3, 4] rfl pk4 rfl rfl) rfl rfl hl.1 rfl (lv_room (Nat.le_of_ble_eq_true rfl)) dX6_needOf_25 ⟨Nat.le_of_ble_eq_true rfl, Nat.le_of_ble_eq_true rfl⟩) hS (fun _ _ h => False.elim h) (fun _ h => False.elim h) (fun r u t H locs ht hvm hw hB hz1 hk1 hS => ?_)
      subst hw
      have hP := P_kept hP hk1
      refine my_iadd (z := (fcI (mV aN) (fun w => mN (7 * aN + w)) dy i) + (thI (mV aN) (fun w => mN (7 * aN + w)) (dy + i))) hx hb dX6_needOf_28 (rfl) ?_
      refine lv_istore_n (lv' := [(2, .int (iI ((fcI (mV aN) (fun w => mN (7 * aN + w)) dy i) + (thI (mV aN) (fun w => mN (7 * aN + w)) (dy + i))))), (3, .int (iI (((i : Nat) : Int)))), (0, .ref km), (1, .int (iI (((aN : Nat) : Int))))]) hx hb dX6_needOf_29 rfl hl (by decide) rfl (fun ls hl => ?_)
      refine lv_iinc (v := iI (((i : Nat) : Int) + 1)) (lv' := [(3, .int (iI (((i : Nat) : Int) + 1))), (2, .int (iI ((fcI (mV aN) (fun w => mN (7 * aN + w)) dy i) + (thI (mV aN) (fun w => mN (7 * aN + w)) (dy + i))))), (0, .ref km), (1, .int (iI (((aN : Nat) : Int))))]) hx hb dX6_needOf_30 hl (k := 1) rfl (by rw [show (((i : Nat) : Int) + 1 : Int) = ((i : Nat) : Int) + 1 from rfl]; exact iI_add _ _) (by decide) rfl (fun ls hl => ?_)
      refine lv_goto (tgt := 4) hx hb dX6_needOf_33 (by decide) ?_
      have e1 : ((i : Nat) : Int) + 1 = ((i + 1 : Nat) : Int) := by omega
      have e2 : fcI (mV aN) (fun w => mN (7 * aN + w)) dy i + thI (mV aN) (fun w => mN (7 * aN + w)) (dy + i) = fcI (mV aN) (fun w => mN (7 * aN + w)) dy (i + 1) := rfl
      rw [e1, e2] at hl
      exact ih (i + 1) (by omega) (by omega) _ _ _ hP hS (lv_sub hl [0, 1, 2, 3] rfl)

abbrev ws_X6_requestOf : List Cond := Cond.code yX6_requestOf cX6_requestOf 4 (some .int) :: ALL
set_option maxHeartbeats 4000000 in
set_option maxRecDepth 100000 in
theorem m_X6_requestOf (l : Launch) (D : va_G) (cs : Nat → ClassId) (km pL pP pC pI pM pS pV pN pE pA pO pT pD pG pW sh it : Nat) (th : Int) (dy : Nat) (lc sv lr sr : Int) (mL : Nat → Int) (mP : Nat → Int) (mS : Nat → Int) (mV : Nat → Int) (mN : Nat → Int) (mE : Nat → Int) (mD : Nat → Int) (aN ldn : Nat) (hmV : ∀ j, 0 ≤ mV j ∧ mV j ≤ 9990000) (hmN : ∀ j, 0 ≤ mN j ∧ mN j ≤ 5000) (hmE : ∀ j, 0 ≤ mE j ∧ mE j ≤ 1000) (ha : aN < 20) (hsv : 1 ≤ sv ∧ sv ≤ 100) (hdy : dy < 1000000) (hld : mL (aN / 5) = ((ldn : Nat) : Int)) (hld5 : ldn ≤ 5) (hmS : 0 ≤ mS aN ∧ mS aN ≤ 100000000) (hdu : 0 ≤ smI (fun k => mD (8 * aN + k)) 8 ∧ smI (fun k => mD (8 * aN + k)) 8 ≤ 100000000) (hmP : 0 < mP (aN % 5) ∧ mP (aN % 5) ≤ 50) : Met l yX6_requestOf ws_X6_requestOf ({ frames := 2, cells := 0, slots := 0, locals := 47 }) (va_Pc [.ref km, .int (iI (((aN : Nat) : Int)))] (PC D cs [(km, .inr (6, [.int (iI (th)), .int (iI (((sh : Nat) : Int))), .int (iI (((it : Nat) : Int))), .int (iI (((dy : Nat) : Int))), .int (iI (lc)), .int (iI (sv)), .int (iI (lr)), .int (iI (sr)), .ref pL, .ref pP, .ref pC, .ref pI, .ref pM, .ref pS, .ref pV, .ref pN, .ref pE, .ref pA, .ref pO, .ref pT, .ref pD, .ref pG, .ref pW])), (pL, arI cs 4 mL), (pP, arI cs 5 mP), (pS, arI cs 20 mS), (pV, arI cs 20 mV), (pN, arI cs 140 mN), (pE, arI cs 420 mE), (pD, arI cs 160 mD)])) (va_Qi (fun r (_ : Unit) => r = iI (rqI ((fcI (mV aN) (fun w => mN (7 * aN + w)) dy (ldn + 1) + 999) / 1000 + sfI (fun k => mE (21 * aN + k)) (smI (fun k => mE (21 * aN + k)) 21) sv 0 21 - mS aN - smI (fun k => mD (8 * aN + k)) 8) (mP (aN % 5)))) (fun _ _ => True) noA) 0 0 noA := by
  refine Met.ofW (cc := cX6_requestOf) (maxL := 4) (ret := (some .int)) (by decide +kernel) rfl ?_
  intro p e s m args below meth c s₁ B hml hv
  obtain ⟨rfl, hP, hK, hD, hN⟩ := hv
  have hx := B.exec
  have hb := B.bytes
  have hr := B.returns
  have hts : ∀ w ∈ ALL, w.before _ s = true := fun w h => atoms_spec (ws := ws_X6_requestOf) B.pre w (List.mem_cons_of_mem _ h)
  have hown : s.vm.findClass RX6 = some m.cls := findClass_of_methodNamed B.named
  have hlocks := B.notSynchronized
  have hS : va_S noA s.heap s.heap [] := va_S.rf
  generalize inW [(km, .inr (6, [.int (iI (th)), .int (iI (((sh : Nat) : Int))), .int (iI (((it : Nat) : Int))), .int (iI (((dy : Nat) : Int))), .int (iI (lc)), .int (iI (sv)), .int (iI (lr)), .int (iI (sr)), .ref pL, .ref pP, .ref pC, .ref pI, .ref pM, .ref pS, .ref pV, .ref pN, .ref pE, .ref pA, .ref pO, .ref pT, .ref pD, .ref pG, .ref pW])), (pL, arI cs 4 mL), (pP, arI cs 5 mP), (pS, arI cs 20 mS), (pV, arI cs 20 mV), (pN, arI cs 140 mN), (pE, arI cs 420 mE), (pD, arI cs 160 mD)] = A at hD
  have hl := lv_entry ([.ref km, .int (iI (((aN : Nat) : Int)))]) (n := 4) (Nat.le_of_ble_eq_true rfl)
  rw [lg_entry_eq]
  generalize (lg_sl ([.ref km, .int (iI (((aN : Nat) : Int)))]) ++ List.replicate (4 - (lg_sl ([.ref km, .int (iI (((aN : Nat) : Int)))])).length) Slot.unset).toArray = ls at hl ⊢
  have hl : lv_has ls 4 [(0, .ref km), (1, .int (iI (((aN : Nat) : Int))))] := hl
  have hH := rfl (a := s.heap)
  have hfc : ∀ n : Nat, n ≤ 6 → 0 ≤ fcI (mV aN) (fun w => mN (7 * aN + w)) dy n ∧ fcI (mV aN) (fun w => mN (7 * aN + w)) dy n ≤ 299700000 := fun n hn => by have h1 := smI_le (f := fun j => thI (mV aN) (fun w => mN (7 * aN + w)) (dy + j)) (B := 49950000) (fun j => ⟨(thI_rng2 (se := (fun w => mN (7 * aN + w))) (hmV aN) (hmN _)).1, (thI_rng2 (se := (fun w => mN (7 * aN + w))) (hmV aN) (hmN _)).2.1⟩) n; unfold fcI; omega
  have hsf := sfI_rng (er := (fun k => mE (21 * aN + k))) (es := smI (fun k => mE (21 * aN + k)) 21) (pct := sv) 21 0 rfl
  have hfc1 := hfc (ldn + 1) (by omega)
  refine lv_aload_n hx hb dX6_requestOf_0 rfl (lv_at hl 0 rfl) ?_
  refine lv_iload_n hx hb dX6_requestOf_1 rfl (lv_at hl 1 rfl) ?_
  have pk1 : picks [(km, .inr (6, [.int (iI (th)), .int (iI (((sh : Nat) : Int))), .int (iI (((it : Nat) : Int))), .int (iI (((dy : Nat) : Int))), .int (iI (lc)), .int (iI (sv)), .int (iI (lr)), .int (iI (sr)), .ref pL, .ref pP, .ref pC, .ref pI, .ref pM, .ref pS, .ref pV, .ref pN, .ref pE, .ref pA, .ref pO, .ref pT, .ref pD, .ref pG, .ref pW])), (pL, arI cs 4 mL), (pP, arI cs 5 mP), (pS, arI cs 20 mS), (pV, arI cs 20 mV), (pN, arI cs 140 mN), (pE, arI cs 420 mE), (pD, arI cs 160 mD)] [0, 1, 3, 4, 5, 6, 7] [(km, .inr (6, [.int (iI (th)), .int (iI (((sh : Nat) : Int))), .int (iI (((it : Nat) : Int))), .int (iI (((dy : Nat) : Int))), .int (iI (lc)), .int (iI (sv)), .int (iI (lr)), .int (iI (sr)), .ref pL, .ref pP, .ref pC, .ref pI, .ref pM, .ref pS, .ref pV, .ref pN, .ref pE, .ref pA, .ref pO, .ref pT, .ref pD, .ref pG, .ref pW])), (pL, arI cs 4 mL), (pS, arI cs 20 mS), (pV, arI cs 20 mV), (pN, arI cs 140 mN), (pE, arI cs 420 mE), (pD, arI cs 160 mD)] := ⟨rfl, rfl, rfl, rfl, rfl, rfl, rfl, trivial⟩
  refine va_calli (va_runV (As := [.int (iI (((aN : Nat) : Int)))]) (rest := []) ⟨hx, hb, hml, hown, hts⟩ (m_X6_needOf l D cs km pL pP pC pI pM pS pV pN pE pA pO pT pD pG pW sh it th dy lc sv lr sr mL mS mV mN mE mD aN ldn (hmV) (hmN) (hmE) (by omega) (by assumption) (by omega) (by assumption) (by omega) (by assumption) (by assumption)) (cwV 1 hts (gV w_962 w_964 w_p24 w_5 w_965) rfl rfl rfl (by decide +kernel) ⟨Nat.le_of_ble_eq_true rfl, Nat.le_of_ble_eq_true rfl⟩) (PC_V hK hN hP hD [0, 1, 3, 4, 5, 6, 7] rfl pk1 rfl rfl) rfl rfl hl.1 rfl (lv_room (Nat.le_of_ble_eq_true rfl)) dX6_requestOf_2 ⟨Nat.le_of_ble_eq_true rfl, Nat.le_of_ble_eq_true rfl⟩) hS (fun _ _ h => False.elim h) (fun _ h => False.elim h) (fun r u t H locs ht hvm hw hB hz1 hk1 hS => ?_)
  subst hw
  have hP := P_kept hP hk1
  refine lv_istore_n (lv' := [(2, .int (iI ((fcI (mV aN) (fun w => mN (7 * aN + w)) dy (ldn + 1) + 999) / 1000 + sfI (fun k => mE (21 * aN + k)) (smI (fun k => mE (21 * aN + k)) 21) sv 0 21 - mS aN - smI (fun k => mD (8 * aN + k)) 8))), (0, .ref km), (1, .int (iI (((aN : Nat) : Int))))]) hx hb dX6_requestOf_5 rfl hl (by decide) rfl (fun ls hl => ?_)
  refine lv_aload_n hx hb dX6_requestOf_6 rfl (lv_at hl 1 rfl) ?_
  refine my_get hx hb hts inAX6 hown hK hP 0 rfl rfl 9 (by decide) w_810 rfl rfl dX6_requestOf_7 ?_
  refine lv_iload_n hx hb dX6_requestOf_10 rfl (lv_at hl 2 rfl) ?_
  refine lv_iconst (v := iI (5)) hx hb dX6_requestOf_11 rfl ?_
  refine my_irem hx hb dX6_requestOf_12 (by omega) rfl ?_
  refine my_cv0 (z := (((aN % 5) : Nat) : Int)) (by omega) ?_
  refine my_iald hx hb hK hP 2 rfl (by omega) (k := aN % 5) (Int.toNat_natCast _) dX6_requestOf_13 ?_
  refine lv_istore_n (lv' := [(3, .int (iI (mP (aN % 5)))), (2, .int (iI ((fcI (mV aN) (fun w => mN (7 * aN + w)) dy (ldn + 1) + 999) / 1000 + sfI (fun k => mE (21 * aN + k)) (smI (fun k => mE (21 * aN + k)) 21) sv 0 21 - mS aN - smI (fun k => mD (8 * aN + k)) 8))), (0, .ref km), (1, .int (iI (((aN : Nat) : Int))))]) hx hb dX6_requestOf_14 rfl hl (by decide) rfl (fun ls hl => ?_)
  refine lv_iload_n hx hb dX6_requestOf_15 rfl (lv_at hl 1 rfl) ?_
  refine my_if_le (tgt := 29) hx hb (by omega) dX6_requestOf_16 (by decide) (fun b2 => ?_) (fun b2 => ?_)
  · refine lv_iconst (v := iI (0)) hx hb dX6_requestOf_29 rfl ?_
    have hres : iI (0) = iI (rqI ((fcI (mV aN) (fun w => mN (7 * aN + w)) dy (ldn + 1) + 999) / 1000 + sfI (fun k => mE (21 * aN + k)) (smI (fun k => mE (21 * aN + k)) 21) sv 0 21 - mS aN - smI (fun k => mD (8 * aN + k)) 8) (mP (aN % 5))) := congrArg iI (by
        unfold rqI; split <;> omega)
    exact W.iret hx hb hr (fun t ht hW => ⟨⟨_, (), rfl, hres, trivial⟩, hS.F ht⟩) hS.2.2 dX6_requestOf_30
  · refine lv_iload_n hx hb dX6_requestOf_19 rfl (lv_at hl 1 rfl) ?_
    refine lv_iload_n hx hb dX6_requestOf_20 rfl (lv_at hl 0 rfl) ?_
    refine my_iadd (z := ((fcI (mV aN) (fun w => mN (7 * aN + w)) dy (ldn + 1) + 999) / 1000 + sfI (fun k => mE (21 * aN + k)) (smI (fun k => mE (21 * aN + k)) 21) sv 0 21 - mS aN - smI (fun k => mD (8 * aN + k)) 8) + (mP (aN % 5))) hx hb dX6_requestOf_21 (rfl) ?_
    refine lv_iconst (v := iI (1)) hx hb dX6_requestOf_22 rfl ?_
    refine my_isub (z := (((fcI (mV aN) (fun w => mN (7 * aN + w)) dy (ldn + 1) + 999) / 1000 + sfI (fun k => mE (21 * aN + k)) (smI (fun k => mE (21 * aN + k)) 21) sv 0 21 - mS aN - smI (fun k => mD (8 * aN + k)) 8) + (mP (aN % 5))) - 1) hx hb dX6_requestOf_23 (rfl) ?_
    refine lv_iload_n hx hb dX6_requestOf_24 rfl (lv_at hl 0 rfl) ?_
    refine my_idiv hx hb dX6_requestOf_25 (by omega) rfl ?_
    refine lv_goto (tgt := 30) hx hb dX6_requestOf_26 (by decide) ?_
    have hres : iI (((((fcI (mV aN) (fun w => mN (7 * aN + w)) dy (ldn + 1) + 999) / 1000 + sfI (fun k => mE (21 * aN + k)) (smI (fun k => mE (21 * aN + k)) 21) sv 0 21 - mS aN - smI (fun k => mD (8 * aN + k)) 8) + (mP (aN % 5))) - 1) / (mP (aN % 5))) = iI (rqI ((fcI (mV aN) (fun w => mN (7 * aN + w)) dy (ldn + 1) + 999) / 1000 + sfI (fun k => mE (21 * aN + k)) (smI (fun k => mE (21 * aN + k)) 21) sv 0 21 - mS aN - smI (fun k => mD (8 * aN + k)) 8) (mP (aN % 5))) := congrArg iI (by
        unfold rqI; split <;> omega)
    exact W.iret hx hb hr (fun t ht hW => ⟨⟨_, (), rfl, hres, trivial⟩, hS.F ht⟩) hS.2.2 dX6_requestOf_30
