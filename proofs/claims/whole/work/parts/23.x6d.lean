abbrev ws_X6_safety : List Cond := Cond.code yX6_safety cX6_safety 3 (some .int) :: ALL
set_option maxHeartbeats 4000000 in
set_option maxRecDepth 100000 in
theorem m_X6_safety (l : Launch) (D : va_G) (cs : Nat → ClassId) (km pL pP pC pI pM pS pV pN pE pA pO pT pD pG pW sh it : Nat) (th : Int) (dy : Nat) (lc sv lr sr : Int) (mI : Nat → Int) (mE : Nat → Int) (zs zi : Int) (hsh : sh ≤ 4) (hit : it ≤ 5) (hmI : ∀ j, 0 ≤ mI j ∧ mI j ≤ 1) (hmE : ∀ j, 0 ≤ mE j ∧ mE j ≤ 1000) (hsv : 1 ≤ sv ∧ sv ≤ 100) (hzs : -2147483648 ≤ zs ∧ zs < 2147483648) (hzi : -2147483648 ≤ zi ∧ zi < 2147483648) : Met l yX6_safety ws_X6_safety ({ frames := 3, cells := 0, slots := 0, locals := 65 }) (va_Pc [.ref km, .int (iI (zs)), .int (iI (zi))] (PC D cs [(km, .inr (6, [.int (iI (th)), .int (iI (((sh : Nat) : Int))), .int (iI (((it : Nat) : Int))), .int (iI (((dy : Nat) : Int))), .int (iI (lc)), .int (iI (sv)), .int (iI (lr)), .int (iI (sr)), .ref pL, .ref pP, .ref pC, .ref pI, .ref pM, .ref pS, .ref pV, .ref pN, .ref pE, .ref pA, .ref pO, .ref pT, .ref pD, .ref pG, .ref pW])), (pI, arZ cs 20 mI), (pE, arI cs 420 mE)])) (va_Qi (fun r (_ : Unit) => r = iI (if cdM sh it mI zs zi = 0 then sfI (fun k => mE (21 * (5 * zs + zi).toNat + k)) (smI (fun k => mE (21 * (5 * zs + zi).toNat + k)) 21) sv 0 21 else 0)) (fun _ t => va_P D vwCl [(km, .inr (6, [.int (iI ((((cdM sh it mI zs zi) : Nat) : Int))), .int (iI (((sh : Nat) : Int))), .int (iI (((it : Nat) : Int))), .int (iI (((dy : Nat) : Int))), .int (iI (lc)), .int (iI (sv)), .int (iI (lr)), .int (iI (sr)), .ref pL, .ref pP, .ref pC, .ref pI, .ref pM, .ref pS, .ref pV, .ref pN, .ref pE, .ref pA, .ref pO, .ref pT, .ref pD, .ref pG, .ref pW])), (pI, arZ cs 20 mI), (pE, arI cs 420 mE)] t.heap) (inW [(km, .inr (6, [.int (iI (th)), .int (iI (((sh : Nat) : Int))), .int (iI (((it : Nat) : Int))), .int (iI (((dy : Nat) : Int))), .int (iI (lc)), .int (iI (sv)), .int (iI (lr)), .int (iI (sr)), .ref pL, .ref pP, .ref pC, .ref pI, .ref pM, .ref pS, .ref pV, .ref pN, .ref pE, .ref pA, .ref pO, .ref pT, .ref pD, .ref pG, .ref pW])), (pI, arZ cs 20 mI), (pE, arI cs 420 mE)])) 0 0 (inW [(km, .inr (6, [.int (iI (th)), .int (iI (((sh : Nat) : Int))), .int (iI (((it : Nat) : Int))), .int (iI (((dy : Nat) : Int))), .int (iI (lc)), .int (iI (sv)), .int (iI (lr)), .int (iI (sr)), .ref pL, .ref pP, .ref pC, .ref pI, .ref pM, .ref pS, .ref pV, .ref pN, .ref pE, .ref pA, .ref pO, .ref pT, .ref pD, .ref pG, .ref pW])), (pI, arZ cs 20 mI), (pE, arI cs 420 mE)]) := by
  refine Met.ofW (cc := cX6_safety) (maxL := 3) (ret := (some .int)) (by decide +kernel) rfl ?_
  intro p e s m args below meth c s₁ B hml hv
  obtain ⟨rfl, hP, hK, hD, hN⟩ := hv
  have hx := B.exec
  have hb := B.bytes
  have hr := B.returns
  have hts : ∀ w ∈ ALL, w.before _ s = true := fun w h => atoms_spec (ws := ws_X6_safety) B.pre w (List.mem_cons_of_mem _ h)
  have hown : s.vm.findClass RX6 = some m.cls := findClass_of_methodNamed B.named
  have hlocks := B.notSynchronized
  generalize hAe : inW [(km, .inr (6, [.int (iI (th)), .int (iI (((sh : Nat) : Int))), .int (iI (((it : Nat) : Int))), .int (iI (((dy : Nat) : Int))), .int (iI (lc)), .int (iI (sv)), .int (iI (lr)), .int (iI (sr)), .ref pL, .ref pP, .ref pC, .ref pI, .ref pM, .ref pS, .ref pV, .ref pN, .ref pE, .ref pA, .ref pO, .ref pT, .ref pD, .ref pG, .ref pW])), (pI, arZ cs 20 mI), (pE, arI cs 420 mE)] = A at hD ⊢
  have hS : va_S A s.heap s.heap [] := va_S.rf
  have hl := lv_entry ([.ref km, .int (iI (zs)), .int (iI (zi))]) (n := 3) (Nat.le_of_ble_eq_true rfl)
  rw [lg_entry_eq]
  generalize (lg_sl ([.ref km, .int (iI (zs)), .int (iI (zi))]) ++ List.replicate (3 - (lg_sl ([.ref km, .int (iI (zs)), .int (iI (zi))])).length) Slot.unset).toArray = ls at hl ⊢
  have hl : lv_has ls 3 [(0, .ref km), (1, .int (iI (zs))), (2, .int (iI (zi)))] := hl
  have hH := rfl (a := s.heap)
  refine lv_aload_n hx hb dX6_safety_0 rfl (lv_at hl 0 rfl) ?_
  refine lv_iload_n hx hb dX6_safety_1 rfl (lv_at hl 1 rfl) ?_
  refine lv_iload_n hx hb dX6_safety_2 rfl (lv_at hl 2 rfl) ?_
  have pk1 : picks [(km, .inr (6, [.int (iI (th)), .int (iI (((sh : Nat) : Int))), .int (iI (((it : Nat) : Int))), .int (iI (((dy : Nat) : Int))), .int (iI (lc)), .int (iI (sv)), .int (iI (lr)), .int (iI (sr)), .ref pL, .ref pP, .ref pC, .ref pI, .ref pM, .ref pS, .ref pV, .ref pN, .ref pE, .ref pA, .ref pO, .ref pT, .ref pD, .ref pG, .ref pW])), (pI, arZ cs 20 mI), (pE, arI cs 420 mE)] [0, 1] [(km, .inr (6, [.int (iI (th)), .int (iI (((sh : Nat) : Int))), .int (iI (((it : Nat) : Int))), .int (iI (((dy : Nat) : Int))), .int (iI (lc)), .int (iI (sv)), .int (iI (lr)), .int (iI (sr)), .ref pL, .ref pP, .ref pC, .ref pI, .ref pM, .ref pS, .ref pV, .ref pN, .ref pE, .ref pA, .ref pO, .ref pT, .ref pD, .ref pG, .ref pW])), (pI, arZ cs 20 mI)] := ⟨rfl, rfl, trivial⟩
  refine va_calli (va_runV (As := [.int (iI (zs)), .int (iI (zi))]) (rest := []) ⟨hx, hb, hml, hown, hts⟩ (m_X6_isLine l D cs km pL pP pC pI pM pS pV pN pE pA pO pT pD pG pW sh it th dy lc sv lr sr mI zs zi (by assumption) (by assumption) (by assumption) (by omega) (by omega)) (cwV 2 hts (gV w_932 w_934 w_p19 w_5 w_935) rfl rfl rfl (by decide +kernel) ⟨Nat.le_of_ble_eq_true rfl, Nat.le_of_ble_eq_true rfl⟩) (PC_V hK hN hP hD [0, 1] rfl pk1 rfl rfl) rfl rfl hl.1 rfl (lv_room (Nat.le_of_ble_eq_true rfl)) dX6_safety_3 ⟨Nat.le_of_ble_eq_true rfl, Nat.le_of_ble_eq_true rfl⟩) hS (fun q _ h => inW_sub hD [0, 1] pk1 q h) (fun q h => inW_sub hD [0, 1] pk1 q h) (fun r u t H locs ht hvm hw hB hz1 hk1 hS => ?_)
  subst hw
  rw [ht] at hB
  obtain ⟨hP, hD⟩ := my_join (W1 := [(km, .inr (6, [.int (iI (((cdM sh it mI zs zi : Nat) : Int))), .int (iI (((sh : Nat) : Int))), .int (iI (((it : Nat) : Int))), .int (iI (((dy : Nat) : Int))), .int (iI (lc)), .int (iI (sv)), .int (iI (lr)), .int (iI (sr)), .ref pL, .ref pP, .ref pC, .ref pI, .ref pM, .ref pS, .ref pV, .ref pN, .ref pE, .ref pA, .ref pO, .ref pT, .ref pD, .ref pG, .ref pW])), (pI, arZ cs 20 mI)]) hP hD [0, 1] rfl pk1 rfl hk1 hB
  have hP : va_P D vwCl [(km, .inr (6, [.int (iI (((cdM sh it mI zs zi : Nat) : Int))), .int (iI (((sh : Nat) : Int))), .int (iI (((it : Nat) : Int))), .int (iI (((dy : Nat) : Int))), .int (iI (lc)), .int (iI (sv)), .int (iI (lr)), .int (iI (sr)), .ref pL, .ref pP, .ref pC, .ref pI, .ref pM, .ref pS, .ref pV, .ref pN, .ref pE, .ref pA, .ref pO, .ref pT, .ref pD, .ref pG, .ref pW])), (pI, arZ cs 20 mI), (pE, arI cs 420 mE)] H := hP
  have hD : va_D A [(km, .inr (6, [.int (iI (((cdM sh it mI zs zi : Nat) : Int))), .int (iI (((sh : Nat) : Int))), .int (iI (((it : Nat) : Int))), .int (iI (((dy : Nat) : Int))), .int (iI (lc)), .int (iI (sv)), .int (iI (lr)), .int (iI (sr)), .ref pL, .ref pP, .ref pC, .ref pI, .ref pM, .ref pS, .ref pV, .ref pN, .ref pE, .ref pA, .ref pO, .ref pT, .ref pD, .ref pG, .ref pW])), (pI, arZ cs 20 mI), (pE, arI cs 420 mE)] := hD
  have hcm := cdM_s sh it mI zs zi
  have hbb := b01_s (cdM sh it mI zs zi)
  refine my_if_eq (tgt := 21) hx hb (by omega) dX6_safety_6 (by decide) (fun b2 => ?_) (fun b2 => ?_)
  · refine lv_iconst (v := iI (0)) hx hb dX6_safety_21 rfl ?_
    have hWe : ([(km, .inr (6, [.int (iI (((cdM sh it mI zs zi : Nat) : Int))), .int (iI (((sh : Nat) : Int))), .int (iI (((it : Nat) : Int))), .int (iI (((dy : Nat) : Int))), .int (iI (lc)), .int (iI (sv)), .int (iI (lr)), .int (iI (sr)), .ref pL, .ref pP, .ref pC, .ref pI, .ref pM, .ref pS, .ref pV, .ref pN, .ref pE, .ref pA, .ref pO, .ref pT, .ref pD, .ref pG, .ref pW])), (pI, arZ cs 20 mI), (pE, arI cs 420 mE)] : va_W) = [(km, .inr (6, [.int (iI ((((cdM sh it mI zs zi) : Nat) : Int))), .int (iI (((sh : Nat) : Int))), .int (iI (((it : Nat) : Int))), .int (iI (((dy : Nat) : Int))), .int (iI (lc)), .int (iI (sv)), .int (iI (lr)), .int (iI (sr)), .ref pL, .ref pP, .ref pC, .ref pI, .ref pM, .ref pS, .ref pV, .ref pN, .ref pE, .ref pA, .ref pO, .ref pT, .ref pD, .ref pG, .ref pW])), (pI, arZ cs 20 mI), (pE, arI cs 420 mE)] := by
      first | rfl | (congr 1; omega)
    rw [hWe] at hP
    subst hAe
    have hres : iI (0) = iI (if cdM sh it mI zs zi = 0 then sfI (fun k => mE (21 * (5 * zs + zi).toNat + k)) (smI (fun k => mE (21 * (5 * zs + zi).toNat + k)) 21) sv 0 21 else 0) := congrArg iI (by
        first | rw [if_pos (by omega)] | rw [if_neg (by omega)])
    exact W.iret hx hb hr (fun t ht hW => ⟨⟨_, (), rfl, hres, by show va_P D vwCl _ t.heap; rw [ht]; exact hP⟩, hS.F ht⟩) hS.2.2 dX6_safety_22
  · refine lv_aload_n hx hb dX6_safety_9 rfl (lv_at hl 0 rfl) ?_
    refine lv_iconst (v := iI (5)) hx hb dX6_safety_10 rfl ?_
    refine lv_iload_n hx hb dX6_safety_11 rfl (lv_at hl 1 rfl) ?_
    refine my_imul (z := 5 * zs) hx hb dX6_safety_12 (rfl) ?_
    refine lv_iload_n hx hb dX6_safety_13 rfl (lv_at hl 2 rfl) ?_
    refine my_iadd (z := (5 * zs) + zi) hx hb dX6_safety_14 (rfl) ?_
    refine my_cv0 (z := ((((5 * zs + zi).toNat) : Nat) : Int)) (by omega) ?_
    have pk3 : picks [(km, .inr (6, [.int (iI (((cdM sh it mI zs zi : Nat) : Int))), .int (iI (((sh : Nat) : Int))), .int (iI (((it : Nat) : Int))), .int (iI (((dy : Nat) : Int))), .int (iI (lc)), .int (iI (sv)), .int (iI (lr)), .int (iI (sr)), .ref pL, .ref pP, .ref pC, .ref pI, .ref pM, .ref pS, .ref pV, .ref pN, .ref pE, .ref pA, .ref pO, .ref pT, .ref pD, .ref pG, .ref pW])), (pI, arZ cs 20 mI), (pE, arI cs 420 mE)] [0, 2] [(km, .inr (6, [.int (iI (((cdM sh it mI zs zi : Nat) : Int))), .int (iI (((sh : Nat) : Int))), .int (iI (((it : Nat) : Int))), .int (iI (((dy : Nat) : Int))), .int (iI (lc)), .int (iI (sv)), .int (iI (lr)), .int (iI (sr)), .ref pL, .ref pP, .ref pC, .ref pI, .ref pM, .ref pS, .ref pV, .ref pN, .ref pE, .ref pA, .ref pO, .ref pT, .ref pD, .ref pG, .ref pW])), (pE, arI cs 420 mE)] := ⟨rfl, rfl, trivial⟩
    refine va_calli (va_runV (As := [.int (iI (((((5 * zs + zi).toNat) : Nat) : Int)))]) (rest := []) ⟨hx, hb, hml, hown, hts⟩ (m_X6_safetyOf l D cs km pL pP pC pI pM pS pV pN pE pA pO pT pD pG pW sh it ((cdM sh it mI zs zi : Nat) : Int) dy lc sv lr sr mE ((5 * zs + zi).toNat) (hmE) (by omega) (hsv)) (cwV 1 hts (gV w_966 w_968 w_p25 w_5 w_969) rfl rfl rfl (by decide +kernel) ⟨Nat.le_of_ble_eq_true rfl, Nat.le_of_ble_eq_true rfl⟩) (PC_V hK hN hP hD [0, 2] rfl pk3 rfl rfl) rfl rfl hl.1 rfl (lv_room (Nat.le_of_ble_eq_true rfl)) dX6_safety_15 ⟨Nat.le_of_ble_eq_true rfl, Nat.le_of_ble_eq_true rfl⟩) hS (fun _ _ h => False.elim h) (fun _ h => False.elim h) (fun r u t H locs ht hvm hw hB hz1 hk1 hS => ?_)
    subst hw
    have hP := P_kept hP hk1
    refine lv_goto (tgt := 22) hx hb dX6_safety_18 (by decide) ?_
    have hWe : ([(km, .inr (6, [.int (iI (((cdM sh it mI zs zi : Nat) : Int))), .int (iI (((sh : Nat) : Int))), .int (iI (((it : Nat) : Int))), .int (iI (((dy : Nat) : Int))), .int (iI (lc)), .int (iI (sv)), .int (iI (lr)), .int (iI (sr)), .ref pL, .ref pP, .ref pC, .ref pI, .ref pM, .ref pS, .ref pV, .ref pN, .ref pE, .ref pA, .ref pO, .ref pT, .ref pD, .ref pG, .ref pW])), (pI, arZ cs 20 mI), (pE, arI cs 420 mE)] : va_W) = [(km, .inr (6, [.int (iI ((((cdM sh it mI zs zi) : Nat) : Int))), .int (iI (((sh : Nat) : Int))), .int (iI (((it : Nat) : Int))), .int (iI (((dy : Nat) : Int))), .int (iI (lc)), .int (iI (sv)), .int (iI (lr)), .int (iI (sr)), .ref pL, .ref pP, .ref pC, .ref pI, .ref pM, .ref pS, .ref pV, .ref pN, .ref pE, .ref pA, .ref pO, .ref pT, .ref pD, .ref pG, .ref pW])), (pI, arZ cs 20 mI), (pE, arI cs 420 mE)] := by
      first | rfl | (congr 1; omega)
    rw [hWe] at hP
    subst hAe
    have hres : iI (sfI (fun k => mE (21 * ((5 * zs + zi).toNat) + k)) (smI (fun k => mE (21 * ((5 * zs + zi).toNat) + k)) 21) sv 0 21) = iI (if cdM sh it mI zs zi = 0 then sfI (fun k => mE (21 * (5 * zs + zi).toNat + k)) (smI (fun k => mE (21 * (5 * zs + zi).toNat + k)) 21) sv 0 21 else 0) := congrArg iI (by
        first | rw [if_pos (by omega)] | rw [if_neg (by omega)])
    exact W.iret hx hb hr (fun t ht hW => ⟨⟨_, (), rfl, hres, by show va_P D vwCl _ t.heap; rw [ht]; exact hP⟩, hS.F ht⟩) hS.2.2 dX6_safety_22

abbrev ws_X6_onWay : List Cond := Cond.code yX6_onWay cX6_onWay 3 (some .int) :: ALL
set_option maxHeartbeats 4000000 in
set_option maxRecDepth 100000 in
theorem m_X6_onWay (l : Launch) (D : va_G) (cs : Nat → ClassId) (km pL pP pC pI pM pS pV pN pE pA pO pT pD pG pW sh it : Nat) (th : Int) (dy : Nat) (lc sv lr sr : Int) (mI : Nat → Int) (mD : Nat → Int) (zs zi : Int) (hsh : sh ≤ 4) (hit : it ≤ 5) (hmI : ∀ j, 0 ≤ mI j ∧ mI j ≤ 1) (hzs : -2147483648 ≤ zs ∧ zs < 2147483648) (hzi : -2147483648 ≤ zi ∧ zi < 2147483648) : Met l yX6_onWay ws_X6_onWay ({ frames := 3, cells := 0, slots := 0, locals := 65 }) (va_Pc [.ref km, .int (iI (zs)), .int (iI (zi))] (PC D cs [(km, .inr (6, [.int (iI (th)), .int (iI (((sh : Nat) : Int))), .int (iI (((it : Nat) : Int))), .int (iI (((dy : Nat) : Int))), .int (iI (lc)), .int (iI (sv)), .int (iI (lr)), .int (iI (sr)), .ref pL, .ref pP, .ref pC, .ref pI, .ref pM, .ref pS, .ref pV, .ref pN, .ref pE, .ref pA, .ref pO, .ref pT, .ref pD, .ref pG, .ref pW])), (pI, arZ cs 20 mI), (pD, arI cs 160 mD)])) (va_Qi (fun r (_ : Unit) => r = iI (if cdM sh it mI zs zi = 0 then smI (fun k => mD (8 * (5 * zs + zi).toNat + k)) 8 else 0)) (fun _ t => va_P D vwCl [(km, .inr (6, [.int (iI ((((cdM sh it mI zs zi) : Nat) : Int))), .int (iI (((sh : Nat) : Int))), .int (iI (((it : Nat) : Int))), .int (iI (((dy : Nat) : Int))), .int (iI (lc)), .int (iI (sv)), .int (iI (lr)), .int (iI (sr)), .ref pL, .ref pP, .ref pC, .ref pI, .ref pM, .ref pS, .ref pV, .ref pN, .ref pE, .ref pA, .ref pO, .ref pT, .ref pD, .ref pG, .ref pW])), (pI, arZ cs 20 mI), (pD, arI cs 160 mD)] t.heap) (inW [(km, .inr (6, [.int (iI (th)), .int (iI (((sh : Nat) : Int))), .int (iI (((it : Nat) : Int))), .int (iI (((dy : Nat) : Int))), .int (iI (lc)), .int (iI (sv)), .int (iI (lr)), .int (iI (sr)), .ref pL, .ref pP, .ref pC, .ref pI, .ref pM, .ref pS, .ref pV, .ref pN, .ref pE, .ref pA, .ref pO, .ref pT, .ref pD, .ref pG, .ref pW])), (pI, arZ cs 20 mI), (pD, arI cs 160 mD)])) 0 0 (inW [(km, .inr (6, [.int (iI (th)), .int (iI (((sh : Nat) : Int))), .int (iI (((it : Nat) : Int))), .int (iI (((dy : Nat) : Int))), .int (iI (lc)), .int (iI (sv)), .int (iI (lr)), .int (iI (sr)), .ref pL, .ref pP, .ref pC, .ref pI, .ref pM, .ref pS, .ref pV, .ref pN, .ref pE, .ref pA, .ref pO, .ref pT, .ref pD, .ref pG, .ref pW])), (pI, arZ cs 20 mI), (pD, arI cs 160 mD)]) := by
  refine Met.ofW (cc := cX6_onWay) (maxL := 3) (ret := (some .int)) (by decide +kernel) rfl ?_
  intro p e s m args below meth c s₁ B hml hv
  obtain ⟨rfl, hP, hK, hD, hN⟩ := hv
  have hx := B.exec
  have hb := B.bytes
  have hr := B.returns
  have hts : ∀ w ∈ ALL, w.before _ s = true := fun w h => atoms_spec (ws := ws_X6_onWay) B.pre w (List.mem_cons_of_mem _ h)
  have hown : s.vm.findClass RX6 = some m.cls := findClass_of_methodNamed B.named
  have hlocks := B.notSynchronized
  generalize hAe : inW [(km, .inr (6, [.int (iI (th)), .int (iI (((sh : Nat) : Int))), .int (iI (((it : Nat) : Int))), .int (iI (((dy : Nat) : Int))), .int (iI (lc)), .int (iI (sv)), .int (iI (lr)), .int (iI (sr)), .ref pL, .ref pP, .ref pC, .ref pI, .ref pM, .ref pS, .ref pV, .ref pN, .ref pE, .ref pA, .ref pO, .ref pT, .ref pD, .ref pG, .ref pW])), (pI, arZ cs 20 mI), (pD, arI cs 160 mD)] = A at hD ⊢
  have hS : va_S A s.heap s.heap [] := va_S.rf
  have hl := lv_entry ([.ref km, .int (iI (zs)), .int (iI (zi))]) (n := 3) (Nat.le_of_ble_eq_true rfl)
  rw [lg_entry_eq]
  generalize (lg_sl ([.ref km, .int (iI (zs)), .int (iI (zi))]) ++ List.replicate (3 - (lg_sl ([.ref km, .int (iI (zs)), .int (iI (zi))])).length) Slot.unset).toArray = ls at hl ⊢
  have hl : lv_has ls 3 [(0, .ref km), (1, .int (iI (zs))), (2, .int (iI (zi)))] := hl
  have hH := rfl (a := s.heap)
  refine lv_aload_n hx hb dX6_onWay_0 rfl (lv_at hl 0 rfl) ?_
  refine lv_iload_n hx hb dX6_onWay_1 rfl (lv_at hl 1 rfl) ?_
  refine lv_iload_n hx hb dX6_onWay_2 rfl (lv_at hl 2 rfl) ?_
  have pk1 : picks [(km, .inr (6, [.int (iI (th)), .int (iI (((sh : Nat) : Int))), .int (iI (((it : Nat) : Int))), .int (iI (((dy : Nat) : Int))), .int (iI (lc)), .int (iI (sv)), .int (iI (lr)), .int (iI (sr)), .ref pL, .ref pP, .ref pC, .ref pI, .ref pM, .ref pS, .ref pV, .ref pN, .ref pE, .ref pA, .ref pO, .ref pT, .ref pD, .ref pG, .ref pW])), (pI, arZ cs 20 mI), (pD, arI cs 160 mD)] [0, 1] [(km, .inr (6, [.int (iI (th)), .int (iI (((sh : Nat) : Int))), .int (iI (((it : Nat) : Int))), .int (iI (((dy : Nat) : Int))), .int (iI (lc)), .int (iI (sv)), .int (iI (lr)), .int (iI (sr)), .ref pL, .ref pP, .ref pC, .ref pI, .ref pM, .ref pS, .ref pV, .ref pN, .ref pE, .ref pA, .ref pO, .ref pT, .ref pD, .ref pG, .ref pW])), (pI, arZ cs 20 mI)] := ⟨rfl, rfl, trivial⟩
  refine va_calli (va_runV (As := [.int (iI (zs)), .int (iI (zi))]) (rest := []) ⟨hx, hb, hml, hown, hts⟩ (m_X6_isLine l D cs km pL pP pC pI pM pS pV pN pE pA pO pT pD pG pW sh it th dy lc sv lr sr mI zs zi (by assumption) (by assumption) (by assumption) (by omega) (by omega)) (cwV 2 hts (gV w_932 w_934 w_p19 w_5 w_935) rfl rfl rfl (by decide +kernel) ⟨Nat.le_of_ble_eq_true rfl, Nat.le_of_ble_eq_true rfl⟩) (PC_V hK hN hP hD [0, 1] rfl pk1 rfl rfl) rfl rfl hl.1 rfl (lv_room (Nat.le_of_ble_eq_true rfl)) dX6_onWay_3 ⟨Nat.le_of_ble_eq_true rfl, Nat.le_of_ble_eq_true rfl⟩) hS (fun q _ h => inW_sub hD [0, 1] pk1 q h) (fun q h => inW_sub hD [0, 1] pk1 q h) (fun r u t H locs ht hvm hw hB hz1 hk1 hS => ?_)
  subst hw
  rw [ht] at hB
  obtain ⟨hP, hD⟩ := my_join (W1 := [(km, .inr (6, [.int (iI (((cdM sh it mI zs zi : Nat) : Int))), .int (iI (((sh : Nat) : Int))), .int (iI (((it : Nat) : Int))), .int (iI (((dy : Nat) : Int))), .int (iI (lc)), .int (iI (sv)), .int (iI (lr)), .int (iI (sr)), .ref pL, .ref pP, .ref pC, .ref pI, .ref pM, .ref pS, .ref pV, .ref pN, .ref pE, .ref pA, .ref pO, .ref pT, .ref pD, .ref pG, .ref pW])), (pI, arZ cs 20 mI)]) hP hD [0, 1] rfl pk1 rfl hk1 hB
  have hP : va_P D vwCl [(km, .inr (6, [.int (iI (((cdM sh it mI zs zi : Nat) : Int))), .int (iI (((sh : Nat) : Int))), .int (iI (((it : Nat) : Int))), .int (iI (((dy : Nat) : Int))), .int (iI (lc)), .int (iI (sv)), .int (iI (lr)), .int (iI (sr)), .ref pL, .ref pP, .ref pC, .ref pI, .ref pM, .ref pS, .ref pV, .ref pN, .ref pE, .ref pA, .ref pO, .ref pT, .ref pD, .ref pG, .ref pW])), (pI, arZ cs 20 mI), (pD, arI cs 160 mD)] H := hP
  have hD : va_D A [(km, .inr (6, [.int (iI (((cdM sh it mI zs zi : Nat) : Int))), .int (iI (((sh : Nat) : Int))), .int (iI (((it : Nat) : Int))), .int (iI (((dy : Nat) : Int))), .int (iI (lc)), .int (iI (sv)), .int (iI (lr)), .int (iI (sr)), .ref pL, .ref pP, .ref pC, .ref pI, .ref pM, .ref pS, .ref pV, .ref pN, .ref pE, .ref pA, .ref pO, .ref pT, .ref pD, .ref pG, .ref pW])), (pI, arZ cs 20 mI), (pD, arI cs 160 mD)] := hD
  have hcm := cdM_s sh it mI zs zi
  have hbb := b01_s (cdM sh it mI zs zi)
  refine my_if_eq (tgt := 21) hx hb (by omega) dX6_onWay_6 (by decide) (fun b2 => ?_) (fun b2 => ?_)
  · refine lv_iconst (v := iI (0)) hx hb dX6_onWay_21 rfl ?_
    have hWe : ([(km, .inr (6, [.int (iI (((cdM sh it mI zs zi : Nat) : Int))), .int (iI (((sh : Nat) : Int))), .int (iI (((it : Nat) : Int))), .int (iI (((dy : Nat) : Int))), .int (iI (lc)), .int (iI (sv)), .int (iI (lr)), .int (iI (sr)), .ref pL, .ref pP, .ref pC, .ref pI, .ref pM, .ref pS, .ref pV, .ref pN, .ref pE, .ref pA, .ref pO, .ref pT, .ref pD, .ref pG, .ref pW])), (pI, arZ cs 20 mI), (pD, arI cs 160 mD)] : va_W) = [(km, .inr (6, [.int (iI ((((cdM sh it mI zs zi) : Nat) : Int))), .int (iI (((sh : Nat) : Int))), .int (iI (((it : Nat) : Int))), .int (iI (((dy : Nat) : Int))), .int (iI (lc)), .int (iI (sv)), .int (iI (lr)), .int (iI (sr)), .ref pL, .ref pP, .ref pC, .ref pI, .ref pM, .ref pS, .ref pV, .ref pN, .ref pE, .ref pA, .ref pO, .ref pT, .ref pD, .ref pG, .ref pW])), (pI, arZ cs 20 mI), (pD, arI cs 160 mD)] := by
      first | rfl | (congr 1; omega)
    rw [hWe] at hP
    subst hAe
    have hres : iI (0) = iI (if cdM sh it mI zs zi = 0 then smI (fun k => mD (8 * (5 * zs + zi).toNat + k)) 8 else 0) := congrArg iI (by
        first | rw [if_pos (by omega)] | rw [if_neg (by omega)])
    exact W.iret hx hb hr (fun t ht hW => ⟨⟨_, (), rfl, hres, by show va_P D vwCl _ t.heap; rw [ht]; exact hP⟩, hS.F ht⟩) hS.2.2 dX6_onWay_22
  · refine lv_aload_n hx hb dX6_onWay_9 rfl (lv_at hl 0 rfl) ?_
    refine lv_iconst (v := iI (5)) hx hb dX6_onWay_10 rfl ?_
    refine lv_iload_n hx hb dX6_onWay_11 rfl (lv_at hl 1 rfl) ?_
    refine my_imul (z := 5 * zs) hx hb dX6_onWay_12 (rfl) ?_
    refine lv_iload_n hx hb dX6_onWay_13 rfl (lv_at hl 2 rfl) ?_
    refine my_iadd (z := (5 * zs) + zi) hx hb dX6_onWay_14 (rfl) ?_
    refine my_cv0 (z := ((((5 * zs + zi).toNat) : Nat) : Int)) (by omega) ?_
    have pk3 : picks [(km, .inr (6, [.int (iI (((cdM sh it mI zs zi : Nat) : Int))), .int (iI (((sh : Nat) : Int))), .int (iI (((it : Nat) : Int))), .int (iI (((dy : Nat) : Int))), .int (iI (lc)), .int (iI (sv)), .int (iI (lr)), .int (iI (sr)), .ref pL, .ref pP, .ref pC, .ref pI, .ref pM, .ref pS, .ref pV, .ref pN, .ref pE, .ref pA, .ref pO, .ref pT, .ref pD, .ref pG, .ref pW])), (pI, arZ cs 20 mI), (pD, arI cs 160 mD)] [0, 2] [(km, .inr (6, [.int (iI (((cdM sh it mI zs zi : Nat) : Int))), .int (iI (((sh : Nat) : Int))), .int (iI (((it : Nat) : Int))), .int (iI (((dy : Nat) : Int))), .int (iI (lc)), .int (iI (sv)), .int (iI (lr)), .int (iI (sr)), .ref pL, .ref pP, .ref pC, .ref pI, .ref pM, .ref pS, .ref pV, .ref pN, .ref pE, .ref pA, .ref pO, .ref pT, .ref pD, .ref pG, .ref pW])), (pD, arI cs 160 mD)] := ⟨rfl, rfl, trivial⟩
    refine va_calli (va_runV (As := [.int (iI (((((5 * zs + zi).toNat) : Nat) : Int)))]) (rest := []) ⟨hx, hb, hml, hown, hts⟩ (m_X6_coming l D cs km pL pP pC pI pM pS pV pN pE pA pO pT pD pG pW sh it ((cdM sh it mI zs zi : Nat) : Int) dy lc sv lr sr mD ((5 * zs + zi).toNat) (by omega)) (cwV 1 hts (gV w_970 w_972 w_p26 w_5 w_973) rfl rfl rfl (by decide +kernel) ⟨Nat.le_of_ble_eq_true rfl, Nat.le_of_ble_eq_true rfl⟩) (PC_V hK hN hP hD [0, 2] rfl pk3 rfl rfl) rfl rfl hl.1 rfl (lv_room (Nat.le_of_ble_eq_true rfl)) dX6_onWay_15 ⟨Nat.le_of_ble_eq_true rfl, Nat.le_of_ble_eq_true rfl⟩) hS (fun _ _ h => False.elim h) (fun _ h => False.elim h) (fun r u t H locs ht hvm hw hB hz1 hk1 hS => ?_)
    subst hw
    have hP := P_kept hP hk1
    refine lv_goto (tgt := 22) hx hb dX6_onWay_18 (by decide) ?_
    have hWe : ([(km, .inr (6, [.int (iI (((cdM sh it mI zs zi : Nat) : Int))), .int (iI (((sh : Nat) : Int))), .int (iI (((it : Nat) : Int))), .int (iI (((dy : Nat) : Int))), .int (iI (lc)), .int (iI (sv)), .int (iI (lr)), .int (iI (sr)), .ref pL, .ref pP, .ref pC, .ref pI, .ref pM, .ref pS, .ref pV, .ref pN, .ref pE, .ref pA, .ref pO, .ref pT, .ref pD, .ref pG, .ref pW])), (pI, arZ cs 20 mI), (pD, arI cs 160 mD)] : va_W) = [(km, .inr (6, [.int (iI ((((cdM sh it mI zs zi) : Nat) : Int))), .int (iI (((sh : Nat) : Int))), .int (iI (((it : Nat) : Int))), .int (iI (((dy : Nat) : Int))), .int (iI (lc)), .int (iI (sv)), .int (iI (lr)), .int (iI (sr)), .ref pL, .ref pP, .ref pC, .ref pI, .ref pM, .ref pS, .ref pV, .ref pN, .ref pE, .ref pA, .ref pO, .ref pT, .ref pD, .ref pG, .ref pW])), (pI, arZ cs 20 mI), (pD, arI cs 160 mD)] := by
      first | rfl | (congr 1; omega)
    rw [hWe] at hP
    subst hAe
    have hres : iI (smI (fun k => mD (8 * ((5 * zs + zi).toNat) + k)) 8) = iI (if cdM sh it mI zs zi = 0 then smI (fun k => mD (8 * (5 * zs + zi).toNat + k)) 8 else 0) := congrArg iI (by
        first | rw [if_pos (by omega)] | rw [if_neg (by omega)])
    exact W.iret hx hb hr (fun t ht hW => ⟨⟨_, (), rfl, hres, by show va_P D vwCl _ t.heap; rw [ht]; exact hP⟩, hS.F ht⟩) hS.2.2 dX6_onWay_22

abbrev ws_X6_need : List Cond := Cond.code yX6_need cX6_need 3 (some .int) :: ALL
set_option maxHeartbeats 4000000 in
set_option maxRecDepth 100000 in
theorem m_X6_need (l : Launch) (D : va_G) (cs : Nat → ClassId) (km pL pP pC pI pM pS pV pN pE pA pO pT pD pG pW sh it : Nat) (th : Int) (dy : Nat) (lc sv lr sr : Int) (mI : Nat → Int) (mL : Nat → Int) (mS : Nat → Int) (mV : Nat → Int) (mN : Nat → Int) (mE : Nat → Int) (mD : Nat → Int) (zs zi : Int) (hsh : sh ≤ 4) (hit : it ≤ 5) (hmI : ∀ j, 0 ≤ mI j ∧ mI j ≤ 1) (hmL : ∀ j, 0 ≤ mL j ∧ mL j ≤ 5) (hmS : ∀ j, 0 ≤ mS j ∧ mS j ≤ 100000000) (hmV : ∀ j, 0 ≤ mV j ∧ mV j ≤ 9990000) (hmN : ∀ j, 0 ≤ mN j ∧ mN j ≤ 5000) (hmE : ∀ j, 0 ≤ mE j ∧ mE j ≤ 1000) (hmDs : ∀ a, 0 ≤ smI (fun k => mD (8 * a + k)) 8 ∧ smI (fun k => mD (8 * a + k)) 8 ≤ 100000000) (hsv : 1 ≤ sv ∧ sv ≤ 100) (hdy : dy < 1000000) (hzs : -2147483648 ≤ zs ∧ zs < 2147483648) (hzi : -2147483648 ≤ zi ∧ zi < 2147483648) : Met l yX6_need ws_X6_need ({ frames := 3, cells := 0, slots := 0, locals := 65 }) (va_Pc [.ref km, .int (iI (zs)), .int (iI (zi))] (PC D cs [(km, .inr (6, [.int (iI (th)), .int (iI (((sh : Nat) : Int))), .int (iI (((it : Nat) : Int))), .int (iI (((dy : Nat) : Int))), .int (iI (lc)), .int (iI (sv)), .int (iI (lr)), .int (iI (sr)), .ref pL, .ref pP, .ref pC, .ref pI, .ref pM, .ref pS, .ref pV, .ref pN, .ref pE, .ref pA, .ref pO, .ref pT, .ref pD, .ref pG, .ref pW])), (pI, arZ cs 20 mI), (pL, arI cs 4 mL), (pS, arI cs 20 mS), (pV, arI cs 20 mV), (pN, arI cs 140 mN), (pE, arI cs 420 mE), (pD, arI cs 160 mD)])) (va_Qi (fun r (_ : Unit) => r = iI (if cdM sh it mI zs zi = 0 then (fcI (mV ((5 * zs + zi).toNat)) (fun w => mN (7 * ((5 * zs + zi).toNat) + w)) dy (((mL ((5 * zs + zi).toNat / 5)).toNat) + 1) + 999) / 1000 + sfI (fun k => mE (21 * ((5 * zs + zi).toNat) + k)) (smI (fun k => mE (21 * ((5 * zs + zi).toNat) + k)) 21) sv 0 21 - mS ((5 * zs + zi).toNat) - smI (fun k => mD (8 * ((5 * zs + zi).toNat) + k)) 8 else 0)) (fun _ t => va_P D vwCl [(km, .inr (6, [.int (iI ((((cdM sh it mI zs zi) : Nat) : Int))), .int (iI (((sh : Nat) : Int))), .int (iI (((it : Nat) : Int))), .int (iI (((dy : Nat) : Int))), .int (iI (lc)), .int (iI (sv)), .int (iI (lr)), .int (iI (sr)), .ref pL, .ref pP, .ref pC, .ref pI, .ref pM, .ref pS, .ref pV, .ref pN, .ref pE, .ref pA, .ref pO, .ref pT, .ref pD, .ref pG, .ref pW])), (pI, arZ cs 20 mI), (pL, arI cs 4 mL), (pS, arI cs 20 mS), (pV, arI cs 20 mV), (pN, arI cs 140 mN), (pE, arI cs 420 mE), (pD, arI cs 160 mD)] t.heap) (inW [(km, .inr (6, [.int (iI (th)), .int (iI (((sh : Nat) : Int))), .int (iI (((it : Nat) : Int))), .int (iI (((dy : Nat) : Int))), .int (iI (lc)), .int (iI (sv)), .int (iI (lr)), .int (iI (sr)), .ref pL, .ref pP, .ref pC, .ref pI, .ref pM, .ref pS, .ref pV, .ref pN, .ref pE, .ref pA, .ref pO, .ref pT, .ref pD, .ref pG, .ref pW])), (pI, arZ cs 20 mI), (pL, arI cs 4 mL), (pS, arI cs 20 mS), (pV, arI cs 20 mV), (pN, arI cs 140 mN), (pE, arI cs 420 mE), (pD, arI cs 160 mD)])) 0 0 (inW [(km, .inr (6, [.int (iI (th)), .int (iI (((sh : Nat) : Int))), .int (iI (((it : Nat) : Int))), .int (iI (((dy : Nat) : Int))), .int (iI (lc)), .int (iI (sv)), .int (iI (lr)), .int (iI (sr)), .ref pL, .ref pP, .ref pC, .ref pI, .ref pM, .ref pS, .ref pV, .ref pN, .ref pE, .ref pA, .ref pO, .ref pT, .ref pD, .ref pG, .ref pW])), (pI, arZ cs 20 mI), (pL, arI cs 4 mL), (pS, arI cs 20 mS), (pV, arI cs 20 mV), (pN, arI cs 140 mN), (pE, arI cs 420 mE), (pD, arI cs 160 mD)]) := by
  refine Met.ofW (cc := cX6_need) (maxL := 3) (ret := (some .int)) (by decide +kernel) rfl ?_
  intro p e s m args below meth c s₁ B hml hv
  obtain ⟨rfl, hP, hK, hD, hN⟩ := hv
  have hx := B.exec
  have hb := B.bytes
  have hr := B.returns
  have hts : ∀ w ∈ ALL, w.before _ s = true := fun w h => atoms_spec (ws := ws_X6_need) B.pre w (List.mem_cons_of_mem _ h)
  have hown : s.vm.findClass RX6 = some m.cls := findClass_of_methodNamed B.named
  have hlocks := B.notSynchronized
  generalize hAe : inW [(km, .inr (6, [.int (iI (th)), .int (iI (((sh : Nat) : Int))), .int (iI (((it : Nat) : Int))), .int (iI (((dy : Nat) : Int))), .int (iI (lc)), .int (iI (sv)), .int (iI (lr)), .int (iI (sr)), .ref pL, .ref pP, .ref pC, .ref pI, .ref pM, .ref pS, .ref pV, .ref pN, .ref pE, .ref pA, .ref pO, .ref pT, .ref pD, .ref pG, .ref pW])), (pI, arZ cs 20 mI), (pL, arI cs 4 mL), (pS, arI cs 20 mS), (pV, arI cs 20 mV), (pN, arI cs 140 mN), (pE, arI cs 420 mE), (pD, arI cs 160 mD)] = A at hD ⊢
  have hS : va_S A s.heap s.heap [] := va_S.rf
  have hl := lv_entry ([.ref km, .int (iI (zs)), .int (iI (zi))]) (n := 3) (Nat.le_of_ble_eq_true rfl)
  rw [lg_entry_eq]
  generalize (lg_sl ([.ref km, .int (iI (zs)), .int (iI (zi))]) ++ List.replicate (3 - (lg_sl ([.ref km, .int (iI (zs)), .int (iI (zi))])).length) Slot.unset).toArray = ls at hl ⊢
  have hl : lv_has ls 3 [(0, .ref km), (1, .int (iI (zs))), (2, .int (iI (zi)))] := hl
  have hH := rfl (a := s.heap)
  refine lv_aload_n hx hb dX6_need_0 rfl (lv_at hl 0 rfl) ?_
  refine lv_iload_n hx hb dX6_need_1 rfl (lv_at hl 1 rfl) ?_
  refine lv_iload_n hx hb dX6_need_2 rfl (lv_at hl 2 rfl) ?_
  have pk1 : picks [(km, .inr (6, [.int (iI (th)), .int (iI (((sh : Nat) : Int))), .int (iI (((it : Nat) : Int))), .int (iI (((dy : Nat) : Int))), .int (iI (lc)), .int (iI (sv)), .int (iI (lr)), .int (iI (sr)), .ref pL, .ref pP, .ref pC, .ref pI, .ref pM, .ref pS, .ref pV, .ref pN, .ref pE, .ref pA, .ref pO, .ref pT, .ref pD, .ref pG, .ref pW])), (pI, arZ cs 20 mI), (pL, arI cs 4 mL), (pS, arI cs 20 mS), (pV, arI cs 20 mV), (pN, arI cs 140 mN), (pE, arI cs 420 mE), (pD, arI cs 160 mD)] [0, 1] [(km, .inr (6, [.int (iI (th)), .int (iI (((sh : Nat) : Int))), .int (iI (((it : Nat) : Int))), .int (iI (((dy : Nat) : Int))), .int (iI (lc)), .int (iI (sv)), .int (iI (lr)), .int (iI (sr)), .ref pL, .ref pP, .ref pC, .ref pI, .ref pM, .ref pS, .ref pV, .ref pN, .ref pE, .ref pA, .ref pO, .ref pT, .ref pD, .ref pG, .ref pW])), (pI, arZ cs 20 mI)] := ⟨rfl, rfl, trivial⟩
  refine va_calli (va_runV (As := [.int (iI (zs)), .int (iI (zi))]) (rest := []) ⟨hx, hb, hml, hown, hts⟩ (m_X6_isLine l D cs km pL pP pC pI pM pS pV pN pE pA pO pT pD pG pW sh it th dy lc sv lr sr mI zs zi (by assumption) (by assumption) (by assumption) (by omega) (by omega)) (cwV 2 hts (gV w_932 w_934 w_p19 w_5 w_935) rfl rfl rfl (by decide +kernel) ⟨Nat.le_of_ble_eq_true rfl, Nat.le_of_ble_eq_true rfl⟩) (PC_V hK hN hP hD [0, 1] rfl pk1 rfl rfl) rfl rfl hl.1 rfl (lv_room (Nat.le_of_ble_eq_true rfl)) dX6_need_3 ⟨Nat.le_of_ble_eq_true rfl, Nat.le_of_ble_eq_true rfl⟩) hS (fun q _ h => inW_sub hD [0, 1] pk1 q h) (fun q h => inW_sub hD [0, 1] pk1 q h) (fun r u t H locs ht hvm hw hB hz1 hk1 hS => ?_)
  subst hw
  rw [ht] at hB
  obtain ⟨hP, hD⟩ := my_join (W1 := [(km, .inr (6, [.int (iI (((cdM sh it mI zs zi : Nat) : Int))), .int (iI (((sh : Nat) : Int))), .int (iI (((it : Nat) : Int))), .int (iI (((dy : Nat) : Int))), .int (iI (lc)), .int (iI (sv)), .int (iI (lr)), .int (iI (sr)), .ref pL, .ref pP, .ref pC, .ref pI, .ref pM, .ref pS, .ref pV, .ref pN, .ref pE, .ref pA, .ref pO, .ref pT, .ref pD, .ref pG, .ref pW])), (pI, arZ cs 20 mI)]) hP hD [0, 1] rfl pk1 rfl hk1 hB
  have hP : va_P D vwCl [(km, .inr (6, [.int (iI (((cdM sh it mI zs zi : Nat) : Int))), .int (iI (((sh : Nat) : Int))), .int (iI (((it : Nat) : Int))), .int (iI (((dy : Nat) : Int))), .int (iI (lc)), .int (iI (sv)), .int (iI (lr)), .int (iI (sr)), .ref pL, .ref pP, .ref pC, .ref pI, .ref pM, .ref pS, .ref pV, .ref pN, .ref pE, .ref pA, .ref pO, .ref pT, .ref pD, .ref pG, .ref pW])), (pI, arZ cs 20 mI), (pL, arI cs 4 mL), (pS, arI cs 20 mS), (pV, arI cs 20 mV), (pN, arI cs 140 mN), (pE, arI cs 420 mE), (pD, arI cs 160 mD)] H := hP
  have hD : va_D A [(km, .inr (6, [.int (iI (((cdM sh it mI zs zi : Nat) : Int))), .int (iI (((sh : Nat) : Int))), .int (iI (((it : Nat) : Int))), .int (iI (((dy : Nat) : Int))), .int (iI (lc)), .int (iI (sv)), .int (iI (lr)), .int (iI (sr)), .ref pL, .ref pP, .ref pC, .ref pI, .ref pM, .ref pS, .ref pV, .ref pN, .ref pE, .ref pA, .ref pO, .ref pT, .ref pD, .ref pG, .ref pW])), (pI, arZ cs 20 mI), (pL, arI cs 4 mL), (pS, arI cs 20 mS), (pV, arI cs 20 mV), (pN, arI cs 140 mN), (pE, arI cs 420 mE), (pD, arI cs 160 mD)] := hD
  have hcm := cdM_s sh it mI zs zi
  have hbb := b01_s (cdM sh it mI zs zi)
  refine my_if_eq (tgt := 21) hx hb (by omega) dX6_need_6 (by decide) (fun b2 => ?_) (fun b2 => ?_)
  · refine lv_iconst (v := iI (0)) hx hb dX6_need_21 rfl ?_
    have hWe : ([(km, .inr (6, [.int (iI (((cdM sh it mI zs zi : Nat) : Int))), .int (iI (((sh : Nat) : Int))), .int (iI (((it : Nat) : Int))), .int (iI (((dy : Nat) : Int))), .int (iI (lc)), .int (iI (sv)), .int (iI (lr)), .int (iI (sr)), .ref pL, .ref pP, .ref pC, .ref pI, .ref pM, .ref pS, .ref pV, .ref pN, .ref pE, .ref pA, .ref pO, .ref pT, .ref pD, .ref pG, .ref pW])), (pI, arZ cs 20 mI), (pL, arI cs 4 mL), (pS, arI cs 20 mS), (pV, arI cs 20 mV), (pN, arI cs 140 mN), (pE, arI cs 420 mE), (pD, arI cs 160 mD)] : va_W) = [(km, .inr (6, [.int (iI ((((cdM sh it mI zs zi) : Nat) : Int))), .int (iI (((sh : Nat) : Int))), .int (iI (((it : Nat) : Int))), .int (iI (((dy : Nat) : Int))), .int (iI (lc)), .int (iI (sv)), .int (iI (lr)), .int (iI (sr)), .ref pL, .ref pP, .ref pC, .ref pI, .ref pM, .ref pS, .ref pV, .ref pN, .ref pE, .ref pA, .ref pO, .ref pT, .ref pD, .ref pG, .ref pW])), (pI, arZ cs 20 mI), (pL, arI cs 4 mL), (pS, arI cs 20 mS), (pV, arI cs 20 mV), (pN, arI cs 140 mN), (pE, arI cs 420 mE), (pD, arI cs 160 mD)] := by
      first | rfl | (congr 1; omega)
    rw [hWe] at hP
    subst hAe
    have hres : iI (0) = iI (if cdM sh it mI zs zi = 0 then (fcI (mV ((5 * zs + zi).toNat)) (fun w => mN (7 * ((5 * zs + zi).toNat) + w)) dy (((mL ((5 * zs + zi).toNat / 5)).toNat) + 1) + 999) / 1000 + sfI (fun k => mE (21 * ((5 * zs + zi).toNat) + k)) (smI (fun k => mE (21 * ((5 * zs + zi).toNat) + k)) 21) sv 0 21 - mS ((5 * zs + zi).toNat) - smI (fun k => mD (8 * ((5 * zs + zi).toNat) + k)) 8 else 0) := congrArg iI (by
        first | rw [if_pos (by omega)] | rw [if_neg (by omega)])
    exact W.iret hx hb hr (fun t ht hW => ⟨⟨_, (), rfl, hres, by show va_P D vwCl _ t.heap; rw [ht]; exact hP⟩, hS.F ht⟩) hS.2.2 dX6_need_22
  · refine lv_aload_n hx hb dX6_need_9 rfl (lv_at hl 0 rfl) ?_
    refine lv_iconst (v := iI (5)) hx hb dX6_need_10 rfl ?_
    refine lv_iload_n hx hb dX6_need_11 rfl (lv_at hl 1 rfl) ?_
    refine my_imul (z := 5 * zs) hx hb dX6_need_12 (rfl) ?_
    refine lv_iload_n hx hb dX6_need_13 rfl (lv_at hl 2 rfl) ?_
    refine my_iadd (z := (5 * zs) + zi) hx hb dX6_need_14 (rfl) ?_
    refine my_cv0 (z := ((((5 * zs + zi).toNat) : Nat) : Int)) (by omega) ?_
    have pk3 : picks [(km, .inr (6, [.int (iI (((cdM sh it mI zs zi : Nat) : Int))), .int (iI (((sh : Nat) : Int))), .int (iI (((it : Nat) : Int))), .int (iI (((dy : Nat) : Int))), .int (iI (lc)), .int (iI (sv)), .int (iI (lr)), .int (iI (sr)), .ref pL, .ref pP, .ref pC, .ref pI, .ref pM, .ref pS, .ref pV, .ref pN, .ref pE, .ref pA, .ref pO, .ref pT, .ref pD, .ref pG, .ref pW])), (pI, arZ cs 20 mI), (pL, arI cs 4 mL), (pS, arI cs 20 mS), (pV, arI cs 20 mV), (pN, arI cs 140 mN), (pE, arI cs 420 mE), (pD, arI cs 160 mD)] [0, 2, 3, 4, 5, 6, 7] [(km, .inr (6, [.int (iI (((cdM sh it mI zs zi : Nat) : Int))), .int (iI (((sh : Nat) : Int))), .int (iI (((it : Nat) : Int))), .int (iI (((dy : Nat) : Int))), .int (iI (lc)), .int (iI (sv)), .int (iI (lr)), .int (iI (sr)), .ref pL, .ref pP, .ref pC, .ref pI, .ref pM, .ref pS, .ref pV, .ref pN, .ref pE, .ref pA, .ref pO, .ref pT, .ref pD, .ref pG, .ref pW])), (pL, arI cs 4 mL), (pS, arI cs 20 mS), (pV, arI cs 20 mV), (pN, arI cs 140 mN), (pE, arI cs 420 mE), (pD, arI cs 160 mD)] := ⟨rfl, rfl, rfl, rfl, rfl, rfl, rfl, trivial⟩
    refine va_calli (va_runV (As := [.int (iI (((((5 * zs + zi).toNat) : Nat) : Int)))]) (rest := []) ⟨hx, hb, hml, hown, hts⟩ (m_X6_needOf l D cs km pL pP pC pI pM pS pV pN pE pA pO pT pD pG pW sh it ((cdM sh it mI zs zi : Nat) : Int) dy lc sv lr sr mL mS mV mN mE mD ((5 * zs + zi).toNat) ((mL (((5 * zs + zi).toNat) / 5)).toNat) (hmV) (hmN) (hmE) (by omega) (hsv) (by omega) (by have := hmL ((5 * zs + zi).toNat / 5); omega) (by have := hmL ((5 * zs + zi).toNat / 5); omega) (hmS _) (hmDs _)) (cwV 1 hts (gV w_962 w_964 w_p24 w_5 w_965) rfl rfl rfl (by decide +kernel) ⟨Nat.le_of_ble_eq_true rfl, Nat.le_of_ble_eq_true rfl⟩) (PC_V hK hN hP hD [0, 2, 3, 4, 5, 6, 7] rfl pk3 rfl rfl) rfl rfl hl.1 rfl (lv_room (Nat.le_of_ble_eq_true rfl)) dX6_need_15 ⟨Nat.le_of_ble_eq_true rfl, Nat.le_of_ble_eq_true rfl⟩) hS (fun _ _ h => False.elim h) (fun _ h => False.elim h) (fun r u t H locs ht hvm hw hB hz1 hk1 hS => ?_)
    subst hw
    have hP := P_kept hP hk1
    refine lv_goto (tgt := 22) hx hb dX6_need_18 (by decide) ?_
    have hWe : ([(km, .inr (6, [.int (iI (((cdM sh it mI zs zi : Nat) : Int))), .int (iI (((sh : Nat) : Int))), .int (iI (((it : Nat) : Int))), .int (iI (((dy : Nat) : Int))), .int (iI (lc)), .int (iI (sv)), .int (iI (lr)), .int (iI (sr)), .ref pL, .ref pP, .ref pC, .ref pI, .ref pM, .ref pS, .ref pV, .ref pN, .ref pE, .ref pA, .ref pO, .ref pT, .ref pD, .ref pG, .ref pW])), (pI, arZ cs 20 mI), (pL, arI cs 4 mL), (pS, arI cs 20 mS), (pV, arI cs 20 mV), (pN, arI cs 140 mN), (pE, arI cs 420 mE), (pD, arI cs 160 mD)] : va_W) = [(km, .inr (6, [.int (iI ((((cdM sh it mI zs zi) : Nat) : Int))), .int (iI (((sh : Nat) : Int))), .int (iI (((it : Nat) : Int))), .int (iI (((dy : Nat) : Int))), .int (iI (lc)), .int (iI (sv)), .int (iI (lr)), .int (iI (sr)), .ref pL, .ref pP, .ref pC, .ref pI, .ref pM, .ref pS, .ref pV, .ref pN, .ref pE, .ref pA, .ref pO, .ref pT, .ref pD, .ref pG, .ref pW])), (pI, arZ cs 20 mI), (pL, arI cs 4 mL), (pS, arI cs 20 mS), (pV, arI cs 20 mV), (pN, arI cs 140 mN), (pE, arI cs 420 mE), (pD, arI cs 160 mD)] := by
      first | rfl | (congr 1; omega)
    rw [hWe] at hP
    subst hAe
    have hres : iI ((fcI (mV ((5 * zs + zi).toNat)) (fun w => mN (7 * ((5 * zs + zi).toNat) + w)) dy (((mL (((5 * zs + zi).toNat) / 5)).toNat) + 1) + 999) / 1000 + sfI (fun k => mE (21 * ((5 * zs + zi).toNat) + k)) (smI (fun k => mE (21 * ((5 * zs + zi).toNat) + k)) 21) sv 0 21 - mS ((5 * zs + zi).toNat) - smI (fun k => mD (8 * ((5 * zs + zi).toNat) + k)) 8) = iI (if cdM sh it mI zs zi = 0 then (fcI (mV ((5 * zs + zi).toNat)) (fun w => mN (7 * ((5 * zs + zi).toNat) + w)) dy (((mL ((5 * zs + zi).toNat / 5)).toNat) + 1) + 999) / 1000 + sfI (fun k => mE (21 * ((5 * zs + zi).toNat) + k)) (smI (fun k => mE (21 * ((5 * zs + zi).toNat) + k)) 21) sv 0 21 - mS ((5 * zs + zi).toNat) - smI (fun k => mD (8 * ((5 * zs + zi).toNat) + k)) 8 else 0) := congrArg iI (by
        first | rw [if_pos (by omega)] | rw [if_neg (by omega)])
    exact W.iret hx hb hr (fun t ht hW => ⟨⟨_, (), rfl, hres, by show va_P D vwCl _ t.heap; rw [ht]; exact hP⟩, hS.F ht⟩) hS.2.2 dX6_need_22

abbrev ws_X6_request : List Cond := Cond.code yX6_request cX6_request 3 (some .int) :: ALL
set_option maxHeartbeats 4000000 in
set_option maxRecDepth 100000 in
theorem m_X6_request (l : Launch) (D : va_G) (cs : Nat → ClassId) (km pL pP pC pI pM pS pV pN pE pA pO pT pD pG pW sh it : Nat) (th : Int) (dy : Nat) (lc sv lr sr : Int) (mI : Nat → Int) (mL : Nat → Int) (mP : Nat → Int) (mS : Nat → Int) (mV : Nat → Int) (mN : Nat → Int) (mE : Nat → Int) (mD : Nat → Int) (zs zi : Int) (hsh : sh ≤ 4) (hit : it ≤ 5) (hmI : ∀ j, 0 ≤ mI j ∧ mI j ≤ 1) (hmL : ∀ j, 0 ≤ mL j ∧ mL j ≤ 5) (hmS : ∀ j, 0 ≤ mS j ∧ mS j ≤ 100000000) (hmV : ∀ j, 0 ≤ mV j ∧ mV j ≤ 9990000) (hmN : ∀ j, 0 ≤ mN j ∧ mN j ≤ 5000) (hmE : ∀ j, 0 ≤ mE j ∧ mE j ≤ 1000) (hmDs : ∀ a, 0 ≤ smI (fun k => mD (8 * a + k)) 8 ∧ smI (fun k => mD (8 * a + k)) 8 ≤ 100000000) (hsv : 1 ≤ sv ∧ sv ≤ 100) (hdy : dy < 1000000) (hmP : ∀ i, i < it → 0 < mP i ∧ mP i ≤ 50) (hzs : -2147483648 ≤ zs ∧ zs < 2147483648) (hzi : -2147483648 ≤ zi ∧ zi < 2147483648) : Met l yX6_request ws_X6_request ({ frames := 3, cells := 0, slots := 0, locals := 70 }) (va_Pc [.ref km, .int (iI (zs)), .int (iI (zi))] (PC D cs [(km, .inr (6, [.int (iI (th)), .int (iI (((sh : Nat) : Int))), .int (iI (((it : Nat) : Int))), .int (iI (((dy : Nat) : Int))), .int (iI (lc)), .int (iI (sv)), .int (iI (lr)), .int (iI (sr)), .ref pL, .ref pP, .ref pC, .ref pI, .ref pM, .ref pS, .ref pV, .ref pN, .ref pE, .ref pA, .ref pO, .ref pT, .ref pD, .ref pG, .ref pW])), (pI, arZ cs 20 mI), (pL, arI cs 4 mL), (pP, arI cs 5 mP), (pS, arI cs 20 mS), (pV, arI cs 20 mV), (pN, arI cs 140 mN), (pE, arI cs 420 mE), (pD, arI cs 160 mD)])) (va_Qi (fun r (_ : Unit) => r = iI (if cdM sh it mI zs zi = 0 then rqI ((fcI (mV ((5 * zs + zi).toNat)) (fun w => mN (7 * ((5 * zs + zi).toNat) + w)) dy (((mL ((5 * zs + zi).toNat / 5)).toNat) + 1) + 999) / 1000 + sfI (fun k => mE (21 * ((5 * zs + zi).toNat) + k)) (smI (fun k => mE (21 * ((5 * zs + zi).toNat) + k)) 21) sv 0 21 - mS ((5 * zs + zi).toNat) - smI (fun k => mD (8 * ((5 * zs + zi).toNat) + k)) 8) (mP ((5 * zs + zi).toNat % 5)) else 0)) (fun _ t => va_P D vwCl [(km, .inr (6, [.int (iI ((((cdM sh it mI zs zi) : Nat) : Int))), .int (iI (((sh : Nat) : Int))), .int (iI (((it : Nat) : Int))), .int (iI (((dy : Nat) : Int))), .int (iI (lc)), .int (iI (sv)), .int (iI (lr)), .int (iI (sr)), .ref pL, .ref pP, .ref pC, .ref pI, .ref pM, .ref pS, .ref pV, .ref pN, .ref pE, .ref pA, .ref pO, .ref pT, .ref pD, .ref pG, .ref pW])), (pI, arZ cs 20 mI), (pL, arI cs 4 mL), (pP, arI cs 5 mP), (pS, arI cs 20 mS), (pV, arI cs 20 mV), (pN, arI cs 140 mN), (pE, arI cs 420 mE), (pD, arI cs 160 mD)] t.heap) (inW [(km, .inr (6, [.int (iI (th)), .int (iI (((sh : Nat) : Int))), .int (iI (((it : Nat) : Int))), .int (iI (((dy : Nat) : Int))), .int (iI (lc)), .int (iI (sv)), .int (iI (lr)), .int (iI (sr)), .ref pL, .ref pP, .ref pC, .ref pI, .ref pM, .ref pS, .ref pV, .ref pN, .ref pE, .ref pA, .ref pO, .ref pT, .ref pD, .ref pG, .ref pW])), (pI, arZ cs 20 mI), (pL, arI cs 4 mL), (pP, arI cs 5 mP), (pS, arI cs 20 mS), (pV, arI cs 20 mV), (pN, arI cs 140 mN), (pE, arI cs 420 mE), (pD, arI cs 160 mD)])) 0 0 (inW [(km, .inr (6, [.int (iI (th)), .int (iI (((sh : Nat) : Int))), .int (iI (((it : Nat) : Int))), .int (iI (((dy : Nat) : Int))), .int (iI (lc)), .int (iI (sv)), .int (iI (lr)), .int (iI (sr)), .ref pL, .ref pP, .ref pC, .ref pI, .ref pM, .ref pS, .ref pV, .ref pN, .ref pE, .ref pA, .ref pO, .ref pT, .ref pD, .ref pG, .ref pW])), (pI, arZ cs 20 mI), (pL, arI cs 4 mL), (pP, arI cs 5 mP), (pS, arI cs 20 mS), (pV, arI cs 20 mV), (pN, arI cs 140 mN), (pE, arI cs 420 mE), (pD, arI cs 160 mD)]) := by
  refine Met.ofW (cc := cX6_request) (maxL := 3) (ret := (some .int)) (by decide +kernel) rfl ?_
  intro p e s m args below meth c s₁ B hml hv
  obtain ⟨rfl, hP, hK, hD, hN⟩ := hv
  have hx := B.exec
  have hb := B.bytes
  have hr := B.returns
  have hts : ∀ w ∈ ALL, w.before _ s = true := fun w h => atoms_spec (ws := ws_X6_request) B.pre w (List.mem_cons_of_mem _ h)
  have hown : s.vm.findClass RX6 = some m.cls := findClass_of_methodNamed B.named
  have hlocks := B.notSynchronized
  generalize hAe : inW [(km, .inr (6, [.int (iI (th)), .int (iI (((sh : Nat) : Int))), .int (iI (((it : Nat) : Int))), .int (iI (((dy : Nat) : Int))), .int (iI (lc)), .int (iI (sv)), .int (iI (lr)), .int (iI (sr)), .ref pL, .ref pP, .ref pC, .ref pI, .ref pM, .ref pS, .ref pV, .ref pN, .ref pE, .ref pA, .ref pO, .ref pT, .ref pD, .ref pG, .ref pW])), (pI, arZ cs 20 mI), (pL, arI cs 4 mL), (pP, arI cs 5 mP), (pS, arI cs 20 mS), (pV, arI cs 20 mV), (pN, arI cs 140 mN), (pE, arI cs 420 mE), (pD, arI cs 160 mD)] = A at hD ⊢
  have hS : va_S A s.heap s.heap [] := va_S.rf
  have hl := lv_entry ([.ref km, .int (iI (zs)), .int (iI (zi))]) (n := 3) (Nat.le_of_ble_eq_true rfl)
  rw [lg_entry_eq]
  generalize (lg_sl ([.ref km, .int (iI (zs)), .int (iI (zi))]) ++ List.replicate (3 - (lg_sl ([.ref km, .int (iI (zs)), .int (iI (zi))])).length) Slot.unset).toArray = ls at hl ⊢
  have hl : lv_has ls 3 [(0, .ref km), (1, .int (iI (zs))), (2, .int (iI (zi)))] := hl
  have hH := rfl (a := s.heap)
  refine lv_aload_n hx hb dX6_request_0 rfl (lv_at hl 0 rfl) ?_
  refine lv_iload_n hx hb dX6_request_1 rfl (lv_at hl 1 rfl) ?_
  refine lv_iload_n hx hb dX6_request_2 rfl (lv_at hl 2 rfl) ?_
  have pk1 : picks [(km, .inr (6, [.int (iI (th)), .int (iI (((sh : Nat) : Int))), .int (iI (((it : Nat) : Int))), .int (iI (((dy : Nat) : Int))), .int (iI (lc)), .int (iI (sv)), .int (iI (lr)), .int (iI (sr)), .ref pL, .ref pP, .ref pC, .ref pI, .ref pM, .ref pS, .ref pV, .ref pN, .ref pE, .ref pA, .ref pO, .ref pT, .ref pD, .ref pG, .ref pW])), (pI, arZ cs 20 mI), (pL, arI cs 4 mL), (pP, arI cs 5 mP), (pS, arI cs 20 mS), (pV, arI cs 20 mV), (pN, arI cs 140 mN), (pE, arI cs 420 mE), (pD, arI cs 160 mD)] [0, 1] [(km, .inr (6, [.int (iI (th)), .int (iI (((sh : Nat) : Int))), .int (iI (((it : Nat) : Int))), .int (iI (((dy : Nat) : Int))), .int (iI (lc)), .int (iI (sv)), .int (iI (lr)), .int (iI (sr)), .ref pL, .ref pP, .ref pC, .ref pI, .ref pM, .ref pS, .ref pV, .ref pN, .ref pE, .ref pA, .ref pO, .ref pT, .ref pD, .ref pG, .ref pW])), (pI, arZ cs 20 mI)] := ⟨rfl, rfl, trivial⟩
  refine va_calli (va_runV (As := [.int (iI (zs)), .int (iI (zi))]) (rest := []) ⟨hx, hb, hml, hown, hts⟩ (m_X6_isLine l D cs km pL pP pC pI pM pS pV pN pE pA pO pT pD pG pW sh it th dy lc sv lr sr mI zs zi (by assumption) (by assumption) (by assumption) (by omega) (by omega)) (cwV 2 hts (gV w_932 w_934 w_p19 w_5 w_935) rfl rfl rfl (by decide +kernel) ⟨Nat.le_of_ble_eq_true rfl, Nat.le_of_ble_eq_true rfl⟩) (PC_V hK hN hP hD [0, 1] rfl pk1 rfl rfl) rfl rfl hl.1 rfl (lv_room (Nat.le_of_ble_eq_true rfl)) dX6_request_3 ⟨Nat.le_of_ble_eq_true rfl, Nat.le_of_ble_eq_true rfl⟩) hS (fun q _ h => inW_sub hD [0, 1] pk1 q h) (fun q h => inW_sub hD [0, 1] pk1 q h) (fun r u t H locs ht hvm hw hB hz1 hk1 hS => ?_)
  subst hw
  rw [ht] at hB
  obtain ⟨hP, hD⟩ := my_join (W1 := [(km, .inr (6, [.int (iI (((cdM sh it mI zs zi : Nat) : Int))), .int (iI (((sh : Nat) : Int))), .int (iI (((it : Nat) : Int))), .int (iI (((dy : Nat) : Int))), .int (iI (lc)), .int (iI (sv)), .int (iI (lr)), .int (iI (sr)), .ref pL, .ref pP, .ref pC, .ref pI, .ref pM, .ref pS, .ref pV, .ref pN, .ref pE, .ref pA, .ref pO, .ref pT, .ref pD, .ref pG, .ref pW])), (pI, arZ cs 20 mI)]) hP hD [0, 1] rfl pk1 rfl hk1 hB
  have hP : va_P D vwCl [(km, .inr (6, [.int (iI (((cdM sh it mI zs zi : Nat) : Int))), .int (iI (((sh : Nat) : Int))), .int (iI (((it : Nat) : Int))), .int (iI (((dy : Nat) : Int))), .int (iI (lc)), .int (iI (sv)), .int (iI (lr)), .int (iI (sr)), .ref pL, .ref pP, .ref pC, .ref pI, .ref pM, .ref pS, .ref pV, .ref pN, .ref pE, .ref pA, .ref pO, .ref pT, .ref pD, .ref pG, .ref pW])), (pI, arZ cs 20 mI), (pL, arI cs 4 mL), (pP, arI cs 5 mP), (pS, arI cs 20 mS), (pV, arI cs 20 mV), (pN, arI cs 140 mN), (pE, arI cs 420 mE), (pD, arI cs 160 mD)] H := hP
  have hD : va_D A [(km, .inr (6, [.int (iI (((cdM sh it mI zs zi : Nat) : Int))), .int (iI (((sh : Nat) : Int))), .int (iI (((it : Nat) : Int))), .int (iI (((dy : Nat) : Int))), .int (iI (lc)), .int (iI (sv)), .int (iI (lr)), .int (iI (sr)), .ref pL, .ref pP, .ref pC, .ref pI, .ref pM, .ref pS, .ref pV, .ref pN, .ref pE, .ref pA, .ref pO, .ref pT, .ref pD, .ref pG, .ref pW])), (pI, arZ cs 20 mI), (pL, arI cs 4 mL), (pP, arI cs 5 mP), (pS, arI cs 20 mS), (pV, arI cs 20 mV), (pN, arI cs 140 mN), (pE, arI cs 420 mE), (pD, arI cs 160 mD)] := hD
  have hcm := cdM_s sh it mI zs zi
  have hbb := b01_s (cdM sh it mI zs zi)
  refine my_if_eq (tgt := 21) hx hb (by omega) dX6_request_6 (by decide) (fun b2 => ?_) (fun b2 => ?_)
  · refine lv_iconst (v := iI (0)) hx hb dX6_request_21 rfl ?_
    have hWe : ([(km, .inr (6, [.int (iI (((cdM sh it mI zs zi : Nat) : Int))), .int (iI (((sh : Nat) : Int))), .int (iI (((it : Nat) : Int))), .int (iI (((dy : Nat) : Int))), .int (iI (lc)), .int (iI (sv)), .int (iI (lr)), .int (iI (sr)), .ref pL, .ref pP, .ref pC, .ref pI, .ref pM, .ref pS, .ref pV, .ref pN, .ref pE, .ref pA, .ref pO, .ref pT, .ref pD, .ref pG, .ref pW])), (pI, arZ cs 20 mI), (pL, arI cs 4 mL), (pP, arI cs 5 mP), (pS, arI cs 20 mS), (pV, arI cs 20 mV), (pN, arI cs 140 mN), (pE, arI cs 420 mE), (pD, arI cs 160 mD)] : va_W) = [(km, .inr (6, [.int (iI ((((cdM sh it mI zs zi) : Nat) : Int))), .int (iI (((sh : Nat) : Int))), .int (iI (((it : Nat) : Int))), .int (iI (((dy : Nat) : Int))), .int (iI (lc)), .int (iI (sv)), .int (iI (lr)), .int (iI (sr)), .ref pL, .ref pP, .ref pC, .ref pI, .ref pM, .ref pS, .ref pV, .ref pN, .ref pE, .ref pA, .ref pO, .ref pT, .ref pD, .ref pG, .ref pW])), (pI, arZ cs 20 mI), (pL, arI cs 4 mL), (pP, arI cs 5 mP), (pS, arI cs 20 mS), (pV, arI cs 20 mV), (pN, arI cs 140 mN), (pE, arI cs 420 mE), (pD, arI cs 160 mD)] := by
      first | rfl | (congr 1; omega)
    rw [hWe] at hP
    subst hAe
    have hres : iI (0) = iI (if cdM sh it mI zs zi = 0 then rqI ((fcI (mV ((5 * zs + zi).toNat)) (fun w => mN (7 * ((5 * zs + zi).toNat) + w)) dy (((mL ((5 * zs + zi).toNat / 5)).toNat) + 1) + 999) / 1000 + sfI (fun k => mE (21 * ((5 * zs + zi).toNat) + k)) (smI (fun k => mE (21 * ((5 * zs + zi).toNat) + k)) 21) sv 0 21 - mS ((5 * zs + zi).toNat) - smI (fun k => mD (8 * ((5 * zs + zi).toNat) + k)) 8) (mP ((5 * zs + zi).toNat % 5)) else 0) := congrArg iI (by
        first | rw [if_pos (by omega)] | rw [if_neg (by omega)])
    exact W.iret hx hb hr (fun t ht hW => ⟨⟨_, (), rfl, hres, by show va_P D vwCl _ t.heap; rw [ht]; exact hP⟩, hS.F ht⟩) hS.2.2 dX6_request_22
  · refine lv_aload_n hx hb dX6_request_9 rfl (lv_at hl 0 rfl) ?_
    refine lv_iconst (v := iI (5)) hx hb dX6_request_10 rfl ?_
    refine lv_iload_n hx hb dX6_request_11 rfl (lv_at hl 1 rfl) ?_
    refine my_imul (z := 5 * zs) hx hb dX6_request_12 (rfl) ?_
    refine lv_iload_n hx hb dX6_request_13 rfl (lv_at hl 2 rfl) ?_
    refine my_iadd (z := (5 * zs) + zi) hx hb dX6_request_14 (rfl) ?_
    refine my_cv0 (z := ((((5 * zs + zi).toNat) : Nat) : Int)) (by omega) ?_
    have pk3 : picks [(km, .inr (6, [.int (iI (((cdM sh it mI zs zi : Nat) : Int))), .int (iI (((sh : Nat) : Int))), .int (iI (((it : Nat) : Int))), .int (iI (((dy : Nat) : Int))), .int (iI (lc)), .int (iI (sv)), .int (iI (lr)), .int (iI (sr)), .ref pL, .ref pP, .ref pC, .ref pI, .ref pM, .ref pS, .ref pV, .ref pN, .ref pE, .ref pA, .ref pO, .ref pT, .ref pD, .ref pG, .ref pW])), (pI, arZ cs 20 mI), (pL, arI cs 4 mL), (pP, arI cs 5 mP), (pS, arI cs 20 mS), (pV, arI cs 20 mV), (pN, arI cs 140 mN), (pE, arI cs 420 mE), (pD, arI cs 160 mD)] [0, 2, 3, 4, 5, 6, 7, 8] [(km, .inr (6, [.int (iI (((cdM sh it mI zs zi : Nat) : Int))), .int (iI (((sh : Nat) : Int))), .int (iI (((it : Nat) : Int))), .int (iI (((dy : Nat) : Int))), .int (iI (lc)), .int (iI (sv)), .int (iI (lr)), .int (iI (sr)), .ref pL, .ref pP, .ref pC, .ref pI, .ref pM, .ref pS, .ref pV, .ref pN, .ref pE, .ref pA, .ref pO, .ref pT, .ref pD, .ref pG, .ref pW])), (pL, arI cs 4 mL), (pP, arI cs 5 mP), (pS, arI cs 20 mS), (pV, arI cs 20 mV), (pN, arI cs 140 mN), (pE, arI cs 420 mE), (pD, arI cs 160 mD)] := ⟨rfl, rfl, rfl, rfl, rfl, rfl, rfl, rfl, trivial⟩
    refine va_calli (va_runV (As := [.int (iI (((((5 * zs + zi).toNat) : Nat) : Int)))]) (rest := []) ⟨hx, hb, hml, hown, hts⟩ (m_X6_requestOf l D cs km pL pP pC pI pM pS pV pN pE pA pO pT pD pG pW sh it ((cdM sh it mI zs zi : Nat) : Int) dy lc sv lr sr mL mP mS mV mN mE mD ((5 * zs + zi).toNat) ((mL (((5 * zs + zi).toNat) / 5)).toNat) (hmV) (hmN) (hmE) (by omega) (hsv) (by omega) (by have := hmL ((5 * zs + zi).toNat / 5); omega) (by have := hmL ((5 * zs + zi).toNat / 5); omega) (hmS _) (hmDs _) (hmP _ (by omega))) (cwV 1 hts (gV w_958 w_960 w_p23 w_5 w_961) rfl rfl rfl (by decide +kernel) ⟨Nat.le_of_ble_eq_true rfl, Nat.le_of_ble_eq_true rfl⟩) (PC_V hK hN hP hD [0, 2, 3, 4, 5, 6, 7, 8] rfl pk3 rfl rfl) rfl rfl hl.1 rfl (lv_room (Nat.le_of_ble_eq_true rfl)) dX6_request_15 ⟨Nat.le_of_ble_eq_true rfl, Nat.le_of_ble_eq_true rfl⟩) hS (fun _ _ h => False.elim h) (fun _ h => False.elim h) (fun r u t H locs ht hvm hw hB hz1 hk1 hS => ?_)
    subst hw
    have hP := P_kept hP hk1
    refine lv_goto (tgt := 22) hx hb dX6_request_18 (by decide) ?_
    have hWe : ([(km, .inr (6, [.int (iI (((cdM sh it mI zs zi : Nat) : Int))), .int (iI (((sh : Nat) : Int))), .int (iI (((it : Nat) : Int))), .int (iI (((dy : Nat) : Int))), .int (iI (lc)), .int (iI (sv)), .int (iI (lr)), .int (iI (sr)), .ref pL, .ref pP, .ref pC, .ref pI, .ref pM, .ref pS, .ref pV, .ref pN, .ref pE, .ref pA, .ref pO, .ref pT, .ref pD, .ref pG, .ref pW])), (pI, arZ cs 20 mI), (pL, arI cs 4 mL), (pP, arI cs 5 mP), (pS, arI cs 20 mS), (pV, arI cs 20 mV), (pN, arI cs 140 mN), (pE, arI cs 420 mE), (pD, arI cs 160 mD)] : va_W) = [(km, .inr (6, [.int (iI ((((cdM sh it mI zs zi) : Nat) : Int))), .int (iI (((sh : Nat) : Int))), .int (iI (((it : Nat) : Int))), .int (iI (((dy : Nat) : Int))), .int (iI (lc)), .int (iI (sv)), .int (iI (lr)), .int (iI (sr)), .ref pL, .ref pP, .ref pC, .ref pI, .ref pM, .ref pS, .ref pV, .ref pN, .ref pE, .ref pA, .ref pO, .ref pT, .ref pD, .ref pG, .ref pW])), (pI, arZ cs 20 mI), (pL, arI cs 4 mL), (pP, arI cs 5 mP), (pS, arI cs 20 mS), (pV, arI cs 20 mV), (pN, arI cs 140 mN), (pE, arI cs 420 mE), (pD, arI cs 160 mD)] := by
      first | rfl | (congr 1; omega)
    rw [hWe] at hP
    subst hAe
    have hres : iI (rqI ((fcI (mV ((5 * zs + zi).toNat)) (fun w => mN (7 * ((5 * zs + zi).toNat) + w)) dy (((mL (((5 * zs + zi).toNat) / 5)).toNat) + 1) + 999) / 1000 + sfI (fun k => mE (21 * ((5 * zs + zi).toNat) + k)) (smI (fun k => mE (21 * ((5 * zs + zi).toNat) + k)) 21) sv 0 21 - mS ((5 * zs + zi).toNat) - smI (fun k => mD (8 * ((5 * zs + zi).toNat) + k)) 8) (mP (((5 * zs + zi).toNat) % 5))) = iI (if cdM sh it mI zs zi = 0 then rqI ((fcI (mV ((5 * zs + zi).toNat)) (fun w => mN (7 * ((5 * zs + zi).toNat) + w)) dy (((mL ((5 * zs + zi).toNat / 5)).toNat) + 1) + 999) / 1000 + sfI (fun k => mE (21 * ((5 * zs + zi).toNat) + k)) (smI (fun k => mE (21 * ((5 * zs + zi).toNat) + k)) 21) sv 0 21 - mS ((5 * zs + zi).toNat) - smI (fun k => mD (8 * ((5 * zs + zi).toNat) + k)) 8) (mP ((5 * zs + zi).toNat % 5)) else 0) := congrArg iI (by
        first | rw [if_pos (by omega)] | rw [if_neg (by omega)])
    exact W.iret hx hb hr (fun t ht hW => ⟨⟨_, (), rfl, hres, by show va_P D vwCl _ t.heap; rw [ht]; exact hP⟩, hS.F ht⟩) hS.2.2 dX6_request_22

abbrev ws_X6_season : List Cond := Cond.code yX6_season cX6_season 4 (some .int) :: ALL
set_option maxHeartbeats 4000000 in
set_option maxRecDepth 100000 in
theorem m_X6_season (l : Launch) (D : va_G) (cs : Nat → ClassId) (km pL pP pC pI pM pS pV pN pE pA pO pT pD pG pW sh it : Nat) (th : Int) (dy : Nat) (lc sv lr sr : Int) (mI : Nat → Int) (mN : Nat → Int) (zs zi wz : Int) (hsh : sh ≤ 4) (hit : it ≤ 5) (hmI : ∀ j, 0 ≤ mI j ∧ mI j ≤ 1) (hzs : -2147483648 ≤ zs ∧ zs < 2147483648) (hzi : -2147483648 ≤ zi ∧ zi < 2147483648) (hwz : -2147483648 ≤ wz ∧ wz < 2147483648) : Met l yX6_season ws_X6_season ({ frames := 3, cells := 0, slots := 0, locals := 65 }) (va_Pc [.ref km, .int (iI (zs)), .int (iI (zi)), .int (iI (wz))] (PC D cs [(km, .inr (6, [.int (iI (th)), .int (iI (((sh : Nat) : Int))), .int (iI (((it : Nat) : Int))), .int (iI (((dy : Nat) : Int))), .int (iI (lc)), .int (iI (sv)), .int (iI (lr)), .int (iI (sr)), .ref pL, .ref pP, .ref pC, .ref pI, .ref pM, .ref pS, .ref pV, .ref pN, .ref pE, .ref pA, .ref pO, .ref pT, .ref pD, .ref pG, .ref pW])), (pI, arZ cs 20 mI), (pN, arI cs 140 mN)])) (va_Qi (fun r (_ : Unit) => r = iI (if cdx (cdM sh it mI zs zi) (0 ≤ wz ∧ wz ≤ 6) = 0 then mN (7 * (5 * zs + zi).toNat + wz.toNat) else 0)) (fun _ t => va_P D vwCl [(km, .inr (6, [.int (iI ((((cdx (cdM sh it mI zs zi) (0 ≤ wz ∧ wz ≤ 6)) : Nat) : Int))), .int (iI (((sh : Nat) : Int))), .int (iI (((it : Nat) : Int))), .int (iI (((dy : Nat) : Int))), .int (iI (lc)), .int (iI (sv)), .int (iI (lr)), .int (iI (sr)), .ref pL, .ref pP, .ref pC, .ref pI, .ref pM, .ref pS, .ref pV, .ref pN, .ref pE, .ref pA, .ref pO, .ref pT, .ref pD, .ref pG, .ref pW])), (pI, arZ cs 20 mI), (pN, arI cs 140 mN)] t.heap) (inW [(km, .inr (6, [.int (iI (th)), .int (iI (((sh : Nat) : Int))), .int (iI (((it : Nat) : Int))), .int (iI (((dy : Nat) : Int))), .int (iI (lc)), .int (iI (sv)), .int (iI (lr)), .int (iI (sr)), .ref pL, .ref pP, .ref pC, .ref pI, .ref pM, .ref pS, .ref pV, .ref pN, .ref pE, .ref pA, .ref pO, .ref pT, .ref pD, .ref pG, .ref pW])), (pI, arZ cs 20 mI), (pN, arI cs 140 mN)])) 0 0 (inW [(km, .inr (6, [.int (iI (th)), .int (iI (((sh : Nat) : Int))), .int (iI (((it : Nat) : Int))), .int (iI (((dy : Nat) : Int))), .int (iI (lc)), .int (iI (sv)), .int (iI (lr)), .int (iI (sr)), .ref pL, .ref pP, .ref pC, .ref pI, .ref pM, .ref pS, .ref pV, .ref pN, .ref pE, .ref pA, .ref pO, .ref pT, .ref pD, .ref pG, .ref pW])), (pI, arZ cs 20 mI), (pN, arI cs 140 mN)]) := by
  refine Met.ofW (cc := cX6_season) (maxL := 4) (ret := (some .int)) (by decide +kernel) rfl ?_
  intro p e s m args below meth c s₁ B hml hv
  obtain ⟨rfl, hP, hK, hD, hN⟩ := hv
  have hx := B.exec
  have hb := B.bytes
  have hr := B.returns
  have hts : ∀ w ∈ ALL, w.before _ s = true := fun w h => atoms_spec (ws := ws_X6_season) B.pre w (List.mem_cons_of_mem _ h)
  have hown : s.vm.findClass RX6 = some m.cls := findClass_of_methodNamed B.named
  have hlocks := B.notSynchronized
  generalize hAe : inW [(km, .inr (6, [.int (iI (th)), .int (iI (((sh : Nat) : Int))), .int (iI (((it : Nat) : Int))), .int (iI (((dy : Nat) : Int))), .int (iI (lc)), .int (iI (sv)), .int (iI (lr)), .int (iI (sr)), .ref pL, .ref pP, .ref pC, .ref pI, .ref pM, .ref pS, .ref pV, .ref pN, .ref pE, .ref pA, .ref pO, .ref pT, .ref pD, .ref pG, .ref pW])), (pI, arZ cs 20 mI), (pN, arI cs 140 mN)] = A at hD ⊢
  have hS : va_S A s.heap s.heap [] := va_S.rf
  have hl := lv_entry ([.ref km, .int (iI (zs)), .int (iI (zi)), .int (iI (wz))]) (n := 4) (Nat.le_of_ble_eq_true rfl)
  rw [lg_entry_eq]
  generalize (lg_sl ([.ref km, .int (iI (zs)), .int (iI (zi)), .int (iI (wz))]) ++ List.replicate (4 - (lg_sl ([.ref km, .int (iI (zs)), .int (iI (zi)), .int (iI (wz))])).length) Slot.unset).toArray = ls at hl ⊢
  have hl : lv_has ls 4 [(0, .ref km), (1, .int (iI (zs))), (2, .int (iI (zi))), (3, .int (iI (wz)))] := hl
  have hH := rfl (a := s.heap)
  refine lv_aload_n hx hb dX6_season_0 rfl (lv_at hl 0 rfl) ?_
  refine lv_iload_n hx hb dX6_season_1 rfl (lv_at hl 1 rfl) ?_
  refine lv_iload_n hx hb dX6_season_2 rfl (lv_at hl 2 rfl) ?_
  have pk1 : picks [(km, .inr (6, [.int (iI (th)), .int (iI (((sh : Nat) : Int))), .int (iI (((it : Nat) : Int))), .int (iI (((dy : Nat) : Int))), .int (iI (lc)), .int (iI (sv)), .int (iI (lr)), .int (iI (sr)), .ref pL, .ref pP, .ref pC, .ref pI, .ref pM, .ref pS, .ref pV, .ref pN, .ref pE, .ref pA, .ref pO, .ref pT, .ref pD, .ref pG, .ref pW])), (pI, arZ cs 20 mI), (pN, arI cs 140 mN)] [0, 1] [(km, .inr (6, [.int (iI (th)), .int (iI (((sh : Nat) : Int))), .int (iI (((it : Nat) : Int))), .int (iI (((dy : Nat) : Int))), .int (iI (lc)), .int (iI (sv)), .int (iI (lr)), .int (iI (sr)), .ref pL, .ref pP, .ref pC, .ref pI, .ref pM, .ref pS, .ref pV, .ref pN, .ref pE, .ref pA, .ref pO, .ref pT, .ref pD, .ref pG, .ref pW])), (pI, arZ cs 20 mI)] := ⟨rfl, rfl, trivial⟩
  refine va_calli (va_runV (As := [.int (iI (zs)), .int (iI (zi))]) (rest := []) ⟨hx, hb, hml, hown, hts⟩ (m_X6_isLine l D cs km pL pP pC pI pM pS pV pN pE pA pO pT pD pG pW sh it th dy lc sv lr sr mI zs zi (by assumption) (by assumption) (by assumption) (by omega) (by omega)) (cwV 2 hts (gV w_932 w_934 w_p19 w_5 w_935) rfl rfl rfl (by decide +kernel) ⟨Nat.le_of_ble_eq_true rfl, Nat.le_of_ble_eq_true rfl⟩) (PC_V hK hN hP hD [0, 1] rfl pk1 rfl rfl) rfl rfl hl.1 rfl (lv_room (Nat.le_of_ble_eq_true rfl)) dX6_season_3 ⟨Nat.le_of_ble_eq_true rfl, Nat.le_of_ble_eq_true rfl⟩) hS (fun q _ h => inW_sub hD [0, 1] pk1 q h) (fun q h => inW_sub hD [0, 1] pk1 q h) (fun r u t H locs ht hvm hw hB hz1 hk1 hS => ?_)
  subst hw
  rw [ht] at hB
  obtain ⟨hP, hD⟩ := my_join (W1 := [(km, .inr (6, [.int (iI (((cdM sh it mI zs zi : Nat) : Int))), .int (iI (((sh : Nat) : Int))), .int (iI (((it : Nat) : Int))), .int (iI (((dy : Nat) : Int))), .int (iI (lc)), .int (iI (sv)), .int (iI (lr)), .int (iI (sr)), .ref pL, .ref pP, .ref pC, .ref pI, .ref pM, .ref pS, .ref pV, .ref pN, .ref pE, .ref pA, .ref pO, .ref pT, .ref pD, .ref pG, .ref pW])), (pI, arZ cs 20 mI)]) hP hD [0, 1] rfl pk1 rfl hk1 hB
  have hP : va_P D vwCl [(km, .inr (6, [.int (iI (((cdM sh it mI zs zi : Nat) : Int))), .int (iI (((sh : Nat) : Int))), .int (iI (((it : Nat) : Int))), .int (iI (((dy : Nat) : Int))), .int (iI (lc)), .int (iI (sv)), .int (iI (lr)), .int (iI (sr)), .ref pL, .ref pP, .ref pC, .ref pI, .ref pM, .ref pS, .ref pV, .ref pN, .ref pE, .ref pA, .ref pO, .ref pT, .ref pD, .ref pG, .ref pW])), (pI, arZ cs 20 mI), (pN, arI cs 140 mN)] H := hP
  have hD : va_D A [(km, .inr (6, [.int (iI (((cdM sh it mI zs zi : Nat) : Int))), .int (iI (((sh : Nat) : Int))), .int (iI (((it : Nat) : Int))), .int (iI (((dy : Nat) : Int))), .int (iI (lc)), .int (iI (sv)), .int (iI (lr)), .int (iI (sr)), .ref pL, .ref pP, .ref pC, .ref pI, .ref pM, .ref pS, .ref pV, .ref pN, .ref pE, .ref pA, .ref pO, .ref pT, .ref pD, .ref pG, .ref pW])), (pI, arZ cs 20 mI), (pN, arI cs 140 mN)] := hD
  have hcm := cdM_s sh it mI zs zi
  have hbb := b01_s (cdM sh it mI zs zi)
  refine my_if_ne (tgt := 11) hx hb (by omega) dX6_season_6 (by decide) (fun b2 => ?_) (fun b2 => ?_)
  · refine lv_iload_n hx hb dX6_season_11 rfl (lv_at hl 3 rfl) ?_
    refine lv_iconst (v := iI (0)) hx hb dX6_season_12 rfl ?_
    refine lv_bipush (v := iI (6)) hx hb dX6_season_13 (by decide) ?_
    have pk3 : picks [(km, .inr (6, [.int (iI (((cdM sh it mI zs zi : Nat) : Int))), .int (iI (((sh : Nat) : Int))), .int (iI (((it : Nat) : Int))), .int (iI (((dy : Nat) : Int))), .int (iI (lc)), .int (iI (sv)), .int (iI (lr)), .int (iI (sr)), .ref pL, .ref pP, .ref pC, .ref pI, .ref pM, .ref pS, .ref pV, .ref pN, .ref pE, .ref pA, .ref pO, .ref pT, .ref pD, .ref pG, .ref pW])), (pI, arZ cs 20 mI), (pN, arI cs 140 mN)] [] [] := trivial
    refine va_calli (va_runS (As := [.int (iI (wz)), .int (iI (0)), .int (iI (6))]) (rest := []) ⟨hx, hb, hml, hown, hts⟩ (m_X6_in l D cs wz 0 6 (by omega) (by omega) (by omega)) (va_cwS 3 hts (gS w_880 w_881 w_5 w_882) rfl rfl rfl (by decide +kernel) ⟨Nat.le_of_ble_eq_true rfl, Nat.le_of_ble_eq_true rfl⟩) (PC_S hK hN hP hD [] rfl pk3) rfl rfl hl.1 rfl (lv_room (Nat.le_of_ble_eq_true rfl)) dX6_season_15 ⟨Nat.le_of_ble_eq_true rfl, Nat.le_of_ble_eq_true rfl⟩) hS (fun _ _ h => False.elim h) (fun _ h => False.elim h) (fun r u t H locs ht hvm hw hB hz1 hk1 hS => ?_)
    subst hw
    have hP := P_kept hP hk1
    have hin := inI_s wz 0 6
    refine my_if_eq (tgt := 39) hx hb (by omega) dX6_season_18 (by decide) (fun b4 => ?_) (fun b4 => ?_)
    · refine lv_aload_n hx hb dX6_season_39 rfl (lv_at hl 0 rfl) ?_
      refine lv_iconst (v := iI (3)) hx hb dX6_season_40 rfl ?_
      have pk5 : picks [(km, .inr (6, [.int (iI (((cdM sh it mI zs zi : Nat) : Int))), .int (iI (((sh : Nat) : Int))), .int (iI (((it : Nat) : Int))), .int (iI (((dy : Nat) : Int))), .int (iI (lc)), .int (iI (sv)), .int (iI (lr)), .int (iI (sr)), .ref pL, .ref pP, .ref pC, .ref pI, .ref pM, .ref pS, .ref pV, .ref pN, .ref pE, .ref pA, .ref pO, .ref pT, .ref pD, .ref pG, .ref pW])), (pI, arZ cs 20 mI), (pN, arI cs 140 mN)] [0] [(km, .inr (6, [.int (iI (((cdM sh it mI zs zi : Nat) : Int))), .int (iI (((sh : Nat) : Int))), .int (iI (((it : Nat) : Int))), .int (iI (((dy : Nat) : Int))), .int (iI (lc)), .int (iI (sv)), .int (iI (lr)), .int (iI (sr)), .ref pL, .ref pP, .ref pC, .ref pI, .ref pM, .ref pS, .ref pV, .ref pN, .ref pE, .ref pA, .ref pO, .ref pT, .ref pD, .ref pG, .ref pW]))] := ⟨rfl, trivial⟩
      refine va_calli (va_runV (As := [.int (iI (3))]) (rest := []) ⟨hx, hb, hml, hown, hts⟩ (m_X6_fails l D cs km pL pP pC pI pM pS pV pN pE pA pO pT pD pG pW sh it ((cdM sh it mI zs zi : Nat) : Int) dy lc sv lr sr 3) (cwV 1 hts (gV w_883 w_885 w_p16 w_5 w_886) rfl rfl rfl (by decide +kernel) ⟨Nat.le_of_ble_eq_true rfl, Nat.le_of_ble_eq_true rfl⟩) (PC_V hK hN hP hD [0] rfl pk5 rfl rfl) rfl rfl hl.1 rfl (lv_room (Nat.le_of_ble_eq_true rfl)) dX6_season_41 ⟨Nat.le_of_ble_eq_true rfl, Nat.le_of_ble_eq_true rfl⟩) hS (fun q _ h => inW_sub hD [0] pk5 q h) (fun q h => inW_sub hD [0] pk5 q h) (fun r u t H locs ht hvm hw hB hz1 hk1 hS => ?_)
      subst hw
      rw [ht] at hB
      obtain ⟨hP, hD⟩ := my_join (W1 := [(km, .inr (6, [.int (iI (3)), .int (iI (((sh : Nat) : Int))), .int (iI (((it : Nat) : Int))), .int (iI (((dy : Nat) : Int))), .int (iI (lc)), .int (iI (sv)), .int (iI (lr)), .int (iI (sr)), .ref pL, .ref pP, .ref pC, .ref pI, .ref pM, .ref pS, .ref pV, .ref pN, .ref pE, .ref pA, .ref pO, .ref pT, .ref pD, .ref pG, .ref pW]))]) hP hD [0] rfl pk5 rfl hk1 hB
      have hP : va_P D vwCl [(km, .inr (6, [.int (iI (3)), .int (iI (((sh : Nat) : Int))), .int (iI (((it : Nat) : Int))), .int (iI (((dy : Nat) : Int))), .int (iI (lc)), .int (iI (sv)), .int (iI (lr)), .int (iI (sr)), .ref pL, .ref pP, .ref pC, .ref pI, .ref pM, .ref pS, .ref pV, .ref pN, .ref pE, .ref pA, .ref pO, .ref pT, .ref pD, .ref pG, .ref pW])), (pI, arZ cs 20 mI), (pN, arI cs 140 mN)] H := hP
      have hD : va_D A [(km, .inr (6, [.int (iI (3)), .int (iI (((sh : Nat) : Int))), .int (iI (((it : Nat) : Int))), .int (iI (((dy : Nat) : Int))), .int (iI (lc)), .int (iI (sv)), .int (iI (lr)), .int (iI (sr)), .ref pL, .ref pP, .ref pC, .ref pI, .ref pM, .ref pS, .ref pV, .ref pN, .ref pE, .ref pA, .ref pO, .ref pT, .ref pD, .ref pG, .ref pW])), (pI, arZ cs 20 mI), (pN, arI cs 140 mN)] := hD
      have hWe : ([(km, .inr (6, [.int (iI (3)), .int (iI (((sh : Nat) : Int))), .int (iI (((it : Nat) : Int))), .int (iI (((dy : Nat) : Int))), .int (iI (lc)), .int (iI (sv)), .int (iI (lr)), .int (iI (sr)), .ref pL, .ref pP, .ref pC, .ref pI, .ref pM, .ref pS, .ref pV, .ref pN, .ref pE, .ref pA, .ref pO, .ref pT, .ref pD, .ref pG, .ref pW])), (pI, arZ cs 20 mI), (pN, arI cs 140 mN)] : va_W) = [(km, .inr (6, [.int (iI ((((cdx (cdM sh it mI zs zi) (0 ≤ wz ∧ wz ≤ 6)) : Nat) : Int))), .int (iI (((sh : Nat) : Int))), .int (iI (((it : Nat) : Int))), .int (iI (((dy : Nat) : Int))), .int (iI (lc)), .int (iI (sv)), .int (iI (lr)), .int (iI (sr)), .ref pL, .ref pP, .ref pC, .ref pI, .ref pM, .ref pS, .ref pV, .ref pN, .ref pE, .ref pA, .ref pO, .ref pT, .ref pD, .ref pG, .ref pW])), (pI, arZ cs 20 mI), (pN, arI cs 140 mN)] := by
        have hcd : cdx (cdM sh it mI zs zi) (0 ≤ wz ∧ wz ≤ 6) = 3 := by unfold cdx; (repeat' split) <;> omega
        rw [hcd] <;> first | rfl | (simp; done)
      rw [hWe] at hP
      subst hAe
      have hres : iI (0) = iI (if cdx (cdM sh it mI zs zi) (0 ≤ wz ∧ wz ≤ 6) = 0 then mN (7 * (5 * zs + zi).toNat + wz.toNat) else 0) := congrArg iI (by
          have hcd : cdx (cdM sh it mI zs zi) (0 ≤ wz ∧ wz ≤ 6) = 3 := by unfold cdx; (repeat' split) <;> omega
          rw [hcd]
          first | rfl | (rw [if_pos (by omega)]; done) | (rw [if_neg (by omega)]; done) | (simp; done))
      exact W.iret hx hb hr (fun t ht hW => ⟨⟨_, (), rfl, hres, by show va_P D vwCl _ t.heap; rw [ht]; exact hP⟩, hS.F ht⟩) hS.2.2 dX6_season_44
    · refine lv_aload_n hx hb dX6_season_21 rfl (lv_at hl 0 rfl) ?_
      refine my_get hx hb hts inAX6 hown hK hP 0 rfl rfl 15 (by decide) w_816 rfl rfl dX6_season_22 ?_
      refine lv_bipush (v := iI (7)) hx hb dX6_season_25 (by decide) ?_
      refine lv_iconst (v := iI (5)) hx hb dX6_season_27 rfl ?_
      refine lv_iload_n hx hb dX6_season_28 rfl (lv_at hl 1 rfl) ?_
      refine my_imul (z := 5 * zs) hx hb dX6_season_29 (rfl) ?_
      refine lv_iload_n hx hb dX6_season_30 rfl (lv_at hl 2 rfl) ?_
      refine my_iadd (z := (5 * zs) + zi) hx hb dX6_season_31 (rfl) ?_
      refine my_imul (z := 7 * ((5 * zs) + zi)) hx hb dX6_season_32 (rfl) ?_
      refine lv_iload_n hx hb dX6_season_33 rfl (lv_at hl 3 rfl) ?_
      refine my_iadd (z := (7 * ((5 * zs) + zi)) + wz) hx hb dX6_season_34 (rfl) ?_
      refine my_cv0 (z := (((7 * (5 * zs + zi).toNat + wz.toNat) : Nat) : Int)) (by omega) ?_
      refine my_iald hx hb hK hP 2 rfl (by omega) (k := 7 * (5 * zs + zi).toNat + wz.toNat) (Int.toNat_natCast _) dX6_season_35 ?_
      refine lv_goto (tgt := 44) hx hb dX6_season_36 (by decide) ?_
      have hWe : ([(km, .inr (6, [.int (iI (((cdM sh it mI zs zi : Nat) : Int))), .int (iI (((sh : Nat) : Int))), .int (iI (((it : Nat) : Int))), .int (iI (((dy : Nat) : Int))), .int (iI (lc)), .int (iI (sv)), .int (iI (lr)), .int (iI (sr)), .ref pL, .ref pP, .ref pC, .ref pI, .ref pM, .ref pS, .ref pV, .ref pN, .ref pE, .ref pA, .ref pO, .ref pT, .ref pD, .ref pG, .ref pW])), (pI, arZ cs 20 mI), (pN, arI cs 140 mN)] : va_W) = [(km, .inr (6, [.int (iI ((((cdx (cdM sh it mI zs zi) (0 ≤ wz ∧ wz ≤ 6)) : Nat) : Int))), .int (iI (((sh : Nat) : Int))), .int (iI (((it : Nat) : Int))), .int (iI (((dy : Nat) : Int))), .int (iI (lc)), .int (iI (sv)), .int (iI (lr)), .int (iI (sr)), .ref pL, .ref pP, .ref pC, .ref pI, .ref pM, .ref pS, .ref pV, .ref pN, .ref pE, .ref pA, .ref pO, .ref pT, .ref pD, .ref pG, .ref pW])), (pI, arZ cs 20 mI), (pN, arI cs 140 mN)] := by
        have hcd : cdx (cdM sh it mI zs zi) (0 ≤ wz ∧ wz ≤ 6) = cdM sh it mI zs zi := by unfold cdx; (repeat' split) <;> omega
        rw [hcd] <;> first | rfl | (simp; done)
      rw [hWe] at hP
      subst hAe
      have hres : iI (mN (7 * (5 * zs + zi).toNat + wz.toNat)) = iI (if cdx (cdM sh it mI zs zi) (0 ≤ wz ∧ wz ≤ 6) = 0 then mN (7 * (5 * zs + zi).toNat + wz.toNat) else 0) := congrArg iI (by
          have hcd : cdx (cdM sh it mI zs zi) (0 ≤ wz ∧ wz ≤ 6) = cdM sh it mI zs zi := by unfold cdx; (repeat' split) <;> omega
          rw [hcd]
          first | rfl | (rw [if_pos (by omega)]; done) | (rw [if_neg (by omega)]; done) | (simp; done))
      exact W.iret hx hb hr (fun t ht hW => ⟨⟨_, (), rfl, hres, by show va_P D vwCl _ t.heap; rw [ht]; exact hP⟩, hS.F ht⟩) hS.2.2 dX6_season_44
  · refine lv_iconst (v := iI (0)) hx hb dX6_season_9 rfl ?_
    have hWe : ([(km, .inr (6, [.int (iI (((cdM sh it mI zs zi : Nat) : Int))), .int (iI (((sh : Nat) : Int))), .int (iI (((it : Nat) : Int))), .int (iI (((dy : Nat) : Int))), .int (iI (lc)), .int (iI (sv)), .int (iI (lr)), .int (iI (sr)), .ref pL, .ref pP, .ref pC, .ref pI, .ref pM, .ref pS, .ref pV, .ref pN, .ref pE, .ref pA, .ref pO, .ref pT, .ref pD, .ref pG, .ref pW])), (pI, arZ cs 20 mI), (pN, arI cs 140 mN)] : va_W) = [(km, .inr (6, [.int (iI ((((cdx (cdM sh it mI zs zi) (0 ≤ wz ∧ wz ≤ 6)) : Nat) : Int))), .int (iI (((sh : Nat) : Int))), .int (iI (((it : Nat) : Int))), .int (iI (((dy : Nat) : Int))), .int (iI (lc)), .int (iI (sv)), .int (iI (lr)), .int (iI (sr)), .ref pL, .ref pP, .ref pC, .ref pI, .ref pM, .ref pS, .ref pV, .ref pN, .ref pE, .ref pA, .ref pO, .ref pT, .ref pD, .ref pG, .ref pW])), (pI, arZ cs 20 mI), (pN, arI cs 140 mN)] := by
      have hcd : cdx (cdM sh it mI zs zi) (0 ≤ wz ∧ wz ≤ 6) = cdM sh it mI zs zi := by unfold cdx; (repeat' split) <;> omega
      rw [hcd] <;> first | rfl | (simp; done)
    rw [hWe] at hP
    subst hAe
    have hres : iI (0) = iI (if cdx (cdM sh it mI zs zi) (0 ≤ wz ∧ wz ≤ 6) = 0 then mN (7 * (5 * zs + zi).toNat + wz.toNat) else 0) := congrArg iI (by
        have hcd : cdx (cdM sh it mI zs zi) (0 ≤ wz ∧ wz ≤ 6) = cdM sh it mI zs zi := by unfold cdx; (repeat' split) <;> omega
        rw [hcd]
        first | rfl | (rw [if_pos (by omega)]; done) | (rw [if_neg (by omega)]; done) | (simp; done))
    exact W.iret hx hb hr (fun t ht hW => ⟨⟨_, (), rfl, hres, by show va_P D vwCl _ t.heap; rw [ht]; exact hP⟩, hS.F ht⟩) hS.2.2 dX6_season_10

abbrev ws_X6_errors : List Cond := Cond.code yX6_errors cX6_errors 4 (some .int) :: ALL
set_option maxHeartbeats 4000000 in
set_option maxRecDepth 100000 in
theorem m_X6_errors (l : Launch) (D : va_G) (cs : Nat → ClassId) (km pL pP pC pI pM pS pV pN pE pA pO pT pD pG pW sh it : Nat) (th : Int) (dy : Nat) (lc sv lr sr : Int) (mI : Nat → Int) (mE : Nat → Int) (zs zi kz : Int) (hsh : sh ≤ 4) (hit : it ≤ 5) (hmI : ∀ j, 0 ≤ mI j ∧ mI j ≤ 1) (hzs : -2147483648 ≤ zs ∧ zs < 2147483648) (hzi : -2147483648 ≤ zi ∧ zi < 2147483648) (hkz : -2147483648 ≤ kz ∧ kz < 2147483648) : Met l yX6_errors ws_X6_errors ({ frames := 3, cells := 0, slots := 0, locals := 65 }) (va_Pc [.ref km, .int (iI (zs)), .int (iI (zi)), .int (iI (kz))] (PC D cs [(km, .inr (6, [.int (iI (th)), .int (iI (((sh : Nat) : Int))), .int (iI (((it : Nat) : Int))), .int (iI (((dy : Nat) : Int))), .int (iI (lc)), .int (iI (sv)), .int (iI (lr)), .int (iI (sr)), .ref pL, .ref pP, .ref pC, .ref pI, .ref pM, .ref pS, .ref pV, .ref pN, .ref pE, .ref pA, .ref pO, .ref pT, .ref pD, .ref pG, .ref pW])), (pI, arZ cs 20 mI), (pE, arI cs 420 mE)])) (va_Qi (fun r (_ : Unit) => r = iI (if cdx (cdM sh it mI zs zi) (0 ≤ kz ∧ kz ≤ 20) = 0 then mE (21 * (5 * zs + zi).toNat + kz.toNat) else 0)) (fun _ t => va_P D vwCl [(km, .inr (6, [.int (iI ((((cdx (cdM sh it mI zs zi) (0 ≤ kz ∧ kz ≤ 20)) : Nat) : Int))), .int (iI (((sh : Nat) : Int))), .int (iI (((it : Nat) : Int))), .int (iI (((dy : Nat) : Int))), .int (iI (lc)), .int (iI (sv)), .int (iI (lr)), .int (iI (sr)), .ref pL, .ref pP, .ref pC, .ref pI, .ref pM, .ref pS, .ref pV, .ref pN, .ref pE, .ref pA, .ref pO, .ref pT, .ref pD, .ref pG, .ref pW])), (pI, arZ cs 20 mI), (pE, arI cs 420 mE)] t.heap) (inW [(km, .inr (6, [.int (iI (th)), .int (iI (((sh : Nat) : Int))), .int (iI (((it : Nat) : Int))), .int (iI (((dy : Nat) : Int))), .int (iI (lc)), .int (iI (sv)), .int (iI (lr)), .int (iI (sr)), .ref pL, .ref pP, .ref pC, .ref pI, .ref pM, .ref pS, .ref pV, .ref pN, .ref pE, .ref pA, .ref pO, .ref pT, .ref pD, .ref pG, .ref pW])), (pI, arZ cs 20 mI), (pE, arI cs 420 mE)])) 0 0 (inW [(km, .inr (6, [.int (iI (th)), .int (iI (((sh : Nat) : Int))), .int (iI (((it : Nat) : Int))), .int (iI (((dy : Nat) : Int))), .int (iI (lc)), .int (iI (sv)), .int (iI (lr)), .int (iI (sr)), .ref pL, .ref pP, .ref pC, .ref pI, .ref pM, .ref pS, .ref pV, .ref pN, .ref pE, .ref pA, .ref pO, .ref pT, .ref pD, .ref pG, .ref pW])), (pI, arZ cs 20 mI), (pE, arI cs 420 mE)]) := by
  refine Met.ofW (cc := cX6_errors) (maxL := 4) (ret := (some .int)) (by decide +kernel) rfl ?_
  intro p e s m args below meth c s₁ B hml hv
  obtain ⟨rfl, hP, hK, hD, hN⟩ := hv
  have hx := B.exec
  have hb := B.bytes
  have hr := B.returns
  have hts : ∀ w ∈ ALL, w.before _ s = true := fun w h => atoms_spec (ws := ws_X6_errors) B.pre w (List.mem_cons_of_mem _ h)
  have hown : s.vm.findClass RX6 = some m.cls := findClass_of_methodNamed B.named
  have hlocks := B.notSynchronized
  generalize hAe : inW [(km, .inr (6, [.int (iI (th)), .int (iI (((sh : Nat) : Int))), .int (iI (((it : Nat) : Int))), .int (iI (((dy : Nat) : Int))), .int (iI (lc)), .int (iI (sv)), .int (iI (lr)), .int (iI (sr)), .ref pL, .ref pP, .ref pC, .ref pI, .ref pM, .ref pS, .ref pV, .ref pN, .ref pE, .ref pA, .ref pO, .ref pT, .ref pD, .ref pG, .ref pW])), (pI, arZ cs 20 mI), (pE, arI cs 420 mE)] = A at hD ⊢
  have hS : va_S A s.heap s.heap [] := va_S.rf
  have hl := lv_entry ([.ref km, .int (iI (zs)), .int (iI (zi)), .int (iI (kz))]) (n := 4) (Nat.le_of_ble_eq_true rfl)
  rw [lg_entry_eq]
  generalize (lg_sl ([.ref km, .int (iI (zs)), .int (iI (zi)), .int (iI (kz))]) ++ List.replicate (4 - (lg_sl ([.ref km, .int (iI (zs)), .int (iI (zi)), .int (iI (kz))])).length) Slot.unset).toArray = ls at hl ⊢
  have hl : lv_has ls 4 [(0, .ref km), (1, .int (iI (zs))), (2, .int (iI (zi))), (3, .int (iI (kz)))] := hl
  have hH := rfl (a := s.heap)
  refine lv_aload_n hx hb dX6_errors_0 rfl (lv_at hl 0 rfl) ?_
  refine lv_iload_n hx hb dX6_errors_1 rfl (lv_at hl 1 rfl) ?_
  refine lv_iload_n hx hb dX6_errors_2 rfl (lv_at hl 2 rfl) ?_
  have pk1 : picks [(km, .inr (6, [.int (iI (th)), .int (iI (((sh : Nat) : Int))), .int (iI (((it : Nat) : Int))), .int (iI (((dy : Nat) : Int))), .int (iI (lc)), .int (iI (sv)), .int (iI (lr)), .int (iI (sr)), .ref pL, .ref pP, .ref pC, .ref pI, .ref pM, .ref pS, .ref pV, .ref pN, .ref pE, .ref pA, .ref pO, .ref pT, .ref pD, .ref pG, .ref pW])), (pI, arZ cs 20 mI), (pE, arI cs 420 mE)] [0, 1] [(km, .inr (6, [.int (iI (th)), .int (iI (((sh : Nat) : Int))), .int (iI (((it : Nat) : Int))), .int (iI (((dy : Nat) : Int))), .int (iI (lc)), .int (iI (sv)), .int (iI (lr)), .int (iI (sr)), .ref pL, .ref pP, .ref pC, .ref pI, .ref pM, .ref pS, .ref pV, .ref pN, .ref pE, .ref pA, .ref pO, .ref pT, .ref pD, .ref pG, .ref pW])), (pI, arZ cs 20 mI)] := ⟨rfl, rfl, trivial⟩
  refine va_calli (va_runV (As := [.int (iI (zs)), .int (iI (zi))]) (rest := []) ⟨hx, hb, hml, hown, hts⟩ (m_X6_isLine l D cs km pL pP pC pI pM pS pV pN pE pA pO pT pD pG pW sh it th dy lc sv lr sr mI zs zi (by assumption) (by assumption) (by assumption) (by omega) (by omega)) (cwV 2 hts (gV w_932 w_934 w_p19 w_5 w_935) rfl rfl rfl (by decide +kernel) ⟨Nat.le_of_ble_eq_true rfl, Nat.le_of_ble_eq_true rfl⟩) (PC_V hK hN hP hD [0, 1] rfl pk1 rfl rfl) rfl rfl hl.1 rfl (lv_room (Nat.le_of_ble_eq_true rfl)) dX6_errors_3 ⟨Nat.le_of_ble_eq_true rfl, Nat.le_of_ble_eq_true rfl⟩) hS (fun q _ h => inW_sub hD [0, 1] pk1 q h) (fun q h => inW_sub hD [0, 1] pk1 q h) (fun r u t H locs ht hvm hw hB hz1 hk1 hS => ?_)
  subst hw
  rw [ht] at hB
  obtain ⟨hP, hD⟩ := my_join (W1 := [(km, .inr (6, [.int (iI (((cdM sh it mI zs zi : Nat) : Int))), .int (iI (((sh : Nat) : Int))), .int (iI (((it : Nat) : Int))), .int (iI (((dy : Nat) : Int))), .int (iI (lc)), .int (iI (sv)), .int (iI (lr)), .int (iI (sr)), .ref pL, .ref pP, .ref pC, .ref pI, .ref pM, .ref pS, .ref pV, .ref pN, .ref pE, .ref pA, .ref pO, .ref pT, .ref pD, .ref pG, .ref pW])), (pI, arZ cs 20 mI)]) hP hD [0, 1] rfl pk1 rfl hk1 hB
  have hP : va_P D vwCl [(km, .inr (6, [.int (iI (((cdM sh it mI zs zi : Nat) : Int))), .int (iI (((sh : Nat) : Int))), .int (iI (((it : Nat) : Int))), .int (iI (((dy : Nat) : Int))), .int (iI (lc)), .int (iI (sv)), .int (iI (lr)), .int (iI (sr)), .ref pL, .ref pP, .ref pC, .ref pI, .ref pM, .ref pS, .ref pV, .ref pN, .ref pE, .ref pA, .ref pO, .ref pT, .ref pD, .ref pG, .ref pW])), (pI, arZ cs 20 mI), (pE, arI cs 420 mE)] H := hP
  have hD : va_D A [(km, .inr (6, [.int (iI (((cdM sh it mI zs zi : Nat) : Int))), .int (iI (((sh : Nat) : Int))), .int (iI (((it : Nat) : Int))), .int (iI (((dy : Nat) : Int))), .int (iI (lc)), .int (iI (sv)), .int (iI (lr)), .int (iI (sr)), .ref pL, .ref pP, .ref pC, .ref pI, .ref pM, .ref pS, .ref pV, .ref pN, .ref pE, .ref pA, .ref pO, .ref pT, .ref pD, .ref pG, .ref pW])), (pI, arZ cs 20 mI), (pE, arI cs 420 mE)] := hD
  have hcm := cdM_s sh it mI zs zi
  have hbb := b01_s (cdM sh it mI zs zi)
  refine my_if_ne (tgt := 11) hx hb (by omega) dX6_errors_6 (by decide) (fun b2 => ?_) (fun b2 => ?_)
  · refine lv_iload_n hx hb dX6_errors_11 rfl (lv_at hl 3 rfl) ?_
    refine lv_iconst (v := iI (0)) hx hb dX6_errors_12 rfl ?_
    refine lv_bipush (v := iI (20)) hx hb dX6_errors_13 (by decide) ?_
    have pk3 : picks [(km, .inr (6, [.int (iI (((cdM sh it mI zs zi : Nat) : Int))), .int (iI (((sh : Nat) : Int))), .int (iI (((it : Nat) : Int))), .int (iI (((dy : Nat) : Int))), .int (iI (lc)), .int (iI (sv)), .int (iI (lr)), .int (iI (sr)), .ref pL, .ref pP, .ref pC, .ref pI, .ref pM, .ref pS, .ref pV, .ref pN, .ref pE, .ref pA, .ref pO, .ref pT, .ref pD, .ref pG, .ref pW])), (pI, arZ cs 20 mI), (pE, arI cs 420 mE)] [] [] := trivial
    refine va_calli (va_runS (As := [.int (iI (kz)), .int (iI (0)), .int (iI (20))]) (rest := []) ⟨hx, hb, hml, hown, hts⟩ (m_X6_in l D cs kz 0 20 (by omega) (by omega) (by omega)) (va_cwS 3 hts (gS w_880 w_881 w_5 w_882) rfl rfl rfl (by decide +kernel) ⟨Nat.le_of_ble_eq_true rfl, Nat.le_of_ble_eq_true rfl⟩) (PC_S hK hN hP hD [] rfl pk3) rfl rfl hl.1 rfl (lv_room (Nat.le_of_ble_eq_true rfl)) dX6_errors_15 ⟨Nat.le_of_ble_eq_true rfl, Nat.le_of_ble_eq_true rfl⟩) hS (fun _ _ h => False.elim h) (fun _ h => False.elim h) (fun r u t H locs ht hvm hw hB hz1 hk1 hS => ?_)
    subst hw
    have hP := P_kept hP hk1
    have hin := inI_s kz 0 20
    refine my_if_eq (tgt := 39) hx hb (by omega) dX6_errors_18 (by decide) (fun b4 => ?_) (fun b4 => ?_)
    · refine lv_aload_n hx hb dX6_errors_39 rfl (lv_at hl 0 rfl) ?_
      refine lv_iconst (v := iI (3)) hx hb dX6_errors_40 rfl ?_
      have pk5 : picks [(km, .inr (6, [.int (iI (((cdM sh it mI zs zi : Nat) : Int))), .int (iI (((sh : Nat) : Int))), .int (iI (((it : Nat) : Int))), .int (iI (((dy : Nat) : Int))), .int (iI (lc)), .int (iI (sv)), .int (iI (lr)), .int (iI (sr)), .ref pL, .ref pP, .ref pC, .ref pI, .ref pM, .ref pS, .ref pV, .ref pN, .ref pE, .ref pA, .ref pO, .ref pT, .ref pD, .ref pG, .ref pW])), (pI, arZ cs 20 mI), (pE, arI cs 420 mE)] [0] [(km, .inr (6, [.int (iI (((cdM sh it mI zs zi : Nat) : Int))), .int (iI (((sh : Nat) : Int))), .int (iI (((it : Nat) : Int))), .int (iI (((dy : Nat) : Int))), .int (iI (lc)), .int (iI (sv)), .int (iI (lr)), .int (iI (sr)), .ref pL, .ref pP, .ref pC, .ref pI, .ref pM, .ref pS, .ref pV, .ref pN, .ref pE, .ref pA, .ref pO, .ref pT, .ref pD, .ref pG, .ref pW]))] := ⟨rfl, trivial⟩
      refine va_calli (va_runV (As := [.int (iI (3))]) (rest := []) ⟨hx, hb, hml, hown, hts⟩ (m_X6_fails l D cs km pL pP pC pI pM pS pV pN pE pA pO pT pD pG pW sh it ((cdM sh it mI zs zi : Nat) : Int) dy lc sv lr sr 3) (cwV 1 hts (gV w_883 w_885 w_p16 w_5 w_886) rfl rfl rfl (by decide +kernel) ⟨Nat.le_of_ble_eq_true rfl, Nat.le_of_ble_eq_true rfl⟩) (PC_V hK hN hP hD [0] rfl pk5 rfl rfl) rfl rfl hl.1 rfl (lv_room (Nat.le_of_ble_eq_true rfl)) dX6_errors_41 ⟨Nat.le_of_ble_eq_true rfl, Nat.le_of_ble_eq_true rfl⟩) hS (fun q _ h => inW_sub hD [0] pk5 q h) (fun q h => inW_sub hD [0] pk5 q h) (fun r u t H locs ht hvm hw hB hz1 hk1 hS => ?_)
      subst hw
      rw [ht] at hB
      obtain ⟨hP, hD⟩ := my_join (W1 := [(km, .inr (6, [.int (iI (3)), .int (iI (((sh : Nat) : Int))), .int (iI (((it : Nat) : Int))), .int (iI (((dy : Nat) : Int))), .int (iI (lc)), .int (iI (sv)), .int (iI (lr)), .int (iI (sr)), .ref pL, .ref pP, .ref pC, .ref pI, .ref pM, .ref pS, .ref pV, .ref pN, .ref pE, .ref pA, .ref pO, .ref pT, .ref pD, .ref pG, .ref pW]))]) hP hD [0] rfl pk5 rfl hk1 hB
      have hP : va_P D vwCl [(km, .inr (6, [.int (iI (3)), .int (iI (((sh : Nat) : Int))), .int (iI (((it : Nat) : Int))), .int (iI (((dy : Nat) : Int))), .int (iI (lc)), .int (iI (sv)), .int (iI (lr)), .int (iI (sr)), .ref pL, .ref pP, .ref pC, .ref pI, .ref pM, .ref pS, .ref pV, .ref pN, .ref pE, .ref pA, .ref pO, .ref pT, .ref pD, .ref pG, .ref pW])), (pI, arZ cs 20 mI), (pE, arI cs 420 mE)] H := hP
      have hD : va_D A [(km, .inr (6, [.int (iI (3)), .int (iI (((sh : Nat) : Int))), .int (iI (((it : Nat) : Int))), .int (iI (((dy : Nat) : Int))), .int (iI (lc)), .int (iI (sv)), .int (iI (lr)), .int (iI (sr)), .ref pL, .ref pP, .ref pC, .ref pI, .ref pM, .ref pS, .ref pV, .ref pN, .ref pE, .ref pA, .ref pO, .ref pT, .ref pD, .ref pG, .ref pW])), (pI, arZ cs 20 mI), (pE, arI cs 420 mE)] := hD
      have hWe : ([(km, .inr (6, [.int (iI (3)), .int (iI (((sh : Nat) : Int))), .int (iI (((it : Nat) : Int))), .int (iI (((dy : Nat) : Int))), .int (iI (lc)), .int (iI (sv)), .int (iI (lr)), .int (iI (sr)), .ref pL, .ref pP, .ref pC, .ref pI, .ref pM, .ref pS, .ref pV, .ref pN, .ref pE, .ref pA, .ref pO, .ref pT, .ref pD, .ref pG, .ref pW])), (pI, arZ cs 20 mI), (pE, arI cs 420 mE)] : va_W) = [(km, .inr (6, [.int (iI ((((cdx (cdM sh it mI zs zi) (0 ≤ kz ∧ kz ≤ 20)) : Nat) : Int))), .int (iI (((sh : Nat) : Int))), .int (iI (((it : Nat) : Int))), .int (iI (((dy : Nat) : Int))), .int (iI (lc)), .int (iI (sv)), .int (iI (lr)), .int (iI (sr)), .ref pL, .ref pP, .ref pC, .ref pI, .ref pM, .ref pS, .ref pV, .ref pN, .ref pE, .ref pA, .ref pO, .ref pT, .ref pD, .ref pG, .ref pW])), (pI, arZ cs 20 mI), (pE, arI cs 420 mE)] := by
        have hcd : cdx (cdM sh it mI zs zi) (0 ≤ kz ∧ kz ≤ 20) = 3 := by unfold cdx; (repeat' split) <;> omega
        rw [hcd] <;> first | rfl | (simp; done)
      rw [hWe] at hP
      subst hAe
      have hres : iI (0) = iI (if cdx (cdM sh it mI zs zi) (0 ≤ kz ∧ kz ≤ 20) = 0 then mE (21 * (5 * zs + zi).toNat + kz.toNat) else 0) := congrArg iI (by
          have hcd : cdx (cdM sh it mI zs zi) (0 ≤ kz ∧ kz ≤ 20) = 3 := by unfold cdx; (repeat' split) <;> omega
          rw [hcd]
          first | rfl | (rw [if_pos (by omega)]; done) | (rw [if_neg (by omega)]; done) | (simp; done))
      exact W.iret hx hb hr (fun t ht hW => ⟨⟨_, (), rfl, hres, by show va_P D vwCl _ t.heap; rw [ht]; exact hP⟩, hS.F ht⟩) hS.2.2 dX6_errors_44
    · refine lv_aload_n hx hb dX6_errors_21 rfl (lv_at hl 0 rfl) ?_
      refine my_get hx hb hts inAX6 hown hK hP 0 rfl rfl 16 (by decide) w_817 rfl rfl dX6_errors_22 ?_
      refine lv_bipush (v := iI (21)) hx hb dX6_errors_25 (by decide) ?_
      refine lv_iconst (v := iI (5)) hx hb dX6_errors_27 rfl ?_
      refine lv_iload_n hx hb dX6_errors_28 rfl (lv_at hl 1 rfl) ?_
      refine my_imul (z := 5 * zs) hx hb dX6_errors_29 (rfl) ?_
      refine lv_iload_n hx hb dX6_errors_30 rfl (lv_at hl 2 rfl) ?_
      refine my_iadd (z := (5 * zs) + zi) hx hb dX6_errors_31 (rfl) ?_
      refine my_imul (z := 21 * ((5 * zs) + zi)) hx hb dX6_errors_32 (rfl) ?_
      refine lv_iload_n hx hb dX6_errors_33 rfl (lv_at hl 3 rfl) ?_
      refine my_iadd (z := (21 * ((5 * zs) + zi)) + kz) hx hb dX6_errors_34 (rfl) ?_
      refine my_cv0 (z := (((21 * (5 * zs + zi).toNat + kz.toNat) : Nat) : Int)) (by omega) ?_
      refine my_iald hx hb hK hP 2 rfl (by omega) (k := 21 * (5 * zs + zi).toNat + kz.toNat) (Int.toNat_natCast _) dX6_errors_35 ?_
      refine lv_goto (tgt := 44) hx hb dX6_errors_36 (by decide) ?_
      have hWe : ([(km, .inr (6, [.int (iI (((cdM sh it mI zs zi : Nat) : Int))), .int (iI (((sh : Nat) : Int))), .int (iI (((it : Nat) : Int))), .int (iI (((dy : Nat) : Int))), .int (iI (lc)), .int (iI (sv)), .int (iI (lr)), .int (iI (sr)), .ref pL, .ref pP, .ref pC, .ref pI, .ref pM, .ref pS, .ref pV, .ref pN, .ref pE, .ref pA, .ref pO, .ref pT, .ref pD, .ref pG, .ref pW])), (pI, arZ cs 20 mI), (pE, arI cs 420 mE)] : va_W) = [(km, .inr (6, [.int (iI ((((cdx (cdM sh it mI zs zi) (0 ≤ kz ∧ kz ≤ 20)) : Nat) : Int))), .int (iI (((sh : Nat) : Int))), .int (iI (((it : Nat) : Int))), .int (iI (((dy : Nat) : Int))), .int (iI (lc)), .int (iI (sv)), .int (iI (lr)), .int (iI (sr)), .ref pL, .ref pP, .ref pC, .ref pI, .ref pM, .ref pS, .ref pV, .ref pN, .ref pE, .ref pA, .ref pO, .ref pT, .ref pD, .ref pG, .ref pW])), (pI, arZ cs 20 mI), (pE, arI cs 420 mE)] := by
        have hcd : cdx (cdM sh it mI zs zi) (0 ≤ kz ∧ kz ≤ 20) = cdM sh it mI zs zi := by unfold cdx; (repeat' split) <;> omega
        rw [hcd] <;> first | rfl | (simp; done)
      rw [hWe] at hP
      subst hAe
      have hres : iI (mE (21 * (5 * zs + zi).toNat + kz.toNat)) = iI (if cdx (cdM sh it mI zs zi) (0 ≤ kz ∧ kz ≤ 20) = 0 then mE (21 * (5 * zs + zi).toNat + kz.toNat) else 0) := congrArg iI (by
          have hcd : cdx (cdM sh it mI zs zi) (0 ≤ kz ∧ kz ≤ 20) = cdM sh it mI zs zi := by unfold cdx; (repeat' split) <;> omega
          rw [hcd]
          first | rfl | (rw [if_pos (by omega)]; done) | (rw [if_neg (by omega)]; done) | (simp; done))
      exact W.iret hx hb hr (fun t ht hW => ⟨⟨_, (), rfl, hres, by show va_P D vwCl _ t.heap; rw [ht]; exact hP⟩, hS.F ht⟩) hS.2.2 dX6_errors_44
  · refine lv_iconst (v := iI (0)) hx hb dX6_errors_9 rfl ?_
    have hWe : ([(km, .inr (6, [.int (iI (((cdM sh it mI zs zi : Nat) : Int))), .int (iI (((sh : Nat) : Int))), .int (iI (((it : Nat) : Int))), .int (iI (((dy : Nat) : Int))), .int (iI (lc)), .int (iI (sv)), .int (iI (lr)), .int (iI (sr)), .ref pL, .ref pP, .ref pC, .ref pI, .ref pM, .ref pS, .ref pV, .ref pN, .ref pE, .ref pA, .ref pO, .ref pT, .ref pD, .ref pG, .ref pW])), (pI, arZ cs 20 mI), (pE, arI cs 420 mE)] : va_W) = [(km, .inr (6, [.int (iI ((((cdx (cdM sh it mI zs zi) (0 ≤ kz ∧ kz ≤ 20)) : Nat) : Int))), .int (iI (((sh : Nat) : Int))), .int (iI (((it : Nat) : Int))), .int (iI (((dy : Nat) : Int))), .int (iI (lc)), .int (iI (sv)), .int (iI (lr)), .int (iI (sr)), .ref pL, .ref pP, .ref pC, .ref pI, .ref pM, .ref pS, .ref pV, .ref pN, .ref pE, .ref pA, .ref pO, .ref pT, .ref pD, .ref pG, .ref pW])), (pI, arZ cs 20 mI), (pE, arI cs 420 mE)] := by
      have hcd : cdx (cdM sh it mI zs zi) (0 ≤ kz ∧ kz ≤ 20) = cdM sh it mI zs zi := by unfold cdx; (repeat' split) <;> omega
      rw [hcd] <;> first | rfl | (simp; done)
    rw [hWe] at hP
    subst hAe
    have hres : iI (0) = iI (if cdx (cdM sh it mI zs zi) (0 ≤ kz ∧ kz ≤ 20) = 0 then mE (21 * (5 * zs + zi).toNat + kz.toNat) else 0) := congrArg iI (by
        have hcd : cdx (cdM sh it mI zs zi) (0 ≤ kz ∧ kz ≤ 20) = cdM sh it mI zs zi := by unfold cdx; (repeat' split) <;> omega
        rw [hcd]
        first | rfl | (rw [if_pos (by omega)]; done) | (rw [if_neg (by omega)]; done) | (simp; done))
    exact W.iret hx hb hr (fun t ht hW => ⟨⟨_, (), rfl, hres, by show va_P D vwCl _ t.heap; rw [ht]; exact hP⟩, hS.F ht⟩) hS.2.2 dX6_errors_10

abbrev ws_X6_forecast : List Cond := Cond.code yX6_forecast cX6_forecast 4 (some .int) :: ALL
set_option maxHeartbeats 4000000 in
set_option maxRecDepth 100000 in
theorem m_X6_forecast (l : Launch) (D : va_G) (cs : Nat → ClassId) (km pL pP pC pI pM pS pV pN pE pA pO pT pD pG pW sh it : Nat) (th : Int) (dy : Nat) (lc sv lr sr : Int) (mI : Nat → Int) (mV : Nat → Int) (mN : Nat → Int) (zs zi dz : Int) (hsh : sh ≤ 4) (hit : it ≤ 5) (hmI : ∀ j, 0 ≤ mI j ∧ mI j ≤ 1) (hmV : ∀ j, 0 ≤ mV j ∧ mV j ≤ 9990000) (hmN : ∀ j, 0 ≤ mN j ∧ mN j ≤ 5000) (hdy : dy < 1000000) (hzs : -2147483648 ≤ zs ∧ zs < 2147483648) (hzi : -2147483648 ≤ zi ∧ zi < 2147483648) (hdz : -2147483648 ≤ dz ∧ dz < 2147483648) : Met l yX6_forecast ws_X6_forecast ({ frames := 3, cells := 0, slots := 0, locals := 65 }) (va_Pc [.ref km, .int (iI (zs)), .int (iI (zi)), .int (iI (dz))] (PC D cs [(km, .inr (6, [.int (iI (th)), .int (iI (((sh : Nat) : Int))), .int (iI (((it : Nat) : Int))), .int (iI (((dy : Nat) : Int))), .int (iI (lc)), .int (iI (sv)), .int (iI (lr)), .int (iI (sr)), .ref pL, .ref pP, .ref pC, .ref pI, .ref pM, .ref pS, .ref pV, .ref pN, .ref pE, .ref pA, .ref pO, .ref pT, .ref pD, .ref pG, .ref pW])), (pI, arZ cs 20 mI), (pV, arI cs 20 mV), (pN, arI cs 140 mN)])) (va_Qi (fun r (_ : Unit) => r = iI (if cdx (cdM sh it mI zs zi) (((dy : Nat) : Int) ≤ dz ∧ dz ≤ 1099) = 0 then thI (mV (5 * zs + zi).toNat) (fun w => mN (7 * (5 * zs + zi).toNat + w)) dz.toNat else 0)) (fun _ t => va_P D vwCl [(km, .inr (6, [.int (iI ((((cdx (cdM sh it mI zs zi) (((dy : Nat) : Int) ≤ dz ∧ dz ≤ 1099)) : Nat) : Int))), .int (iI (((sh : Nat) : Int))), .int (iI (((it : Nat) : Int))), .int (iI (((dy : Nat) : Int))), .int (iI (lc)), .int (iI (sv)), .int (iI (lr)), .int (iI (sr)), .ref pL, .ref pP, .ref pC, .ref pI, .ref pM, .ref pS, .ref pV, .ref pN, .ref pE, .ref pA, .ref pO, .ref pT, .ref pD, .ref pG, .ref pW])), (pI, arZ cs 20 mI), (pV, arI cs 20 mV), (pN, arI cs 140 mN)] t.heap) (inW [(km, .inr (6, [.int (iI (th)), .int (iI (((sh : Nat) : Int))), .int (iI (((it : Nat) : Int))), .int (iI (((dy : Nat) : Int))), .int (iI (lc)), .int (iI (sv)), .int (iI (lr)), .int (iI (sr)), .ref pL, .ref pP, .ref pC, .ref pI, .ref pM, .ref pS, .ref pV, .ref pN, .ref pE, .ref pA, .ref pO, .ref pT, .ref pD, .ref pG, .ref pW])), (pI, arZ cs 20 mI), (pV, arI cs 20 mV), (pN, arI cs 140 mN)])) 0 0 (inW [(km, .inr (6, [.int (iI (th)), .int (iI (((sh : Nat) : Int))), .int (iI (((it : Nat) : Int))), .int (iI (((dy : Nat) : Int))), .int (iI (lc)), .int (iI (sv)), .int (iI (lr)), .int (iI (sr)), .ref pL, .ref pP, .ref pC, .ref pI, .ref pM, .ref pS, .ref pV, .ref pN, .ref pE, .ref pA, .ref pO, .ref pT, .ref pD, .ref pG, .ref pW])), (pI, arZ cs 20 mI), (pV, arI cs 20 mV), (pN, arI cs 140 mN)]) := by
  refine Met.ofW (cc := cX6_forecast) (maxL := 4) (ret := (some .int)) (by decide +kernel) rfl ?_
  intro p e s m args below meth c s₁ B hml hv
  obtain ⟨rfl, hP, hK, hD, hN⟩ := hv
  have hx := B.exec
  have hb := B.bytes
  have hr := B.returns
  have hts : ∀ w ∈ ALL, w.before _ s = true := fun w h => atoms_spec (ws := ws_X6_forecast) B.pre w (List.mem_cons_of_mem _ h)
  have hown : s.vm.findClass RX6 = some m.cls := findClass_of_methodNamed B.named
  have hlocks := B.notSynchronized
  generalize hAe : inW [(km, .inr (6, [.int (iI (th)), .int (iI (((sh : Nat) : Int))), .int (iI (((it : Nat) : Int))), .int (iI (((dy : Nat) : Int))), .int (iI (lc)), .int (iI (sv)), .int (iI (lr)), .int (iI (sr)), .ref pL, .ref pP, .ref pC, .ref pI, .ref pM, .ref pS, .ref pV, .ref pN, .ref pE, .ref pA, .ref pO, .ref pT, .ref pD, .ref pG, .ref pW])), (pI, arZ cs 20 mI), (pV, arI cs 20 mV), (pN, arI cs 140 mN)] = A at hD ⊢
  have hS : va_S A s.heap s.heap [] := va_S.rf
  have hl := lv_entry ([.ref km, .int (iI (zs)), .int (iI (zi)), .int (iI (dz))]) (n := 4) (Nat.le_of_ble_eq_true rfl)
  rw [lg_entry_eq]
  generalize (lg_sl ([.ref km, .int (iI (zs)), .int (iI (zi)), .int (iI (dz))]) ++ List.replicate (4 - (lg_sl ([.ref km, .int (iI (zs)), .int (iI (zi)), .int (iI (dz))])).length) Slot.unset).toArray = ls at hl ⊢
  have hl : lv_has ls 4 [(0, .ref km), (1, .int (iI (zs))), (2, .int (iI (zi))), (3, .int (iI (dz)))] := hl
  have hH := rfl (a := s.heap)
  refine lv_aload_n hx hb dX6_forecast_0 rfl (lv_at hl 0 rfl) ?_
  refine lv_iload_n hx hb dX6_forecast_1 rfl (lv_at hl 1 rfl) ?_
  refine lv_iload_n hx hb dX6_forecast_2 rfl (lv_at hl 2 rfl) ?_
  have pk1 : picks [(km, .inr (6, [.int (iI (th)), .int (iI (((sh : Nat) : Int))), .int (iI (((it : Nat) : Int))), .int (iI (((dy : Nat) : Int))), .int (iI (lc)), .int (iI (sv)), .int (iI (lr)), .int (iI (sr)), .ref pL, .ref pP, .ref pC, .ref pI, .ref pM, .ref pS, .ref pV, .ref pN, .ref pE, .ref pA, .ref pO, .ref pT, .ref pD, .ref pG, .ref pW])), (pI, arZ cs 20 mI), (pV, arI cs 20 mV), (pN, arI cs 140 mN)] [0, 1] [(km, .inr (6, [.int (iI (th)), .int (iI (((sh : Nat) : Int))), .int (iI (((it : Nat) : Int))), .int (iI (((dy : Nat) : Int))), .int (iI (lc)), .int (iI (sv)), .int (iI (lr)), .int (iI (sr)), .ref pL, .ref pP, .ref pC, .ref pI, .ref pM, .ref pS, .ref pV, .ref pN, .ref pE, .ref pA, .ref pO, .ref pT, .ref pD, .ref pG, .ref pW])), (pI, arZ cs 20 mI)] := ⟨rfl, rfl, trivial⟩
  refine va_calli (va_runV (As := [.int (iI (zs)), .int (iI (zi))]) (rest := []) ⟨hx, hb, hml, hown, hts⟩ (m_X6_isLine l D cs km pL pP pC pI pM pS pV pN pE pA pO pT pD pG pW sh it th dy lc sv lr sr mI zs zi (by assumption) (by assumption) (by assumption) (by omega) (by omega)) (cwV 2 hts (gV w_932 w_934 w_p19 w_5 w_935) rfl rfl rfl (by decide +kernel) ⟨Nat.le_of_ble_eq_true rfl, Nat.le_of_ble_eq_true rfl⟩) (PC_V hK hN hP hD [0, 1] rfl pk1 rfl rfl) rfl rfl hl.1 rfl (lv_room (Nat.le_of_ble_eq_true rfl)) dX6_forecast_3 ⟨Nat.le_of_ble_eq_true rfl, Nat.le_of_ble_eq_true rfl⟩) hS (fun q _ h => inW_sub hD [0, 1] pk1 q h) (fun q h => inW_sub hD [0, 1] pk1 q h) (fun r u t H locs ht hvm hw hB hz1 hk1 hS => ?_)
  subst hw
  rw [ht] at hB
  obtain ⟨hP, hD⟩ := my_join (W1 := [(km, .inr (6, [.int (iI (((cdM sh it mI zs zi : Nat) : Int))), .int (iI (((sh : Nat) : Int))), .int (iI (((it : Nat) : Int))), .int (iI (((dy : Nat) : Int))), .int (iI (lc)), .int (iI (sv)), .int (iI (lr)), .int (iI (sr)), .ref pL, .ref pP, .ref pC, .ref pI, .ref pM, .ref pS, .ref pV, .ref pN, .ref pE, .ref pA, .ref pO, .ref pT, .ref pD, .ref pG, .ref pW])), (pI, arZ cs 20 mI)]) hP hD [0, 1] rfl pk1 rfl hk1 hB
  have hP : va_P D vwCl [(km, .inr (6, [.int (iI (((cdM sh it mI zs zi : Nat) : Int))), .int (iI (((sh : Nat) : Int))), .int (iI (((it : Nat) : Int))), .int (iI (((dy : Nat) : Int))), .int (iI (lc)), .int (iI (sv)), .int (iI (lr)), .int (iI (sr)), .ref pL, .ref pP, .ref pC, .ref pI, .ref pM, .ref pS, .ref pV, .ref pN, .ref pE, .ref pA, .ref pO, .ref pT, .ref pD, .ref pG, .ref pW])), (pI, arZ cs 20 mI), (pV, arI cs 20 mV), (pN, arI cs 140 mN)] H := hP
  have hD : va_D A [(km, .inr (6, [.int (iI (((cdM sh it mI zs zi : Nat) : Int))), .int (iI (((sh : Nat) : Int))), .int (iI (((it : Nat) : Int))), .int (iI (((dy : Nat) : Int))), .int (iI (lc)), .int (iI (sv)), .int (iI (lr)), .int (iI (sr)), .ref pL, .ref pP, .ref pC, .ref pI, .ref pM, .ref pS, .ref pV, .ref pN, .ref pE, .ref pA, .ref pO, .ref pT, .ref pD, .ref pG, .ref pW])), (pI, arZ cs 20 mI), (pV, arI cs 20 mV), (pN, arI cs 140 mN)] := hD
  have hcm := cdM_s sh it mI zs zi
  have hbb := b01_s (cdM sh it mI zs zi)
  refine my_if_ne (tgt := 11) hx hb (by omega) dX6_forecast_6 (by decide) (fun b2 => ?_) (fun b2 => ?_)
  · refine lv_iload_n hx hb dX6_forecast_11 rfl (lv_at hl 3 rfl) ?_
    refine lv_aload_n hx hb dX6_forecast_12 rfl (lv_at hl 0 rfl) ?_
    refine my_get hx hb hts inAX6 hown hK hP 0 rfl rfl 3 (by decide) w_804 rfl rfl dX6_forecast_13 ?_
    refine lv_sipush (v := iI (1099)) hx hb dX6_forecast_16 (by decide) ?_
    have pk3 : picks [(km, .inr (6, [.int (iI (((cdM sh it mI zs zi : Nat) : Int))), .int (iI (((sh : Nat) : Int))), .int (iI (((it : Nat) : Int))), .int (iI (((dy : Nat) : Int))), .int (iI (lc)), .int (iI (sv)), .int (iI (lr)), .int (iI (sr)), .ref pL, .ref pP, .ref pC, .ref pI, .ref pM, .ref pS, .ref pV, .ref pN, .ref pE, .ref pA, .ref pO, .ref pT, .ref pD, .ref pG, .ref pW])), (pI, arZ cs 20 mI), (pV, arI cs 20 mV), (pN, arI cs 140 mN)] [] [] := trivial
    refine va_calli (va_runS (As := [.int (iI (dz)), .int (iI (((dy : Nat) : Int))), .int (iI (1099))]) (rest := []) ⟨hx, hb, hml, hown, hts⟩ (m_X6_in l D cs dz ((dy : Nat) : Int) 1099 (by omega) (by omega) (by omega)) (va_cwS 3 hts (gS w_880 w_881 w_5 w_882) rfl rfl rfl (by decide +kernel) ⟨Nat.le_of_ble_eq_true rfl, Nat.le_of_ble_eq_true rfl⟩) (PC_S hK hN hP hD [] rfl pk3) rfl rfl hl.1 rfl (lv_room (Nat.le_of_ble_eq_true rfl)) dX6_forecast_19 ⟨Nat.le_of_ble_eq_true rfl, Nat.le_of_ble_eq_true rfl⟩) hS (fun _ _ h => False.elim h) (fun _ h => False.elim h) (fun r u t H locs ht hvm hw hB hz1 hk1 hS => ?_)
    subst hw
    have hP := P_kept hP hk1
    have hin := inI_s dz ((dy : Nat) : Int) 1099
    refine my_if_eq (tgt := 38) hx hb (by omega) dX6_forecast_22 (by decide) (fun b4 => ?_) (fun b4 => ?_)
    · refine lv_aload_n hx hb dX6_forecast_38 rfl (lv_at hl 0 rfl) ?_
      refine lv_iconst (v := iI (3)) hx hb dX6_forecast_39 rfl ?_
      have pk5 : picks [(km, .inr (6, [.int (iI (((cdM sh it mI zs zi : Nat) : Int))), .int (iI (((sh : Nat) : Int))), .int (iI (((it : Nat) : Int))), .int (iI (((dy : Nat) : Int))), .int (iI (lc)), .int (iI (sv)), .int (iI (lr)), .int (iI (sr)), .ref pL, .ref pP, .ref pC, .ref pI, .ref pM, .ref pS, .ref pV, .ref pN, .ref pE, .ref pA, .ref pO, .ref pT, .ref pD, .ref pG, .ref pW])), (pI, arZ cs 20 mI), (pV, arI cs 20 mV), (pN, arI cs 140 mN)] [0] [(km, .inr (6, [.int (iI (((cdM sh it mI zs zi : Nat) : Int))), .int (iI (((sh : Nat) : Int))), .int (iI (((it : Nat) : Int))), .int (iI (((dy : Nat) : Int))), .int (iI (lc)), .int (iI (sv)), .int (iI (lr)), .int (iI (sr)), .ref pL, .ref pP, .ref pC, .ref pI, .ref pM, .ref pS, .ref pV, .ref pN, .ref pE, .ref pA, .ref pO, .ref pT, .ref pD, .ref pG, .ref pW]))] := ⟨rfl, trivial⟩
      refine va_calli (va_runV (As := [.int (iI (3))]) (rest := []) ⟨hx, hb, hml, hown, hts⟩ (m_X6_fails l D cs km pL pP pC pI pM pS pV pN pE pA pO pT pD pG pW sh it ((cdM sh it mI zs zi : Nat) : Int) dy lc sv lr sr 3) (cwV 1 hts (gV w_883 w_885 w_p16 w_5 w_886) rfl rfl rfl (by decide +kernel) ⟨Nat.le_of_ble_eq_true rfl, Nat.le_of_ble_eq_true rfl⟩) (PC_V hK hN hP hD [0] rfl pk5 rfl rfl) rfl rfl hl.1 rfl (lv_room (Nat.le_of_ble_eq_true rfl)) dX6_forecast_40 ⟨Nat.le_of_ble_eq_true rfl, Nat.le_of_ble_eq_true rfl⟩) hS (fun q _ h => inW_sub hD [0] pk5 q h) (fun q h => inW_sub hD [0] pk5 q h) (fun r u t H locs ht hvm hw hB hz1 hk1 hS => ?_)
      subst hw
      rw [ht] at hB
      obtain ⟨hP, hD⟩ := my_join (W1 := [(km, .inr (6, [.int (iI (3)), .int (iI (((sh : Nat) : Int))), .int (iI (((it : Nat) : Int))), .int (iI (((dy : Nat) : Int))), .int (iI (lc)), .int (iI (sv)), .int (iI (lr)), .int (iI (sr)), .ref pL, .ref pP, .ref pC, .ref pI, .ref pM, .ref pS, .ref pV, .ref pN, .ref pE, .ref pA, .ref pO, .ref pT, .ref pD, .ref pG, .ref pW]))]) hP hD [0] rfl pk5 rfl hk1 hB
      have hP : va_P D vwCl [(km, .inr (6, [.int (iI (3)), .int (iI (((sh : Nat) : Int))), .int (iI (((it : Nat) : Int))), .int (iI (((dy : Nat) : Int))), .int (iI (lc)), .int (iI (sv)), .int (iI (lr)), .int (iI (sr)), .ref pL, .ref pP, .ref pC, .ref pI, .ref pM, .ref pS, .ref pV, .ref pN, .ref pE, .ref pA, .ref pO, .ref pT, .ref pD, .ref pG, .ref pW])), (pI, arZ cs 20 mI), (pV, arI cs 20 mV), (pN, arI cs 140 mN)] H := hP
      have hD : va_D A [(km, .inr (6, [.int (iI (3)), .int (iI (((sh : Nat) : Int))), .int (iI (((it : Nat) : Int))), .int (iI (((dy : Nat) : Int))), .int (iI (lc)), .int (iI (sv)), .int (iI (lr)), .int (iI (sr)), .ref pL, .ref pP, .ref pC, .ref pI, .ref pM, .ref pS, .ref pV, .ref pN, .ref pE, .ref pA, .ref pO, .ref pT, .ref pD, .ref pG, .ref pW])), (pI, arZ cs 20 mI), (pV, arI cs 20 mV), (pN, arI cs 140 mN)] := hD
      have hWe : ([(km, .inr (6, [.int (iI (3)), .int (iI (((sh : Nat) : Int))), .int (iI (((it : Nat) : Int))), .int (iI (((dy : Nat) : Int))), .int (iI (lc)), .int (iI (sv)), .int (iI (lr)), .int (iI (sr)), .ref pL, .ref pP, .ref pC, .ref pI, .ref pM, .ref pS, .ref pV, .ref pN, .ref pE, .ref pA, .ref pO, .ref pT, .ref pD, .ref pG, .ref pW])), (pI, arZ cs 20 mI), (pV, arI cs 20 mV), (pN, arI cs 140 mN)] : va_W) = [(km, .inr (6, [.int (iI ((((cdx (cdM sh it mI zs zi) (((dy : Nat) : Int) ≤ dz ∧ dz ≤ 1099)) : Nat) : Int))), .int (iI (((sh : Nat) : Int))), .int (iI (((it : Nat) : Int))), .int (iI (((dy : Nat) : Int))), .int (iI (lc)), .int (iI (sv)), .int (iI (lr)), .int (iI (sr)), .ref pL, .ref pP, .ref pC, .ref pI, .ref pM, .ref pS, .ref pV, .ref pN, .ref pE, .ref pA, .ref pO, .ref pT, .ref pD, .ref pG, .ref pW])), (pI, arZ cs 20 mI), (pV, arI cs 20 mV), (pN, arI cs 140 mN)] := by
        have hcd : cdx (cdM sh it mI zs zi) (((dy : Nat) : Int) ≤ dz ∧ dz ≤ 1099) = 3 := by unfold cdx; (repeat' split) <;> omega
        rw [hcd] <;> first | rfl | (simp; done)
      rw [hWe] at hP
      subst hAe
      have hres : iI (0) = iI (if cdx (cdM sh it mI zs zi) (((dy : Nat) : Int) ≤ dz ∧ dz ≤ 1099) = 0 then thI (mV (5 * zs + zi).toNat) (fun w => mN (7 * (5 * zs + zi).toNat + w)) dz.toNat else 0) := congrArg iI (by
          have hcd : cdx (cdM sh it mI zs zi) (((dy : Nat) : Int) ≤ dz ∧ dz ≤ 1099) = 3 := by unfold cdx; (repeat' split) <;> omega
          rw [hcd]
          first | rfl | (rw [if_pos (by omega)]; done) | (rw [if_neg (by omega)]; done) | (simp; done))
      exact W.iret hx hb hr (fun t ht hW => ⟨⟨_, (), rfl, hres, by show va_P D vwCl _ t.heap; rw [ht]; exact hP⟩, hS.F ht⟩) hS.2.2 dX6_forecast_43
    · refine lv_aload_n hx hb dX6_forecast_25 rfl (lv_at hl 0 rfl) ?_
      refine lv_iconst (v := iI (5)) hx hb dX6_forecast_26 rfl ?_
      refine lv_iload_n hx hb dX6_forecast_27 rfl (lv_at hl 1 rfl) ?_
      refine my_imul (z := 5 * zs) hx hb dX6_forecast_28 (rfl) ?_
      refine lv_iload_n hx hb dX6_forecast_29 rfl (lv_at hl 2 rfl) ?_
      refine my_iadd (z := (5 * zs) + zi) hx hb dX6_forecast_30 (rfl) ?_
      refine my_cv0 (z := ((((5 * zs + zi).toNat) : Nat) : Int)) (by omega) ?_
      refine lv_iload_n hx hb dX6_forecast_31 rfl (lv_at hl 3 rfl) ?_
      refine my_cv0 (z := ((dz.toNat : Nat) : Int)) (by omega) ?_
      have pk6 : picks [(km, .inr (6, [.int (iI (((cdM sh it mI zs zi : Nat) : Int))), .int (iI (((sh : Nat) : Int))), .int (iI (((it : Nat) : Int))), .int (iI (((dy : Nat) : Int))), .int (iI (lc)), .int (iI (sv)), .int (iI (lr)), .int (iI (sr)), .ref pL, .ref pP, .ref pC, .ref pI, .ref pM, .ref pS, .ref pV, .ref pN, .ref pE, .ref pA, .ref pO, .ref pT, .ref pD, .ref pG, .ref pW])), (pI, arZ cs 20 mI), (pV, arI cs 20 mV), (pN, arI cs 140 mN)] [0, 2, 3] [(km, .inr (6, [.int (iI (((cdM sh it mI zs zi : Nat) : Int))), .int (iI (((sh : Nat) : Int))), .int (iI (((it : Nat) : Int))), .int (iI (((dy : Nat) : Int))), .int (iI (lc)), .int (iI (sv)), .int (iI (lr)), .int (iI (sr)), .ref pL, .ref pP, .ref pC, .ref pI, .ref pM, .ref pS, .ref pV, .ref pN, .ref pE, .ref pA, .ref pO, .ref pT, .ref pD, .ref pG, .ref pW])), (pV, arI cs 20 mV), (pN, arI cs 140 mN)] := ⟨rfl, rfl, rfl, trivial⟩
      refine va_calli (va_runV (As := [.int (iI (((((5 * zs + zi).toNat) : Nat) : Int))), .int (iI (((dz.toNat : Nat) : Int)))]) (rest := []) ⟨hx, hb, hml, hown, hts⟩ (m_X6_told l D cs km pL pP pC pI pM pS pV pN pE pA pO pT pD pG pW sh it ((cdM sh it mI zs zi : Nat) : Int) dy lc sv lr sr mV mN ((5 * zs + zi).toNat) dz.toNat (hmV) (hmN) (by omega) (by omega)) (cwV 2 hts (gV w_944 w_946 w_p21 w_5 w_947) rfl rfl rfl (by decide +kernel) ⟨Nat.le_of_ble_eq_true rfl, Nat.le_of_ble_eq_true rfl⟩) (PC_V hK hN hP hD [0, 2, 3] rfl pk6 rfl rfl) rfl rfl hl.1 rfl (lv_room (Nat.le_of_ble_eq_true rfl)) dX6_forecast_32 ⟨Nat.le_of_ble_eq_true rfl, Nat.le_of_ble_eq_true rfl⟩) hS (fun _ _ h => False.elim h) (fun _ h => False.elim h) (fun r u t H locs ht hvm hw hB hz1 hk1 hS => ?_)
      subst hw
      have hP := P_kept hP hk1
      refine lv_goto (tgt := 43) hx hb dX6_forecast_35 (by decide) ?_
      have hWe : ([(km, .inr (6, [.int (iI (((cdM sh it mI zs zi : Nat) : Int))), .int (iI (((sh : Nat) : Int))), .int (iI (((it : Nat) : Int))), .int (iI (((dy : Nat) : Int))), .int (iI (lc)), .int (iI (sv)), .int (iI (lr)), .int (iI (sr)), .ref pL, .ref pP, .ref pC, .ref pI, .ref pM, .ref pS, .ref pV, .ref pN, .ref pE, .ref pA, .ref pO, .ref pT, .ref pD, .ref pG, .ref pW])), (pI, arZ cs 20 mI), (pV, arI cs 20 mV), (pN, arI cs 140 mN)] : va_W) = [(km, .inr (6, [.int (iI ((((cdx (cdM sh it mI zs zi) (((dy : Nat) : Int) ≤ dz ∧ dz ≤ 1099)) : Nat) : Int))), .int (iI (((sh : Nat) : Int))), .int (iI (((it : Nat) : Int))), .int (iI (((dy : Nat) : Int))), .int (iI (lc)), .int (iI (sv)), .int (iI (lr)), .int (iI (sr)), .ref pL, .ref pP, .ref pC, .ref pI, .ref pM, .ref pS, .ref pV, .ref pN, .ref pE, .ref pA, .ref pO, .ref pT, .ref pD, .ref pG, .ref pW])), (pI, arZ cs 20 mI), (pV, arI cs 20 mV), (pN, arI cs 140 mN)] := by
        have hcd : cdx (cdM sh it mI zs zi) (((dy : Nat) : Int) ≤ dz ∧ dz ≤ 1099) = cdM sh it mI zs zi := by unfold cdx; (repeat' split) <;> omega
        rw [hcd] <;> first | rfl | (simp; done)
      rw [hWe] at hP
      subst hAe
      have hres : iI (thI (mV ((5 * zs + zi).toNat)) (fun w => mN (7 * ((5 * zs + zi).toNat) + w)) dz.toNat) = iI (if cdx (cdM sh it mI zs zi) (((dy : Nat) : Int) ≤ dz ∧ dz ≤ 1099) = 0 then thI (mV (5 * zs + zi).toNat) (fun w => mN (7 * (5 * zs + zi).toNat + w)) dz.toNat else 0) := congrArg iI (by
          have hcd : cdx (cdM sh it mI zs zi) (((dy : Nat) : Int) ≤ dz ∧ dz ≤ 1099) = cdM sh it mI zs zi := by unfold cdx; (repeat' split) <;> omega
          rw [hcd]
          first | rfl | (rw [if_pos (by omega)]; done) | (rw [if_neg (by omega)]; done) | (simp; done))
      exact W.iret hx hb hr (fun t ht hW => ⟨⟨_, (), rfl, hres, by show va_P D vwCl _ t.heap; rw [ht]; exact hP⟩, hS.F ht⟩) hS.2.2 dX6_forecast_43
  · refine lv_iconst (v := iI (0)) hx hb dX6_forecast_9 rfl ?_
    have hWe : ([(km, .inr (6, [.int (iI (((cdM sh it mI zs zi : Nat) : Int))), .int (iI (((sh : Nat) : Int))), .int (iI (((it : Nat) : Int))), .int (iI (((dy : Nat) : Int))), .int (iI (lc)), .int (iI (sv)), .int (iI (lr)), .int (iI (sr)), .ref pL, .ref pP, .ref pC, .ref pI, .ref pM, .ref pS, .ref pV, .ref pN, .ref pE, .ref pA, .ref pO, .ref pT, .ref pD, .ref pG, .ref pW])), (pI, arZ cs 20 mI), (pV, arI cs 20 mV), (pN, arI cs 140 mN)] : va_W) = [(km, .inr (6, [.int (iI ((((cdx (cdM sh it mI zs zi) (((dy : Nat) : Int) ≤ dz ∧ dz ≤ 1099)) : Nat) : Int))), .int (iI (((sh : Nat) : Int))), .int (iI (((it : Nat) : Int))), .int (iI (((dy : Nat) : Int))), .int (iI (lc)), .int (iI (sv)), .int (iI (lr)), .int (iI (sr)), .ref pL, .ref pP, .ref pC, .ref pI, .ref pM, .ref pS, .ref pV, .ref pN, .ref pE, .ref pA, .ref pO, .ref pT, .ref pD, .ref pG, .ref pW])), (pI, arZ cs 20 mI), (pV, arI cs 20 mV), (pN, arI cs 140 mN)] := by
      have hcd : cdx (cdM sh it mI zs zi) (((dy : Nat) : Int) ≤ dz ∧ dz ≤ 1099) = cdM sh it mI zs zi := by unfold cdx; (repeat' split) <;> omega
      rw [hcd] <;> first | rfl | (simp; done)
    rw [hWe] at hP
    subst hAe
    have hres : iI (0) = iI (if cdx (cdM sh it mI zs zi) (((dy : Nat) : Int) ≤ dz ∧ dz ≤ 1099) = 0 then thI (mV (5 * zs + zi).toNat) (fun w => mN (7 * (5 * zs + zi).toNat + w)) dz.toNat else 0) := congrArg iI (by
        have hcd : cdx (cdM sh it mI zs zi) (((dy : Nat) : Int) ≤ dz ∧ dz ≤ 1099) = cdM sh it mI zs zi := by unfold cdx; (repeat' split) <;> omega
        rw [hcd]
        first | rfl | (rw [if_pos (by omega)]; done) | (rw [if_neg (by omega)]; done) | (simp; done))
    exact W.iret hx hb hr (fun t ht hW => ⟨⟨_, (), rfl, hres, by show va_P D vwCl _ t.heap; rw [ht]; exact hP⟩, hS.F ht⟩) hS.2.2 dX6_forecast_10

abbrev ws_X6_nextArrival : List Cond := Cond.code yX6_nextArrival cX6_nextArrival 4 (some .int) :: ALL
set_option maxHeartbeats 4000000 in
set_option maxRecDepth 100000 in
theorem m_X6_nextArrival (l : Launch) (D : va_G) (cs : Nat → ClassId) (km pL pP pC pI pM pS pV pN pE pA pO pT pD pG pW sh it : Nat) (th : Int) (dy : Nat) (lc sv lr sr : Int) (mI : Nat → Int) (mD : Nat → Int) (zs zi : Int) (hsh : sh ≤ 4) (hit : it ≤ 5) (hmI : ∀ j, 0 ≤ mI j ∧ mI j ≤ 1) (hmD : ∀ j, 0 ≤ mD j ∧ mD j ≤ 100000000) (hdy : dy < 1000000) (hzs : -2147483648 ≤ zs ∧ zs < 2147483648) (hzi : -2147483648 ≤ zi ∧ zi < 2147483648) : Met l yX6_nextArrival ws_X6_nextArrival ({ frames := 3, cells := 0, slots := 0, locals := 65 }) (va_Pc [.ref km, .int (iI (zs)), .int (iI (zi))] (PC D cs [(km, .inr (6, [.int (iI (th)), .int (iI (((sh : Nat) : Int))), .int (iI (((it : Nat) : Int))), .int (iI (((dy : Nat) : Int))), .int (iI (lc)), .int (iI (sv)), .int (iI (lr)), .int (iI (sr)), .ref pL, .ref pP, .ref pC, .ref pI, .ref pM, .ref pS, .ref pV, .ref pN, .ref pE, .ref pA, .ref pO, .ref pT, .ref pD, .ref pG, .ref pW])), (pI, arZ cs 20 mI), (pD, arI cs 160 mD)])) (va_Qi (fun r (_ : Unit) => r = iI (if cdN (cdM sh it mI zs zi) (fdI (fun d => mD (8 * (5 * zs + zi).toNat + d % 8)) dy 1 7) = 0 then fdI (fun d => mD (8 * (5 * zs + zi).toNat + d % 8)) dy 1 7 else 0)) (fun _ t => va_P D vwCl [(km, .inr (6, [.int (iI ((((cdN (cdM sh it mI zs zi) (fdI (fun d => mD (8 * (5 * zs + zi).toNat + d % 8)) dy 1 7)) : Nat) : Int))), .int (iI (((sh : Nat) : Int))), .int (iI (((it : Nat) : Int))), .int (iI (((dy : Nat) : Int))), .int (iI (lc)), .int (iI (sv)), .int (iI (lr)), .int (iI (sr)), .ref pL, .ref pP, .ref pC, .ref pI, .ref pM, .ref pS, .ref pV, .ref pN, .ref pE, .ref pA, .ref pO, .ref pT, .ref pD, .ref pG, .ref pW])), (pI, arZ cs 20 mI), (pD, arI cs 160 mD)] t.heap) (inW [(km, .inr (6, [.int (iI (th)), .int (iI (((sh : Nat) : Int))), .int (iI (((it : Nat) : Int))), .int (iI (((dy : Nat) : Int))), .int (iI (lc)), .int (iI (sv)), .int (iI (lr)), .int (iI (sr)), .ref pL, .ref pP, .ref pC, .ref pI, .ref pM, .ref pS, .ref pV, .ref pN, .ref pE, .ref pA, .ref pO, .ref pT, .ref pD, .ref pG, .ref pW])), (pI, arZ cs 20 mI), (pD, arI cs 160 mD)])) 0 0 (inW [(km, .inr (6, [.int (iI (th)), .int (iI (((sh : Nat) : Int))), .int (iI (((it : Nat) : Int))), .int (iI (((dy : Nat) : Int))), .int (iI (lc)), .int (iI (sv)), .int (iI (lr)), .int (iI (sr)), .ref pL, .ref pP, .ref pC, .ref pI, .ref pM, .ref pS, .ref pV, .ref pN, .ref pE, .ref pA, .ref pO, .ref pT, .ref pD, .ref pG, .ref pW])), (pI, arZ cs 20 mI), (pD, arI cs 160 mD)]) := by
  refine Met.ofW (cc := cX6_nextArrival) (maxL := 4) (ret := (some .int)) (by decide +kernel) rfl ?_
  intro p e s m args below meth c s₁ B hml hv
  obtain ⟨rfl, hP, hK, hD, hN⟩ := hv
  have hx := B.exec
  have hb := B.bytes
  have hr := B.returns
  have hts : ∀ w ∈ ALL, w.before _ s = true := fun w h => atoms_spec (ws := ws_X6_nextArrival) B.pre w (List.mem_cons_of_mem _ h)
  have hown : s.vm.findClass RX6 = some m.cls := findClass_of_methodNamed B.named
  have hlocks := B.notSynchronized
  generalize hAe : inW [(km, .inr (6, [.int (iI (th)), .int (iI (((sh : Nat) : Int))), .int (iI (((it : Nat) : Int))), .int (iI (((dy : Nat) : Int))), .int (iI (lc)), .int (iI (sv)), .int (iI (lr)), .int (iI (sr)), .ref pL, .ref pP, .ref pC, .ref pI, .ref pM, .ref pS, .ref pV, .ref pN, .ref pE, .ref pA, .ref pO, .ref pT, .ref pD, .ref pG, .ref pW])), (pI, arZ cs 20 mI), (pD, arI cs 160 mD)] = A at hD ⊢
  have hS : va_S A s.heap s.heap [] := va_S.rf
  have hl := lv_entry ([.ref km, .int (iI (zs)), .int (iI (zi))]) (n := 4) (Nat.le_of_ble_eq_true rfl)
  rw [lg_entry_eq]
  generalize (lg_sl ([.ref km, .int (iI (zs)), .int (iI (zi))]) ++ List.replicate (4 - (lg_sl ([.ref km, .int (iI (zs)), .int (iI (zi))])).length) Slot.unset).toArray = ls at hl ⊢
  have hl : lv_has ls 4 [(0, .ref km), (1, .int (iI (zs))), (2, .int (iI (zi)))] := hl
  have hH := rfl (a := s.heap)
  refine lv_aload_n hx hb dX6_nextArrival_0 rfl (lv_at hl 0 rfl) ?_
  refine lv_iload_n hx hb dX6_nextArrival_1 rfl (lv_at hl 1 rfl) ?_
  refine lv_iload_n hx hb dX6_nextArrival_2 rfl (lv_at hl 2 rfl) ?_
  have pk1 : picks [(km, .inr (6, [.int (iI (th)), .int (iI (((sh : Nat) : Int))), .int (iI (((it : Nat) : Int))), .int (iI (((dy : Nat) : Int))), .int (iI (lc)), .int (iI (sv)), .int (iI (lr)), .int (iI (sr)), .ref pL, .ref pP, .ref pC, .ref pI, .ref pM, .ref pS, .ref pV, .ref pN, .ref pE, .ref pA, .ref pO, .ref pT, .ref pD, .ref pG, .ref pW])), (pI, arZ cs 20 mI), (pD, arI cs 160 mD)] [0, 1] [(km, .inr (6, [.int (iI (th)), .int (iI (((sh : Nat) : Int))), .int (iI (((it : Nat) : Int))), .int (iI (((dy : Nat) : Int))), .int (iI (lc)), .int (iI (sv)), .int (iI (lr)), .int (iI (sr)), .ref pL, .ref pP, .ref pC, .ref pI, .ref pM, .ref pS, .ref pV, .ref pN, .ref pE, .ref pA, .ref pO, .ref pT, .ref pD, .ref pG, .ref pW])), (pI, arZ cs 20 mI)] := ⟨rfl, rfl, trivial⟩
  refine va_calli (va_runV (As := [.int (iI (zs)), .int (iI (zi))]) (rest := []) ⟨hx, hb, hml, hown, hts⟩ (m_X6_isLine l D cs km pL pP pC pI pM pS pV pN pE pA pO pT pD pG pW sh it th dy lc sv lr sr mI zs zi (by assumption) (by assumption) (by assumption) (by omega) (by omega)) (cwV 2 hts (gV w_932 w_934 w_p19 w_5 w_935) rfl rfl rfl (by decide +kernel) ⟨Nat.le_of_ble_eq_true rfl, Nat.le_of_ble_eq_true rfl⟩) (PC_V hK hN hP hD [0, 1] rfl pk1 rfl rfl) rfl rfl hl.1 rfl (lv_room (Nat.le_of_ble_eq_true rfl)) dX6_nextArrival_3 ⟨Nat.le_of_ble_eq_true rfl, Nat.le_of_ble_eq_true rfl⟩) hS (fun q _ h => inW_sub hD [0, 1] pk1 q h) (fun q h => inW_sub hD [0, 1] pk1 q h) (fun r u t H locs ht hvm hw hB hz1 hk1 hS => ?_)
  subst hw
  rw [ht] at hB
  obtain ⟨hP, hD⟩ := my_join (W1 := [(km, .inr (6, [.int (iI (((cdM sh it mI zs zi : Nat) : Int))), .int (iI (((sh : Nat) : Int))), .int (iI (((it : Nat) : Int))), .int (iI (((dy : Nat) : Int))), .int (iI (lc)), .int (iI (sv)), .int (iI (lr)), .int (iI (sr)), .ref pL, .ref pP, .ref pC, .ref pI, .ref pM, .ref pS, .ref pV, .ref pN, .ref pE, .ref pA, .ref pO, .ref pT, .ref pD, .ref pG, .ref pW])), (pI, arZ cs 20 mI)]) hP hD [0, 1] rfl pk1 rfl hk1 hB
  have hP : va_P D vwCl [(km, .inr (6, [.int (iI (((cdM sh it mI zs zi : Nat) : Int))), .int (iI (((sh : Nat) : Int))), .int (iI (((it : Nat) : Int))), .int (iI (((dy : Nat) : Int))), .int (iI (lc)), .int (iI (sv)), .int (iI (lr)), .int (iI (sr)), .ref pL, .ref pP, .ref pC, .ref pI, .ref pM, .ref pS, .ref pV, .ref pN, .ref pE, .ref pA, .ref pO, .ref pT, .ref pD, .ref pG, .ref pW])), (pI, arZ cs 20 mI), (pD, arI cs 160 mD)] H := hP
  have hD : va_D A [(km, .inr (6, [.int (iI (((cdM sh it mI zs zi : Nat) : Int))), .int (iI (((sh : Nat) : Int))), .int (iI (((it : Nat) : Int))), .int (iI (((dy : Nat) : Int))), .int (iI (lc)), .int (iI (sv)), .int (iI (lr)), .int (iI (sr)), .ref pL, .ref pP, .ref pC, .ref pI, .ref pM, .ref pS, .ref pV, .ref pN, .ref pE, .ref pA, .ref pO, .ref pT, .ref pD, .ref pG, .ref pW])), (pI, arZ cs 20 mI), (pD, arI cs 160 mD)] := hD
  have hcm := cdM_s sh it mI zs zi
  have hbb := b01_s (cdM sh it mI zs zi)
  refine my_if_ne (tgt := 11) hx hb (by omega) dX6_nextArrival_6 (by decide) (fun b2 => ?_) (fun b2 => ?_)
  · refine lv_aload_n hx hb dX6_nextArrival_11 rfl (lv_at hl 0 rfl) ?_
    refine my_get hx hb hts inAX6 hown hK hP 0 rfl rfl 3 (by decide) w_804 rfl rfl dX6_nextArrival_12 ?_
    refine lv_iconst (v := iI (1)) hx hb dX6_nextArrival_15 rfl ?_
    refine my_iadd (z := ((dy : Nat) : Int) + 1) hx hb dX6_nextArrival_16 (rfl) ?_
    refine my_cv0 (z := (((dy + (0 + 1)) : Nat) : Int)) (by omega) ?_
    refine lv_istore_n (lv' := [(3, .int (iI ((((dy + (0 + 1)) : Nat) : Int)))), (0, .ref km), (1, .int (iI (zs))), (2, .int (iI (zi)))]) hx hb dX6_nextArrival_17 rfl hl (by decide) rfl (fun ls hl => ?_)
    suffices KL : ∀ (n : Nat) (i : Nat), i ≤ 7 → fdI (fun d => mD (8 * (5 * zs + zi).toNat + d % 8)) dy 1 7 = fdI (fun d => mD (8 * (5 * zs + zi).toNat + d % 8)) dy (i + 1) (7 - i) → 7 - i < n → ∀ (H : Heap) (locs : List Loc) (ls : Array Slot), va_P D vwCl [(km, .inr (6, [.int (iI (((cdM sh it mI zs zi : Nat) : Int))), .int (iI (((sh : Nat) : Int))), .int (iI (((it : Nat) : Int))), .int (iI (((dy : Nat) : Int))), .int (iI (lc)), .int (iI (sv)), .int (iI (lr)), .int (iI (sr)), .ref pL, .ref pP, .ref pC, .ref pI, .ref pM, .ref pS, .ref pV, .ref pN, .ref pE, .ref pA, .ref pO, .ref pT, .ref pD, .ref pG, .ref pW])), (pI, arZ cs 20 mI), (pD, arI cs 160 mD)] H → va_D A [(km, .inr (6, [.int (iI (((cdM sh it mI zs zi : Nat) : Int))), .int (iI (((sh : Nat) : Int))), .int (iI (((it : Nat) : Int))), .int (iI (((dy : Nat) : Int))), .int (iI (lc)), .int (iI (sv)), .int (iI (lr)), .int (iI (sr)), .ref pL, .ref pP, .ref pC, .ref pI, .ref pM, .ref pS, .ref pV, .ref pN, .ref pE, .ref pA, .ref pO, .ref pT, .ref pD, .ref pG, .ref pW])), (pI, arZ cs 20 mI), (pD, arI cs 160 mD)] → va_S A s.heap H locs → lv_has ls 4 [(3, .int (iI ((((dy + (i + 1)) : Nat) : Int)))), (0, .ref km), (1, .int (iI (zs))), (2, .int (iI (zi)))] → W p l e _ s m _ below meth c H locs 0 0 _ (F0 m 18 ls []) from
      KL _ 0 (by omega) (rfl) (Nat.lt_succ_self _) _ _ _ hP hD hS (lv_sub hl [0, 1, 2, 3] rfl)
    intro n
    induction n with
    | zero => intro i hil hs h0; exact absurd h0 (Nat.not_lt_zero _)
    | succ n ih =>
      intro i hil hs hmu H locs ls hP hD hS hl
      have hmd := hmD (8 * (5 * zs + zi).toNat + (dy + (i + 1)) % 8)
      refine lv_iload_n hx hb dX6_nextArrival_18 rfl (lv_at hl 0 rfl) ?_
      refine lv_aload_n hx hb dX6_nextArrival_19 rfl (lv_at hl 1 rfl) ?_
      refine my_get hx hb hts inAX6 hown hK hP 0 rfl rfl 3 (by decide) w_804 rfl rfl dX6_nextArrival_20 ?_
      refine lv_bipush (v := iI (8)) hx hb dX6_nextArrival_23 (by decide) ?_
      refine my_iadd (z := ((dy : Nat) : Int) + 8) hx hb dX6_nextArrival_25 (rfl) ?_
      refine my_icmp_ge (tgt := 58) hx hb (by omega) dX6_nextArrival_26 (by decide) (fun b3 => ?_) (fun b3 => ?_)
      · have hfd : fdI (fun d => mD (8 * (5 * zs + zi).toNat + d % 8)) dy 1 7 = -1 := by rw [hs, show 7 - i = 0 from by omega, fdI]
        refine lv_aload_n hx hb dX6_nextArrival_58 rfl (lv_at hl 1 rfl) ?_
        refine lv_iconst (v := iI (2)) hx hb dX6_nextArrival_59 rfl ?_
        have pk4 : picks [(km, .inr (6, [.int (iI (((cdM sh it mI zs zi : Nat) : Int))), .int (iI (((sh : Nat) : Int))), .int (iI (((it : Nat) : Int))), .int (iI (((dy : Nat) : Int))), .int (iI (lc)), .int (iI (sv)), .int (iI (lr)), .int (iI (sr)), .ref pL, .ref pP, .ref pC, .ref pI, .ref pM, .ref pS, .ref pV, .ref pN, .ref pE, .ref pA, .ref pO, .ref pT, .ref pD, .ref pG, .ref pW])), (pI, arZ cs 20 mI), (pD, arI cs 160 mD)] [0] [(km, .inr (6, [.int (iI (((cdM sh it mI zs zi : Nat) : Int))), .int (iI (((sh : Nat) : Int))), .int (iI (((it : Nat) : Int))), .int (iI (((dy : Nat) : Int))), .int (iI (lc)), .int (iI (sv)), .int (iI (lr)), .int (iI (sr)), .ref pL, .ref pP, .ref pC, .ref pI, .ref pM, .ref pS, .ref pV, .ref pN, .ref pE, .ref pA, .ref pO, .ref pT, .ref pD, .ref pG, .ref pW]))] := ⟨rfl, trivial⟩
        refine va_calli (va_runV (As := [.int (iI (2))]) (rest := []) ⟨hx, hb, hml, hown, hts⟩ (m_X6_fails l D cs km pL pP pC pI pM pS pV pN pE pA pO pT pD pG pW sh it ((cdM sh it mI zs zi : Nat) : Int) dy lc sv lr sr 2) (cwV 1 hts (gV w_883 w_885 w_p16 w_5 w_886) rfl rfl rfl (by decide +kernel) ⟨Nat.le_of_ble_eq_true rfl, Nat.le_of_ble_eq_true rfl⟩) (PC_V hK hN hP hD [0] rfl pk4 rfl rfl) rfl rfl hl.1 rfl (lv_room (Nat.le_of_ble_eq_true rfl)) dX6_nextArrival_60 ⟨Nat.le_of_ble_eq_true rfl, Nat.le_of_ble_eq_true rfl⟩) hS (fun q _ h => inW_sub hD [0] pk4 q h) (fun q h => inW_sub hD [0] pk4 q h) (fun r u t H locs ht hvm hw hB hz1 hk1 hS => ?_)
        subst hw
        rw [ht] at hB
        obtain ⟨hP, hD⟩ := my_join (W1 := [(km, .inr (6, [.int (iI (2)), .int (iI (((sh : Nat) : Int))), .int (iI (((it : Nat) : Int))), .int (iI (((dy : Nat) : Int))), .int (iI (lc)), .int (iI (sv)), .int (iI (lr)), .int (iI (sr)), .ref pL, .ref pP, .ref pC, .ref pI, .ref pM, .ref pS, .ref pV, .ref pN, .ref pE, .ref pA, .ref pO, .ref pT, .ref pD, .ref pG, .ref pW]))]) hP hD [0] rfl pk4 rfl hk1 hB
        have hP : va_P D vwCl [(km, .inr (6, [.int (iI (2)), .int (iI (((sh : Nat) : Int))), .int (iI (((it : Nat) : Int))), .int (iI (((dy : Nat) : Int))), .int (iI (lc)), .int (iI (sv)), .int (iI (lr)), .int (iI (sr)), .ref pL, .ref pP, .ref pC, .ref pI, .ref pM, .ref pS, .ref pV, .ref pN, .ref pE, .ref pA, .ref pO, .ref pT, .ref pD, .ref pG, .ref pW])), (pI, arZ cs 20 mI), (pD, arI cs 160 mD)] H := hP
        have hD : va_D A [(km, .inr (6, [.int (iI (2)), .int (iI (((sh : Nat) : Int))), .int (iI (((it : Nat) : Int))), .int (iI (((dy : Nat) : Int))), .int (iI (lc)), .int (iI (sv)), .int (iI (lr)), .int (iI (sr)), .ref pL, .ref pP, .ref pC, .ref pI, .ref pM, .ref pS, .ref pV, .ref pN, .ref pE, .ref pA, .ref pO, .ref pT, .ref pD, .ref pG, .ref pW])), (pI, arZ cs 20 mI), (pD, arI cs 160 mD)] := hD
        have hWe : ([(km, .inr (6, [.int (iI (2)), .int (iI (((sh : Nat) : Int))), .int (iI (((it : Nat) : Int))), .int (iI (((dy : Nat) : Int))), .int (iI (lc)), .int (iI (sv)), .int (iI (lr)), .int (iI (sr)), .ref pL, .ref pP, .ref pC, .ref pI, .ref pM, .ref pS, .ref pV, .ref pN, .ref pE, .ref pA, .ref pO, .ref pT, .ref pD, .ref pG, .ref pW])), (pI, arZ cs 20 mI), (pD, arI cs 160 mD)] : va_W) = [(km, .inr (6, [.int (iI ((((cdN (cdM sh it mI zs zi) (fdI (fun d => mD (8 * (5 * zs + zi).toNat + d % 8)) dy 1 7)) : Nat) : Int))), .int (iI (((sh : Nat) : Int))), .int (iI (((it : Nat) : Int))), .int (iI (((dy : Nat) : Int))), .int (iI (lc)), .int (iI (sv)), .int (iI (lr)), .int (iI (sr)), .ref pL, .ref pP, .ref pC, .ref pI, .ref pM, .ref pS, .ref pV, .ref pN, .ref pE, .ref pA, .ref pO, .ref pT, .ref pD, .ref pG, .ref pW])), (pI, arZ cs 20 mI), (pD, arI cs 160 mD)] := by
          have hcd : cdN (cdM sh it mI zs zi) (fdI (fun d => mD (8 * (5 * zs + zi).toNat + d % 8)) dy 1 7) = 2 := by unfold cdN; (repeat' split) <;> omega
          rw [hcd] <;> first | rfl | (simp; done)
        rw [hWe] at hP
        subst hAe
        have hres : iI (0) = iI (if cdN (cdM sh it mI zs zi) (fdI (fun d => mD (8 * (5 * zs + zi).toNat + d % 8)) dy 1 7) = 0 then fdI (fun d => mD (8 * (5 * zs + zi).toNat + d % 8)) dy 1 7 else 0) := congrArg iI (by
            have hcd : cdN (cdM sh it mI zs zi) (fdI (fun d => mD (8 * (5 * zs + zi).toNat + d % 8)) dy 1 7) = 2 := by unfold cdN; (repeat' split) <;> omega
            rw [hcd]; rfl)
        exact W.iret hx hb hr (fun t ht hW => ⟨⟨_, (), rfl, hres, by show va_P D vwCl _ t.heap; rw [ht]; exact hP⟩, hS.F ht⟩) hS.2.2 dX6_nextArrival_63
      · refine lv_aload_n hx hb dX6_nextArrival_29 rfl (lv_at hl 1 rfl) ?_
        refine my_get hx hb hts inAX6 hown hK hP 0 rfl rfl 20 (by decide) w_821 rfl rfl dX6_nextArrival_30 ?_
        refine lv_bipush (v := iI (8)) hx hb dX6_nextArrival_33 (by decide) ?_
        refine lv_iconst (v := iI (5)) hx hb dX6_nextArrival_35 rfl ?_
        refine lv_iload_n hx hb dX6_nextArrival_36 rfl (lv_at hl 2 rfl) ?_
        refine my_imul (z := 5 * zs) hx hb dX6_nextArrival_37 (rfl) ?_
        refine lv_iload_n hx hb dX6_nextArrival_38 rfl (lv_at hl 3 rfl) ?_
        refine my_iadd (z := (5 * zs) + zi) hx hb dX6_nextArrival_39 (rfl) ?_
        refine my_imul (z := 8 * ((5 * zs) + zi)) hx hb dX6_nextArrival_40 (rfl) ?_
        refine lv_iload_n hx hb dX6_nextArrival_41 rfl (lv_at hl 0 rfl) ?_
        refine lv_bipush (v := iI (8)) hx hb dX6_nextArrival_42 (by decide) ?_
        refine my_irem hx hb dX6_nextArrival_44 (by omega) rfl ?_
        refine my_iadd (z := (8 * ((5 * zs) + zi)) + ((((dy + (i + 1)) : Nat) : Int) % 8)) hx hb dX6_nextArrival_45 (rfl) ?_
        refine my_cv0 (z := (((8 * (5 * zs + zi).toNat + (dy + (i + 1)) % 8) : Nat) : Int)) (by omega) ?_
        refine my_iald hx hb hK hP 2 rfl (by omega) (k := 8 * (5 * zs + zi).toNat + (dy + (i + 1)) % 8) (Int.toNat_natCast _) dX6_nextArrival_46 ?_
        refine my_if_le (tgt := 52) hx hb (by omega) dX6_nextArrival_47 (by decide) (fun b5 => ?_) (fun b5 => ?_)
        · refine lv_iinc (v := iI ((((dy + (i + 1)) : Nat) : Int) + 1)) (lv' := [(3, .int (iI ((((dy + (i + 1)) : Nat) : Int) + 1))), (0, .ref km), (1, .int (iI (zs))), (2, .int (iI (zi)))]) hx hb dX6_nextArrival_52 hl (k := 0) rfl (by rw [show ((((dy + (i + 1)) : Nat) : Int) + 1 : Int) = (((dy + (i + 1)) : Nat) : Int) + 1 from rfl]; exact iI_add _ _) (by decide) rfl (fun ls hl => ?_)
          refine lv_goto (tgt := 18) hx hb dX6_nextArrival_55 (by decide) ?_
          have e1 : (((dy + (i + 1)) : Nat) : Int) + 1 = (((dy + (i + 1 + 1)) : Nat) : Int) := by omega
          rw [e1] at hl
          exact ih (i + 1) (by omega) (by rw [hs, show 7 - i = (7 - (i + 1)) + 1 from by omega, fdI, if_neg (by omega)]) (by omega) _ _ _ hP hD hS (lv_sub hl [0, 1, 2, 3] rfl)
        · refine lv_iload_n hx hb dX6_nextArrival_50 rfl (lv_at hl 0 rfl) ?_
          have hfd : fdI (fun d => mD (8 * (5 * zs + zi).toNat + d % 8)) dy 1 7 = ((dy : Nat) : Int) + (((i + 1) : Nat) : Int) := by rw [hs, show 7 - i = (7 - (i + 1)) + 1 from by omega, fdI, if_pos (by omega)]
          have hWe : ([(km, .inr (6, [.int (iI (((cdM sh it mI zs zi : Nat) : Int))), .int (iI (((sh : Nat) : Int))), .int (iI (((it : Nat) : Int))), .int (iI (((dy : Nat) : Int))), .int (iI (lc)), .int (iI (sv)), .int (iI (lr)), .int (iI (sr)), .ref pL, .ref pP, .ref pC, .ref pI, .ref pM, .ref pS, .ref pV, .ref pN, .ref pE, .ref pA, .ref pO, .ref pT, .ref pD, .ref pG, .ref pW])), (pI, arZ cs 20 mI), (pD, arI cs 160 mD)] : va_W) = [(km, .inr (6, [.int (iI ((((cdN (cdM sh it mI zs zi) (fdI (fun d => mD (8 * (5 * zs + zi).toNat + d % 8)) dy 1 7)) : Nat) : Int))), .int (iI (((sh : Nat) : Int))), .int (iI (((it : Nat) : Int))), .int (iI (((dy : Nat) : Int))), .int (iI (lc)), .int (iI (sv)), .int (iI (lr)), .int (iI (sr)), .ref pL, .ref pP, .ref pC, .ref pI, .ref pM, .ref pS, .ref pV, .ref pN, .ref pE, .ref pA, .ref pO, .ref pT, .ref pD, .ref pG, .ref pW])), (pI, arZ cs 20 mI), (pD, arI cs 160 mD)] := by
            have hcd : cdN (cdM sh it mI zs zi) (fdI (fun d => mD (8 * (5 * zs + zi).toNat + d % 8)) dy 1 7) = cdM sh it mI zs zi := by unfold cdN; (repeat' split) <;> omega
            rw [hcd] <;> first | rfl | (simp; done)
          rw [hWe] at hP
          subst hAe
          have hres : iI ((((dy + (i + 1)) : Nat) : Int)) = iI (if cdN (cdM sh it mI zs zi) (fdI (fun d => mD (8 * (5 * zs + zi).toNat + d % 8)) dy 1 7) = 0 then fdI (fun d => mD (8 * (5 * zs + zi).toNat + d % 8)) dy 1 7 else 0) := congrArg iI (by
              have hcd : cdN (cdM sh it mI zs zi) (fdI (fun d => mD (8 * (5 * zs + zi).toNat + d % 8)) dy 1 7) = 0 := by unfold cdN; (repeat' split) <;> omega
              rw [if_pos hcd]; omega)
          exact W.iret hx hb hr (fun t ht hW => ⟨⟨_, (), rfl, hres, by show va_P D vwCl _ t.heap; rw [ht]; exact hP⟩, hS.F ht⟩) hS.2.2 dX6_nextArrival_51
  · refine lv_iconst (v := iI (0)) hx hb dX6_nextArrival_9 rfl ?_
    have hWe : ([(km, .inr (6, [.int (iI (((cdM sh it mI zs zi : Nat) : Int))), .int (iI (((sh : Nat) : Int))), .int (iI (((it : Nat) : Int))), .int (iI (((dy : Nat) : Int))), .int (iI (lc)), .int (iI (sv)), .int (iI (lr)), .int (iI (sr)), .ref pL, .ref pP, .ref pC, .ref pI, .ref pM, .ref pS, .ref pV, .ref pN, .ref pE, .ref pA, .ref pO, .ref pT, .ref pD, .ref pG, .ref pW])), (pI, arZ cs 20 mI), (pD, arI cs 160 mD)] : va_W) = [(km, .inr (6, [.int (iI ((((cdN (cdM sh it mI zs zi) (fdI (fun d => mD (8 * (5 * zs + zi).toNat + d % 8)) dy 1 7)) : Nat) : Int))), .int (iI (((sh : Nat) : Int))), .int (iI (((it : Nat) : Int))), .int (iI (((dy : Nat) : Int))), .int (iI (lc)), .int (iI (sv)), .int (iI (lr)), .int (iI (sr)), .ref pL, .ref pP, .ref pC, .ref pI, .ref pM, .ref pS, .ref pV, .ref pN, .ref pE, .ref pA, .ref pO, .ref pT, .ref pD, .ref pG, .ref pW])), (pI, arZ cs 20 mI), (pD, arI cs 160 mD)] := by
      have hcd : cdN (cdM sh it mI zs zi) (fdI (fun d => mD (8 * (5 * zs + zi).toNat + d % 8)) dy 1 7) = cdM sh it mI zs zi := by unfold cdN; (repeat' split) <;> omega
      rw [hcd] <;> first | rfl | (simp; done)
    rw [hWe] at hP
    subst hAe
    have hres : iI (0) = iI (if cdN (cdM sh it mI zs zi) (fdI (fun d => mD (8 * (5 * zs + zi).toNat + d % 8)) dy 1 7) = 0 then fdI (fun d => mD (8 * (5 * zs + zi).toNat + d % 8)) dy 1 7 else 0) := congrArg iI (by
        rw [if_neg (by unfold cdN; rw [if_neg (by omega)]; omega)])
    exact W.iret hx hb hr (fun t ht hW => ⟨⟨_, (), rfl, hres, by show va_P D vwCl _ t.heap; rw [ht]; exact hP⟩, hS.F ht⟩) hS.2.2 dX6_nextArrival_10

abbrev ws_X6_units : List Cond := Cond.code yX6_units cX6_units 4 (some .long) :: ALL
set_option maxHeartbeats 4000000 in
set_option maxRecDepth 100000 in
theorem m_X6_units (l : Launch) (D : va_G) (cs : Nat → ClassId) (km pL pP pC pI pM pS pV pN pE pA pO pT pD pG pW sh it : Nat) (th : Int) (dy : Nat) (lc sv lr sr : Int) (mC : Nat → Int) (mS : Nat → Int) (mD : Nat → Int) (hit : it ≤ 5) (hmC : ∀ j, 0 ≤ mC j ∧ mC j ≤ 99999) (hmS : ∀ j, 0 ≤ mS j ∧ mS j ≤ 100000000) (hmDs : ∀ a, 0 ≤ smI (fun k => mD (8 * a + k)) 8 ∧ smI (fun k => mD (8 * a + k)) 8 ≤ 100000000) : Met l yX6_units ws_X6_units ({ frames := 1, cells := 0, slots := 0, locals := 23 }) (va_Pc [.ref km] (PC D cs [(km, .inr (6, [.int (iI (th)), .int (iI (((sh : Nat) : Int))), .int (iI (((it : Nat) : Int))), .int (iI (((dy : Nat) : Int))), .int (iI (lc)), .int (iI (sv)), .int (iI (lr)), .int (iI (sr)), .ref pL, .ref pP, .ref pC, .ref pI, .ref pM, .ref pS, .ref pV, .ref pN, .ref pE, .ref pA, .ref pO, .ref pT, .ref pD, .ref pG, .ref pW])), (pC, arI cs 5 mC), (pS, arI cs 20 mS), (pD, arI cs 160 mD)])) (va_Ql (fun r (_ : Unit) => r = lI (smI mC it + smI (fun a => mS a + smI (fun k => mD (8 * a + k)) 8) 20)) (fun _ t => va_P D vwCl [(km, .inr (6, [.int (iI (0)), .int (iI (((sh : Nat) : Int))), .int (iI (((it : Nat) : Int))), .int (iI (((dy : Nat) : Int))), .int (iI (lc)), .int (iI (sv)), .int (iI (lr)), .int (iI (sr)), .ref pL, .ref pP, .ref pC, .ref pI, .ref pM, .ref pS, .ref pV, .ref pN, .ref pE, .ref pA, .ref pO, .ref pT, .ref pD, .ref pG, .ref pW])), (pC, arI cs 5 mC), (pS, arI cs 20 mS), (pD, arI cs 160 mD)] t.heap) (inW [(km, .inr (6, [.int (iI (th)), .int (iI (((sh : Nat) : Int))), .int (iI (((it : Nat) : Int))), .int (iI (((dy : Nat) : Int))), .int (iI (lc)), .int (iI (sv)), .int (iI (lr)), .int (iI (sr)), .ref pL, .ref pP, .ref pC, .ref pI, .ref pM, .ref pS, .ref pV, .ref pN, .ref pE, .ref pA, .ref pO, .ref pT, .ref pD, .ref pG, .ref pW])), (pC, arI cs 5 mC), (pS, arI cs 20 mS), (pD, arI cs 160 mD)])) 0 0 (inW [(km, .inr (6, [.int (iI (th)), .int (iI (((sh : Nat) : Int))), .int (iI (((it : Nat) : Int))), .int (iI (((dy : Nat) : Int))), .int (iI (lc)), .int (iI (sv)), .int (iI (lr)), .int (iI (sr)), .ref pL, .ref pP, .ref pC, .ref pI, .ref pM, .ref pS, .ref pV, .ref pN, .ref pE, .ref pA, .ref pO, .ref pT, .ref pD, .ref pG, .ref pW])), (pC, arI cs 5 mC), (pS, arI cs 20 mS), (pD, arI cs 160 mD)]) := by
  refine Met.ofW (cc := cX6_units) (maxL := 4) (ret := (some .long)) (by decide +kernel) rfl ?_
  intro p e s m args below meth c s₁ B hml hv
  obtain ⟨rfl, hP, hK, hD, hN⟩ := hv
  have hx := B.exec
  have hb := B.bytes
  have hr := B.returns
  have hts : ∀ w ∈ ALL, w.before _ s = true := fun w h => atoms_spec (ws := ws_X6_units) B.pre w (List.mem_cons_of_mem _ h)
  have hown : s.vm.findClass RX6 = some m.cls := findClass_of_methodNamed B.named
  have hlocks := B.notSynchronized
  generalize hAe : inW [(km, .inr (6, [.int (iI (th)), .int (iI (((sh : Nat) : Int))), .int (iI (((it : Nat) : Int))), .int (iI (((dy : Nat) : Int))), .int (iI (lc)), .int (iI (sv)), .int (iI (lr)), .int (iI (sr)), .ref pL, .ref pP, .ref pC, .ref pI, .ref pM, .ref pS, .ref pV, .ref pN, .ref pE, .ref pA, .ref pO, .ref pT, .ref pD, .ref pG, .ref pW])), (pC, arI cs 5 mC), (pS, arI cs 20 mS), (pD, arI cs 160 mD)] = A at hD ⊢
  have hS : va_S A s.heap s.heap [] := va_S.rf
  have hl := lv_entry ([.ref km]) (n := 4) (Nat.le_of_ble_eq_true rfl)
  rw [lg_entry_eq]
  generalize (lg_sl ([.ref km]) ++ List.replicate (4 - (lg_sl ([.ref km])).length) Slot.unset).toArray = ls at hl ⊢
  have hl : lv_has ls 4 [(0, .ref km)] := hl
  have hH := rfl (a := s.heap)
  refine lv_aload_n hx hb dX6_units_0 rfl (lv_at hl 0 rfl) ?_
  refine lv_iconst (v := iI (0)) hx hb dX6_units_1 rfl ?_
  refine my_put hx hb hts inAX6 tyX6_ok nmX6 hown hK hP hD hS 0 rfl rfl 0 (by decide) w_801 rfl rfl rfl (Nat.le_of_ble_eq_true rfl) dX6_units_2 (fun H locs hP hD hS => ?_)
  have hP : va_P D vwCl [(km, .inr (6, [.int (iI (0)), .int (iI (((sh : Nat) : Int))), .int (iI (((it : Nat) : Int))), .int (iI (((dy : Nat) : Int))), .int (iI (lc)), .int (iI (sv)), .int (iI (lr)), .int (iI (sr)), .ref pL, .ref pP, .ref pC, .ref pI, .ref pM, .ref pS, .ref pV, .ref pN, .ref pE, .ref pA, .ref pO, .ref pT, .ref pD, .ref pG, .ref pW])), (pC, arI cs 5 mC), (pS, arI cs 20 mS), (pD, arI cs 160 mD)] H := hP
  have hD : va_D A [(km, .inr (6, [.int (iI (0)), .int (iI (((sh : Nat) : Int))), .int (iI (((it : Nat) : Int))), .int (iI (((dy : Nat) : Int))), .int (iI (lc)), .int (iI (sv)), .int (iI (lr)), .int (iI (sr)), .ref pL, .ref pP, .ref pC, .ref pI, .ref pM, .ref pS, .ref pV, .ref pN, .ref pE, .ref pA, .ref pO, .ref pT, .ref pD, .ref pG, .ref pW])), (pC, arI cs 5 mC), (pS, arI cs 20 mS), (pD, arI cs 160 mD)] := hD
  refine lv_lconst (v := lI 0) hx hb dX6_units_5 (by decide) ?_
  refine lv_lstore_n (lv' := [(1, .long (lI (0))), (0, .ref km)]) hx hb dX6_units_6 rfl hl (by decide) rfl (fun ls hl => ?_)
  refine lv_iconst (v := iI (0)) hx hb dX6_units_7 rfl ?_
  refine lv_istore_n (lv' := [(3, .int (iI (0))), (1, .long (lI (0))), (0, .ref km)]) hx hb dX6_units_8 rfl hl (by decide) rfl (fun ls hl => ?_)
  suffices KL : ∀ (n : Nat) (i : Nat), i ≤ it → it - i < n → ∀ (H : Heap) (locs : List Loc) (ls : Array Slot), va_P D vwCl [(km, .inr (6, [.int (iI (0)), .int (iI (((sh : Nat) : Int))), .int (iI (((it : Nat) : Int))), .int (iI (((dy : Nat) : Int))), .int (iI (lc)), .int (iI (sv)), .int (iI (lr)), .int (iI (sr)), .ref pL, .ref pP, .ref pC, .ref pI, .ref pM, .ref pS, .ref pV, .ref pN, .ref pE, .ref pA, .ref pO, .ref pT, .ref pD, .ref pG, .ref pW])), (pC, arI cs 5 mC), (pS, arI cs 20 mS), (pD, arI cs 160 mD)] H → va_D A [(km, .inr (6, [.int (iI (0)), .int (iI (((sh : Nat) : Int))), .int (iI (((it : Nat) : Int))), .int (iI (((dy : Nat) : Int))), .int (iI (lc)), .int (iI (sv)), .int (iI (lr)), .int (iI (sr)), .ref pL, .ref pP, .ref pC, .ref pI, .ref pM, .ref pS, .ref pV, .ref pN, .ref pE, .ref pA, .ref pO, .ref pT, .ref pD, .ref pG, .ref pW])), (pC, arI cs 5 mC), (pS, arI cs 20 mS), (pD, arI cs 160 mD)] → va_S A s.heap H locs → lv_has ls 4 [(3, .int (iI (((i : Nat) : Int)))), (1, .long (lI (smI mC i))), (0, .ref km)] → W p l e _ s m _ below meth c H locs 0 0 _ (F0 m 9 ls []) from
    KL _ 0 (by omega) (Nat.lt_succ_self _) _ _ _ hP hD hS (lv_sub hl [0, 1, 2] rfl)
  intro n
  induction n with
  | zero => intro i hil h0; exact absurd h0 (Nat.not_lt_zero _)
  | succ n ih =>
    intro i hil hmu H locs ls hP hD hS hl
    have hmc := hmC i
    refine lv_iload_n hx hb dX6_units_9 rfl (lv_at hl 0 rfl) ?_
    refine lv_aload_n hx hb dX6_units_10 rfl (lv_at hl 2 rfl) ?_
    refine my_get hx hb hts inAX6 hown hK hP 0 rfl rfl 2 (by decide) w_803 rfl rfl dX6_units_11 ?_
    refine my_icmp_ge (tgt := 33) hx hb (by omega) dX6_units_14 (by decide) (fun b1 => ?_) (fun b1 => ?_)
    · have ei : i = it := by omega
      rw [ei] at hl
      refine lv_iconst (v := iI (0)) hx hb dX6_units_33 rfl ?_
      refine lv_istore_n (lv' := [(3, .int (iI (0))), (1, .long (lI (smI mC it))), (0, .ref km)]) hx hb dX6_units_34 rfl hl (by decide) rfl (fun ls hl => ?_)
      suffices KL1 : ∀ (n1 : Nat) (j : Nat), j ≤ 20 → 20 - j < n1 → ∀ (H : Heap) (locs : List Loc) (ls : Array Slot), va_P D vwCl [(km, .inr (6, [.int (iI (0)), .int (iI (((sh : Nat) : Int))), .int (iI (((it : Nat) : Int))), .int (iI (((dy : Nat) : Int))), .int (iI (lc)), .int (iI (sv)), .int (iI (lr)), .int (iI (sr)), .ref pL, .ref pP, .ref pC, .ref pI, .ref pM, .ref pS, .ref pV, .ref pN, .ref pE, .ref pA, .ref pO, .ref pT, .ref pD, .ref pG, .ref pW])), (pC, arI cs 5 mC), (pS, arI cs 20 mS), (pD, arI cs 160 mD)] H → va_D A [(km, .inr (6, [.int (iI (0)), .int (iI (((sh : Nat) : Int))), .int (iI (((it : Nat) : Int))), .int (iI (((dy : Nat) : Int))), .int (iI (lc)), .int (iI (sv)), .int (iI (lr)), .int (iI (sr)), .ref pL, .ref pP, .ref pC, .ref pI, .ref pM, .ref pS, .ref pV, .ref pN, .ref pE, .ref pA, .ref pO, .ref pT, .ref pD, .ref pG, .ref pW])), (pC, arI cs 5 mC), (pS, arI cs 20 mS), (pD, arI cs 160 mD)] → va_S A s.heap H locs → lv_has ls 4 [(3, .int (iI (((j : Nat) : Int)))), (1, .long (lI (smI mC it + smI (fun a => mS a + smI (fun k => mD (8 * a + k)) 8) j))), (0, .ref km)] → W p l e _ s m _ below meth c H locs 0 0 _ (F0 m 35 ls []) from
        KL1 _ 0 (by omega) (Nat.lt_succ_self _) _ _ _ hP hD hS (lv_sub hl [0, 1, 2] (by rw [show smI mC it + smI (fun a => mS a + smI (fun k => mD (8 * a + k)) 8) 0 = smI mC it from by simp [smI]]; rfl))
      intro n1
      induction n1 with
      | zero => intro j hjl h0; exact absurd h0 (Nat.not_lt_zero _)
      | succ n1 ih1 =>
        intro j hjl hmu1 H locs ls hP hD hS hl
        have hms := hmS j
        have hmd := hmDs j
        refine lv_iload_n hx hb dX6_units_35 rfl (lv_at hl 0 rfl) ?_
        refine lv_bipush (v := iI (20)) hx hb dX6_units_36 (by decide) ?_
        refine my_icmp_ge (tgt := 63) hx hb (by omega) dX6_units_38 (by decide) (fun b2 => ?_) (fun b2 => ?_)
        · refine lv_lload_n hx hb dX6_units_63 rfl (lv_at hl 1 rfl) ?_
          subst hAe
          have hres : lI (smI mC it + smI (fun a => mS a + smI (fun k => mD (8 * a + k)) 8) j) = lI (smI mC it + smI (fun a => mS a + smI (fun k => mD (8 * a + k)) 8) 20) := congrArg lI (by
              have ej : j = 20 := by omega
              rw [ej])
          exact W.lret hx hb hr (fun t ht hW => ⟨⟨_, (), rfl, hres, by show va_P D vwCl _ t.heap; rw [ht]; exact hP⟩, hS.F ht⟩) hS.2.2 dX6_units_64
        · refine lv_lload_n hx hb dX6_units_41 rfl (lv_at hl 1 rfl) ?_
          refine lv_aload_n hx hb dX6_units_42 rfl (lv_at hl 2 rfl) ?_
          refine my_get hx hb hts inAX6 hown hK hP 0 rfl rfl 13 (by decide) w_814 rfl rfl dX6_units_43 ?_
          refine lv_iload_n hx hb dX6_units_46 rfl (lv_at hl 0 rfl) ?_
          refine my_iald hx hb hK hP 2 rfl (by omega) (k := j) (Int.toNat_natCast _) dX6_units_47 ?_
          refine lv_aload_n hx hb dX6_units_48 rfl (lv_at hl 2 rfl) ?_
          refine lv_iload_n hx hb dX6_units_49 rfl (lv_at hl 0 rfl) ?_
          have pk3 : picks [(km, .inr (6, [.int (iI (0)), .int (iI (((sh : Nat) : Int))), .int (iI (((it : Nat) : Int))), .int (iI (((dy : Nat) : Int))), .int (iI (lc)), .int (iI (sv)), .int (iI (lr)), .int (iI (sr)), .ref pL, .ref pP, .ref pC, .ref pI, .ref pM, .ref pS, .ref pV, .ref pN, .ref pE, .ref pA, .ref pO, .ref pT, .ref pD, .ref pG, .ref pW])), (pC, arI cs 5 mC), (pS, arI cs 20 mS), (pD, arI cs 160 mD)] [0, 3] [(km, .inr (6, [.int (iI (0)), .int (iI (((sh : Nat) : Int))), .int (iI (((it : Nat) : Int))), .int (iI (((dy : Nat) : Int))), .int (iI (lc)), .int (iI (sv)), .int (iI (lr)), .int (iI (sr)), .ref pL, .ref pP, .ref pC, .ref pI, .ref pM, .ref pS, .ref pV, .ref pN, .ref pE, .ref pA, .ref pO, .ref pT, .ref pD, .ref pG, .ref pW])), (pD, arI cs 160 mD)] := ⟨rfl, rfl, trivial⟩
          refine va_calli (va_runV (As := [.int (iI (((j : Nat) : Int)))]) (rest := [.int (iI (mS j)), .long (lI (smI mC it + smI (fun a => mS a + smI (fun k => mD (8 * a + k)) 8) j))]) ⟨hx, hb, hml, hown, hts⟩ (m_X6_coming l D cs km pL pP pC pI pM pS pV pN pE pA pO pT pD pG pW sh it 0 dy lc sv lr sr mD j (by omega)) (cwV 1 hts (gV w_970 w_972 w_p26 w_5 w_973) rfl rfl rfl (by decide +kernel) ⟨Nat.le_of_ble_eq_true rfl, Nat.le_of_ble_eq_true rfl⟩) (PC_V hK hN hP hD [0, 3] rfl pk3 rfl rfl) rfl rfl hl.1 rfl (lv_room (Nat.le_of_ble_eq_true rfl)) dX6_units_50 ⟨Nat.le_of_ble_eq_true rfl, Nat.le_of_ble_eq_true rfl⟩) hS (fun _ _ h => False.elim h) (fun _ h => False.elim h) (fun r u t H locs ht hvm hw hB hz1 hk1 hS => ?_)
          subst hw
          have hP := P_kept hP hk1
          refine my_iadd (z := (mS j) + (smI (fun k => mD (8 * j + k)) 8)) hx hb dX6_units_53 (rfl) ?_
          refine my_i2l hx hb dX6_units_54 (by omega) ?_
          refine my_ladd (z := (smI mC it + smI (fun a => mS a + smI (fun k => mD (8 * a + k)) 8) j) + ((mS j) + (smI (fun k => mD (8 * j + k)) 8))) hx hb dX6_units_55 (rfl) ?_
          refine lv_lstore_n (lv' := [(1, .long (lI ((smI mC it + smI (fun a => mS a + smI (fun k => mD (8 * a + k)) 8) j) + ((mS j) + (smI (fun k => mD (8 * j + k)) 8))))), (3, .int (iI (((j : Nat) : Int)))), (0, .ref km)]) hx hb dX6_units_56 rfl hl (by decide) rfl (fun ls hl => ?_)
          refine lv_iinc (v := iI (((j : Nat) : Int) + 1)) (lv' := [(3, .int (iI (((j : Nat) : Int) + 1))), (1, .long (lI ((smI mC it + smI (fun a => mS a + smI (fun k => mD (8 * a + k)) 8) j) + ((mS j) + (smI (fun k => mD (8 * j + k)) 8))))), (0, .ref km)]) hx hb dX6_units_57 hl (k := 1) rfl (by rw [show (((j : Nat) : Int) + 1 : Int) = ((j : Nat) : Int) + 1 from rfl]; exact iI_add _ _) (by decide) rfl (fun ls hl => ?_)
          refine lv_goto (tgt := 35) hx hb dX6_units_60 (by decide) ?_
          have e1 : ((j : Nat) : Int) + 1 = ((j + 1 : Nat) : Int) := by omega
          have e2 : smI mC it + smI (fun a => mS a + smI (fun k => mD (8 * a + k)) 8) j + (mS j + smI (fun k => mD (8 * j + k)) 8) = smI mC it + smI (fun a => mS a + smI (fun k => mD (8 * a + k)) 8) (j + 1) := by simp only [smI]; omega
          rw [e1, e2] at hl
          exact ih1 (j + 1) (by omega) (by omega) _ _ _ hP hD hS (lv_sub hl [0, 1, 2] rfl)
    · refine lv_lload_n hx hb dX6_units_17 rfl (lv_at hl 1 rfl) ?_
      refine lv_aload_n hx hb dX6_units_18 rfl (lv_at hl 2 rfl) ?_
      refine my_get hx hb hts inAX6 hown hK hP 0 rfl rfl 10 (by decide) w_811 rfl rfl dX6_units_19 ?_
      refine lv_iload_n hx hb dX6_units_22 rfl (lv_at hl 0 rfl) ?_
      refine my_iald hx hb hK hP 1 rfl (by omega) (k := i) (Int.toNat_natCast _) dX6_units_23 ?_
      refine my_i2l hx hb dX6_units_24 (by omega) ?_
      refine my_ladd (z := (smI mC i) + (mC i)) hx hb dX6_units_25 (rfl) ?_
      refine lv_lstore_n (lv' := [(1, .long (lI ((smI mC i) + (mC i)))), (3, .int (iI (((i : Nat) : Int)))), (0, .ref km)]) hx hb dX6_units_26 rfl hl (by decide) rfl (fun ls hl => ?_)
      refine lv_iinc (v := iI (((i : Nat) : Int) + 1)) (lv' := [(3, .int (iI (((i : Nat) : Int) + 1))), (1, .long (lI ((smI mC i) + (mC i)))), (0, .ref km)]) hx hb dX6_units_27 hl (k := 1) rfl (by rw [show (((i : Nat) : Int) + 1 : Int) = ((i : Nat) : Int) + 1 from rfl]; exact iI_add _ _) (by decide) rfl (fun ls hl => ?_)
      refine lv_goto (tgt := 9) hx hb dX6_units_30 (by decide) ?_
      have e1 : ((i : Nat) : Int) + 1 = ((i + 1 : Nat) : Int) := by omega
      have e2 : smI mC i + mC i = smI mC (i + 1) := rfl
      rw [e1, e2] at hl
      exact ih (i + 1) (by omega) (by omega) _ _ _ hP hD hS (lv_sub hl [0, 1, 2] rfl)
