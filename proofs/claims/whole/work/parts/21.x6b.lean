abbrev ws_X6_addItem : List Cond := Cond.code yX6_addItem cX6_addItem 3 (some .int) :: ALL
set_option maxHeartbeats 4000000 in
set_option maxRecDepth 100000 in
theorem m_X6_addItem (l : Launch) (D : va_G) (cs : Nat → ClassId) (km pL pP pC pI pM pS pV pN pE pA pO pT pD pG pW sh it : Nat) (th : Int) (dy : Nat) (lc sv lr sr : Int) (mP : Nat → Int) (mC : Nat → Int) (pz kz : Int) (hit : it ≤ 5) (hpz : -2147483648 ≤ pz ∧ pz < 2147483648) (hkz : -2147483648 ≤ kz ∧ kz < 2147483648) : Met l yX6_addItem ws_X6_addItem ({ frames := 1, cells := 0, slots := 0, locals := 22 }) (va_Pc [.ref km, .int (iI (pz)), .int (iI (kz))] (PC D cs [(km, .inr (6, [.int (iI (th)), .int (iI (((sh : Nat) : Int))), .int (iI (((it : Nat) : Int))), .int (iI (((dy : Nat) : Int))), .int (iI (lc)), .int (iI (sv)), .int (iI (lr)), .int (iI (sr)), .ref pL, .ref pP, .ref pC, .ref pI, .ref pM, .ref pS, .ref pV, .ref pN, .ref pE, .ref pA, .ref pO, .ref pT, .ref pD, .ref pG, .ref pW])), (pP, arI cs 5 mP), (pC, arI cs 5 mC)])) (va_Qi (fun r (_ : Unit) => r = iI (if cd2 ((1 ≤ pz ∧ pz ≤ 50) ∧ (0 ≤ kz ∧ kz ≤ 9999)) (it ≠ 5) = 0 then ((it : Nat) : Int) else 0)) (fun _ t => va_P D vwCl [(km, .inr (6, [.int (iI ((((cd2 ((1 ≤ pz ∧ pz ≤ 50) ∧ (0 ≤ kz ∧ kz ≤ 9999)) (it ≠ 5)) : Nat) : Int))), .int (iI (((sh : Nat) : Int))), .int (iI ((((if cd2 ((1 ≤ pz ∧ pz ≤ 50) ∧ (0 ≤ kz ∧ kz ≤ 9999)) (it ≠ 5) = 0 then it + 1 else it) : Nat) : Int))), .int (iI (((dy : Nat) : Int))), .int (iI (lc)), .int (iI (sv)), .int (iI (lr)), .int (iI (sr)), .ref pL, .ref pP, .ref pC, .ref pI, .ref pM, .ref pS, .ref pV, .ref pN, .ref pE, .ref pA, .ref pO, .ref pT, .ref pD, .ref pG, .ref pW])), (pP, arI cs 5 (if cd2 ((1 ≤ pz ∧ pz ≤ 50) ∧ (0 ≤ kz ∧ kz ≤ 9999)) (it ≠ 5) = 0 then upI mP it pz else mP)), (pC, arI cs 5 (if cd2 ((1 ≤ pz ∧ pz ≤ 50) ∧ (0 ≤ kz ∧ kz ≤ 9999)) (it ≠ 5) = 0 then upI mC it kz else mC))] t.heap) (inW [(km, .inr (6, [.int (iI (th)), .int (iI (((sh : Nat) : Int))), .int (iI (((it : Nat) : Int))), .int (iI (((dy : Nat) : Int))), .int (iI (lc)), .int (iI (sv)), .int (iI (lr)), .int (iI (sr)), .ref pL, .ref pP, .ref pC, .ref pI, .ref pM, .ref pS, .ref pV, .ref pN, .ref pE, .ref pA, .ref pO, .ref pT, .ref pD, .ref pG, .ref pW])), (pP, arI cs 5 mP), (pC, arI cs 5 mC)])) 0 0 (inW [(km, .inr (6, [.int (iI (th)), .int (iI (((sh : Nat) : Int))), .int (iI (((it : Nat) : Int))), .int (iI (((dy : Nat) : Int))), .int (iI (lc)), .int (iI (sv)), .int (iI (lr)), .int (iI (sr)), .ref pL, .ref pP, .ref pC, .ref pI, .ref pM, .ref pS, .ref pV, .ref pN, .ref pE, .ref pA, .ref pO, .ref pT, .ref pD, .ref pG, .ref pW])), (pP, arI cs 5 mP), (pC, arI cs 5 mC)]) := by
  refine Met.ofW (cc := cX6_addItem) (maxL := 3) (ret := (some .int)) (by decide +kernel) rfl ?_
  intro p e s m args below meth c s₁ B hml hv
  obtain ⟨rfl, hP, hK, hD, hN⟩ := hv
  have hx := B.exec
  have hb := B.bytes
  have hr := B.returns
  have hts : ∀ w ∈ ALL, w.before _ s = true := fun w h => atoms_spec (ws := ws_X6_addItem) B.pre w (List.mem_cons_of_mem _ h)
  have hown : s.vm.findClass RX6 = some m.cls := findClass_of_methodNamed B.named
  have hlocks := B.notSynchronized
  generalize hAe : inW [(km, .inr (6, [.int (iI (th)), .int (iI (((sh : Nat) : Int))), .int (iI (((it : Nat) : Int))), .int (iI (((dy : Nat) : Int))), .int (iI (lc)), .int (iI (sv)), .int (iI (lr)), .int (iI (sr)), .ref pL, .ref pP, .ref pC, .ref pI, .ref pM, .ref pS, .ref pV, .ref pN, .ref pE, .ref pA, .ref pO, .ref pT, .ref pD, .ref pG, .ref pW])), (pP, arI cs 5 mP), (pC, arI cs 5 mC)] = A at hD ⊢
  have hS : va_S A s.heap s.heap [] := va_S.rf
  have hl := lv_entry ([.ref km, .int (iI (pz)), .int (iI (kz))]) (n := 3) (Nat.le_of_ble_eq_true rfl)
  rw [lg_entry_eq]
  generalize (lg_sl ([.ref km, .int (iI (pz)), .int (iI (kz))]) ++ List.replicate (3 - (lg_sl ([.ref km, .int (iI (pz)), .int (iI (kz))])).length) Slot.unset).toArray = ls at hl ⊢
  have hl : lv_has ls 3 [(0, .ref km), (1, .int (iI (pz))), (2, .int (iI (kz)))] := hl
  have hH := rfl (a := s.heap)
  refine lv_iload_n hx hb dX6_addItem_0 rfl (lv_at hl 1 rfl) ?_
  refine lv_iconst (v := iI (1)) hx hb dX6_addItem_1 rfl ?_
  refine lv_bipush (v := iI (50)) hx hb dX6_addItem_2 (by decide) ?_
  have pk1 : picks [(km, .inr (6, [.int (iI (th)), .int (iI (((sh : Nat) : Int))), .int (iI (((it : Nat) : Int))), .int (iI (((dy : Nat) : Int))), .int (iI (lc)), .int (iI (sv)), .int (iI (lr)), .int (iI (sr)), .ref pL, .ref pP, .ref pC, .ref pI, .ref pM, .ref pS, .ref pV, .ref pN, .ref pE, .ref pA, .ref pO, .ref pT, .ref pD, .ref pG, .ref pW])), (pP, arI cs 5 mP), (pC, arI cs 5 mC)] [] [] := trivial
  refine va_calli (va_runS (As := [.int (iI (pz)), .int (iI (1)), .int (iI (50))]) (rest := []) ⟨hx, hb, hml, hown, hts⟩ (m_X6_in l D cs pz 1 50 (by omega) (by omega) (by omega)) (va_cwS 3 hts (gS w_880 w_881 w_5 w_882) rfl rfl rfl (by decide +kernel) ⟨Nat.le_of_ble_eq_true rfl, Nat.le_of_ble_eq_true rfl⟩) (PC_S hK hN hP hD [] rfl pk1) rfl rfl hl.1 rfl (lv_room (Nat.le_of_ble_eq_true rfl)) dX6_addItem_4 ⟨Nat.le_of_ble_eq_true rfl, Nat.le_of_ble_eq_true rfl⟩) hS (fun _ _ h => False.elim h) (fun _ h => False.elim h) (fun r u t H locs ht hvm hw hB hz1 hk1 hS => ?_)
  subst hw
  have hP := P_kept hP hk1
  have hin := inI_s pz 1 50
  refine my_if_eq (tgt := 21) hx hb (by omega) dX6_addItem_7 (by decide) (fun b2 => ?_) (fun b2 => ?_)
  · refine lv_aload_n hx hb dX6_addItem_21 rfl (lv_at hl 0 rfl) ?_
    refine lv_iconst (v := iI (1)) hx hb dX6_addItem_22 rfl ?_
    have pk3 : picks [(km, .inr (6, [.int (iI (th)), .int (iI (((sh : Nat) : Int))), .int (iI (((it : Nat) : Int))), .int (iI (((dy : Nat) : Int))), .int (iI (lc)), .int (iI (sv)), .int (iI (lr)), .int (iI (sr)), .ref pL, .ref pP, .ref pC, .ref pI, .ref pM, .ref pS, .ref pV, .ref pN, .ref pE, .ref pA, .ref pO, .ref pT, .ref pD, .ref pG, .ref pW])), (pP, arI cs 5 mP), (pC, arI cs 5 mC)] [0] [(km, .inr (6, [.int (iI (th)), .int (iI (((sh : Nat) : Int))), .int (iI (((it : Nat) : Int))), .int (iI (((dy : Nat) : Int))), .int (iI (lc)), .int (iI (sv)), .int (iI (lr)), .int (iI (sr)), .ref pL, .ref pP, .ref pC, .ref pI, .ref pM, .ref pS, .ref pV, .ref pN, .ref pE, .ref pA, .ref pO, .ref pT, .ref pD, .ref pG, .ref pW]))] := ⟨rfl, trivial⟩
    refine va_calli (va_runV (As := [.int (iI (1))]) (rest := []) ⟨hx, hb, hml, hown, hts⟩ (m_X6_fails l D cs km pL pP pC pI pM pS pV pN pE pA pO pT pD pG pW sh it th dy lc sv lr sr 1) (cwV 1 hts (gV w_883 w_885 w_p16 w_5 w_886) rfl rfl rfl (by decide +kernel) ⟨Nat.le_of_ble_eq_true rfl, Nat.le_of_ble_eq_true rfl⟩) (PC_V hK hN hP hD [0] rfl pk3 rfl rfl) rfl rfl hl.1 rfl (lv_room (Nat.le_of_ble_eq_true rfl)) dX6_addItem_23 ⟨Nat.le_of_ble_eq_true rfl, Nat.le_of_ble_eq_true rfl⟩) hS (fun q _ h => inW_sub hD [0] pk3 q h) (fun q h => inW_sub hD [0] pk3 q h) (fun r u t H locs ht hvm hw hB hz1 hk1 hS => ?_)
    subst hw
    rw [ht] at hB
    obtain ⟨hP, hD⟩ := my_join (W1 := [(km, .inr (6, [.int (iI (1)), .int (iI (((sh : Nat) : Int))), .int (iI (((it : Nat) : Int))), .int (iI (((dy : Nat) : Int))), .int (iI (lc)), .int (iI (sv)), .int (iI (lr)), .int (iI (sr)), .ref pL, .ref pP, .ref pC, .ref pI, .ref pM, .ref pS, .ref pV, .ref pN, .ref pE, .ref pA, .ref pO, .ref pT, .ref pD, .ref pG, .ref pW]))]) hP hD [0] rfl pk3 rfl hk1 hB
    have hP : va_P D vwCl [(km, .inr (6, [.int (iI (1)), .int (iI (((sh : Nat) : Int))), .int (iI (((it : Nat) : Int))), .int (iI (((dy : Nat) : Int))), .int (iI (lc)), .int (iI (sv)), .int (iI (lr)), .int (iI (sr)), .ref pL, .ref pP, .ref pC, .ref pI, .ref pM, .ref pS, .ref pV, .ref pN, .ref pE, .ref pA, .ref pO, .ref pT, .ref pD, .ref pG, .ref pW])), (pP, arI cs 5 mP), (pC, arI cs 5 mC)] H := hP
    have hD : va_D A [(km, .inr (6, [.int (iI (1)), .int (iI (((sh : Nat) : Int))), .int (iI (((it : Nat) : Int))), .int (iI (((dy : Nat) : Int))), .int (iI (lc)), .int (iI (sv)), .int (iI (lr)), .int (iI (sr)), .ref pL, .ref pP, .ref pC, .ref pI, .ref pM, .ref pS, .ref pV, .ref pN, .ref pE, .ref pA, .ref pO, .ref pT, .ref pD, .ref pG, .ref pW])), (pP, arI cs 5 mP), (pC, arI cs 5 mC)] := hD
    have hWe : ([(km, .inr (6, [.int (iI (1)), .int (iI (((sh : Nat) : Int))), .int (iI (((it : Nat) : Int))), .int (iI (((dy : Nat) : Int))), .int (iI (lc)), .int (iI (sv)), .int (iI (lr)), .int (iI (sr)), .ref pL, .ref pP, .ref pC, .ref pI, .ref pM, .ref pS, .ref pV, .ref pN, .ref pE, .ref pA, .ref pO, .ref pT, .ref pD, .ref pG, .ref pW])), (pP, arI cs 5 mP), (pC, arI cs 5 mC)] : va_W) = [(km, .inr (6, [.int (iI ((((cd2 ((1 ≤ pz ∧ pz ≤ 50) ∧ (0 ≤ kz ∧ kz ≤ 9999)) (it ≠ 5)) : Nat) : Int))), .int (iI (((sh : Nat) : Int))), .int (iI ((((if cd2 ((1 ≤ pz ∧ pz ≤ 50) ∧ (0 ≤ kz ∧ kz ≤ 9999)) (it ≠ 5) = 0 then it + 1 else it) : Nat) : Int))), .int (iI (((dy : Nat) : Int))), .int (iI (lc)), .int (iI (sv)), .int (iI (lr)), .int (iI (sr)), .ref pL, .ref pP, .ref pC, .ref pI, .ref pM, .ref pS, .ref pV, .ref pN, .ref pE, .ref pA, .ref pO, .ref pT, .ref pD, .ref pG, .ref pW])), (pP, arI cs 5 (if cd2 ((1 ≤ pz ∧ pz ≤ 50) ∧ (0 ≤ kz ∧ kz ≤ 9999)) (it ≠ 5) = 0 then upI mP it pz else mP)), (pC, arI cs 5 (if cd2 ((1 ≤ pz ∧ pz ≤ 50) ∧ (0 ≤ kz ∧ kz ≤ 9999)) (it ≠ 5) = 0 then upI mC it kz else mC))] := by
      have hcd : cd2 ((1 ≤ pz ∧ pz ≤ 50) ∧ (0 ≤ kz ∧ kz ≤ 9999)) (it ≠ 5) = 1 := by unfold cd2; (repeat' split) <;> omega
      rw [hcd]
      first | rfl | (simp; done)
    rw [hWe] at hP
    subst hAe
    have hres : iI (0) = iI (if cd2 ((1 ≤ pz ∧ pz ≤ 50) ∧ (0 ≤ kz ∧ kz ≤ 9999)) (it ≠ 5) = 0 then ((it : Nat) : Int) else 0) := congrArg iI (by
        have hcd : cd2 ((1 ≤ pz ∧ pz ≤ 50) ∧ (0 ≤ kz ∧ kz ≤ 9999)) (it ≠ 5) = 1 := by unfold cd2; (repeat' split) <;> omega
        rw [hcd]
        first | rfl | (simp; done))
    exact W.iret hx hb hr (fun t ht hW => ⟨⟨_, (), rfl, hres, by show va_P D vwCl _ t.heap; rw [ht]; exact hP⟩, hS.F ht⟩) hS.2.2 dX6_addItem_26
  · refine lv_iload_n hx hb dX6_addItem_10 rfl (lv_at hl 2 rfl) ?_
    refine lv_iconst (v := iI (0)) hx hb dX6_addItem_11 rfl ?_
    refine lv_sipush (v := iI (9999)) hx hb dX6_addItem_12 (by decide) ?_
    have pk4 : picks [(km, .inr (6, [.int (iI (th)), .int (iI (((sh : Nat) : Int))), .int (iI (((it : Nat) : Int))), .int (iI (((dy : Nat) : Int))), .int (iI (lc)), .int (iI (sv)), .int (iI (lr)), .int (iI (sr)), .ref pL, .ref pP, .ref pC, .ref pI, .ref pM, .ref pS, .ref pV, .ref pN, .ref pE, .ref pA, .ref pO, .ref pT, .ref pD, .ref pG, .ref pW])), (pP, arI cs 5 mP), (pC, arI cs 5 mC)] [] [] := trivial
    refine va_calli (va_runS (As := [.int (iI (kz)), .int (iI (0)), .int (iI (9999))]) (rest := []) ⟨hx, hb, hml, hown, hts⟩ (m_X6_in l D cs kz 0 9999 (by omega) (by omega) (by omega)) (va_cwS 3 hts (gS w_880 w_881 w_5 w_882) rfl rfl rfl (by decide +kernel) ⟨Nat.le_of_ble_eq_true rfl, Nat.le_of_ble_eq_true rfl⟩) (PC_S hK hN hP hD [] rfl pk4) rfl rfl hl.1 rfl (lv_room (Nat.le_of_ble_eq_true rfl)) dX6_addItem_15 ⟨Nat.le_of_ble_eq_true rfl, Nat.le_of_ble_eq_true rfl⟩) hS (fun _ _ h => False.elim h) (fun _ h => False.elim h) (fun r u t H locs ht hvm hw hB hz1 hk1 hS => ?_)
    subst hw
    have hP := P_kept hP hk1
    have hin := inI_s kz 0 9999
    refine my_if_ne (tgt := 27) hx hb (by omega) dX6_addItem_18 (by decide) (fun b5 => ?_) (fun b5 => ?_)
    · refine lv_aload_n hx hb dX6_addItem_27 rfl (lv_at hl 0 rfl) ?_
      refine my_get hx hb hts inAX6 hown hK hP 0 rfl rfl 2 (by decide) w_803 rfl rfl dX6_addItem_28 ?_
      refine lv_iconst (v := iI (5)) hx hb dX6_addItem_31 rfl ?_
      refine my_icmp_ne (tgt := 41) hx hb (by omega) dX6_addItem_32 (by decide) (fun b6 => ?_) (fun b6 => ?_)
      · refine lv_aload_n hx hb dX6_addItem_41 rfl (lv_at hl 0 rfl) ?_
        refine lv_iconst (v := iI (0)) hx hb dX6_addItem_42 rfl ?_
        refine my_put hx hb hts inAX6 tyX6_ok nmX6 hown hK hP hD hS 0 rfl rfl 0 (by decide) w_801 rfl rfl rfl (Nat.le_of_ble_eq_true rfl) dX6_addItem_43 (fun H locs hP hD hS => ?_)
        have hP : va_P D vwCl [(km, .inr (6, [.int (iI (0)), .int (iI (((sh : Nat) : Int))), .int (iI (((it : Nat) : Int))), .int (iI (((dy : Nat) : Int))), .int (iI (lc)), .int (iI (sv)), .int (iI (lr)), .int (iI (sr)), .ref pL, .ref pP, .ref pC, .ref pI, .ref pM, .ref pS, .ref pV, .ref pN, .ref pE, .ref pA, .ref pO, .ref pT, .ref pD, .ref pG, .ref pW])), (pP, arI cs 5 mP), (pC, arI cs 5 mC)] H := hP
        have hD : va_D A [(km, .inr (6, [.int (iI (0)), .int (iI (((sh : Nat) : Int))), .int (iI (((it : Nat) : Int))), .int (iI (((dy : Nat) : Int))), .int (iI (lc)), .int (iI (sv)), .int (iI (lr)), .int (iI (sr)), .ref pL, .ref pP, .ref pC, .ref pI, .ref pM, .ref pS, .ref pV, .ref pN, .ref pE, .ref pA, .ref pO, .ref pT, .ref pD, .ref pG, .ref pW])), (pP, arI cs 5 mP), (pC, arI cs 5 mC)] := hD
        refine lv_aload_n hx hb dX6_addItem_46 rfl (lv_at hl 0 rfl) ?_
        refine my_get hx hb hts inAX6 hown hK hP 0 rfl rfl 9 (by decide) w_810 rfl rfl dX6_addItem_47 ?_
        refine lv_aload_n hx hb dX6_addItem_50 rfl (lv_at hl 0 rfl) ?_
        refine my_get hx hb hts inAX6 hown hK hP 0 rfl rfl 2 (by decide) w_803 rfl rfl dX6_addItem_51 ?_
        refine lv_iload_n hx hb dX6_addItem_54 rfl (lv_at hl 1 rfl) ?_
        refine my_iast hx hb hK hP hD hS 1 rfl (by omega) (k := it) (Int.toNat_natCast _) dX6_addItem_55 (fun H locs hP hD hS => ?_)
        have hP : va_P D vwCl [(km, .inr (6, [.int (iI (0)), .int (iI (((sh : Nat) : Int))), .int (iI (((it : Nat) : Int))), .int (iI (((dy : Nat) : Int))), .int (iI (lc)), .int (iI (sv)), .int (iI (lr)), .int (iI (sr)), .ref pL, .ref pP, .ref pC, .ref pI, .ref pM, .ref pS, .ref pV, .ref pN, .ref pE, .ref pA, .ref pO, .ref pT, .ref pD, .ref pG, .ref pW])), (pP, arI cs 5 (upI mP it pz)), (pC, arI cs 5 mC)] H := hP
        have hD : va_D A [(km, .inr (6, [.int (iI (0)), .int (iI (((sh : Nat) : Int))), .int (iI (((it : Nat) : Int))), .int (iI (((dy : Nat) : Int))), .int (iI (lc)), .int (iI (sv)), .int (iI (lr)), .int (iI (sr)), .ref pL, .ref pP, .ref pC, .ref pI, .ref pM, .ref pS, .ref pV, .ref pN, .ref pE, .ref pA, .ref pO, .ref pT, .ref pD, .ref pG, .ref pW])), (pP, arI cs 5 (upI mP it pz)), (pC, arI cs 5 mC)] := hD
        refine lv_aload_n hx hb dX6_addItem_56 rfl (lv_at hl 0 rfl) ?_
        refine my_get hx hb hts inAX6 hown hK hP 0 rfl rfl 10 (by decide) w_811 rfl rfl dX6_addItem_57 ?_
        refine lv_aload_n hx hb dX6_addItem_60 rfl (lv_at hl 0 rfl) ?_
        refine my_get hx hb hts inAX6 hown hK hP 0 rfl rfl 2 (by decide) w_803 rfl rfl dX6_addItem_61 ?_
        refine lv_iload_n hx hb dX6_addItem_64 rfl (lv_at hl 2 rfl) ?_
        refine my_iast hx hb hK hP hD hS 2 rfl (by omega) (k := it) (Int.toNat_natCast _) dX6_addItem_65 (fun H locs hP hD hS => ?_)
        have hP : va_P D vwCl [(km, .inr (6, [.int (iI (0)), .int (iI (((sh : Nat) : Int))), .int (iI (((it : Nat) : Int))), .int (iI (((dy : Nat) : Int))), .int (iI (lc)), .int (iI (sv)), .int (iI (lr)), .int (iI (sr)), .ref pL, .ref pP, .ref pC, .ref pI, .ref pM, .ref pS, .ref pV, .ref pN, .ref pE, .ref pA, .ref pO, .ref pT, .ref pD, .ref pG, .ref pW])), (pP, arI cs 5 (upI mP it pz)), (pC, arI cs 5 (upI mC it kz))] H := hP
        have hD : va_D A [(km, .inr (6, [.int (iI (0)), .int (iI (((sh : Nat) : Int))), .int (iI (((it : Nat) : Int))), .int (iI (((dy : Nat) : Int))), .int (iI (lc)), .int (iI (sv)), .int (iI (lr)), .int (iI (sr)), .ref pL, .ref pP, .ref pC, .ref pI, .ref pM, .ref pS, .ref pV, .ref pN, .ref pE, .ref pA, .ref pO, .ref pT, .ref pD, .ref pG, .ref pW])), (pP, arI cs 5 (upI mP it pz)), (pC, arI cs 5 (upI mC it kz))] := hD
        refine lv_aload_n hx hb dX6_addItem_66 rfl (lv_at hl 0 rfl) ?_
        refine lv_dup hx hb dX6_addItem_67 rfl ?_
        refine my_get hx hb hts inAX6 hown hK hP 0 rfl rfl 2 (by decide) w_803 rfl rfl dX6_addItem_68 ?_
        refine lv_iconst (v := iI (1)) hx hb dX6_addItem_71 rfl ?_
        refine my_iadd (z := ((it : Nat) : Int) + 1) hx hb dX6_addItem_72 (rfl) ?_
        refine my_put hx hb hts inAX6 tyX6_ok nmX6 hown hK hP hD hS 0 rfl rfl 2 (by decide) w_803 rfl rfl rfl (Nat.le_of_ble_eq_true rfl) dX6_addItem_73 (fun H locs hP hD hS => ?_)
        have hP : va_P D vwCl [(km, .inr (6, [.int (iI (0)), .int (iI (((sh : Nat) : Int))), .int (iI (((it : Nat) : Int) + 1)), .int (iI (((dy : Nat) : Int))), .int (iI (lc)), .int (iI (sv)), .int (iI (lr)), .int (iI (sr)), .ref pL, .ref pP, .ref pC, .ref pI, .ref pM, .ref pS, .ref pV, .ref pN, .ref pE, .ref pA, .ref pO, .ref pT, .ref pD, .ref pG, .ref pW])), (pP, arI cs 5 (upI mP it pz)), (pC, arI cs 5 (upI mC it kz))] H := hP
        have hD : va_D A [(km, .inr (6, [.int (iI (0)), .int (iI (((sh : Nat) : Int))), .int (iI (((it : Nat) : Int) + 1)), .int (iI (((dy : Nat) : Int))), .int (iI (lc)), .int (iI (sv)), .int (iI (lr)), .int (iI (sr)), .ref pL, .ref pP, .ref pC, .ref pI, .ref pM, .ref pS, .ref pV, .ref pN, .ref pE, .ref pA, .ref pO, .ref pT, .ref pD, .ref pG, .ref pW])), (pP, arI cs 5 (upI mP it pz)), (pC, arI cs 5 (upI mC it kz))] := hD
        refine lv_aload_n hx hb dX6_addItem_76 rfl (lv_at hl 0 rfl) ?_
        refine my_get hx hb hts inAX6 hown hK hP 0 rfl rfl 2 (by decide) w_803 rfl rfl dX6_addItem_77 ?_
        refine lv_iconst (v := iI (1)) hx hb dX6_addItem_80 rfl ?_
        refine my_isub (z := (((it : Nat) : Int) + 1) - 1) hx hb dX6_addItem_81 (rfl) ?_
        have hWe : ([(km, .inr (6, [.int (iI (0)), .int (iI (((sh : Nat) : Int))), .int (iI (((it : Nat) : Int) + 1)), .int (iI (((dy : Nat) : Int))), .int (iI (lc)), .int (iI (sv)), .int (iI (lr)), .int (iI (sr)), .ref pL, .ref pP, .ref pC, .ref pI, .ref pM, .ref pS, .ref pV, .ref pN, .ref pE, .ref pA, .ref pO, .ref pT, .ref pD, .ref pG, .ref pW])), (pP, arI cs 5 (upI mP it pz)), (pC, arI cs 5 (upI mC it kz))] : va_W) = [(km, .inr (6, [.int (iI ((((cd2 ((1 ≤ pz ∧ pz ≤ 50) ∧ (0 ≤ kz ∧ kz ≤ 9999)) (it ≠ 5)) : Nat) : Int))), .int (iI (((sh : Nat) : Int))), .int (iI ((((if cd2 ((1 ≤ pz ∧ pz ≤ 50) ∧ (0 ≤ kz ∧ kz ≤ 9999)) (it ≠ 5) = 0 then it + 1 else it) : Nat) : Int))), .int (iI (((dy : Nat) : Int))), .int (iI (lc)), .int (iI (sv)), .int (iI (lr)), .int (iI (sr)), .ref pL, .ref pP, .ref pC, .ref pI, .ref pM, .ref pS, .ref pV, .ref pN, .ref pE, .ref pA, .ref pO, .ref pT, .ref pD, .ref pG, .ref pW])), (pP, arI cs 5 (if cd2 ((1 ≤ pz ∧ pz ≤ 50) ∧ (0 ≤ kz ∧ kz ≤ 9999)) (it ≠ 5) = 0 then upI mP it pz else mP)), (pC, arI cs 5 (if cd2 ((1 ≤ pz ∧ pz ≤ 50) ∧ (0 ≤ kz ∧ kz ≤ 9999)) (it ≠ 5) = 0 then upI mC it kz else mC))] := by
          have hcd : cd2 ((1 ≤ pz ∧ pz ≤ 50) ∧ (0 ≤ kz ∧ kz ≤ 9999)) (it ≠ 5) = 0 := by unfold cd2; (repeat' split) <;> omega
          rw [hcd]
          first | rfl | (simp; done)
        rw [hWe] at hP
        subst hAe
        have hres : iI ((((it : Nat) : Int) + 1) - 1) = iI (if cd2 ((1 ≤ pz ∧ pz ≤ 50) ∧ (0 ≤ kz ∧ kz ≤ 9999)) (it ≠ 5) = 0 then ((it : Nat) : Int) else 0) := congrArg iI (by
            have hcd : cd2 ((1 ≤ pz ∧ pz ≤ 50) ∧ (0 ≤ kz ∧ kz ≤ 9999)) (it ≠ 5) = 0 := by unfold cd2; (repeat' split) <;> omega
            rw [hcd]
            first | rfl | (simp; done))
        exact W.iret hx hb hr (fun t ht hW => ⟨⟨_, (), rfl, hres, by show va_P D vwCl _ t.heap; rw [ht]; exact hP⟩, hS.F ht⟩) hS.2.2 dX6_addItem_82
      · refine lv_aload_n hx hb dX6_addItem_35 rfl (lv_at hl 0 rfl) ?_
        refine lv_iconst (v := iI (2)) hx hb dX6_addItem_36 rfl ?_
        have pk7 : picks [(km, .inr (6, [.int (iI (th)), .int (iI (((sh : Nat) : Int))), .int (iI (((it : Nat) : Int))), .int (iI (((dy : Nat) : Int))), .int (iI (lc)), .int (iI (sv)), .int (iI (lr)), .int (iI (sr)), .ref pL, .ref pP, .ref pC, .ref pI, .ref pM, .ref pS, .ref pV, .ref pN, .ref pE, .ref pA, .ref pO, .ref pT, .ref pD, .ref pG, .ref pW])), (pP, arI cs 5 mP), (pC, arI cs 5 mC)] [0] [(km, .inr (6, [.int (iI (th)), .int (iI (((sh : Nat) : Int))), .int (iI (((it : Nat) : Int))), .int (iI (((dy : Nat) : Int))), .int (iI (lc)), .int (iI (sv)), .int (iI (lr)), .int (iI (sr)), .ref pL, .ref pP, .ref pC, .ref pI, .ref pM, .ref pS, .ref pV, .ref pN, .ref pE, .ref pA, .ref pO, .ref pT, .ref pD, .ref pG, .ref pW]))] := ⟨rfl, trivial⟩
        refine va_calli (va_runV (As := [.int (iI (2))]) (rest := []) ⟨hx, hb, hml, hown, hts⟩ (m_X6_fails l D cs km pL pP pC pI pM pS pV pN pE pA pO pT pD pG pW sh it th dy lc sv lr sr 2) (cwV 1 hts (gV w_883 w_885 w_p16 w_5 w_886) rfl rfl rfl (by decide +kernel) ⟨Nat.le_of_ble_eq_true rfl, Nat.le_of_ble_eq_true rfl⟩) (PC_V hK hN hP hD [0] rfl pk7 rfl rfl) rfl rfl hl.1 rfl (lv_room (Nat.le_of_ble_eq_true rfl)) dX6_addItem_37 ⟨Nat.le_of_ble_eq_true rfl, Nat.le_of_ble_eq_true rfl⟩) hS (fun q _ h => inW_sub hD [0] pk7 q h) (fun q h => inW_sub hD [0] pk7 q h) (fun r u t H locs ht hvm hw hB hz1 hk1 hS => ?_)
        subst hw
        rw [ht] at hB
        obtain ⟨hP, hD⟩ := my_join (W1 := [(km, .inr (6, [.int (iI (2)), .int (iI (((sh : Nat) : Int))), .int (iI (((it : Nat) : Int))), .int (iI (((dy : Nat) : Int))), .int (iI (lc)), .int (iI (sv)), .int (iI (lr)), .int (iI (sr)), .ref pL, .ref pP, .ref pC, .ref pI, .ref pM, .ref pS, .ref pV, .ref pN, .ref pE, .ref pA, .ref pO, .ref pT, .ref pD, .ref pG, .ref pW]))]) hP hD [0] rfl pk7 rfl hk1 hB
        have hP : va_P D vwCl [(km, .inr (6, [.int (iI (2)), .int (iI (((sh : Nat) : Int))), .int (iI (((it : Nat) : Int))), .int (iI (((dy : Nat) : Int))), .int (iI (lc)), .int (iI (sv)), .int (iI (lr)), .int (iI (sr)), .ref pL, .ref pP, .ref pC, .ref pI, .ref pM, .ref pS, .ref pV, .ref pN, .ref pE, .ref pA, .ref pO, .ref pT, .ref pD, .ref pG, .ref pW])), (pP, arI cs 5 mP), (pC, arI cs 5 mC)] H := hP
        have hD : va_D A [(km, .inr (6, [.int (iI (2)), .int (iI (((sh : Nat) : Int))), .int (iI (((it : Nat) : Int))), .int (iI (((dy : Nat) : Int))), .int (iI (lc)), .int (iI (sv)), .int (iI (lr)), .int (iI (sr)), .ref pL, .ref pP, .ref pC, .ref pI, .ref pM, .ref pS, .ref pV, .ref pN, .ref pE, .ref pA, .ref pO, .ref pT, .ref pD, .ref pG, .ref pW])), (pP, arI cs 5 mP), (pC, arI cs 5 mC)] := hD
        have hWe : ([(km, .inr (6, [.int (iI (2)), .int (iI (((sh : Nat) : Int))), .int (iI (((it : Nat) : Int))), .int (iI (((dy : Nat) : Int))), .int (iI (lc)), .int (iI (sv)), .int (iI (lr)), .int (iI (sr)), .ref pL, .ref pP, .ref pC, .ref pI, .ref pM, .ref pS, .ref pV, .ref pN, .ref pE, .ref pA, .ref pO, .ref pT, .ref pD, .ref pG, .ref pW])), (pP, arI cs 5 mP), (pC, arI cs 5 mC)] : va_W) = [(km, .inr (6, [.int (iI ((((cd2 ((1 ≤ pz ∧ pz ≤ 50) ∧ (0 ≤ kz ∧ kz ≤ 9999)) (it ≠ 5)) : Nat) : Int))), .int (iI (((sh : Nat) : Int))), .int (iI ((((if cd2 ((1 ≤ pz ∧ pz ≤ 50) ∧ (0 ≤ kz ∧ kz ≤ 9999)) (it ≠ 5) = 0 then it + 1 else it) : Nat) : Int))), .int (iI (((dy : Nat) : Int))), .int (iI (lc)), .int (iI (sv)), .int (iI (lr)), .int (iI (sr)), .ref pL, .ref pP, .ref pC, .ref pI, .ref pM, .ref pS, .ref pV, .ref pN, .ref pE, .ref pA, .ref pO, .ref pT, .ref pD, .ref pG, .ref pW])), (pP, arI cs 5 (if cd2 ((1 ≤ pz ∧ pz ≤ 50) ∧ (0 ≤ kz ∧ kz ≤ 9999)) (it ≠ 5) = 0 then upI mP it pz else mP)), (pC, arI cs 5 (if cd2 ((1 ≤ pz ∧ pz ≤ 50) ∧ (0 ≤ kz ∧ kz ≤ 9999)) (it ≠ 5) = 0 then upI mC it kz else mC))] := by
          have hcd : cd2 ((1 ≤ pz ∧ pz ≤ 50) ∧ (0 ≤ kz ∧ kz ≤ 9999)) (it ≠ 5) = 2 := by unfold cd2; (repeat' split) <;> omega
          rw [hcd]
          first | rfl | (simp; done)
        rw [hWe] at hP
        subst hAe
        have hres : iI (0) = iI (if cd2 ((1 ≤ pz ∧ pz ≤ 50) ∧ (0 ≤ kz ∧ kz ≤ 9999)) (it ≠ 5) = 0 then ((it : Nat) : Int) else 0) := congrArg iI (by
            have hcd : cd2 ((1 ≤ pz ∧ pz ≤ 50) ∧ (0 ≤ kz ∧ kz ≤ 9999)) (it ≠ 5) = 2 := by unfold cd2; (repeat' split) <;> omega
            rw [hcd]
            first | rfl | (simp; done))
        exact W.iret hx hb hr (fun t ht hW => ⟨⟨_, (), rfl, hres, by show va_P D vwCl _ t.heap; rw [ht]; exact hP⟩, hS.F ht⟩) hS.2.2 dX6_addItem_40
    · refine lv_aload_n hx hb dX6_addItem_21 rfl (lv_at hl 0 rfl) ?_
      refine lv_iconst (v := iI (1)) hx hb dX6_addItem_22 rfl ?_
      have pk8 : picks [(km, .inr (6, [.int (iI (th)), .int (iI (((sh : Nat) : Int))), .int (iI (((it : Nat) : Int))), .int (iI (((dy : Nat) : Int))), .int (iI (lc)), .int (iI (sv)), .int (iI (lr)), .int (iI (sr)), .ref pL, .ref pP, .ref pC, .ref pI, .ref pM, .ref pS, .ref pV, .ref pN, .ref pE, .ref pA, .ref pO, .ref pT, .ref pD, .ref pG, .ref pW])), (pP, arI cs 5 mP), (pC, arI cs 5 mC)] [0] [(km, .inr (6, [.int (iI (th)), .int (iI (((sh : Nat) : Int))), .int (iI (((it : Nat) : Int))), .int (iI (((dy : Nat) : Int))), .int (iI (lc)), .int (iI (sv)), .int (iI (lr)), .int (iI (sr)), .ref pL, .ref pP, .ref pC, .ref pI, .ref pM, .ref pS, .ref pV, .ref pN, .ref pE, .ref pA, .ref pO, .ref pT, .ref pD, .ref pG, .ref pW]))] := ⟨rfl, trivial⟩
      refine va_calli (va_runV (As := [.int (iI (1))]) (rest := []) ⟨hx, hb, hml, hown, hts⟩ (m_X6_fails l D cs km pL pP pC pI pM pS pV pN pE pA pO pT pD pG pW sh it th dy lc sv lr sr 1) (cwV 1 hts (gV w_883 w_885 w_p16 w_5 w_886) rfl rfl rfl (by decide +kernel) ⟨Nat.le_of_ble_eq_true rfl, Nat.le_of_ble_eq_true rfl⟩) (PC_V hK hN hP hD [0] rfl pk8 rfl rfl) rfl rfl hl.1 rfl (lv_room (Nat.le_of_ble_eq_true rfl)) dX6_addItem_23 ⟨Nat.le_of_ble_eq_true rfl, Nat.le_of_ble_eq_true rfl⟩) hS (fun q _ h => inW_sub hD [0] pk8 q h) (fun q h => inW_sub hD [0] pk8 q h) (fun r u t H locs ht hvm hw hB hz1 hk1 hS => ?_)
      subst hw
      rw [ht] at hB
      obtain ⟨hP, hD⟩ := my_join (W1 := [(km, .inr (6, [.int (iI (1)), .int (iI (((sh : Nat) : Int))), .int (iI (((it : Nat) : Int))), .int (iI (((dy : Nat) : Int))), .int (iI (lc)), .int (iI (sv)), .int (iI (lr)), .int (iI (sr)), .ref pL, .ref pP, .ref pC, .ref pI, .ref pM, .ref pS, .ref pV, .ref pN, .ref pE, .ref pA, .ref pO, .ref pT, .ref pD, .ref pG, .ref pW]))]) hP hD [0] rfl pk8 rfl hk1 hB
      have hP : va_P D vwCl [(km, .inr (6, [.int (iI (1)), .int (iI (((sh : Nat) : Int))), .int (iI (((it : Nat) : Int))), .int (iI (((dy : Nat) : Int))), .int (iI (lc)), .int (iI (sv)), .int (iI (lr)), .int (iI (sr)), .ref pL, .ref pP, .ref pC, .ref pI, .ref pM, .ref pS, .ref pV, .ref pN, .ref pE, .ref pA, .ref pO, .ref pT, .ref pD, .ref pG, .ref pW])), (pP, arI cs 5 mP), (pC, arI cs 5 mC)] H := hP
      have hD : va_D A [(km, .inr (6, [.int (iI (1)), .int (iI (((sh : Nat) : Int))), .int (iI (((it : Nat) : Int))), .int (iI (((dy : Nat) : Int))), .int (iI (lc)), .int (iI (sv)), .int (iI (lr)), .int (iI (sr)), .ref pL, .ref pP, .ref pC, .ref pI, .ref pM, .ref pS, .ref pV, .ref pN, .ref pE, .ref pA, .ref pO, .ref pT, .ref pD, .ref pG, .ref pW])), (pP, arI cs 5 mP), (pC, arI cs 5 mC)] := hD
      have hWe : ([(km, .inr (6, [.int (iI (1)), .int (iI (((sh : Nat) : Int))), .int (iI (((it : Nat) : Int))), .int (iI (((dy : Nat) : Int))), .int (iI (lc)), .int (iI (sv)), .int (iI (lr)), .int (iI (sr)), .ref pL, .ref pP, .ref pC, .ref pI, .ref pM, .ref pS, .ref pV, .ref pN, .ref pE, .ref pA, .ref pO, .ref pT, .ref pD, .ref pG, .ref pW])), (pP, arI cs 5 mP), (pC, arI cs 5 mC)] : va_W) = [(km, .inr (6, [.int (iI ((((cd2 ((1 ≤ pz ∧ pz ≤ 50) ∧ (0 ≤ kz ∧ kz ≤ 9999)) (it ≠ 5)) : Nat) : Int))), .int (iI (((sh : Nat) : Int))), .int (iI ((((if cd2 ((1 ≤ pz ∧ pz ≤ 50) ∧ (0 ≤ kz ∧ kz ≤ 9999)) (it ≠ 5) = 0 then it + 1 else it) : Nat) : Int))), .int (iI (((dy : Nat) : Int))), .int (iI (lc)), .int (iI (sv)), .int (iI (lr)), .int (iI (sr)), .ref pL, .ref pP, .ref pC, .ref pI, .ref pM, .ref pS, .ref pV, .ref pN, .ref pE, .ref pA, .ref pO, .ref pT, .ref pD, .ref pG, .ref pW])), (pP, arI cs 5 (if cd2 ((1 ≤ pz ∧ pz ≤ 50) ∧ (0 ≤ kz ∧ kz ≤ 9999)) (it ≠ 5) = 0 then upI mP it pz else mP)), (pC, arI cs 5 (if cd2 ((1 ≤ pz ∧ pz ≤ 50) ∧ (0 ≤ kz ∧ kz ≤ 9999)) (it ≠ 5) = 0 then upI mC it kz else mC))] := by
        have hcd : cd2 ((1 ≤ pz ∧ pz ≤ 50) ∧ (0 ≤ kz ∧ kz ≤ 9999)) (it ≠ 5) = 1 := by unfold cd2; (repeat' split) <;> omega
        rw [hcd]
        first | rfl | (simp; done)
      rw [hWe] at hP
      subst hAe
      have hres : iI (0) = iI (if cd2 ((1 ≤ pz ∧ pz ≤ 50) ∧ (0 ≤ kz ∧ kz ≤ 9999)) (it ≠ 5) = 0 then ((it : Nat) : Int) else 0) := congrArg iI (by
          have hcd : cd2 ((1 ≤ pz ∧ pz ≤ 50) ∧ (0 ≤ kz ∧ kz ≤ 9999)) (it ≠ 5) = 1 := by unfold cd2; (repeat' split) <;> omega
          rw [hcd]
          first | rfl | (simp; done))
      exact W.iret hx hb hr (fun t ht hW => ⟨⟨_, (), rfl, hres, by show va_P D vwCl _ t.heap; rw [ht]; exact hP⟩, hS.F ht⟩) hS.2.2 dX6_addItem_26

abbrev ws_X6_carry : List Cond := Cond.code yX6_carry cX6_carry 7 (some .int) :: ALL
set_option maxHeartbeats 4000000 in
set_option maxRecDepth 100000 in
theorem m_X6_carry (l : Launch) (D : va_G) (cs : Nat → ClassId) (km pL pP pC pI pM pS pV pN pE pA pO pT pD pG pW sh it : Nat) (th : Int) (dy : Nat) (lc sv lr sr : Int) (mI : Nat → Int) (mS : Nat → Int) (mV : Nat → Int) (mN : Nat → Int) (zs zi kz vz : Int) (hsh : sh ≤ 4) (hit : it ≤ 5) (hmI : ∀ j, 0 ≤ mI j ∧ mI j ≤ 1) (hzs : -2147483648 ≤ zs ∧ zs < 2147483648) (hzi : -2147483648 ≤ zi ∧ zi < 2147483648) (hkz : -2147483648 ≤ kz ∧ kz < 2147483648) (hvz : -2147483648 ≤ vz ∧ vz < 2147483648) : Met l yX6_carry ws_X6_carry ({ frames := 2, cells := 0, slots := 0, locals := 43 }) (va_Pc [.ref km, .int (iI (zs)), .int (iI (zi)), .int (iI (kz)), .int (iI (vz))] (PC D cs [(km, .inr (6, [.int (iI (th)), .int (iI (((sh : Nat) : Int))), .int (iI (((it : Nat) : Int))), .int (iI (((dy : Nat) : Int))), .int (iI (lc)), .int (iI (sv)), .int (iI (lr)), .int (iI (sr)), .ref pL, .ref pP, .ref pC, .ref pI, .ref pM, .ref pS, .ref pV, .ref pN, .ref pE, .ref pA, .ref pO, .ref pT, .ref pD, .ref pG, .ref pW])), (pI, arZ cs 20 mI), (pS, arI cs 20 mS), (pV, arI cs 20 mV), (pN, arI cs 140 mN)])) (va_Qi (fun r (_ : Unit) => r = iI (if cd3 ((0 ≤ zs ∧ zs < (sh : Int)) ∧ (0 ≤ zi ∧ zi < (it : Int))) ((0 ≤ kz ∧ kz ≤ 999) ∧ (0 ≤ vz ∧ vz ≤ 99999)) (mI (5 * zs + zi).toNat = 0) = 0 then lc + 1 else 0)) (fun _ t => va_P D vwCl [(km, .inr (6, [.int (iI ((((cd3 ((0 ≤ zs ∧ zs < (sh : Int)) ∧ (0 ≤ zi ∧ zi < (it : Int))) ((0 ≤ kz ∧ kz ≤ 999) ∧ (0 ≤ vz ∧ vz ≤ 99999)) (mI (5 * zs + zi).toNat = 0)) : Nat) : Int))), .int (iI (((sh : Nat) : Int))), .int (iI (((it : Nat) : Int))), .int (iI (((dy : Nat) : Int))), .int (iI (if cd3 ((0 ≤ zs ∧ zs < (sh : Int)) ∧ (0 ≤ zi ∧ zi < (it : Int))) ((0 ≤ kz ∧ kz ≤ 999) ∧ (0 ≤ vz ∧ vz ≤ 99999)) (mI (5 * zs + zi).toNat = 0) = 0 then lc + 1 else lc)), .int (iI (sv)), .int (iI (lr)), .int (iI (sr)), .ref pL, .ref pP, .ref pC, .ref pI, .ref pM, .ref pS, .ref pV, .ref pN, .ref pE, .ref pA, .ref pO, .ref pT, .ref pD, .ref pG, .ref pW])), (pI, arZ cs 20 (if cd3 ((0 ≤ zs ∧ zs < (sh : Int)) ∧ (0 ≤ zi ∧ zi < (it : Int))) ((0 ≤ kz ∧ kz ≤ 999) ∧ (0 ≤ vz ∧ vz ≤ 99999)) (mI (5 * zs + zi).toNat = 0) = 0 then upI mI (5 * zs + zi).toNat 1 else mI)), (pS, arI cs 20 (if cd3 ((0 ≤ zs ∧ zs < (sh : Int)) ∧ (0 ≤ zi ∧ zi < (it : Int))) ((0 ≤ kz ∧ kz ≤ 999) ∧ (0 ≤ vz ∧ vz ≤ 99999)) (mI (5 * zs + zi).toNat = 0) = 0 then upI mS (5 * zs + zi).toNat kz else mS)), (pV, arI cs 20 (if cd3 ((0 ≤ zs ∧ zs < (sh : Int)) ∧ (0 ≤ zi ∧ zi < (it : Int))) ((0 ≤ kz ∧ kz ≤ 999) ∧ (0 ≤ vz ∧ vz ≤ 99999)) (mI (5 * zs + zi).toNat = 0) = 0 then upI mV (5 * zs + zi).toNat vz else mV)), (pN, arI cs 140 (if cd3 ((0 ≤ zs ∧ zs < (sh : Int)) ∧ (0 ≤ zi ∧ zi < (it : Int))) ((0 ≤ kz ∧ kz ≤ 999) ∧ (0 ≤ vz ∧ vz ≤ 99999)) (mI (5 * zs + zi).toNat = 0) = 0 then flAt mN (7 * (5 * zs + zi).toNat) 1000 7 else mN))] t.heap) (inW [(km, .inr (6, [.int (iI (th)), .int (iI (((sh : Nat) : Int))), .int (iI (((it : Nat) : Int))), .int (iI (((dy : Nat) : Int))), .int (iI (lc)), .int (iI (sv)), .int (iI (lr)), .int (iI (sr)), .ref pL, .ref pP, .ref pC, .ref pI, .ref pM, .ref pS, .ref pV, .ref pN, .ref pE, .ref pA, .ref pO, .ref pT, .ref pD, .ref pG, .ref pW])), (pI, arZ cs 20 mI), (pS, arI cs 20 mS), (pV, arI cs 20 mV), (pN, arI cs 140 mN)])) 0 0 (inW [(km, .inr (6, [.int (iI (th)), .int (iI (((sh : Nat) : Int))), .int (iI (((it : Nat) : Int))), .int (iI (((dy : Nat) : Int))), .int (iI (lc)), .int (iI (sv)), .int (iI (lr)), .int (iI (sr)), .ref pL, .ref pP, .ref pC, .ref pI, .ref pM, .ref pS, .ref pV, .ref pN, .ref pE, .ref pA, .ref pO, .ref pT, .ref pD, .ref pG, .ref pW])), (pI, arZ cs 20 mI), (pS, arI cs 20 mS), (pV, arI cs 20 mV), (pN, arI cs 140 mN)]) := by
  refine Met.ofW (cc := cX6_carry) (maxL := 7) (ret := (some .int)) (by decide +kernel) rfl ?_
  intro p e s m args below meth c s₁ B hml hv
  obtain ⟨rfl, hP, hK, hD, hN⟩ := hv
  have hx := B.exec
  have hb := B.bytes
  have hr := B.returns
  have hts : ∀ w ∈ ALL, w.before _ s = true := fun w h => atoms_spec (ws := ws_X6_carry) B.pre w (List.mem_cons_of_mem _ h)
  have hown : s.vm.findClass RX6 = some m.cls := findClass_of_methodNamed B.named
  have hlocks := B.notSynchronized
  generalize hAe : inW [(km, .inr (6, [.int (iI (th)), .int (iI (((sh : Nat) : Int))), .int (iI (((it : Nat) : Int))), .int (iI (((dy : Nat) : Int))), .int (iI (lc)), .int (iI (sv)), .int (iI (lr)), .int (iI (sr)), .ref pL, .ref pP, .ref pC, .ref pI, .ref pM, .ref pS, .ref pV, .ref pN, .ref pE, .ref pA, .ref pO, .ref pT, .ref pD, .ref pG, .ref pW])), (pI, arZ cs 20 mI), (pS, arI cs 20 mS), (pV, arI cs 20 mV), (pN, arI cs 140 mN)] = A at hD ⊢
  have hS : va_S A s.heap s.heap [] := va_S.rf
  have hl := lv_entry ([.ref km, .int (iI (zs)), .int (iI (zi)), .int (iI (kz)), .int (iI (vz))]) (n := 7) (Nat.le_of_ble_eq_true rfl)
  rw [lg_entry_eq]
  generalize (lg_sl ([.ref km, .int (iI (zs)), .int (iI (zi)), .int (iI (kz)), .int (iI (vz))]) ++ List.replicate (7 - (lg_sl ([.ref km, .int (iI (zs)), .int (iI (zi)), .int (iI (kz)), .int (iI (vz))])).length) Slot.unset).toArray = ls at hl ⊢
  have hl : lv_has ls 7 [(0, .ref km), (1, .int (iI (zs))), (2, .int (iI (zi))), (3, .int (iI (kz))), (4, .int (iI (vz)))] := hl
  have hH := rfl (a := s.heap)
  refine lv_aload_n hx hb dX6_carry_0 rfl (lv_at hl 0 rfl) ?_
  refine lv_iload_n hx hb dX6_carry_1 rfl (lv_at hl 1 rfl) ?_
  have pk1 : picks [(km, .inr (6, [.int (iI (th)), .int (iI (((sh : Nat) : Int))), .int (iI (((it : Nat) : Int))), .int (iI (((dy : Nat) : Int))), .int (iI (lc)), .int (iI (sv)), .int (iI (lr)), .int (iI (sr)), .ref pL, .ref pP, .ref pC, .ref pI, .ref pM, .ref pS, .ref pV, .ref pN, .ref pE, .ref pA, .ref pO, .ref pT, .ref pD, .ref pG, .ref pW])), (pI, arZ cs 20 mI), (pS, arI cs 20 mS), (pV, arI cs 20 mV), (pN, arI cs 140 mN)] [0] [(km, .inr (6, [.int (iI (th)), .int (iI (((sh : Nat) : Int))), .int (iI (((it : Nat) : Int))), .int (iI (((dy : Nat) : Int))), .int (iI (lc)), .int (iI (sv)), .int (iI (lr)), .int (iI (sr)), .ref pL, .ref pP, .ref pC, .ref pI, .ref pM, .ref pS, .ref pV, .ref pN, .ref pE, .ref pA, .ref pO, .ref pT, .ref pD, .ref pG, .ref pW]))] := ⟨rfl, trivial⟩
  refine va_calli (va_runV (As := [.int (iI (zs))]) (rest := []) ⟨hx, hb, hml, hown, hts⟩ (m_X6_isShop l D cs km pL pP pC pI pM pS pV pN pE pA pO pT pD pG pW sh it th dy lc sv lr sr zs (by assumption) (by omega)) (cwV 1 hts (gV w_895 w_897 w_p17 w_5 w_898) rfl rfl rfl (by decide +kernel) ⟨Nat.le_of_ble_eq_true rfl, Nat.le_of_ble_eq_true rfl⟩) (PC_V hK hN hP hD [0] rfl pk1 rfl rfl) rfl rfl hl.1 rfl (lv_room (Nat.le_of_ble_eq_true rfl)) dX6_carry_2 ⟨Nat.le_of_ble_eq_true rfl, Nat.le_of_ble_eq_true rfl⟩) hS (fun _ _ h => False.elim h) (fun _ h => False.elim h) (fun r u t H locs ht hvm hw hB hz1 hk1 hS => ?_)
  subst hw
  have hP := P_kept hP hk1
  have hok := okI_s sh zs
  refine my_if_eq (tgt := 16) hx hb (by omega) dX6_carry_5 (by decide) (fun b2 => ?_) (fun b2 => ?_)
  · refine lv_aload_n hx hb dX6_carry_16 rfl (lv_at hl 0 rfl) ?_
    refine lv_iconst (v := iI (1)) hx hb dX6_carry_17 rfl ?_
    have pk3 : picks [(km, .inr (6, [.int (iI (th)), .int (iI (((sh : Nat) : Int))), .int (iI (((it : Nat) : Int))), .int (iI (((dy : Nat) : Int))), .int (iI (lc)), .int (iI (sv)), .int (iI (lr)), .int (iI (sr)), .ref pL, .ref pP, .ref pC, .ref pI, .ref pM, .ref pS, .ref pV, .ref pN, .ref pE, .ref pA, .ref pO, .ref pT, .ref pD, .ref pG, .ref pW])), (pI, arZ cs 20 mI), (pS, arI cs 20 mS), (pV, arI cs 20 mV), (pN, arI cs 140 mN)] [0] [(km, .inr (6, [.int (iI (th)), .int (iI (((sh : Nat) : Int))), .int (iI (((it : Nat) : Int))), .int (iI (((dy : Nat) : Int))), .int (iI (lc)), .int (iI (sv)), .int (iI (lr)), .int (iI (sr)), .ref pL, .ref pP, .ref pC, .ref pI, .ref pM, .ref pS, .ref pV, .ref pN, .ref pE, .ref pA, .ref pO, .ref pT, .ref pD, .ref pG, .ref pW]))] := ⟨rfl, trivial⟩
    refine va_calli (va_runV (As := [.int (iI (1))]) (rest := []) ⟨hx, hb, hml, hown, hts⟩ (m_X6_fails l D cs km pL pP pC pI pM pS pV pN pE pA pO pT pD pG pW sh it th dy lc sv lr sr 1) (cwV 1 hts (gV w_883 w_885 w_p16 w_5 w_886) rfl rfl rfl (by decide +kernel) ⟨Nat.le_of_ble_eq_true rfl, Nat.le_of_ble_eq_true rfl⟩) (PC_V hK hN hP hD [0] rfl pk3 rfl rfl) rfl rfl hl.1 rfl (lv_room (Nat.le_of_ble_eq_true rfl)) dX6_carry_18 ⟨Nat.le_of_ble_eq_true rfl, Nat.le_of_ble_eq_true rfl⟩) hS (fun q _ h => inW_sub hD [0] pk3 q h) (fun q h => inW_sub hD [0] pk3 q h) (fun r u t H locs ht hvm hw hB hz1 hk1 hS => ?_)
    subst hw
    rw [ht] at hB
    obtain ⟨hP, hD⟩ := my_join (W1 := [(km, .inr (6, [.int (iI (1)), .int (iI (((sh : Nat) : Int))), .int (iI (((it : Nat) : Int))), .int (iI (((dy : Nat) : Int))), .int (iI (lc)), .int (iI (sv)), .int (iI (lr)), .int (iI (sr)), .ref pL, .ref pP, .ref pC, .ref pI, .ref pM, .ref pS, .ref pV, .ref pN, .ref pE, .ref pA, .ref pO, .ref pT, .ref pD, .ref pG, .ref pW]))]) hP hD [0] rfl pk3 rfl hk1 hB
    have hP : va_P D vwCl [(km, .inr (6, [.int (iI (1)), .int (iI (((sh : Nat) : Int))), .int (iI (((it : Nat) : Int))), .int (iI (((dy : Nat) : Int))), .int (iI (lc)), .int (iI (sv)), .int (iI (lr)), .int (iI (sr)), .ref pL, .ref pP, .ref pC, .ref pI, .ref pM, .ref pS, .ref pV, .ref pN, .ref pE, .ref pA, .ref pO, .ref pT, .ref pD, .ref pG, .ref pW])), (pI, arZ cs 20 mI), (pS, arI cs 20 mS), (pV, arI cs 20 mV), (pN, arI cs 140 mN)] H := hP
    have hD : va_D A [(km, .inr (6, [.int (iI (1)), .int (iI (((sh : Nat) : Int))), .int (iI (((it : Nat) : Int))), .int (iI (((dy : Nat) : Int))), .int (iI (lc)), .int (iI (sv)), .int (iI (lr)), .int (iI (sr)), .ref pL, .ref pP, .ref pC, .ref pI, .ref pM, .ref pS, .ref pV, .ref pN, .ref pE, .ref pA, .ref pO, .ref pT, .ref pD, .ref pG, .ref pW])), (pI, arZ cs 20 mI), (pS, arI cs 20 mS), (pV, arI cs 20 mV), (pN, arI cs 140 mN)] := hD
    have hWe : ([(km, .inr (6, [.int (iI (1)), .int (iI (((sh : Nat) : Int))), .int (iI (((it : Nat) : Int))), .int (iI (((dy : Nat) : Int))), .int (iI (lc)), .int (iI (sv)), .int (iI (lr)), .int (iI (sr)), .ref pL, .ref pP, .ref pC, .ref pI, .ref pM, .ref pS, .ref pV, .ref pN, .ref pE, .ref pA, .ref pO, .ref pT, .ref pD, .ref pG, .ref pW])), (pI, arZ cs 20 mI), (pS, arI cs 20 mS), (pV, arI cs 20 mV), (pN, arI cs 140 mN)] : va_W) = [(km, .inr (6, [.int (iI ((((cd3 ((0 ≤ zs ∧ zs < (sh : Int)) ∧ (0 ≤ zi ∧ zi < (it : Int))) ((0 ≤ kz ∧ kz ≤ 999) ∧ (0 ≤ vz ∧ vz ≤ 99999)) (mI (5 * zs + zi).toNat = 0)) : Nat) : Int))), .int (iI (((sh : Nat) : Int))), .int (iI (((it : Nat) : Int))), .int (iI (((dy : Nat) : Int))), .int (iI (if cd3 ((0 ≤ zs ∧ zs < (sh : Int)) ∧ (0 ≤ zi ∧ zi < (it : Int))) ((0 ≤ kz ∧ kz ≤ 999) ∧ (0 ≤ vz ∧ vz ≤ 99999)) (mI (5 * zs + zi).toNat = 0) = 0 then lc + 1 else lc)), .int (iI (sv)), .int (iI (lr)), .int (iI (sr)), .ref pL, .ref pP, .ref pC, .ref pI, .ref pM, .ref pS, .ref pV, .ref pN, .ref pE, .ref pA, .ref pO, .ref pT, .ref pD, .ref pG, .ref pW])), (pI, arZ cs 20 (if cd3 ((0 ≤ zs ∧ zs < (sh : Int)) ∧ (0 ≤ zi ∧ zi < (it : Int))) ((0 ≤ kz ∧ kz ≤ 999) ∧ (0 ≤ vz ∧ vz ≤ 99999)) (mI (5 * zs + zi).toNat = 0) = 0 then upI mI (5 * zs + zi).toNat 1 else mI)), (pS, arI cs 20 (if cd3 ((0 ≤ zs ∧ zs < (sh : Int)) ∧ (0 ≤ zi ∧ zi < (it : Int))) ((0 ≤ kz ∧ kz ≤ 999) ∧ (0 ≤ vz ∧ vz ≤ 99999)) (mI (5 * zs + zi).toNat = 0) = 0 then upI mS (5 * zs + zi).toNat kz else mS)), (pV, arI cs 20 (if cd3 ((0 ≤ zs ∧ zs < (sh : Int)) ∧ (0 ≤ zi ∧ zi < (it : Int))) ((0 ≤ kz ∧ kz ≤ 999) ∧ (0 ≤ vz ∧ vz ≤ 99999)) (mI (5 * zs + zi).toNat = 0) = 0 then upI mV (5 * zs + zi).toNat vz else mV)), (pN, arI cs 140 (if cd3 ((0 ≤ zs ∧ zs < (sh : Int)) ∧ (0 ≤ zi ∧ zi < (it : Int))) ((0 ≤ kz ∧ kz ≤ 999) ∧ (0 ≤ vz ∧ vz ≤ 99999)) (mI (5 * zs + zi).toNat = 0) = 0 then flAt mN (7 * (5 * zs + zi).toNat) 1000 7 else mN))] := by
      have hcd : cd3 ((0 ≤ zs ∧ zs < (sh : Int)) ∧ (0 ≤ zi ∧ zi < (it : Int))) ((0 ≤ kz ∧ kz ≤ 999) ∧ (0 ≤ vz ∧ vz ≤ 99999)) (mI (5 * zs + zi).toNat = 0) = 1 := by unfold cd3; (repeat' split) <;> omega
      rw [hcd]
      first | rfl | (simp; done)
    rw [hWe] at hP
    subst hAe
    have hres : iI (0) = iI (if cd3 ((0 ≤ zs ∧ zs < (sh : Int)) ∧ (0 ≤ zi ∧ zi < (it : Int))) ((0 ≤ kz ∧ kz ≤ 999) ∧ (0 ≤ vz ∧ vz ≤ 99999)) (mI (5 * zs + zi).toNat = 0) = 0 then lc + 1 else 0) := congrArg iI (by
        have hcd : cd3 ((0 ≤ zs ∧ zs < (sh : Int)) ∧ (0 ≤ zi ∧ zi < (it : Int))) ((0 ≤ kz ∧ kz ≤ 999) ∧ (0 ≤ vz ∧ vz ≤ 99999)) (mI (5 * zs + zi).toNat = 0) = 1 := by unfold cd3; (repeat' split) <;> omega
        rw [hcd]
        first | rfl | (simp; done))
    exact W.iret hx hb hr (fun t ht hW => ⟨⟨_, (), rfl, hres, by show va_P D vwCl _ t.heap; rw [ht]; exact hP⟩, hS.F ht⟩) hS.2.2 dX6_carry_21
  · refine lv_aload_n hx hb dX6_carry_8 rfl (lv_at hl 0 rfl) ?_
    refine lv_iload_n hx hb dX6_carry_9 rfl (lv_at hl 2 rfl) ?_
    have pk4 : picks [(km, .inr (6, [.int (iI (th)), .int (iI (((sh : Nat) : Int))), .int (iI (((it : Nat) : Int))), .int (iI (((dy : Nat) : Int))), .int (iI (lc)), .int (iI (sv)), .int (iI (lr)), .int (iI (sr)), .ref pL, .ref pP, .ref pC, .ref pI, .ref pM, .ref pS, .ref pV, .ref pN, .ref pE, .ref pA, .ref pO, .ref pT, .ref pD, .ref pG, .ref pW])), (pI, arZ cs 20 mI), (pS, arI cs 20 mS), (pV, arI cs 20 mV), (pN, arI cs 140 mN)] [0] [(km, .inr (6, [.int (iI (th)), .int (iI (((sh : Nat) : Int))), .int (iI (((it : Nat) : Int))), .int (iI (((dy : Nat) : Int))), .int (iI (lc)), .int (iI (sv)), .int (iI (lr)), .int (iI (sr)), .ref pL, .ref pP, .ref pC, .ref pI, .ref pM, .ref pS, .ref pV, .ref pN, .ref pE, .ref pA, .ref pO, .ref pT, .ref pD, .ref pG, .ref pW]))] := ⟨rfl, trivial⟩
    refine va_calli (va_runV (As := [.int (iI (zi))]) (rest := []) ⟨hx, hb, hml, hown, hts⟩ (m_X6_isItem l D cs km pL pP pC pI pM pS pV pN pE pA pO pT pD pG pW sh it th dy lc sv lr sr zi (by assumption) (by omega)) (cwV 1 hts (gV w_899 w_901 w_p18 w_5 w_902) rfl rfl rfl (by decide +kernel) ⟨Nat.le_of_ble_eq_true rfl, Nat.le_of_ble_eq_true rfl⟩) (PC_V hK hN hP hD [0] rfl pk4 rfl rfl) rfl rfl hl.1 rfl (lv_room (Nat.le_of_ble_eq_true rfl)) dX6_carry_10 ⟨Nat.le_of_ble_eq_true rfl, Nat.le_of_ble_eq_true rfl⟩) hS (fun _ _ h => False.elim h) (fun _ h => False.elim h) (fun r u t H locs ht hvm hw hB hz1 hk1 hS => ?_)
    subst hw
    have hP := P_kept hP hk1
    have hok := okI_s it zi
    refine my_if_ne (tgt := 22) hx hb (by omega) dX6_carry_13 (by decide) (fun b5 => ?_) (fun b5 => ?_)
    · refine lv_iload_n hx hb dX6_carry_22 rfl (lv_at hl 3 rfl) ?_
      refine lv_iconst (v := iI (0)) hx hb dX6_carry_23 rfl ?_
      refine lv_sipush (v := iI (999)) hx hb dX6_carry_24 (by decide) ?_
      have pk6 : picks [(km, .inr (6, [.int (iI (th)), .int (iI (((sh : Nat) : Int))), .int (iI (((it : Nat) : Int))), .int (iI (((dy : Nat) : Int))), .int (iI (lc)), .int (iI (sv)), .int (iI (lr)), .int (iI (sr)), .ref pL, .ref pP, .ref pC, .ref pI, .ref pM, .ref pS, .ref pV, .ref pN, .ref pE, .ref pA, .ref pO, .ref pT, .ref pD, .ref pG, .ref pW])), (pI, arZ cs 20 mI), (pS, arI cs 20 mS), (pV, arI cs 20 mV), (pN, arI cs 140 mN)] [] [] := trivial
      refine va_calli (va_runS (As := [.int (iI (kz)), .int (iI (0)), .int (iI (999))]) (rest := []) ⟨hx, hb, hml, hown, hts⟩ (m_X6_in l D cs kz 0 999 (by omega) (by omega) (by omega)) (va_cwS 3 hts (gS w_880 w_881 w_5 w_882) rfl rfl rfl (by decide +kernel) ⟨Nat.le_of_ble_eq_true rfl, Nat.le_of_ble_eq_true rfl⟩) (PC_S hK hN hP hD [] rfl pk6) rfl rfl hl.1 rfl (lv_room (Nat.le_of_ble_eq_true rfl)) dX6_carry_27 ⟨Nat.le_of_ble_eq_true rfl, Nat.le_of_ble_eq_true rfl⟩) hS (fun _ _ h => False.elim h) (fun _ h => False.elim h) (fun r u t H locs ht hvm hw hB hz1 hk1 hS => ?_)
      subst hw
      have hP := P_kept hP hk1
      have hin := inI_s kz 0 999
      refine my_if_eq (tgt := 44) hx hb (by omega) dX6_carry_30 (by decide) (fun b7 => ?_) (fun b7 => ?_)
      · refine lv_aload_n hx hb dX6_carry_44 rfl (lv_at hl 0 rfl) ?_
        refine lv_iconst (v := iI (2)) hx hb dX6_carry_45 rfl ?_
        have pk8 : picks [(km, .inr (6, [.int (iI (th)), .int (iI (((sh : Nat) : Int))), .int (iI (((it : Nat) : Int))), .int (iI (((dy : Nat) : Int))), .int (iI (lc)), .int (iI (sv)), .int (iI (lr)), .int (iI (sr)), .ref pL, .ref pP, .ref pC, .ref pI, .ref pM, .ref pS, .ref pV, .ref pN, .ref pE, .ref pA, .ref pO, .ref pT, .ref pD, .ref pG, .ref pW])), (pI, arZ cs 20 mI), (pS, arI cs 20 mS), (pV, arI cs 20 mV), (pN, arI cs 140 mN)] [0] [(km, .inr (6, [.int (iI (th)), .int (iI (((sh : Nat) : Int))), .int (iI (((it : Nat) : Int))), .int (iI (((dy : Nat) : Int))), .int (iI (lc)), .int (iI (sv)), .int (iI (lr)), .int (iI (sr)), .ref pL, .ref pP, .ref pC, .ref pI, .ref pM, .ref pS, .ref pV, .ref pN, .ref pE, .ref pA, .ref pO, .ref pT, .ref pD, .ref pG, .ref pW]))] := ⟨rfl, trivial⟩
        refine va_calli (va_runV (As := [.int (iI (2))]) (rest := []) ⟨hx, hb, hml, hown, hts⟩ (m_X6_fails l D cs km pL pP pC pI pM pS pV pN pE pA pO pT pD pG pW sh it th dy lc sv lr sr 2) (cwV 1 hts (gV w_883 w_885 w_p16 w_5 w_886) rfl rfl rfl (by decide +kernel) ⟨Nat.le_of_ble_eq_true rfl, Nat.le_of_ble_eq_true rfl⟩) (PC_V hK hN hP hD [0] rfl pk8 rfl rfl) rfl rfl hl.1 rfl (lv_room (Nat.le_of_ble_eq_true rfl)) dX6_carry_46 ⟨Nat.le_of_ble_eq_true rfl, Nat.le_of_ble_eq_true rfl⟩) hS (fun q _ h => inW_sub hD [0] pk8 q h) (fun q h => inW_sub hD [0] pk8 q h) (fun r u t H locs ht hvm hw hB hz1 hk1 hS => ?_)
        subst hw
        rw [ht] at hB
        obtain ⟨hP, hD⟩ := my_join (W1 := [(km, .inr (6, [.int (iI (2)), .int (iI (((sh : Nat) : Int))), .int (iI (((it : Nat) : Int))), .int (iI (((dy : Nat) : Int))), .int (iI (lc)), .int (iI (sv)), .int (iI (lr)), .int (iI (sr)), .ref pL, .ref pP, .ref pC, .ref pI, .ref pM, .ref pS, .ref pV, .ref pN, .ref pE, .ref pA, .ref pO, .ref pT, .ref pD, .ref pG, .ref pW]))]) hP hD [0] rfl pk8 rfl hk1 hB
        have hP : va_P D vwCl [(km, .inr (6, [.int (iI (2)), .int (iI (((sh : Nat) : Int))), .int (iI (((it : Nat) : Int))), .int (iI (((dy : Nat) : Int))), .int (iI (lc)), .int (iI (sv)), .int (iI (lr)), .int (iI (sr)), .ref pL, .ref pP, .ref pC, .ref pI, .ref pM, .ref pS, .ref pV, .ref pN, .ref pE, .ref pA, .ref pO, .ref pT, .ref pD, .ref pG, .ref pW])), (pI, arZ cs 20 mI), (pS, arI cs 20 mS), (pV, arI cs 20 mV), (pN, arI cs 140 mN)] H := hP
        have hD : va_D A [(km, .inr (6, [.int (iI (2)), .int (iI (((sh : Nat) : Int))), .int (iI (((it : Nat) : Int))), .int (iI (((dy : Nat) : Int))), .int (iI (lc)), .int (iI (sv)), .int (iI (lr)), .int (iI (sr)), .ref pL, .ref pP, .ref pC, .ref pI, .ref pM, .ref pS, .ref pV, .ref pN, .ref pE, .ref pA, .ref pO, .ref pT, .ref pD, .ref pG, .ref pW])), (pI, arZ cs 20 mI), (pS, arI cs 20 mS), (pV, arI cs 20 mV), (pN, arI cs 140 mN)] := hD
        have hWe : ([(km, .inr (6, [.int (iI (2)), .int (iI (((sh : Nat) : Int))), .int (iI (((it : Nat) : Int))), .int (iI (((dy : Nat) : Int))), .int (iI (lc)), .int (iI (sv)), .int (iI (lr)), .int (iI (sr)), .ref pL, .ref pP, .ref pC, .ref pI, .ref pM, .ref pS, .ref pV, .ref pN, .ref pE, .ref pA, .ref pO, .ref pT, .ref pD, .ref pG, .ref pW])), (pI, arZ cs 20 mI), (pS, arI cs 20 mS), (pV, arI cs 20 mV), (pN, arI cs 140 mN)] : va_W) = [(km, .inr (6, [.int (iI ((((cd3 ((0 ≤ zs ∧ zs < (sh : Int)) ∧ (0 ≤ zi ∧ zi < (it : Int))) ((0 ≤ kz ∧ kz ≤ 999) ∧ (0 ≤ vz ∧ vz ≤ 99999)) (mI (5 * zs + zi).toNat = 0)) : Nat) : Int))), .int (iI (((sh : Nat) : Int))), .int (iI (((it : Nat) : Int))), .int (iI (((dy : Nat) : Int))), .int (iI (if cd3 ((0 ≤ zs ∧ zs < (sh : Int)) ∧ (0 ≤ zi ∧ zi < (it : Int))) ((0 ≤ kz ∧ kz ≤ 999) ∧ (0 ≤ vz ∧ vz ≤ 99999)) (mI (5 * zs + zi).toNat = 0) = 0 then lc + 1 else lc)), .int (iI (sv)), .int (iI (lr)), .int (iI (sr)), .ref pL, .ref pP, .ref pC, .ref pI, .ref pM, .ref pS, .ref pV, .ref pN, .ref pE, .ref pA, .ref pO, .ref pT, .ref pD, .ref pG, .ref pW])), (pI, arZ cs 20 (if cd3 ((0 ≤ zs ∧ zs < (sh : Int)) ∧ (0 ≤ zi ∧ zi < (it : Int))) ((0 ≤ kz ∧ kz ≤ 999) ∧ (0 ≤ vz ∧ vz ≤ 99999)) (mI (5 * zs + zi).toNat = 0) = 0 then upI mI (5 * zs + zi).toNat 1 else mI)), (pS, arI cs 20 (if cd3 ((0 ≤ zs ∧ zs < (sh : Int)) ∧ (0 ≤ zi ∧ zi < (it : Int))) ((0 ≤ kz ∧ kz ≤ 999) ∧ (0 ≤ vz ∧ vz ≤ 99999)) (mI (5 * zs + zi).toNat = 0) = 0 then upI mS (5 * zs + zi).toNat kz else mS)), (pV, arI cs 20 (if cd3 ((0 ≤ zs ∧ zs < (sh : Int)) ∧ (0 ≤ zi ∧ zi < (it : Int))) ((0 ≤ kz ∧ kz ≤ 999) ∧ (0 ≤ vz ∧ vz ≤ 99999)) (mI (5 * zs + zi).toNat = 0) = 0 then upI mV (5 * zs + zi).toNat vz else mV)), (pN, arI cs 140 (if cd3 ((0 ≤ zs ∧ zs < (sh : Int)) ∧ (0 ≤ zi ∧ zi < (it : Int))) ((0 ≤ kz ∧ kz ≤ 999) ∧ (0 ≤ vz ∧ vz ≤ 99999)) (mI (5 * zs + zi).toNat = 0) = 0 then flAt mN (7 * (5 * zs + zi).toNat) 1000 7 else mN))] := by
          have hcd : cd3 ((0 ≤ zs ∧ zs < (sh : Int)) ∧ (0 ≤ zi ∧ zi < (it : Int))) ((0 ≤ kz ∧ kz ≤ 999) ∧ (0 ≤ vz ∧ vz ≤ 99999)) (mI (5 * zs + zi).toNat = 0) = 2 := by unfold cd3; (repeat' split) <;> omega
          rw [hcd]
          first | rfl | (simp; done)
        rw [hWe] at hP
        subst hAe
        have hres : iI (0) = iI (if cd3 ((0 ≤ zs ∧ zs < (sh : Int)) ∧ (0 ≤ zi ∧ zi < (it : Int))) ((0 ≤ kz ∧ kz ≤ 999) ∧ (0 ≤ vz ∧ vz ≤ 99999)) (mI (5 * zs + zi).toNat = 0) = 0 then lc + 1 else 0) := congrArg iI (by
            have hcd : cd3 ((0 ≤ zs ∧ zs < (sh : Int)) ∧ (0 ≤ zi ∧ zi < (it : Int))) ((0 ≤ kz ∧ kz ≤ 999) ∧ (0 ≤ vz ∧ vz ≤ 99999)) (mI (5 * zs + zi).toNat = 0) = 2 := by unfold cd3; (repeat' split) <;> omega
            rw [hcd]
            first | rfl | (simp; done))
        exact W.iret hx hb hr (fun t ht hW => ⟨⟨_, (), rfl, hres, by show va_P D vwCl _ t.heap; rw [ht]; exact hP⟩, hS.F ht⟩) hS.2.2 dX6_carry_49
      · refine lv_iload hx hb dX6_carry_33 (lv_at hl 4 rfl) ?_
        refine lv_iconst (v := iI (0)) hx hb dX6_carry_35 rfl ?_
        refine lv_ldc (v := iI 99999) hx hb hown (hts _ w_903) dX6_carry_36 ?_
        have pk9 : picks [(km, .inr (6, [.int (iI (th)), .int (iI (((sh : Nat) : Int))), .int (iI (((it : Nat) : Int))), .int (iI (((dy : Nat) : Int))), .int (iI (lc)), .int (iI (sv)), .int (iI (lr)), .int (iI (sr)), .ref pL, .ref pP, .ref pC, .ref pI, .ref pM, .ref pS, .ref pV, .ref pN, .ref pE, .ref pA, .ref pO, .ref pT, .ref pD, .ref pG, .ref pW])), (pI, arZ cs 20 mI), (pS, arI cs 20 mS), (pV, arI cs 20 mV), (pN, arI cs 140 mN)] [] [] := trivial
        refine va_calli (va_runS (As := [.int (iI (vz)), .int (iI (0)), .int (iI (99999))]) (rest := []) ⟨hx, hb, hml, hown, hts⟩ (m_X6_in l D cs vz 0 99999 (by omega) (by omega) (by omega)) (va_cwS 3 hts (gS w_880 w_881 w_5 w_882) rfl rfl rfl (by decide +kernel) ⟨Nat.le_of_ble_eq_true rfl, Nat.le_of_ble_eq_true rfl⟩) (PC_S hK hN hP hD [] rfl pk9) rfl rfl hl.1 rfl (lv_room (Nat.le_of_ble_eq_true rfl)) dX6_carry_38 ⟨Nat.le_of_ble_eq_true rfl, Nat.le_of_ble_eq_true rfl⟩) hS (fun _ _ h => False.elim h) (fun _ h => False.elim h) (fun r u t H locs ht hvm hw hB hz1 hk1 hS => ?_)
        subst hw
        have hP := P_kept hP hk1
        have hin := inI_s vz 0 99999
        refine my_if_ne (tgt := 50) hx hb (by omega) dX6_carry_41 (by decide) (fun b10 => ?_) (fun b10 => ?_)
        · refine lv_iconst (v := iI (5)) hx hb dX6_carry_50 rfl ?_
          refine lv_iload_n hx hb dX6_carry_51 rfl (lv_at hl 1 rfl) ?_
          refine my_imul (z := 5 * zs) hx hb dX6_carry_52 (rfl) ?_
          refine lv_iload_n hx hb dX6_carry_53 rfl (lv_at hl 2 rfl) ?_
          refine my_iadd (z := (5 * zs) + zi) hx hb dX6_carry_54 (rfl) ?_
          refine my_cv0 (z := ((((5 * zs + zi).toNat) : Nat) : Int)) (by omega) ?_
          refine lv_istore (lv' := [(5, .int (iI (((((5 * zs + zi).toNat) : Nat) : Int)))), (0, .ref km), (1, .int (iI (zs))), (2, .int (iI (zi))), (3, .int (iI (kz))), (4, .int (iI (vz)))]) hx hb dX6_carry_55 hl (by decide) rfl (fun ls hl => ?_)
          refine lv_aload_n hx hb dX6_carry_57 rfl (lv_at hl 1 rfl) ?_
          refine my_get hx hb hts inAX6 hown hK hP 0 rfl rfl 11 (by decide) w_812 rfl rfl dX6_carry_58 ?_
          refine lv_iload hx hb dX6_carry_61 (lv_at hl 0 rfl) ?_
          have hmi := hmI (5 * zs + zi).toNat
          refine my_zald hx hb hK hP 1 rfl (by omega) (k := (5 * zs + zi).toNat) (Int.toNat_natCast _) dX6_carry_63 ?_
          refine my_if_eq (tgt := 73) hx hb (by omega) dX6_carry_64 (by decide) (fun b11 => ?_) (fun b11 => ?_)
          · refine lv_aload_n hx hb dX6_carry_73 rfl (lv_at hl 1 rfl) ?_
            refine lv_iconst (v := iI (0)) hx hb dX6_carry_74 rfl ?_
            refine my_put hx hb hts inAX6 tyX6_ok nmX6 hown hK hP hD hS 0 rfl rfl 0 (by decide) w_801 rfl rfl rfl (Nat.le_of_ble_eq_true rfl) dX6_carry_75 (fun H locs hP hD hS => ?_)
            have hP : va_P D vwCl [(km, .inr (6, [.int (iI (0)), .int (iI (((sh : Nat) : Int))), .int (iI (((it : Nat) : Int))), .int (iI (((dy : Nat) : Int))), .int (iI (lc)), .int (iI (sv)), .int (iI (lr)), .int (iI (sr)), .ref pL, .ref pP, .ref pC, .ref pI, .ref pM, .ref pS, .ref pV, .ref pN, .ref pE, .ref pA, .ref pO, .ref pT, .ref pD, .ref pG, .ref pW])), (pI, arZ cs 20 mI), (pS, arI cs 20 mS), (pV, arI cs 20 mV), (pN, arI cs 140 mN)] H := hP
            have hD : va_D A [(km, .inr (6, [.int (iI (0)), .int (iI (((sh : Nat) : Int))), .int (iI (((it : Nat) : Int))), .int (iI (((dy : Nat) : Int))), .int (iI (lc)), .int (iI (sv)), .int (iI (lr)), .int (iI (sr)), .ref pL, .ref pP, .ref pC, .ref pI, .ref pM, .ref pS, .ref pV, .ref pN, .ref pE, .ref pA, .ref pO, .ref pT, .ref pD, .ref pG, .ref pW])), (pI, arZ cs 20 mI), (pS, arI cs 20 mS), (pV, arI cs 20 mV), (pN, arI cs 140 mN)] := hD
            refine lv_aload_n hx hb dX6_carry_78 rfl (lv_at hl 1 rfl) ?_
            refine my_get hx hb hts inAX6 hown hK hP 0 rfl rfl 11 (by decide) w_812 rfl rfl dX6_carry_79 ?_
            refine lv_iload hx hb dX6_carry_82 (lv_at hl 0 rfl) ?_
            refine lv_iconst (v := iI (1)) hx hb dX6_carry_84 rfl ?_
            refine my_zast1 hx hb hK hP hD hS 1 rfl (by omega) (k := (5 * zs + zi).toNat) (Int.toNat_natCast _) dX6_carry_85 (fun H locs hP hD hS => ?_)
            have hP : va_P D vwCl [(km, .inr (6, [.int (iI (0)), .int (iI (((sh : Nat) : Int))), .int (iI (((it : Nat) : Int))), .int (iI (((dy : Nat) : Int))), .int (iI (lc)), .int (iI (sv)), .int (iI (lr)), .int (iI (sr)), .ref pL, .ref pP, .ref pC, .ref pI, .ref pM, .ref pS, .ref pV, .ref pN, .ref pE, .ref pA, .ref pO, .ref pT, .ref pD, .ref pG, .ref pW])), (pI, arZ cs 20 (upI mI ((5 * zs + zi).toNat) 1)), (pS, arI cs 20 mS), (pV, arI cs 20 mV), (pN, arI cs 140 mN)] H := hP
            have hD : va_D A [(km, .inr (6, [.int (iI (0)), .int (iI (((sh : Nat) : Int))), .int (iI (((it : Nat) : Int))), .int (iI (((dy : Nat) : Int))), .int (iI (lc)), .int (iI (sv)), .int (iI (lr)), .int (iI (sr)), .ref pL, .ref pP, .ref pC, .ref pI, .ref pM, .ref pS, .ref pV, .ref pN, .ref pE, .ref pA, .ref pO, .ref pT, .ref pD, .ref pG, .ref pW])), (pI, arZ cs 20 (upI mI ((5 * zs + zi).toNat) 1)), (pS, arI cs 20 mS), (pV, arI cs 20 mV), (pN, arI cs 140 mN)] := hD
            refine lv_aload_n hx hb dX6_carry_86 rfl (lv_at hl 1 rfl) ?_
            refine my_get hx hb hts inAX6 hown hK hP 0 rfl rfl 13 (by decide) w_814 rfl rfl dX6_carry_87 ?_
            refine lv_iload hx hb dX6_carry_90 (lv_at hl 0 rfl) ?_
            refine lv_iload_n hx hb dX6_carry_92 rfl (lv_at hl 4 rfl) ?_
            refine my_iast hx hb hK hP hD hS 2 rfl (by omega) (k := (5 * zs + zi).toNat) (Int.toNat_natCast _) dX6_carry_93 (fun H locs hP hD hS => ?_)
            have hP : va_P D vwCl [(km, .inr (6, [.int (iI (0)), .int (iI (((sh : Nat) : Int))), .int (iI (((it : Nat) : Int))), .int (iI (((dy : Nat) : Int))), .int (iI (lc)), .int (iI (sv)), .int (iI (lr)), .int (iI (sr)), .ref pL, .ref pP, .ref pC, .ref pI, .ref pM, .ref pS, .ref pV, .ref pN, .ref pE, .ref pA, .ref pO, .ref pT, .ref pD, .ref pG, .ref pW])), (pI, arZ cs 20 (upI mI ((5 * zs + zi).toNat) 1)), (pS, arI cs 20 (upI mS ((5 * zs + zi).toNat) kz)), (pV, arI cs 20 mV), (pN, arI cs 140 mN)] H := hP
            have hD : va_D A [(km, .inr (6, [.int (iI (0)), .int (iI (((sh : Nat) : Int))), .int (iI (((it : Nat) : Int))), .int (iI (((dy : Nat) : Int))), .int (iI (lc)), .int (iI (sv)), .int (iI (lr)), .int (iI (sr)), .ref pL, .ref pP, .ref pC, .ref pI, .ref pM, .ref pS, .ref pV, .ref pN, .ref pE, .ref pA, .ref pO, .ref pT, .ref pD, .ref pG, .ref pW])), (pI, arZ cs 20 (upI mI ((5 * zs + zi).toNat) 1)), (pS, arI cs 20 (upI mS ((5 * zs + zi).toNat) kz)), (pV, arI cs 20 mV), (pN, arI cs 140 mN)] := hD
            refine lv_aload_n hx hb dX6_carry_94 rfl (lv_at hl 1 rfl) ?_
            refine my_get hx hb hts inAX6 hown hK hP 0 rfl rfl 14 (by decide) w_815 rfl rfl dX6_carry_95 ?_
            refine lv_iload hx hb dX6_carry_98 (lv_at hl 0 rfl) ?_
            refine lv_iload hx hb dX6_carry_100 (lv_at hl 5 rfl) ?_
            refine my_iast hx hb hK hP hD hS 3 rfl (by omega) (k := (5 * zs + zi).toNat) (Int.toNat_natCast _) dX6_carry_102 (fun H locs hP hD hS => ?_)
            have hP : va_P D vwCl [(km, .inr (6, [.int (iI (0)), .int (iI (((sh : Nat) : Int))), .int (iI (((it : Nat) : Int))), .int (iI (((dy : Nat) : Int))), .int (iI (lc)), .int (iI (sv)), .int (iI (lr)), .int (iI (sr)), .ref pL, .ref pP, .ref pC, .ref pI, .ref pM, .ref pS, .ref pV, .ref pN, .ref pE, .ref pA, .ref pO, .ref pT, .ref pD, .ref pG, .ref pW])), (pI, arZ cs 20 (upI mI ((5 * zs + zi).toNat) 1)), (pS, arI cs 20 (upI mS ((5 * zs + zi).toNat) kz)), (pV, arI cs 20 (upI mV ((5 * zs + zi).toNat) vz)), (pN, arI cs 140 mN)] H := hP
            have hD : va_D A [(km, .inr (6, [.int (iI (0)), .int (iI (((sh : Nat) : Int))), .int (iI (((it : Nat) : Int))), .int (iI (((dy : Nat) : Int))), .int (iI (lc)), .int (iI (sv)), .int (iI (lr)), .int (iI (sr)), .ref pL, .ref pP, .ref pC, .ref pI, .ref pM, .ref pS, .ref pV, .ref pN, .ref pE, .ref pA, .ref pO, .ref pT, .ref pD, .ref pG, .ref pW])), (pI, arZ cs 20 (upI mI ((5 * zs + zi).toNat) 1)), (pS, arI cs 20 (upI mS ((5 * zs + zi).toNat) kz)), (pV, arI cs 20 (upI mV ((5 * zs + zi).toNat) vz)), (pN, arI cs 140 mN)] := hD
            refine lv_iconst (v := iI (0)) hx hb dX6_carry_103 rfl ?_
            refine lv_istore (lv' := [(6, .int (iI (0))), (5, .int (iI (((((5 * zs + zi).toNat) : Nat) : Int)))), (0, .ref km), (1, .int (iI (zs))), (2, .int (iI (zi))), (3, .int (iI (kz))), (4, .int (iI (vz)))]) hx hb dX6_carry_104 hl (by decide) rfl (fun ls hl => ?_)
            suffices KL : ∀ (n : Nat) (i : Nat), i ≤ 7 → 7 - i < n → ∀ (H : Heap) (locs : List Loc) (ls : Array Slot), va_P D vwCl [(km, .inr (6, [.int (iI (0)), .int (iI (((sh : Nat) : Int))), .int (iI (((it : Nat) : Int))), .int (iI (((dy : Nat) : Int))), .int (iI (lc)), .int (iI (sv)), .int (iI (lr)), .int (iI (sr)), .ref pL, .ref pP, .ref pC, .ref pI, .ref pM, .ref pS, .ref pV, .ref pN, .ref pE, .ref pA, .ref pO, .ref pT, .ref pD, .ref pG, .ref pW])), (pI, arZ cs 20 (upI mI ((5 * zs + zi).toNat) 1)), (pS, arI cs 20 (upI mS ((5 * zs + zi).toNat) kz)), (pV, arI cs 20 (upI mV ((5 * zs + zi).toNat) vz)), (pN, arI cs 140 (flAt mN (7 * (5 * zs + zi).toNat) 1000 i))] H → va_D A [(km, .inr (6, [.int (iI (0)), .int (iI (((sh : Nat) : Int))), .int (iI (((it : Nat) : Int))), .int (iI (((dy : Nat) : Int))), .int (iI (lc)), .int (iI (sv)), .int (iI (lr)), .int (iI (sr)), .ref pL, .ref pP, .ref pC, .ref pI, .ref pM, .ref pS, .ref pV, .ref pN, .ref pE, .ref pA, .ref pO, .ref pT, .ref pD, .ref pG, .ref pW])), (pI, arZ cs 20 (upI mI ((5 * zs + zi).toNat) 1)), (pS, arI cs 20 (upI mS ((5 * zs + zi).toNat) kz)), (pV, arI cs 20 (upI mV ((5 * zs + zi).toNat) vz)), (pN, arI cs 140 (flAt mN (7 * (5 * zs + zi).toNat) 1000 i))] → va_S A s.heap H locs → lv_has ls 7 [(6, .int (iI (((i : Nat) : Int)))), (5, .int (iI (((((5 * zs + zi).toNat) : Nat) : Int)))), (0, .ref km), (1, .int (iI (zs))), (2, .int (iI (zi))), (3, .int (iI (kz))), (4, .int (iI (vz)))] → W p l e _ s m _ below meth c H locs 0 0 _ (F0 m 106 ls []) from
              KL _ 0 (Nat.zero_le _) (Nat.lt_succ_self _) _ _ _ (by rw [flAt_0]; exact hP) (by rw [flAt_0]; exact hD) hS (lv_sub hl [0, 1, 2, 3, 4, 5, 6] rfl)
            intro n
            induction n with
            | zero => intro i hil h0; exact absurd h0 (Nat.not_lt_zero _)
            | succ n ih =>
              intro i hil hmu H locs ls hP hD hS hl
              refine lv_iload hx hb dX6_carry_106 (lv_at hl 0 rfl) ?_
              refine lv_bipush (v := iI (7)) hx hb dX6_carry_108 (by decide) ?_
              refine my_icmp_ge (tgt := 135) hx hb (by omega) dX6_carry_110 (by decide) (fun b12 => ?_) (fun b12 => ?_)
              · have ei : i = 7 := by omega
                rw [ei] at hP hD
                refine lv_aload_n hx hb dX6_carry_135 rfl (lv_at hl 2 rfl) ?_
                refine lv_dup hx hb dX6_carry_136 rfl ?_
                refine my_get hx hb hts inAX6 hown hK hP 0 rfl rfl 4 (by decide) w_805 rfl rfl dX6_carry_137 ?_
                refine lv_iconst (v := iI (1)) hx hb dX6_carry_140 rfl ?_
                refine my_iadd (z := lc + 1) hx hb dX6_carry_141 (rfl) ?_
                refine my_put hx hb hts inAX6 tyX6_ok nmX6 hown hK hP hD hS 0 rfl rfl 4 (by decide) w_805 rfl rfl rfl (Nat.le_of_ble_eq_true rfl) dX6_carry_142 (fun H locs hP hD hS => ?_)
                have hP : va_P D vwCl [(km, .inr (6, [.int (iI (0)), .int (iI (((sh : Nat) : Int))), .int (iI (((it : Nat) : Int))), .int (iI (((dy : Nat) : Int))), .int (iI (lc + 1)), .int (iI (sv)), .int (iI (lr)), .int (iI (sr)), .ref pL, .ref pP, .ref pC, .ref pI, .ref pM, .ref pS, .ref pV, .ref pN, .ref pE, .ref pA, .ref pO, .ref pT, .ref pD, .ref pG, .ref pW])), (pI, arZ cs 20 (upI mI ((5 * zs + zi).toNat) 1)), (pS, arI cs 20 (upI mS ((5 * zs + zi).toNat) kz)), (pV, arI cs 20 (upI mV ((5 * zs + zi).toNat) vz)), (pN, arI cs 140 (flAt mN (7 * (5 * zs + zi).toNat) 1000 7))] H := hP
                have hD : va_D A [(km, .inr (6, [.int (iI (0)), .int (iI (((sh : Nat) : Int))), .int (iI (((it : Nat) : Int))), .int (iI (((dy : Nat) : Int))), .int (iI (lc + 1)), .int (iI (sv)), .int (iI (lr)), .int (iI (sr)), .ref pL, .ref pP, .ref pC, .ref pI, .ref pM, .ref pS, .ref pV, .ref pN, .ref pE, .ref pA, .ref pO, .ref pT, .ref pD, .ref pG, .ref pW])), (pI, arZ cs 20 (upI mI ((5 * zs + zi).toNat) 1)), (pS, arI cs 20 (upI mS ((5 * zs + zi).toNat) kz)), (pV, arI cs 20 (upI mV ((5 * zs + zi).toNat) vz)), (pN, arI cs 140 (flAt mN (7 * (5 * zs + zi).toNat) 1000 7))] := hD
                refine lv_aload_n hx hb dX6_carry_145 rfl (lv_at hl 2 rfl) ?_
                refine my_get hx hb hts inAX6 hown hK hP 0 rfl rfl 4 (by decide) w_805 rfl rfl dX6_carry_146 ?_
                have hWe : ([(km, .inr (6, [.int (iI (0)), .int (iI (((sh : Nat) : Int))), .int (iI (((it : Nat) : Int))), .int (iI (((dy : Nat) : Int))), .int (iI (lc + 1)), .int (iI (sv)), .int (iI (lr)), .int (iI (sr)), .ref pL, .ref pP, .ref pC, .ref pI, .ref pM, .ref pS, .ref pV, .ref pN, .ref pE, .ref pA, .ref pO, .ref pT, .ref pD, .ref pG, .ref pW])), (pI, arZ cs 20 (upI mI ((5 * zs + zi).toNat) 1)), (pS, arI cs 20 (upI mS ((5 * zs + zi).toNat) kz)), (pV, arI cs 20 (upI mV ((5 * zs + zi).toNat) vz)), (pN, arI cs 140 (flAt mN (7 * (5 * zs + zi).toNat) 1000 7))] : va_W) = [(km, .inr (6, [.int (iI ((((cd3 ((0 ≤ zs ∧ zs < (sh : Int)) ∧ (0 ≤ zi ∧ zi < (it : Int))) ((0 ≤ kz ∧ kz ≤ 999) ∧ (0 ≤ vz ∧ vz ≤ 99999)) (mI (5 * zs + zi).toNat = 0)) : Nat) : Int))), .int (iI (((sh : Nat) : Int))), .int (iI (((it : Nat) : Int))), .int (iI (((dy : Nat) : Int))), .int (iI (if cd3 ((0 ≤ zs ∧ zs < (sh : Int)) ∧ (0 ≤ zi ∧ zi < (it : Int))) ((0 ≤ kz ∧ kz ≤ 999) ∧ (0 ≤ vz ∧ vz ≤ 99999)) (mI (5 * zs + zi).toNat = 0) = 0 then lc + 1 else lc)), .int (iI (sv)), .int (iI (lr)), .int (iI (sr)), .ref pL, .ref pP, .ref pC, .ref pI, .ref pM, .ref pS, .ref pV, .ref pN, .ref pE, .ref pA, .ref pO, .ref pT, .ref pD, .ref pG, .ref pW])), (pI, arZ cs 20 (if cd3 ((0 ≤ zs ∧ zs < (sh : Int)) ∧ (0 ≤ zi ∧ zi < (it : Int))) ((0 ≤ kz ∧ kz ≤ 999) ∧ (0 ≤ vz ∧ vz ≤ 99999)) (mI (5 * zs + zi).toNat = 0) = 0 then upI mI (5 * zs + zi).toNat 1 else mI)), (pS, arI cs 20 (if cd3 ((0 ≤ zs ∧ zs < (sh : Int)) ∧ (0 ≤ zi ∧ zi < (it : Int))) ((0 ≤ kz ∧ kz ≤ 999) ∧ (0 ≤ vz ∧ vz ≤ 99999)) (mI (5 * zs + zi).toNat = 0) = 0 then upI mS (5 * zs + zi).toNat kz else mS)), (pV, arI cs 20 (if cd3 ((0 ≤ zs ∧ zs < (sh : Int)) ∧ (0 ≤ zi ∧ zi < (it : Int))) ((0 ≤ kz ∧ kz ≤ 999) ∧ (0 ≤ vz ∧ vz ≤ 99999)) (mI (5 * zs + zi).toNat = 0) = 0 then upI mV (5 * zs + zi).toNat vz else mV)), (pN, arI cs 140 (if cd3 ((0 ≤ zs ∧ zs < (sh : Int)) ∧ (0 ≤ zi ∧ zi < (it : Int))) ((0 ≤ kz ∧ kz ≤ 999) ∧ (0 ≤ vz ∧ vz ≤ 99999)) (mI (5 * zs + zi).toNat = 0) = 0 then flAt mN (7 * (5 * zs + zi).toNat) 1000 7 else mN))] := by
                  have hcd : cd3 ((0 ≤ zs ∧ zs < (sh : Int)) ∧ (0 ≤ zi ∧ zi < (it : Int))) ((0 ≤ kz ∧ kz ≤ 999) ∧ (0 ≤ vz ∧ vz ≤ 99999)) (mI (5 * zs + zi).toNat = 0) = 0 := by unfold cd3; (repeat' split) <;> omega
                  rw [hcd]
                  first | rfl | (simp; done)
                rw [hWe] at hP
                subst hAe
                have hres : iI (lc + 1) = iI (if cd3 ((0 ≤ zs ∧ zs < (sh : Int)) ∧ (0 ≤ zi ∧ zi < (it : Int))) ((0 ≤ kz ∧ kz ≤ 999) ∧ (0 ≤ vz ∧ vz ≤ 99999)) (mI (5 * zs + zi).toNat = 0) = 0 then lc + 1 else 0) := congrArg iI (by
                    have hcd : cd3 ((0 ≤ zs ∧ zs < (sh : Int)) ∧ (0 ≤ zi ∧ zi < (it : Int))) ((0 ≤ kz ∧ kz ≤ 999) ∧ (0 ≤ vz ∧ vz ≤ 99999)) (mI (5 * zs + zi).toNat = 0) = 0 := by unfold cd3; (repeat' split) <;> omega
                    rw [hcd]
                    first | rfl | (simp; done))
                exact W.iret hx hb hr (fun t ht hW => ⟨⟨_, (), rfl, hres, by show va_P D vwCl _ t.heap; rw [ht]; exact hP⟩, hS.F ht⟩) hS.2.2 dX6_carry_149
              · refine lv_aload_n hx hb dX6_carry_113 rfl (lv_at hl 2 rfl) ?_
                refine my_get hx hb hts inAX6 hown hK hP 0 rfl rfl 15 (by decide) w_816 rfl rfl dX6_carry_114 ?_
                refine lv_bipush (v := iI (7)) hx hb dX6_carry_117 (by decide) ?_
                refine lv_iload hx hb dX6_carry_119 (lv_at hl 1 rfl) ?_
                refine my_imul (z := 7 * ((((5 * zs + zi).toNat) : Nat) : Int)) hx hb dX6_carry_121 (rfl) ?_
                refine lv_iload hx hb dX6_carry_122 (lv_at hl 0 rfl) ?_
                refine my_iadd (z := (7 * ((((5 * zs + zi).toNat) : Nat) : Int)) + ((i : Nat) : Int)) hx hb dX6_carry_124 (rfl) ?_
                refine my_cv0 (z := (((7 * (5 * zs + zi).toNat + i) : Nat) : Int)) (by omega) ?_
                refine lv_sipush (v := iI (1000)) hx hb dX6_carry_125 (by decide) ?_
                refine my_iast hx hb hK hP hD hS 4 rfl (by omega) (k := 7 * (5 * zs + zi).toNat + i) (Int.toNat_natCast _) dX6_carry_128 (fun H locs hP hD hS => ?_)
                have hP : va_P D vwCl [(km, .inr (6, [.int (iI (0)), .int (iI (((sh : Nat) : Int))), .int (iI (((it : Nat) : Int))), .int (iI (((dy : Nat) : Int))), .int (iI (lc)), .int (iI (sv)), .int (iI (lr)), .int (iI (sr)), .ref pL, .ref pP, .ref pC, .ref pI, .ref pM, .ref pS, .ref pV, .ref pN, .ref pE, .ref pA, .ref pO, .ref pT, .ref pD, .ref pG, .ref pW])), (pI, arZ cs 20 (upI mI ((5 * zs + zi).toNat) 1)), (pS, arI cs 20 (upI mS ((5 * zs + zi).toNat) kz)), (pV, arI cs 20 (upI mV ((5 * zs + zi).toNat) vz)), (pN, arI cs 140 (upI (flAt mN (7 * (5 * zs + zi).toNat) 1000 i) (7 * (5 * zs + zi).toNat + i) 1000))] H := hP
                have hD : va_D A [(km, .inr (6, [.int (iI (0)), .int (iI (((sh : Nat) : Int))), .int (iI (((it : Nat) : Int))), .int (iI (((dy : Nat) : Int))), .int (iI (lc)), .int (iI (sv)), .int (iI (lr)), .int (iI (sr)), .ref pL, .ref pP, .ref pC, .ref pI, .ref pM, .ref pS, .ref pV, .ref pN, .ref pE, .ref pA, .ref pO, .ref pT, .ref pD, .ref pG, .ref pW])), (pI, arZ cs 20 (upI mI ((5 * zs + zi).toNat) 1)), (pS, arI cs 20 (upI mS ((5 * zs + zi).toNat) kz)), (pV, arI cs 20 (upI mV ((5 * zs + zi).toNat) vz)), (pN, arI cs 140 (upI (flAt mN (7 * (5 * zs + zi).toNat) 1000 i) (7 * (5 * zs + zi).toNat + i) 1000))] := hD
                refine lv_iinc (v := iI (((i : Nat) : Int) + 1)) (lv' := [(6, .int (iI (((i : Nat) : Int) + 1))), (5, .int (iI (((((5 * zs + zi).toNat) : Nat) : Int)))), (0, .ref km), (1, .int (iI (zs))), (2, .int (iI (zi))), (3, .int (iI (kz))), (4, .int (iI (vz)))]) hx hb dX6_carry_129 hl (k := 0) rfl (by rw [show (((i : Nat) : Int) + 1 : Int) = ((i : Nat) : Int) + 1 from rfl]; exact iI_add _ _) (by decide) rfl (fun ls hl => ?_)
                refine lv_goto (tgt := 106) hx hb dX6_carry_132 (by decide) ?_
                have e1 : ((i : Nat) : Int) + 1 = ((i + 1 : Nat) : Int) := by omega
                rw [e1] at hl
                rw [flAt_s] at hP hD
                exact ih (i + 1) (by omega) (by omega) _ _ _ hP hD hS (lv_sub hl [0, 1, 2, 3, 4, 5, 6] rfl)
          · refine lv_aload_n hx hb dX6_carry_67 rfl (lv_at hl 1 rfl) ?_
            refine lv_iconst (v := iI (3)) hx hb dX6_carry_68 rfl ?_
            have pk13 : picks [(km, .inr (6, [.int (iI (th)), .int (iI (((sh : Nat) : Int))), .int (iI (((it : Nat) : Int))), .int (iI (((dy : Nat) : Int))), .int (iI (lc)), .int (iI (sv)), .int (iI (lr)), .int (iI (sr)), .ref pL, .ref pP, .ref pC, .ref pI, .ref pM, .ref pS, .ref pV, .ref pN, .ref pE, .ref pA, .ref pO, .ref pT, .ref pD, .ref pG, .ref pW])), (pI, arZ cs 20 mI), (pS, arI cs 20 mS), (pV, arI cs 20 mV), (pN, arI cs 140 mN)] [0] [(km, .inr (6, [.int (iI (th)), .int (iI (((sh : Nat) : Int))), .int (iI (((it : Nat) : Int))), .int (iI (((dy : Nat) : Int))), .int (iI (lc)), .int (iI (sv)), .int (iI (lr)), .int (iI (sr)), .ref pL, .ref pP, .ref pC, .ref pI, .ref pM, .ref pS, .ref pV, .ref pN, .ref pE, .ref pA, .ref pO, .ref pT, .ref pD, .ref pG, .ref pW]))] := ⟨rfl, trivial⟩
            refine va_calli (va_runV (As := [.int (iI (3))]) (rest := []) ⟨hx, hb, hml, hown, hts⟩ (m_X6_fails l D cs km pL pP pC pI pM pS pV pN pE pA pO pT pD pG pW sh it th dy lc sv lr sr 3) (cwV 1 hts (gV w_883 w_885 w_p16 w_5 w_886) rfl rfl rfl (by decide +kernel) ⟨Nat.le_of_ble_eq_true rfl, Nat.le_of_ble_eq_true rfl⟩) (PC_V hK hN hP hD [0] rfl pk13 rfl rfl) rfl rfl hl.1 rfl (lv_room (Nat.le_of_ble_eq_true rfl)) dX6_carry_69 ⟨Nat.le_of_ble_eq_true rfl, Nat.le_of_ble_eq_true rfl⟩) hS (fun q _ h => inW_sub hD [0] pk13 q h) (fun q h => inW_sub hD [0] pk13 q h) (fun r u t H locs ht hvm hw hB hz1 hk1 hS => ?_)
            subst hw
            rw [ht] at hB
            obtain ⟨hP, hD⟩ := my_join (W1 := [(km, .inr (6, [.int (iI (3)), .int (iI (((sh : Nat) : Int))), .int (iI (((it : Nat) : Int))), .int (iI (((dy : Nat) : Int))), .int (iI (lc)), .int (iI (sv)), .int (iI (lr)), .int (iI (sr)), .ref pL, .ref pP, .ref pC, .ref pI, .ref pM, .ref pS, .ref pV, .ref pN, .ref pE, .ref pA, .ref pO, .ref pT, .ref pD, .ref pG, .ref pW]))]) hP hD [0] rfl pk13 rfl hk1 hB
            have hP : va_P D vwCl [(km, .inr (6, [.int (iI (3)), .int (iI (((sh : Nat) : Int))), .int (iI (((it : Nat) : Int))), .int (iI (((dy : Nat) : Int))), .int (iI (lc)), .int (iI (sv)), .int (iI (lr)), .int (iI (sr)), .ref pL, .ref pP, .ref pC, .ref pI, .ref pM, .ref pS, .ref pV, .ref pN, .ref pE, .ref pA, .ref pO, .ref pT, .ref pD, .ref pG, .ref pW])), (pI, arZ cs 20 mI), (pS, arI cs 20 mS), (pV, arI cs 20 mV), (pN, arI cs 140 mN)] H := hP
            have hD : va_D A [(km, .inr (6, [.int (iI (3)), .int (iI (((sh : Nat) : Int))), .int (iI (((it : Nat) : Int))), .int (iI (((dy : Nat) : Int))), .int (iI (lc)), .int (iI (sv)), .int (iI (lr)), .int (iI (sr)), .ref pL, .ref pP, .ref pC, .ref pI, .ref pM, .ref pS, .ref pV, .ref pN, .ref pE, .ref pA, .ref pO, .ref pT, .ref pD, .ref pG, .ref pW])), (pI, arZ cs 20 mI), (pS, arI cs 20 mS), (pV, arI cs 20 mV), (pN, arI cs 140 mN)] := hD
            have hWe : ([(km, .inr (6, [.int (iI (3)), .int (iI (((sh : Nat) : Int))), .int (iI (((it : Nat) : Int))), .int (iI (((dy : Nat) : Int))), .int (iI (lc)), .int (iI (sv)), .int (iI (lr)), .int (iI (sr)), .ref pL, .ref pP, .ref pC, .ref pI, .ref pM, .ref pS, .ref pV, .ref pN, .ref pE, .ref pA, .ref pO, .ref pT, .ref pD, .ref pG, .ref pW])), (pI, arZ cs 20 mI), (pS, arI cs 20 mS), (pV, arI cs 20 mV), (pN, arI cs 140 mN)] : va_W) = [(km, .inr (6, [.int (iI ((((cd3 ((0 ≤ zs ∧ zs < (sh : Int)) ∧ (0 ≤ zi ∧ zi < (it : Int))) ((0 ≤ kz ∧ kz ≤ 999) ∧ (0 ≤ vz ∧ vz ≤ 99999)) (mI (5 * zs + zi).toNat = 0)) : Nat) : Int))), .int (iI (((sh : Nat) : Int))), .int (iI (((it : Nat) : Int))), .int (iI (((dy : Nat) : Int))), .int (iI (if cd3 ((0 ≤ zs ∧ zs < (sh : Int)) ∧ (0 ≤ zi ∧ zi < (it : Int))) ((0 ≤ kz ∧ kz ≤ 999) ∧ (0 ≤ vz ∧ vz ≤ 99999)) (mI (5 * zs + zi).toNat = 0) = 0 then lc + 1 else lc)), .int (iI (sv)), .int (iI (lr)), .int (iI (sr)), .ref pL, .ref pP, .ref pC, .ref pI, .ref pM, .ref pS, .ref pV, .ref pN, .ref pE, .ref pA, .ref pO, .ref pT, .ref pD, .ref pG, .ref pW])), (pI, arZ cs 20 (if cd3 ((0 ≤ zs ∧ zs < (sh : Int)) ∧ (0 ≤ zi ∧ zi < (it : Int))) ((0 ≤ kz ∧ kz ≤ 999) ∧ (0 ≤ vz ∧ vz ≤ 99999)) (mI (5 * zs + zi).toNat = 0) = 0 then upI mI (5 * zs + zi).toNat 1 else mI)), (pS, arI cs 20 (if cd3 ((0 ≤ zs ∧ zs < (sh : Int)) ∧ (0 ≤ zi ∧ zi < (it : Int))) ((0 ≤ kz ∧ kz ≤ 999) ∧ (0 ≤ vz ∧ vz ≤ 99999)) (mI (5 * zs + zi).toNat = 0) = 0 then upI mS (5 * zs + zi).toNat kz else mS)), (pV, arI cs 20 (if cd3 ((0 ≤ zs ∧ zs < (sh : Int)) ∧ (0 ≤ zi ∧ zi < (it : Int))) ((0 ≤ kz ∧ kz ≤ 999) ∧ (0 ≤ vz ∧ vz ≤ 99999)) (mI (5 * zs + zi).toNat = 0) = 0 then upI mV (5 * zs + zi).toNat vz else mV)), (pN, arI cs 140 (if cd3 ((0 ≤ zs ∧ zs < (sh : Int)) ∧ (0 ≤ zi ∧ zi < (it : Int))) ((0 ≤ kz ∧ kz ≤ 999) ∧ (0 ≤ vz ∧ vz ≤ 99999)) (mI (5 * zs + zi).toNat = 0) = 0 then flAt mN (7 * (5 * zs + zi).toNat) 1000 7 else mN))] := by
              have hcd : cd3 ((0 ≤ zs ∧ zs < (sh : Int)) ∧ (0 ≤ zi ∧ zi < (it : Int))) ((0 ≤ kz ∧ kz ≤ 999) ∧ (0 ≤ vz ∧ vz ≤ 99999)) (mI (5 * zs + zi).toNat = 0) = 3 := by unfold cd3; (repeat' split) <;> omega
              rw [hcd]
              first | rfl | (simp; done)
            rw [hWe] at hP
            subst hAe
            have hres : iI (0) = iI (if cd3 ((0 ≤ zs ∧ zs < (sh : Int)) ∧ (0 ≤ zi ∧ zi < (it : Int))) ((0 ≤ kz ∧ kz ≤ 999) ∧ (0 ≤ vz ∧ vz ≤ 99999)) (mI (5 * zs + zi).toNat = 0) = 0 then lc + 1 else 0) := congrArg iI (by
                have hcd : cd3 ((0 ≤ zs ∧ zs < (sh : Int)) ∧ (0 ≤ zi ∧ zi < (it : Int))) ((0 ≤ kz ∧ kz ≤ 999) ∧ (0 ≤ vz ∧ vz ≤ 99999)) (mI (5 * zs + zi).toNat = 0) = 3 := by unfold cd3; (repeat' split) <;> omega
                rw [hcd]
                first | rfl | (simp; done))
            exact W.iret hx hb hr (fun t ht hW => ⟨⟨_, (), rfl, hres, by show va_P D vwCl _ t.heap; rw [ht]; exact hP⟩, hS.F ht⟩) hS.2.2 dX6_carry_72
        · refine lv_aload_n hx hb dX6_carry_44 rfl (lv_at hl 0 rfl) ?_
          refine lv_iconst (v := iI (2)) hx hb dX6_carry_45 rfl ?_
          have pk14 : picks [(km, .inr (6, [.int (iI (th)), .int (iI (((sh : Nat) : Int))), .int (iI (((it : Nat) : Int))), .int (iI (((dy : Nat) : Int))), .int (iI (lc)), .int (iI (sv)), .int (iI (lr)), .int (iI (sr)), .ref pL, .ref pP, .ref pC, .ref pI, .ref pM, .ref pS, .ref pV, .ref pN, .ref pE, .ref pA, .ref pO, .ref pT, .ref pD, .ref pG, .ref pW])), (pI, arZ cs 20 mI), (pS, arI cs 20 mS), (pV, arI cs 20 mV), (pN, arI cs 140 mN)] [0] [(km, .inr (6, [.int (iI (th)), .int (iI (((sh : Nat) : Int))), .int (iI (((it : Nat) : Int))), .int (iI (((dy : Nat) : Int))), .int (iI (lc)), .int (iI (sv)), .int (iI (lr)), .int (iI (sr)), .ref pL, .ref pP, .ref pC, .ref pI, .ref pM, .ref pS, .ref pV, .ref pN, .ref pE, .ref pA, .ref pO, .ref pT, .ref pD, .ref pG, .ref pW]))] := ⟨rfl, trivial⟩
          refine va_calli (va_runV (As := [.int (iI (2))]) (rest := []) ⟨hx, hb, hml, hown, hts⟩ (m_X6_fails l D cs km pL pP pC pI pM pS pV pN pE pA pO pT pD pG pW sh it th dy lc sv lr sr 2) (cwV 1 hts (gV w_883 w_885 w_p16 w_5 w_886) rfl rfl rfl (by decide +kernel) ⟨Nat.le_of_ble_eq_true rfl, Nat.le_of_ble_eq_true rfl⟩) (PC_V hK hN hP hD [0] rfl pk14 rfl rfl) rfl rfl hl.1 rfl (lv_room (Nat.le_of_ble_eq_true rfl)) dX6_carry_46 ⟨Nat.le_of_ble_eq_true rfl, Nat.le_of_ble_eq_true rfl⟩) hS (fun q _ h => inW_sub hD [0] pk14 q h) (fun q h => inW_sub hD [0] pk14 q h) (fun r u t H locs ht hvm hw hB hz1 hk1 hS => ?_)
          subst hw
          rw [ht] at hB
          obtain ⟨hP, hD⟩ := my_join (W1 := [(km, .inr (6, [.int (iI (2)), .int (iI (((sh : Nat) : Int))), .int (iI (((it : Nat) : Int))), .int (iI (((dy : Nat) : Int))), .int (iI (lc)), .int (iI (sv)), .int (iI (lr)), .int (iI (sr)), .ref pL, .ref pP, .ref pC, .ref pI, .ref pM, .ref pS, .ref pV, .ref pN, .ref pE, .ref pA, .ref pO, .ref pT, .ref pD, .ref pG, .ref pW]))]) hP hD [0] rfl pk14 rfl hk1 hB
          have hP : va_P D vwCl [(km, .inr (6, [.int (iI (2)), .int (iI (((sh : Nat) : Int))), .int (iI (((it : Nat) : Int))), .int (iI (((dy : Nat) : Int))), .int (iI (lc)), .int (iI (sv)), .int (iI (lr)), .int (iI (sr)), .ref pL, .ref pP, .ref pC, .ref pI, .ref pM, .ref pS, .ref pV, .ref pN, .ref pE, .ref pA, .ref pO, .ref pT, .ref pD, .ref pG, .ref pW])), (pI, arZ cs 20 mI), (pS, arI cs 20 mS), (pV, arI cs 20 mV), (pN, arI cs 140 mN)] H := hP
          have hD : va_D A [(km, .inr (6, [.int (iI (2)), .int (iI (((sh : Nat) : Int))), .int (iI (((it : Nat) : Int))), .int (iI (((dy : Nat) : Int))), .int (iI (lc)), .int (iI (sv)), .int (iI (lr)), .int (iI (sr)), .ref pL, .ref pP, .ref pC, .ref pI, .ref pM, .ref pS, .ref pV, .ref pN, .ref pE, .ref pA, .ref pO, .ref pT, .ref pD, .ref pG, .ref pW])), (pI, arZ cs 20 mI), (pS, arI cs 20 mS), (pV, arI cs 20 mV), (pN, arI cs 140 mN)] := hD
          have hWe : ([(km, .inr (6, [.int (iI (2)), .int (iI (((sh : Nat) : Int))), .int (iI (((it : Nat) : Int))), .int (iI (((dy : Nat) : Int))), .int (iI (lc)), .int (iI (sv)), .int (iI (lr)), .int (iI (sr)), .ref pL, .ref pP, .ref pC, .ref pI, .ref pM, .ref pS, .ref pV, .ref pN, .ref pE, .ref pA, .ref pO, .ref pT, .ref pD, .ref pG, .ref pW])), (pI, arZ cs 20 mI), (pS, arI cs 20 mS), (pV, arI cs 20 mV), (pN, arI cs 140 mN)] : va_W) = [(km, .inr (6, [.int (iI ((((cd3 ((0 ≤ zs ∧ zs < (sh : Int)) ∧ (0 ≤ zi ∧ zi < (it : Int))) ((0 ≤ kz ∧ kz ≤ 999) ∧ (0 ≤ vz ∧ vz ≤ 99999)) (mI (5 * zs + zi).toNat = 0)) : Nat) : Int))), .int (iI (((sh : Nat) : Int))), .int (iI (((it : Nat) : Int))), .int (iI (((dy : Nat) : Int))), .int (iI (if cd3 ((0 ≤ zs ∧ zs < (sh : Int)) ∧ (0 ≤ zi ∧ zi < (it : Int))) ((0 ≤ kz ∧ kz ≤ 999) ∧ (0 ≤ vz ∧ vz ≤ 99999)) (mI (5 * zs + zi).toNat = 0) = 0 then lc + 1 else lc)), .int (iI (sv)), .int (iI (lr)), .int (iI (sr)), .ref pL, .ref pP, .ref pC, .ref pI, .ref pM, .ref pS, .ref pV, .ref pN, .ref pE, .ref pA, .ref pO, .ref pT, .ref pD, .ref pG, .ref pW])), (pI, arZ cs 20 (if cd3 ((0 ≤ zs ∧ zs < (sh : Int)) ∧ (0 ≤ zi ∧ zi < (it : Int))) ((0 ≤ kz ∧ kz ≤ 999) ∧ (0 ≤ vz ∧ vz ≤ 99999)) (mI (5 * zs + zi).toNat = 0) = 0 then upI mI (5 * zs + zi).toNat 1 else mI)), (pS, arI cs 20 (if cd3 ((0 ≤ zs ∧ zs < (sh : Int)) ∧ (0 ≤ zi ∧ zi < (it : Int))) ((0 ≤ kz ∧ kz ≤ 999) ∧ (0 ≤ vz ∧ vz ≤ 99999)) (mI (5 * zs + zi).toNat = 0) = 0 then upI mS (5 * zs + zi).toNat kz else mS)), (pV, arI cs 20 (if cd3 ((0 ≤ zs ∧ zs < (sh : Int)) ∧ (0 ≤ zi ∧ zi < (it : Int))) ((0 ≤ kz ∧ kz ≤ 999) ∧ (0 ≤ vz ∧ vz ≤ 99999)) (mI (5 * zs + zi).toNat = 0) = 0 then upI mV (5 * zs + zi).toNat vz else mV)), (pN, arI cs 140 (if cd3 ((0 ≤ zs ∧ zs < (sh : Int)) ∧ (0 ≤ zi ∧ zi < (it : Int))) ((0 ≤ kz ∧ kz ≤ 999) ∧ (0 ≤ vz ∧ vz ≤ 99999)) (mI (5 * zs + zi).toNat = 0) = 0 then flAt mN (7 * (5 * zs + zi).toNat) 1000 7 else mN))] := by
            have hcd : cd3 ((0 ≤ zs ∧ zs < (sh : Int)) ∧ (0 ≤ zi ∧ zi < (it : Int))) ((0 ≤ kz ∧ kz ≤ 999) ∧ (0 ≤ vz ∧ vz ≤ 99999)) (mI (5 * zs + zi).toNat = 0) = 2 := by unfold cd3; (repeat' split) <;> omega
            rw [hcd]
            first | rfl | (simp; done)
          rw [hWe] at hP
          subst hAe
          have hres : iI (0) = iI (if cd3 ((0 ≤ zs ∧ zs < (sh : Int)) ∧ (0 ≤ zi ∧ zi < (it : Int))) ((0 ≤ kz ∧ kz ≤ 999) ∧ (0 ≤ vz ∧ vz ≤ 99999)) (mI (5 * zs + zi).toNat = 0) = 0 then lc + 1 else 0) := congrArg iI (by
              have hcd : cd3 ((0 ≤ zs ∧ zs < (sh : Int)) ∧ (0 ≤ zi ∧ zi < (it : Int))) ((0 ≤ kz ∧ kz ≤ 999) ∧ (0 ≤ vz ∧ vz ≤ 99999)) (mI (5 * zs + zi).toNat = 0) = 2 := by unfold cd3; (repeat' split) <;> omega
              rw [hcd]
              first | rfl | (simp; done))
          exact W.iret hx hb hr (fun t ht hW => ⟨⟨_, (), rfl, hres, by show va_P D vwCl _ t.heap; rw [ht]; exact hP⟩, hS.F ht⟩) hS.2.2 dX6_carry_49
    · refine lv_aload_n hx hb dX6_carry_16 rfl (lv_at hl 0 rfl) ?_
      refine lv_iconst (v := iI (1)) hx hb dX6_carry_17 rfl ?_
      have pk15 : picks [(km, .inr (6, [.int (iI (th)), .int (iI (((sh : Nat) : Int))), .int (iI (((it : Nat) : Int))), .int (iI (((dy : Nat) : Int))), .int (iI (lc)), .int (iI (sv)), .int (iI (lr)), .int (iI (sr)), .ref pL, .ref pP, .ref pC, .ref pI, .ref pM, .ref pS, .ref pV, .ref pN, .ref pE, .ref pA, .ref pO, .ref pT, .ref pD, .ref pG, .ref pW])), (pI, arZ cs 20 mI), (pS, arI cs 20 mS), (pV, arI cs 20 mV), (pN, arI cs 140 mN)] [0] [(km, .inr (6, [.int (iI (th)), .int (iI (((sh : Nat) : Int))), .int (iI (((it : Nat) : Int))), .int (iI (((dy : Nat) : Int))), .int (iI (lc)), .int (iI (sv)), .int (iI (lr)), .int (iI (sr)), .ref pL, .ref pP, .ref pC, .ref pI, .ref pM, .ref pS, .ref pV, .ref pN, .ref pE, .ref pA, .ref pO, .ref pT, .ref pD, .ref pG, .ref pW]))] := ⟨rfl, trivial⟩
      refine va_calli (va_runV (As := [.int (iI (1))]) (rest := []) ⟨hx, hb, hml, hown, hts⟩ (m_X6_fails l D cs km pL pP pC pI pM pS pV pN pE pA pO pT pD pG pW sh it th dy lc sv lr sr 1) (cwV 1 hts (gV w_883 w_885 w_p16 w_5 w_886) rfl rfl rfl (by decide +kernel) ⟨Nat.le_of_ble_eq_true rfl, Nat.le_of_ble_eq_true rfl⟩) (PC_V hK hN hP hD [0] rfl pk15 rfl rfl) rfl rfl hl.1 rfl (lv_room (Nat.le_of_ble_eq_true rfl)) dX6_carry_18 ⟨Nat.le_of_ble_eq_true rfl, Nat.le_of_ble_eq_true rfl⟩) hS (fun q _ h => inW_sub hD [0] pk15 q h) (fun q h => inW_sub hD [0] pk15 q h) (fun r u t H locs ht hvm hw hB hz1 hk1 hS => ?_)
      subst hw
      rw [ht] at hB
      obtain ⟨hP, hD⟩ := my_join (W1 := [(km, .inr (6, [.int (iI (1)), .int (iI (((sh : Nat) : Int))), .int (iI (((it : Nat) : Int))), .int (iI (((dy : Nat) : Int))), .int (iI (lc)), .int (iI (sv)), .int (iI (lr)), .int (iI (sr)), .ref pL, .ref pP, .ref pC, .ref pI, .ref pM, .ref pS, .ref pV, .ref pN, .ref pE, .ref pA, .ref pO, .ref pT, .ref pD, .ref pG, .ref pW]))]) hP hD [0] rfl pk15 rfl hk1 hB
      have hP : va_P D vwCl [(km, .inr (6, [.int (iI (1)), .int (iI (((sh : Nat) : Int))), .int (iI (((it : Nat) : Int))), .int (iI (((dy : Nat) : Int))), .int (iI (lc)), .int (iI (sv)), .int (iI (lr)), .int (iI (sr)), .ref pL, .ref pP, .ref pC, .ref pI, .ref pM, .ref pS, .ref pV, .ref pN, .ref pE, .ref pA, .ref pO, .ref pT, .ref pD, .ref pG, .ref pW])), (pI, arZ cs 20 mI), (pS, arI cs 20 mS), (pV, arI cs 20 mV), (pN, arI cs 140 mN)] H := hP
      have hD : va_D A [(km, .inr (6, [.int (iI (1)), .int (iI (((sh : Nat) : Int))), .int (iI (((it : Nat) : Int))), .int (iI (((dy : Nat) : Int))), .int (iI (lc)), .int (iI (sv)), .int (iI (lr)), .int (iI (sr)), .ref pL, .ref pP, .ref pC, .ref pI, .ref pM, .ref pS, .ref pV, .ref pN, .ref pE, .ref pA, .ref pO, .ref pT, .ref pD, .ref pG, .ref pW])), (pI, arZ cs 20 mI), (pS, arI cs 20 mS), (pV, arI cs 20 mV), (pN, arI cs 140 mN)] := hD
      have hWe : ([(km, .inr (6, [.int (iI (1)), .int (iI (((sh : Nat) : Int))), .int (iI (((it : Nat) : Int))), .int (iI (((dy : Nat) : Int))), .int (iI (lc)), .int (iI (sv)), .int (iI (lr)), .int (iI (sr)), .ref pL, .ref pP, .ref pC, .ref pI, .ref pM, .ref pS, .ref pV, .ref pN, .ref pE, .ref pA, .ref pO, .ref pT, .ref pD, .ref pG, .ref pW])), (pI, arZ cs 20 mI), (pS, arI cs 20 mS), (pV, arI cs 20 mV), (pN, arI cs 140 mN)] : va_W) = [(km, .inr (6, [.int (iI ((((cd3 ((0 ≤ zs ∧ zs < (sh : Int)) ∧ (0 ≤ zi ∧ zi < (it : Int))) ((0 ≤ kz ∧ kz ≤ 999) ∧ (0 ≤ vz ∧ vz ≤ 99999)) (mI (5 * zs + zi).toNat = 0)) : Nat) : Int))), .int (iI (((sh : Nat) : Int))), .int (iI (((it : Nat) : Int))), .int (iI (((dy : Nat) : Int))), .int (iI (if cd3 ((0 ≤ zs ∧ zs < (sh : Int)) ∧ (0 ≤ zi ∧ zi < (it : Int))) ((0 ≤ kz ∧ kz ≤ 999) ∧ (0 ≤ vz ∧ vz ≤ 99999)) (mI (5 * zs + zi).toNat = 0) = 0 then lc + 1 else lc)), .int (iI (sv)), .int (iI (lr)), .int (iI (sr)), .ref pL, .ref pP, .ref pC, .ref pI, .ref pM, .ref pS, .ref pV, .ref pN, .ref pE, .ref pA, .ref pO, .ref pT, .ref pD, .ref pG, .ref pW])), (pI, arZ cs 20 (if cd3 ((0 ≤ zs ∧ zs < (sh : Int)) ∧ (0 ≤ zi ∧ zi < (it : Int))) ((0 ≤ kz ∧ kz ≤ 999) ∧ (0 ≤ vz ∧ vz ≤ 99999)) (mI (5 * zs + zi).toNat = 0) = 0 then upI mI (5 * zs + zi).toNat 1 else mI)), (pS, arI cs 20 (if cd3 ((0 ≤ zs ∧ zs < (sh : Int)) ∧ (0 ≤ zi ∧ zi < (it : Int))) ((0 ≤ kz ∧ kz ≤ 999) ∧ (0 ≤ vz ∧ vz ≤ 99999)) (mI (5 * zs + zi).toNat = 0) = 0 then upI mS (5 * zs + zi).toNat kz else mS)), (pV, arI cs 20 (if cd3 ((0 ≤ zs ∧ zs < (sh : Int)) ∧ (0 ≤ zi ∧ zi < (it : Int))) ((0 ≤ kz ∧ kz ≤ 999) ∧ (0 ≤ vz ∧ vz ≤ 99999)) (mI (5 * zs + zi).toNat = 0) = 0 then upI mV (5 * zs + zi).toNat vz else mV)), (pN, arI cs 140 (if cd3 ((0 ≤ zs ∧ zs < (sh : Int)) ∧ (0 ≤ zi ∧ zi < (it : Int))) ((0 ≤ kz ∧ kz ≤ 999) ∧ (0 ≤ vz ∧ vz ≤ 99999)) (mI (5 * zs + zi).toNat = 0) = 0 then flAt mN (7 * (5 * zs + zi).toNat) 1000 7 else mN))] := by
        have hcd : cd3 ((0 ≤ zs ∧ zs < (sh : Int)) ∧ (0 ≤ zi ∧ zi < (it : Int))) ((0 ≤ kz ∧ kz ≤ 999) ∧ (0 ≤ vz ∧ vz ≤ 99999)) (mI (5 * zs + zi).toNat = 0) = 1 := by unfold cd3; (repeat' split) <;> omega
        rw [hcd]
        first | rfl | (simp; done)
      rw [hWe] at hP
      subst hAe
      have hres : iI (0) = iI (if cd3 ((0 ≤ zs ∧ zs < (sh : Int)) ∧ (0 ≤ zi ∧ zi < (it : Int))) ((0 ≤ kz ∧ kz ≤ 999) ∧ (0 ≤ vz ∧ vz ≤ 99999)) (mI (5 * zs + zi).toNat = 0) = 0 then lc + 1 else 0) := congrArg iI (by
          have hcd : cd3 ((0 ≤ zs ∧ zs < (sh : Int)) ∧ (0 ≤ zi ∧ zi < (it : Int))) ((0 ≤ kz ∧ kz ≤ 999) ∧ (0 ≤ vz ∧ vz ≤ 99999)) (mI (5 * zs + zi).toNat = 0) = 1 := by unfold cd3; (repeat' split) <;> omega
          rw [hcd]
          first | rfl | (simp; done))
      exact W.iret hx hb hr (fun t ht hW => ⟨⟨_, (), rfl, hres, by show va_P D vwCl _ t.heap; rw [ht]; exact hP⟩, hS.F ht⟩) hS.2.2 dX6_carry_21

abbrev ws_X6_carries : List Cond := Cond.code yX6_carries cX6_carries 3 (some .boolean) :: ALL
set_option maxHeartbeats 4000000 in
set_option maxRecDepth 100000 in
theorem m_X6_carries (l : Launch) (D : va_G) (cs : Nat → ClassId) (km pL pP pC pI pM pS pV pN pE pA pO pT pD pG pW sh it : Nat) (th : Int) (dy : Nat) (lc sv lr sr : Int) (mI : Nat → Int) (zs zi : Int) (hsh : sh ≤ 4) (hit : it ≤ 5) (hmI : ∀ j, 0 ≤ mI j ∧ mI j ≤ 1) (hzs : -2147483648 ≤ zs ∧ zs < 2147483648) (hzi : -2147483648 ≤ zi ∧ zi < 2147483648) : Met l yX6_carries ws_X6_carries ({ frames := 2, cells := 0, slots := 0, locals := 43 }) (va_Pc [.ref km, .int (iI (zs)), .int (iI (zi))] (PC D cs [(km, .inr (6, [.int (iI (th)), .int (iI (((sh : Nat) : Int))), .int (iI (((it : Nat) : Int))), .int (iI (((dy : Nat) : Int))), .int (iI (lc)), .int (iI (sv)), .int (iI (lr)), .int (iI (sr)), .ref pL, .ref pP, .ref pC, .ref pI, .ref pM, .ref pS, .ref pV, .ref pN, .ref pE, .ref pA, .ref pO, .ref pT, .ref pD, .ref pG, .ref pW])), (pI, arZ cs 20 mI)])) (va_Qi (fun r (_ : Unit) => r = iI (if ((0 ≤ zs ∧ zs < (sh : Int)) ∧ (0 ≤ zi ∧ zi < (it : Int))) then mI (5 * zs + zi).toNat else 0)) (fun _ t => va_P D vwCl [(km, .inr (6, [.int (iI (if ((0 ≤ zs ∧ zs < (sh : Int)) ∧ (0 ≤ zi ∧ zi < (it : Int))) then 0 else 1)), .int (iI (((sh : Nat) : Int))), .int (iI (((it : Nat) : Int))), .int (iI (((dy : Nat) : Int))), .int (iI (lc)), .int (iI (sv)), .int (iI (lr)), .int (iI (sr)), .ref pL, .ref pP, .ref pC, .ref pI, .ref pM, .ref pS, .ref pV, .ref pN, .ref pE, .ref pA, .ref pO, .ref pT, .ref pD, .ref pG, .ref pW])), (pI, arZ cs 20 mI)] t.heap) (inW [(km, .inr (6, [.int (iI (th)), .int (iI (((sh : Nat) : Int))), .int (iI (((it : Nat) : Int))), .int (iI (((dy : Nat) : Int))), .int (iI (lc)), .int (iI (sv)), .int (iI (lr)), .int (iI (sr)), .ref pL, .ref pP, .ref pC, .ref pI, .ref pM, .ref pS, .ref pV, .ref pN, .ref pE, .ref pA, .ref pO, .ref pT, .ref pD, .ref pG, .ref pW])), (pI, arZ cs 20 mI)])) 0 0 (inW [(km, .inr (6, [.int (iI (th)), .int (iI (((sh : Nat) : Int))), .int (iI (((it : Nat) : Int))), .int (iI (((dy : Nat) : Int))), .int (iI (lc)), .int (iI (sv)), .int (iI (lr)), .int (iI (sr)), .ref pL, .ref pP, .ref pC, .ref pI, .ref pM, .ref pS, .ref pV, .ref pN, .ref pE, .ref pA, .ref pO, .ref pT, .ref pD, .ref pG, .ref pW])), (pI, arZ cs 20 mI)]) := by
  refine Met.ofW (cc := cX6_carries) (maxL := 3) (ret := (some .boolean)) (by decide +kernel) rfl ?_
  intro p e s m args below meth c s₁ B hml hv
  obtain ⟨rfl, hP, hK, hD, hN⟩ := hv
  have hx := B.exec
  have hb := B.bytes
  have hr := B.returns
  have hts : ∀ w ∈ ALL, w.before _ s = true := fun w h => atoms_spec (ws := ws_X6_carries) B.pre w (List.mem_cons_of_mem _ h)
  have hown : s.vm.findClass RX6 = some m.cls := findClass_of_methodNamed B.named
  have hlocks := B.notSynchronized
  generalize hAe : inW [(km, .inr (6, [.int (iI (th)), .int (iI (((sh : Nat) : Int))), .int (iI (((it : Nat) : Int))), .int (iI (((dy : Nat) : Int))), .int (iI (lc)), .int (iI (sv)), .int (iI (lr)), .int (iI (sr)), .ref pL, .ref pP, .ref pC, .ref pI, .ref pM, .ref pS, .ref pV, .ref pN, .ref pE, .ref pA, .ref pO, .ref pT, .ref pD, .ref pG, .ref pW])), (pI, arZ cs 20 mI)] = A at hD ⊢
  have hS : va_S A s.heap s.heap [] := va_S.rf
  have hl := lv_entry ([.ref km, .int (iI (zs)), .int (iI (zi))]) (n := 3) (Nat.le_of_ble_eq_true rfl)
  rw [lg_entry_eq]
  generalize (lg_sl ([.ref km, .int (iI (zs)), .int (iI (zi))]) ++ List.replicate (3 - (lg_sl ([.ref km, .int (iI (zs)), .int (iI (zi))])).length) Slot.unset).toArray = ls at hl ⊢
  have hl : lv_has ls 3 [(0, .ref km), (1, .int (iI (zs))), (2, .int (iI (zi)))] := hl
  have hH := rfl (a := s.heap)
  refine lv_aload_n hx hb dX6_carries_0 rfl (lv_at hl 0 rfl) ?_
  refine lv_aload_n hx hb dX6_carries_1 rfl (lv_at hl 0 rfl) ?_
  refine lv_iload_n hx hb dX6_carries_2 rfl (lv_at hl 1 rfl) ?_
  have pk1 : picks [(km, .inr (6, [.int (iI (th)), .int (iI (((sh : Nat) : Int))), .int (iI (((it : Nat) : Int))), .int (iI (((dy : Nat) : Int))), .int (iI (lc)), .int (iI (sv)), .int (iI (lr)), .int (iI (sr)), .ref pL, .ref pP, .ref pC, .ref pI, .ref pM, .ref pS, .ref pV, .ref pN, .ref pE, .ref pA, .ref pO, .ref pT, .ref pD, .ref pG, .ref pW])), (pI, arZ cs 20 mI)] [0] [(km, .inr (6, [.int (iI (th)), .int (iI (((sh : Nat) : Int))), .int (iI (((it : Nat) : Int))), .int (iI (((dy : Nat) : Int))), .int (iI (lc)), .int (iI (sv)), .int (iI (lr)), .int (iI (sr)), .ref pL, .ref pP, .ref pC, .ref pI, .ref pM, .ref pS, .ref pV, .ref pN, .ref pE, .ref pA, .ref pO, .ref pT, .ref pD, .ref pG, .ref pW]))] := ⟨rfl, trivial⟩
  refine va_calli (va_runV (As := [.int (iI (zs))]) (rest := [.ref km]) ⟨hx, hb, hml, hown, hts⟩ (m_X6_isShop l D cs km pL pP pC pI pM pS pV pN pE pA pO pT pD pG pW sh it th dy lc sv lr sr zs (by assumption) (by omega)) (cwV 1 hts (gV w_895 w_897 w_p17 w_5 w_898) rfl rfl rfl (by decide +kernel) ⟨Nat.le_of_ble_eq_true rfl, Nat.le_of_ble_eq_true rfl⟩) (PC_V hK hN hP hD [0] rfl pk1 rfl rfl) rfl rfl hl.1 rfl (lv_room (Nat.le_of_ble_eq_true rfl)) dX6_carries_3 ⟨Nat.le_of_ble_eq_true rfl, Nat.le_of_ble_eq_true rfl⟩) hS (fun _ _ h => False.elim h) (fun _ h => False.elim h) (fun r u t H locs ht hvm hw hB hz1 hk1 hS => ?_)
  subst hw
  have hP := P_kept hP hk1
  have hok := okI_s sh zs
  refine my_if_eq (tgt := 21) hx hb (by omega) dX6_carries_6 (by decide) (fun b2 => ?_) (fun b2 => ?_)
  · refine lv_iconst (v := iI (1)) hx hb dX6_carries_21 rfl ?_
    refine my_put hx hb hts inAX6 tyX6_ok nmX6 hown hK hP hD hS 0 rfl rfl 0 (by decide) w_801 rfl rfl rfl (Nat.le_of_ble_eq_true rfl) dX6_carries_22 (fun H locs hP hD hS => ?_)
    have hP : va_P D vwCl [(km, .inr (6, [.int (iI (1)), .int (iI (((sh : Nat) : Int))), .int (iI (((it : Nat) : Int))), .int (iI (((dy : Nat) : Int))), .int (iI (lc)), .int (iI (sv)), .int (iI (lr)), .int (iI (sr)), .ref pL, .ref pP, .ref pC, .ref pI, .ref pM, .ref pS, .ref pV, .ref pN, .ref pE, .ref pA, .ref pO, .ref pT, .ref pD, .ref pG, .ref pW])), (pI, arZ cs 20 mI)] H := hP
    have hD : va_D A [(km, .inr (6, [.int (iI (1)), .int (iI (((sh : Nat) : Int))), .int (iI (((it : Nat) : Int))), .int (iI (((dy : Nat) : Int))), .int (iI (lc)), .int (iI (sv)), .int (iI (lr)), .int (iI (sr)), .ref pL, .ref pP, .ref pC, .ref pI, .ref pM, .ref pS, .ref pV, .ref pN, .ref pE, .ref pA, .ref pO, .ref pT, .ref pD, .ref pG, .ref pW])), (pI, arZ cs 20 mI)] := hD
    refine lv_aload_n hx hb dX6_carries_25 rfl (lv_at hl 0 rfl) ?_
    refine my_get hx hb hts inAX6 hown hK hP 0 rfl rfl 0 (by decide) w_801 rfl rfl dX6_carries_26 ?_
    refine my_if_ne (tgt := 49) hx hb (by omega) dX6_carries_29 (by decide) (fun b3 => ?_) (fun b3 => (by omega : False).elim)
    refine lv_iconst (v := iI (0)) hx hb dX6_carries_49 rfl ?_
    have hWe : ([(km, .inr (6, [.int (iI (1)), .int (iI (((sh : Nat) : Int))), .int (iI (((it : Nat) : Int))), .int (iI (((dy : Nat) : Int))), .int (iI (lc)), .int (iI (sv)), .int (iI (lr)), .int (iI (sr)), .ref pL, .ref pP, .ref pC, .ref pI, .ref pM, .ref pS, .ref pV, .ref pN, .ref pE, .ref pA, .ref pO, .ref pT, .ref pD, .ref pG, .ref pW])), (pI, arZ cs 20 mI)] : va_W) = [(km, .inr (6, [.int (iI (if ((0 ≤ zs ∧ zs < (sh : Int)) ∧ (0 ≤ zi ∧ zi < (it : Int))) then 0 else 1)), .int (iI (((sh : Nat) : Int))), .int (iI (((it : Nat) : Int))), .int (iI (((dy : Nat) : Int))), .int (iI (lc)), .int (iI (sv)), .int (iI (lr)), .int (iI (sr)), .ref pL, .ref pP, .ref pC, .ref pI, .ref pM, .ref pS, .ref pV, .ref pN, .ref pE, .ref pA, .ref pO, .ref pT, .ref pD, .ref pG, .ref pW])), (pI, arZ cs 20 mI)] := by
      first | rw [if_pos (by omega)] | rw [if_neg (by omega)]
    rw [hWe] at hP
    subst hAe
    have hres : iI (0) = iI (if ((0 ≤ zs ∧ zs < (sh : Int)) ∧ (0 ≤ zi ∧ zi < (it : Int))) then mI (5 * zs + zi).toNat else 0) := congrArg iI (by
        first | (rw [if_pos (by omega)]; omega) | rw [if_neg (by omega)])
    exact W.zret hx hb hr (by decide) (fun t ht hW => ⟨⟨_, (), rfl, hres, by show va_P D vwCl _ t.heap; rw [ht]; exact hP⟩, hS.F ht⟩) hS.2.2 dX6_carries_50
  · refine lv_aload_n hx hb dX6_carries_9 rfl (lv_at hl 0 rfl) ?_
    refine lv_iload_n hx hb dX6_carries_10 rfl (lv_at hl 2 rfl) ?_
    have pk4 : picks [(km, .inr (6, [.int (iI (th)), .int (iI (((sh : Nat) : Int))), .int (iI (((it : Nat) : Int))), .int (iI (((dy : Nat) : Int))), .int (iI (lc)), .int (iI (sv)), .int (iI (lr)), .int (iI (sr)), .ref pL, .ref pP, .ref pC, .ref pI, .ref pM, .ref pS, .ref pV, .ref pN, .ref pE, .ref pA, .ref pO, .ref pT, .ref pD, .ref pG, .ref pW])), (pI, arZ cs 20 mI)] [0] [(km, .inr (6, [.int (iI (th)), .int (iI (((sh : Nat) : Int))), .int (iI (((it : Nat) : Int))), .int (iI (((dy : Nat) : Int))), .int (iI (lc)), .int (iI (sv)), .int (iI (lr)), .int (iI (sr)), .ref pL, .ref pP, .ref pC, .ref pI, .ref pM, .ref pS, .ref pV, .ref pN, .ref pE, .ref pA, .ref pO, .ref pT, .ref pD, .ref pG, .ref pW]))] := ⟨rfl, trivial⟩
    refine va_calli (va_runV (As := [.int (iI (zi))]) (rest := [.ref km]) ⟨hx, hb, hml, hown, hts⟩ (m_X6_isItem l D cs km pL pP pC pI pM pS pV pN pE pA pO pT pD pG pW sh it th dy lc sv lr sr zi (by assumption) (by omega)) (cwV 1 hts (gV w_899 w_901 w_p18 w_5 w_902) rfl rfl rfl (by decide +kernel) ⟨Nat.le_of_ble_eq_true rfl, Nat.le_of_ble_eq_true rfl⟩) (PC_V hK hN hP hD [0] rfl pk4 rfl rfl) rfl rfl hl.1 rfl (lv_room (Nat.le_of_ble_eq_true rfl)) dX6_carries_11 ⟨Nat.le_of_ble_eq_true rfl, Nat.le_of_ble_eq_true rfl⟩) hS (fun _ _ h => False.elim h) (fun _ h => False.elim h) (fun r u t H locs ht hvm hw hB hz1 hk1 hS => ?_)
    subst hw
    have hP := P_kept hP hk1
    have hok := okI_s it zi
    refine my_if_eq (tgt := 21) hx hb (by omega) dX6_carries_14 (by decide) (fun b5 => ?_) (fun b5 => ?_)
    · refine lv_iconst (v := iI (1)) hx hb dX6_carries_21 rfl ?_
      refine my_put hx hb hts inAX6 tyX6_ok nmX6 hown hK hP hD hS 0 rfl rfl 0 (by decide) w_801 rfl rfl rfl (Nat.le_of_ble_eq_true rfl) dX6_carries_22 (fun H locs hP hD hS => ?_)
      have hP : va_P D vwCl [(km, .inr (6, [.int (iI (1)), .int (iI (((sh : Nat) : Int))), .int (iI (((it : Nat) : Int))), .int (iI (((dy : Nat) : Int))), .int (iI (lc)), .int (iI (sv)), .int (iI (lr)), .int (iI (sr)), .ref pL, .ref pP, .ref pC, .ref pI, .ref pM, .ref pS, .ref pV, .ref pN, .ref pE, .ref pA, .ref pO, .ref pT, .ref pD, .ref pG, .ref pW])), (pI, arZ cs 20 mI)] H := hP
      have hD : va_D A [(km, .inr (6, [.int (iI (1)), .int (iI (((sh : Nat) : Int))), .int (iI (((it : Nat) : Int))), .int (iI (((dy : Nat) : Int))), .int (iI (lc)), .int (iI (sv)), .int (iI (lr)), .int (iI (sr)), .ref pL, .ref pP, .ref pC, .ref pI, .ref pM, .ref pS, .ref pV, .ref pN, .ref pE, .ref pA, .ref pO, .ref pT, .ref pD, .ref pG, .ref pW])), (pI, arZ cs 20 mI)] := hD
      refine lv_aload_n hx hb dX6_carries_25 rfl (lv_at hl 0 rfl) ?_
      refine my_get hx hb hts inAX6 hown hK hP 0 rfl rfl 0 (by decide) w_801 rfl rfl dX6_carries_26 ?_
      refine my_if_ne (tgt := 49) hx hb (by omega) dX6_carries_29 (by decide) (fun b6 => ?_) (fun b6 => (by omega : False).elim)
      refine lv_iconst (v := iI (0)) hx hb dX6_carries_49 rfl ?_
      have hWe : ([(km, .inr (6, [.int (iI (1)), .int (iI (((sh : Nat) : Int))), .int (iI (((it : Nat) : Int))), .int (iI (((dy : Nat) : Int))), .int (iI (lc)), .int (iI (sv)), .int (iI (lr)), .int (iI (sr)), .ref pL, .ref pP, .ref pC, .ref pI, .ref pM, .ref pS, .ref pV, .ref pN, .ref pE, .ref pA, .ref pO, .ref pT, .ref pD, .ref pG, .ref pW])), (pI, arZ cs 20 mI)] : va_W) = [(km, .inr (6, [.int (iI (if ((0 ≤ zs ∧ zs < (sh : Int)) ∧ (0 ≤ zi ∧ zi < (it : Int))) then 0 else 1)), .int (iI (((sh : Nat) : Int))), .int (iI (((it : Nat) : Int))), .int (iI (((dy : Nat) : Int))), .int (iI (lc)), .int (iI (sv)), .int (iI (lr)), .int (iI (sr)), .ref pL, .ref pP, .ref pC, .ref pI, .ref pM, .ref pS, .ref pV, .ref pN, .ref pE, .ref pA, .ref pO, .ref pT, .ref pD, .ref pG, .ref pW])), (pI, arZ cs 20 mI)] := by
        first | rw [if_pos (by omega)] | rw [if_neg (by omega)]
      rw [hWe] at hP
      subst hAe
      have hres : iI (0) = iI (if ((0 ≤ zs ∧ zs < (sh : Int)) ∧ (0 ≤ zi ∧ zi < (it : Int))) then mI (5 * zs + zi).toNat else 0) := congrArg iI (by
          first | (rw [if_pos (by omega)]; omega) | rw [if_neg (by omega)])
      exact W.zret hx hb hr (by decide) (fun t ht hW => ⟨⟨_, (), rfl, hres, by show va_P D vwCl _ t.heap; rw [ht]; exact hP⟩, hS.F ht⟩) hS.2.2 dX6_carries_50
    · refine lv_iconst (v := iI (0)) hx hb dX6_carries_17 rfl ?_
      refine lv_goto (tgt := 22) hx hb dX6_carries_18 (by decide) ?_
      refine my_put hx hb hts inAX6 tyX6_ok nmX6 hown hK hP hD hS 0 rfl rfl 0 (by decide) w_801 rfl rfl rfl (Nat.le_of_ble_eq_true rfl) dX6_carries_22 (fun H locs hP hD hS => ?_)
      have hP : va_P D vwCl [(km, .inr (6, [.int (iI (0)), .int (iI (((sh : Nat) : Int))), .int (iI (((it : Nat) : Int))), .int (iI (((dy : Nat) : Int))), .int (iI (lc)), .int (iI (sv)), .int (iI (lr)), .int (iI (sr)), .ref pL, .ref pP, .ref pC, .ref pI, .ref pM, .ref pS, .ref pV, .ref pN, .ref pE, .ref pA, .ref pO, .ref pT, .ref pD, .ref pG, .ref pW])), (pI, arZ cs 20 mI)] H := hP
      have hD : va_D A [(km, .inr (6, [.int (iI (0)), .int (iI (((sh : Nat) : Int))), .int (iI (((it : Nat) : Int))), .int (iI (((dy : Nat) : Int))), .int (iI (lc)), .int (iI (sv)), .int (iI (lr)), .int (iI (sr)), .ref pL, .ref pP, .ref pC, .ref pI, .ref pM, .ref pS, .ref pV, .ref pN, .ref pE, .ref pA, .ref pO, .ref pT, .ref pD, .ref pG, .ref pW])), (pI, arZ cs 20 mI)] := hD
      refine lv_aload_n hx hb dX6_carries_25 rfl (lv_at hl 0 rfl) ?_
      refine my_get hx hb hts inAX6 hown hK hP 0 rfl rfl 0 (by decide) w_801 rfl rfl dX6_carries_26 ?_
      refine my_if_ne (tgt := 49) hx hb (by omega) dX6_carries_29 (by decide) (fun b7 => (by omega : False).elim) (fun b7 => ?_)
      refine lv_aload_n hx hb dX6_carries_32 rfl (lv_at hl 0 rfl) ?_
      refine my_get hx hb hts inAX6 hown hK hP 0 rfl rfl 11 (by decide) w_812 rfl rfl dX6_carries_33 ?_
      refine lv_iconst (v := iI (5)) hx hb dX6_carries_36 rfl ?_
      refine lv_iload_n hx hb dX6_carries_37 rfl (lv_at hl 1 rfl) ?_
      refine my_imul (z := 5 * zs) hx hb dX6_carries_38 (rfl) ?_
      refine lv_iload_n hx hb dX6_carries_39 rfl (lv_at hl 2 rfl) ?_
      refine my_iadd (z := (5 * zs) + zi) hx hb dX6_carries_40 (rfl) ?_
      have hmi := hmI (5 * zs + zi).toNat
      refine my_zald hx hb hK hP 1 rfl (by omega) (k := ((5 * zs) + zi).toNat) (rfl) dX6_carries_41 ?_
      refine my_if_eq (tgt := 49) hx hb (by omega) dX6_carries_42 (by decide) (fun b8 => ?_) (fun b8 => ?_)
      · refine lv_iconst (v := iI (0)) hx hb dX6_carries_49 rfl ?_
        have hWe : ([(km, .inr (6, [.int (iI (0)), .int (iI (((sh : Nat) : Int))), .int (iI (((it : Nat) : Int))), .int (iI (((dy : Nat) : Int))), .int (iI (lc)), .int (iI (sv)), .int (iI (lr)), .int (iI (sr)), .ref pL, .ref pP, .ref pC, .ref pI, .ref pM, .ref pS, .ref pV, .ref pN, .ref pE, .ref pA, .ref pO, .ref pT, .ref pD, .ref pG, .ref pW])), (pI, arZ cs 20 mI)] : va_W) = [(km, .inr (6, [.int (iI (if ((0 ≤ zs ∧ zs < (sh : Int)) ∧ (0 ≤ zi ∧ zi < (it : Int))) then 0 else 1)), .int (iI (((sh : Nat) : Int))), .int (iI (((it : Nat) : Int))), .int (iI (((dy : Nat) : Int))), .int (iI (lc)), .int (iI (sv)), .int (iI (lr)), .int (iI (sr)), .ref pL, .ref pP, .ref pC, .ref pI, .ref pM, .ref pS, .ref pV, .ref pN, .ref pE, .ref pA, .ref pO, .ref pT, .ref pD, .ref pG, .ref pW])), (pI, arZ cs 20 mI)] := by
          first | rw [if_pos (by omega)] | rw [if_neg (by omega)]
        rw [hWe] at hP
        subst hAe
        have hres : iI (0) = iI (if ((0 ≤ zs ∧ zs < (sh : Int)) ∧ (0 ≤ zi ∧ zi < (it : Int))) then mI (5 * zs + zi).toNat else 0) := congrArg iI (by
            first | (rw [if_pos (by omega)]; omega) | rw [if_neg (by omega)])
        exact W.zret hx hb hr (by decide) (fun t ht hW => ⟨⟨_, (), rfl, hres, by show va_P D vwCl _ t.heap; rw [ht]; exact hP⟩, hS.F ht⟩) hS.2.2 dX6_carries_50
      · refine lv_iconst (v := iI (1)) hx hb dX6_carries_45 rfl ?_
        refine lv_goto (tgt := 50) hx hb dX6_carries_46 (by decide) ?_
        have hWe : ([(km, .inr (6, [.int (iI (0)), .int (iI (((sh : Nat) : Int))), .int (iI (((it : Nat) : Int))), .int (iI (((dy : Nat) : Int))), .int (iI (lc)), .int (iI (sv)), .int (iI (lr)), .int (iI (sr)), .ref pL, .ref pP, .ref pC, .ref pI, .ref pM, .ref pS, .ref pV, .ref pN, .ref pE, .ref pA, .ref pO, .ref pT, .ref pD, .ref pG, .ref pW])), (pI, arZ cs 20 mI)] : va_W) = [(km, .inr (6, [.int (iI (if ((0 ≤ zs ∧ zs < (sh : Int)) ∧ (0 ≤ zi ∧ zi < (it : Int))) then 0 else 1)), .int (iI (((sh : Nat) : Int))), .int (iI (((it : Nat) : Int))), .int (iI (((dy : Nat) : Int))), .int (iI (lc)), .int (iI (sv)), .int (iI (lr)), .int (iI (sr)), .ref pL, .ref pP, .ref pC, .ref pI, .ref pM, .ref pS, .ref pV, .ref pN, .ref pE, .ref pA, .ref pO, .ref pT, .ref pD, .ref pG, .ref pW])), (pI, arZ cs 20 mI)] := by
          first | rw [if_pos (by omega)] | rw [if_neg (by omega)]
        rw [hWe] at hP
        subst hAe
        have hres : iI (1) = iI (if ((0 ≤ zs ∧ zs < (sh : Int)) ∧ (0 ≤ zi ∧ zi < (it : Int))) then mI (5 * zs + zi).toNat else 0) := congrArg iI (by
            first | (rw [if_pos (by omega)]; omega) | rw [if_neg (by omega)])
        exact W.zret hx hb hr (by decide) (fun t ht hW => ⟨⟨_, (), rfl, hres, by show va_P D vwCl _ t.heap; rw [ht]; exact hP⟩, hS.F ht⟩) hS.2.2 dX6_carries_50

abbrev ws_X6_supply : List Cond := Cond.code yX6_supply cX6_supply 3 (some .int) :: ALL
set_option maxHeartbeats 4000000 in
set_option maxRecDepth 100000 in
theorem m_X6_supply (l : Launch) (D : va_G) (cs : Nat → ClassId) (km pL pP pC pI pM pS pV pN pE pA pO pT pD pG pW sh it : Nat) (th : Int) (dy : Nat) (lc sv lr sr : Int) (mC : Nat → Int) (zi uz : Int) (hit : it ≤ 5) (hmC : ∀ j, 0 ≤ mC j ∧ mC j ≤ 99999) (hzi : -2147483648 ≤ zi ∧ zi < 2147483648) (huz : -2147483648 ≤ uz ∧ uz < 2147483648) : Met l yX6_supply ws_X6_supply ({ frames := 2, cells := 0, slots := 0, locals := 43 }) (va_Pc [.ref km, .int (iI (zi)), .int (iI (uz))] (PC D cs [(km, .inr (6, [.int (iI (th)), .int (iI (((sh : Nat) : Int))), .int (iI (((it : Nat) : Int))), .int (iI (((dy : Nat) : Int))), .int (iI (lc)), .int (iI (sv)), .int (iI (lr)), .int (iI (sr)), .ref pL, .ref pP, .ref pC, .ref pI, .ref pM, .ref pS, .ref pV, .ref pN, .ref pE, .ref pA, .ref pO, .ref pT, .ref pD, .ref pG, .ref pW])), (pC, arI cs 5 mC)])) (va_Qi (fun r (_ : Unit) => r = iI (if cd3 (0 ≤ zi ∧ zi < (it : Int)) (1 ≤ uz ∧ uz ≤ 9999) (mC zi.toNat + uz ≤ 99999) = 0 then mC zi.toNat + uz else 0)) (fun _ t => va_P D vwCl [(km, .inr (6, [.int (iI ((((cd3 (0 ≤ zi ∧ zi < (it : Int)) (1 ≤ uz ∧ uz ≤ 9999) (mC zi.toNat + uz ≤ 99999)) : Nat) : Int))), .int (iI (((sh : Nat) : Int))), .int (iI (((it : Nat) : Int))), .int (iI (((dy : Nat) : Int))), .int (iI (lc)), .int (iI (sv)), .int (iI (lr)), .int (iI (sr)), .ref pL, .ref pP, .ref pC, .ref pI, .ref pM, .ref pS, .ref pV, .ref pN, .ref pE, .ref pA, .ref pO, .ref pT, .ref pD, .ref pG, .ref pW])), (pC, arI cs 5 (if cd3 (0 ≤ zi ∧ zi < (it : Int)) (1 ≤ uz ∧ uz ≤ 9999) (mC zi.toNat + uz ≤ 99999) = 0 then upI mC zi.toNat (mC zi.toNat + uz) else mC))] t.heap) (inW [(km, .inr (6, [.int (iI (th)), .int (iI (((sh : Nat) : Int))), .int (iI (((it : Nat) : Int))), .int (iI (((dy : Nat) : Int))), .int (iI (lc)), .int (iI (sv)), .int (iI (lr)), .int (iI (sr)), .ref pL, .ref pP, .ref pC, .ref pI, .ref pM, .ref pS, .ref pV, .ref pN, .ref pE, .ref pA, .ref pO, .ref pT, .ref pD, .ref pG, .ref pW])), (pC, arI cs 5 mC)])) 0 0 (inW [(km, .inr (6, [.int (iI (th)), .int (iI (((sh : Nat) : Int))), .int (iI (((it : Nat) : Int))), .int (iI (((dy : Nat) : Int))), .int (iI (lc)), .int (iI (sv)), .int (iI (lr)), .int (iI (sr)), .ref pL, .ref pP, .ref pC, .ref pI, .ref pM, .ref pS, .ref pV, .ref pN, .ref pE, .ref pA, .ref pO, .ref pT, .ref pD, .ref pG, .ref pW])), (pC, arI cs 5 mC)]) := by
  refine Met.ofW (cc := cX6_supply) (maxL := 3) (ret := (some .int)) (by decide +kernel) rfl ?_
  intro p e s m args below meth c s₁ B hml hv
  obtain ⟨rfl, hP, hK, hD, hN⟩ := hv
  have hx := B.exec
  have hb := B.bytes
  have hr := B.returns
  have hts : ∀ w ∈ ALL, w.before _ s = true := fun w h => atoms_spec (ws := ws_X6_supply) B.pre w (List.mem_cons_of_mem _ h)
  have hown : s.vm.findClass RX6 = some m.cls := findClass_of_methodNamed B.named
  have hlocks := B.notSynchronized
  generalize hAe : inW [(km, .inr (6, [.int (iI (th)), .int (iI (((sh : Nat) : Int))), .int (iI (((it : Nat) : Int))), .int (iI (((dy : Nat) : Int))), .int (iI (lc)), .int (iI (sv)), .int (iI (lr)), .int (iI (sr)), .ref pL, .ref pP, .ref pC, .ref pI, .ref pM, .ref pS, .ref pV, .ref pN, .ref pE, .ref pA, .ref pO, .ref pT, .ref pD, .ref pG, .ref pW])), (pC, arI cs 5 mC)] = A at hD ⊢
  have hS : va_S A s.heap s.heap [] := va_S.rf
  have hl := lv_entry ([.ref km, .int (iI (zi)), .int (iI (uz))]) (n := 3) (Nat.le_of_ble_eq_true rfl)
  rw [lg_entry_eq]
  generalize (lg_sl ([.ref km, .int (iI (zi)), .int (iI (uz))]) ++ List.replicate (3 - (lg_sl ([.ref km, .int (iI (zi)), .int (iI (uz))])).length) Slot.unset).toArray = ls at hl ⊢
  have hl : lv_has ls 3 [(0, .ref km), (1, .int (iI (zi))), (2, .int (iI (uz)))] := hl
  have hH := rfl (a := s.heap)
  refine lv_aload_n hx hb dX6_supply_0 rfl (lv_at hl 0 rfl) ?_
  refine lv_iload_n hx hb dX6_supply_1 rfl (lv_at hl 1 rfl) ?_
  have pk1 : picks [(km, .inr (6, [.int (iI (th)), .int (iI (((sh : Nat) : Int))), .int (iI (((it : Nat) : Int))), .int (iI (((dy : Nat) : Int))), .int (iI (lc)), .int (iI (sv)), .int (iI (lr)), .int (iI (sr)), .ref pL, .ref pP, .ref pC, .ref pI, .ref pM, .ref pS, .ref pV, .ref pN, .ref pE, .ref pA, .ref pO, .ref pT, .ref pD, .ref pG, .ref pW])), (pC, arI cs 5 mC)] [0] [(km, .inr (6, [.int (iI (th)), .int (iI (((sh : Nat) : Int))), .int (iI (((it : Nat) : Int))), .int (iI (((dy : Nat) : Int))), .int (iI (lc)), .int (iI (sv)), .int (iI (lr)), .int (iI (sr)), .ref pL, .ref pP, .ref pC, .ref pI, .ref pM, .ref pS, .ref pV, .ref pN, .ref pE, .ref pA, .ref pO, .ref pT, .ref pD, .ref pG, .ref pW]))] := ⟨rfl, trivial⟩
  refine va_calli (va_runV (As := [.int (iI (zi))]) (rest := []) ⟨hx, hb, hml, hown, hts⟩ (m_X6_isItem l D cs km pL pP pC pI pM pS pV pN pE pA pO pT pD pG pW sh it th dy lc sv lr sr zi (by assumption) (by omega)) (cwV 1 hts (gV w_899 w_901 w_p18 w_5 w_902) rfl rfl rfl (by decide +kernel) ⟨Nat.le_of_ble_eq_true rfl, Nat.le_of_ble_eq_true rfl⟩) (PC_V hK hN hP hD [0] rfl pk1 rfl rfl) rfl rfl hl.1 rfl (lv_room (Nat.le_of_ble_eq_true rfl)) dX6_supply_2 ⟨Nat.le_of_ble_eq_true rfl, Nat.le_of_ble_eq_true rfl⟩) hS (fun _ _ h => False.elim h) (fun _ h => False.elim h) (fun r u t H locs ht hvm hw hB hz1 hk1 hS => ?_)
  subst hw
  have hP := P_kept hP hk1
  have hok := okI_s it zi
  refine my_if_ne (tgt := 14) hx hb (by omega) dX6_supply_5 (by decide) (fun b2 => ?_) (fun b2 => ?_)
  · refine lv_iload_n hx hb dX6_supply_14 rfl (lv_at hl 2 rfl) ?_
    refine lv_iconst (v := iI (1)) hx hb dX6_supply_15 rfl ?_
    refine lv_sipush (v := iI (9999)) hx hb dX6_supply_16 (by decide) ?_
    have pk3 : picks [(km, .inr (6, [.int (iI (th)), .int (iI (((sh : Nat) : Int))), .int (iI (((it : Nat) : Int))), .int (iI (((dy : Nat) : Int))), .int (iI (lc)), .int (iI (sv)), .int (iI (lr)), .int (iI (sr)), .ref pL, .ref pP, .ref pC, .ref pI, .ref pM, .ref pS, .ref pV, .ref pN, .ref pE, .ref pA, .ref pO, .ref pT, .ref pD, .ref pG, .ref pW])), (pC, arI cs 5 mC)] [] [] := trivial
    refine va_calli (va_runS (As := [.int (iI (uz)), .int (iI (1)), .int (iI (9999))]) (rest := []) ⟨hx, hb, hml, hown, hts⟩ (m_X6_in l D cs uz 1 9999 (by omega) (by omega) (by omega)) (va_cwS 3 hts (gS w_880 w_881 w_5 w_882) rfl rfl rfl (by decide +kernel) ⟨Nat.le_of_ble_eq_true rfl, Nat.le_of_ble_eq_true rfl⟩) (PC_S hK hN hP hD [] rfl pk3) rfl rfl hl.1 rfl (lv_room (Nat.le_of_ble_eq_true rfl)) dX6_supply_19 ⟨Nat.le_of_ble_eq_true rfl, Nat.le_of_ble_eq_true rfl⟩) hS (fun _ _ h => False.elim h) (fun _ h => False.elim h) (fun r u t H locs ht hvm hw hB hz1 hk1 hS => ?_)
    subst hw
    have hP := P_kept hP hk1
    have hin := inI_s uz 1 9999
    refine my_if_ne (tgt := 31) hx hb (by omega) dX6_supply_22 (by decide) (fun b4 => ?_) (fun b4 => ?_)
    · refine lv_aload_n hx hb dX6_supply_31 rfl (lv_at hl 0 rfl) ?_
      refine my_get hx hb hts inAX6 hown hK hP 0 rfl rfl 10 (by decide) w_811 rfl rfl dX6_supply_32 ?_
      refine lv_iload_n hx hb dX6_supply_35 rfl (lv_at hl 1 rfl) ?_
      have hmc := hmC zi.toNat
      refine my_iald hx hb hK hP 1 rfl (by omega) (k := zi.toNat) (rfl) dX6_supply_36 ?_
      refine lv_iload_n hx hb dX6_supply_37 rfl (lv_at hl 2 rfl) ?_
      refine my_iadd (z := (mC zi.toNat) + uz) hx hb dX6_supply_38 (rfl) ?_
      refine lv_ldc (v := iI 99999) hx hb hown (hts _ w_903) dX6_supply_39 ?_
      refine my_icmp_le (tgt := 50) hx hb (by omega) dX6_supply_41 (by decide) (fun b5 => ?_) (fun b5 => ?_)
      · refine lv_aload_n hx hb dX6_supply_50 rfl (lv_at hl 0 rfl) ?_
        refine lv_iconst (v := iI (0)) hx hb dX6_supply_51 rfl ?_
        refine my_put hx hb hts inAX6 tyX6_ok nmX6 hown hK hP hD hS 0 rfl rfl 0 (by decide) w_801 rfl rfl rfl (Nat.le_of_ble_eq_true rfl) dX6_supply_52 (fun H locs hP hD hS => ?_)
        have hP : va_P D vwCl [(km, .inr (6, [.int (iI (0)), .int (iI (((sh : Nat) : Int))), .int (iI (((it : Nat) : Int))), .int (iI (((dy : Nat) : Int))), .int (iI (lc)), .int (iI (sv)), .int (iI (lr)), .int (iI (sr)), .ref pL, .ref pP, .ref pC, .ref pI, .ref pM, .ref pS, .ref pV, .ref pN, .ref pE, .ref pA, .ref pO, .ref pT, .ref pD, .ref pG, .ref pW])), (pC, arI cs 5 mC)] H := hP
        have hD : va_D A [(km, .inr (6, [.int (iI (0)), .int (iI (((sh : Nat) : Int))), .int (iI (((it : Nat) : Int))), .int (iI (((dy : Nat) : Int))), .int (iI (lc)), .int (iI (sv)), .int (iI (lr)), .int (iI (sr)), .ref pL, .ref pP, .ref pC, .ref pI, .ref pM, .ref pS, .ref pV, .ref pN, .ref pE, .ref pA, .ref pO, .ref pT, .ref pD, .ref pG, .ref pW])), (pC, arI cs 5 mC)] := hD
        refine lv_aload_n hx hb dX6_supply_55 rfl (lv_at hl 0 rfl) ?_
        refine my_get hx hb hts inAX6 hown hK hP 0 rfl rfl 10 (by decide) w_811 rfl rfl dX6_supply_56 ?_
        refine lv_iload_n hx hb dX6_supply_59 rfl (lv_at hl 1 rfl) ?_
        refine lv_dup2_11 hx hb dX6_supply_60 rfl rfl ?_
        refine my_iald hx hb hK hP 1 rfl (by omega) (k := zi.toNat) (rfl) dX6_supply_61 ?_
        refine lv_iload_n hx hb dX6_supply_62 rfl (lv_at hl 2 rfl) ?_
        refine my_iadd (z := (mC zi.toNat) + uz) hx hb dX6_supply_63 (rfl) ?_
        refine my_iast hx hb hK hP hD hS 1 rfl (by omega) (k := zi.toNat) (rfl) dX6_supply_64 (fun H locs hP hD hS => ?_)
        have hP : va_P D vwCl [(km, .inr (6, [.int (iI (0)), .int (iI (((sh : Nat) : Int))), .int (iI (((it : Nat) : Int))), .int (iI (((dy : Nat) : Int))), .int (iI (lc)), .int (iI (sv)), .int (iI (lr)), .int (iI (sr)), .ref pL, .ref pP, .ref pC, .ref pI, .ref pM, .ref pS, .ref pV, .ref pN, .ref pE, .ref pA, .ref pO, .ref pT, .ref pD, .ref pG, .ref pW])), (pC, arI cs 5 (upI mC zi.toNat ((mC zi.toNat) + uz)))] H := hP
        have hD : va_D A [(km, .inr (6, [.int (iI (0)), .int (iI (((sh : Nat) : Int))), .int (iI (((it : Nat) : Int))), .int (iI (((dy : Nat) : Int))), .int (iI (lc)), .int (iI (sv)), .int (iI (lr)), .int (iI (sr)), .ref pL, .ref pP, .ref pC, .ref pI, .ref pM, .ref pS, .ref pV, .ref pN, .ref pE, .ref pA, .ref pO, .ref pT, .ref pD, .ref pG, .ref pW])), (pC, arI cs 5 (upI mC zi.toNat ((mC zi.toNat) + uz)))] := hD
        refine lv_aload_n hx hb dX6_supply_65 rfl (lv_at hl 0 rfl) ?_
        refine my_get hx hb hts inAX6 hown hK hP 0 rfl rfl 10 (by decide) w_811 rfl rfl dX6_supply_66 ?_
        refine lv_iload_n hx hb dX6_supply_69 rfl (lv_at hl 1 rfl) ?_
        refine my_iald hx hb hK hP 1 rfl (by omega) (k := zi.toNat) (rfl) dX6_supply_70 ?_
        have e7 : upI mC zi.toNat (mC zi.toNat + uz) zi.toNat = mC zi.toNat + uz := upI_same
        refine my_cv0 (z := mC zi.toNat + uz) (e7) ?_
        have hWe : ([(km, .inr (6, [.int (iI (0)), .int (iI (((sh : Nat) : Int))), .int (iI (((it : Nat) : Int))), .int (iI (((dy : Nat) : Int))), .int (iI (lc)), .int (iI (sv)), .int (iI (lr)), .int (iI (sr)), .ref pL, .ref pP, .ref pC, .ref pI, .ref pM, .ref pS, .ref pV, .ref pN, .ref pE, .ref pA, .ref pO, .ref pT, .ref pD, .ref pG, .ref pW])), (pC, arI cs 5 (upI mC zi.toNat ((mC zi.toNat) + uz)))] : va_W) = [(km, .inr (6, [.int (iI ((((cd3 (0 ≤ zi ∧ zi < (it : Int)) (1 ≤ uz ∧ uz ≤ 9999) (mC zi.toNat + uz ≤ 99999)) : Nat) : Int))), .int (iI (((sh : Nat) : Int))), .int (iI (((it : Nat) : Int))), .int (iI (((dy : Nat) : Int))), .int (iI (lc)), .int (iI (sv)), .int (iI (lr)), .int (iI (sr)), .ref pL, .ref pP, .ref pC, .ref pI, .ref pM, .ref pS, .ref pV, .ref pN, .ref pE, .ref pA, .ref pO, .ref pT, .ref pD, .ref pG, .ref pW])), (pC, arI cs 5 (if cd3 (0 ≤ zi ∧ zi < (it : Int)) (1 ≤ uz ∧ uz ≤ 9999) (mC zi.toNat + uz ≤ 99999) = 0 then upI mC zi.toNat (mC zi.toNat + uz) else mC))] := by
          have hcd : cd3 (0 ≤ zi ∧ zi < (it : Int)) (1 ≤ uz ∧ uz ≤ 9999) (mC zi.toNat + uz ≤ 99999) = 0 := by unfold cd3; (repeat' split) <;> omega
          rw [hcd]
          first | rfl | (simp; done)
        rw [hWe] at hP
        subst hAe
        have hres : iI (mC zi.toNat + uz) = iI (if cd3 (0 ≤ zi ∧ zi < (it : Int)) (1 ≤ uz ∧ uz ≤ 9999) (mC zi.toNat + uz ≤ 99999) = 0 then mC zi.toNat + uz else 0) := congrArg iI (by
            have hcd : cd3 (0 ≤ zi ∧ zi < (it : Int)) (1 ≤ uz ∧ uz ≤ 9999) (mC zi.toNat + uz ≤ 99999) = 0 := by unfold cd3; (repeat' split) <;> omega
            rw [hcd]
            first | rfl | (simp; done))
        exact W.iret hx hb hr (fun t ht hW => ⟨⟨_, (), rfl, hres, by show va_P D vwCl _ t.heap; rw [ht]; exact hP⟩, hS.F ht⟩) hS.2.2 dX6_supply_71
      · refine lv_aload_n hx hb dX6_supply_44 rfl (lv_at hl 0 rfl) ?_
        refine lv_iconst (v := iI (3)) hx hb dX6_supply_45 rfl ?_
        have pk6 : picks [(km, .inr (6, [.int (iI (th)), .int (iI (((sh : Nat) : Int))), .int (iI (((it : Nat) : Int))), .int (iI (((dy : Nat) : Int))), .int (iI (lc)), .int (iI (sv)), .int (iI (lr)), .int (iI (sr)), .ref pL, .ref pP, .ref pC, .ref pI, .ref pM, .ref pS, .ref pV, .ref pN, .ref pE, .ref pA, .ref pO, .ref pT, .ref pD, .ref pG, .ref pW])), (pC, arI cs 5 mC)] [0] [(km, .inr (6, [.int (iI (th)), .int (iI (((sh : Nat) : Int))), .int (iI (((it : Nat) : Int))), .int (iI (((dy : Nat) : Int))), .int (iI (lc)), .int (iI (sv)), .int (iI (lr)), .int (iI (sr)), .ref pL, .ref pP, .ref pC, .ref pI, .ref pM, .ref pS, .ref pV, .ref pN, .ref pE, .ref pA, .ref pO, .ref pT, .ref pD, .ref pG, .ref pW]))] := ⟨rfl, trivial⟩
        refine va_calli (va_runV (As := [.int (iI (3))]) (rest := []) ⟨hx, hb, hml, hown, hts⟩ (m_X6_fails l D cs km pL pP pC pI pM pS pV pN pE pA pO pT pD pG pW sh it th dy lc sv lr sr 3) (cwV 1 hts (gV w_883 w_885 w_p16 w_5 w_886) rfl rfl rfl (by decide +kernel) ⟨Nat.le_of_ble_eq_true rfl, Nat.le_of_ble_eq_true rfl⟩) (PC_V hK hN hP hD [0] rfl pk6 rfl rfl) rfl rfl hl.1 rfl (lv_room (Nat.le_of_ble_eq_true rfl)) dX6_supply_46 ⟨Nat.le_of_ble_eq_true rfl, Nat.le_of_ble_eq_true rfl⟩) hS (fun q _ h => inW_sub hD [0] pk6 q h) (fun q h => inW_sub hD [0] pk6 q h) (fun r u t H locs ht hvm hw hB hz1 hk1 hS => ?_)
        subst hw
        rw [ht] at hB
        obtain ⟨hP, hD⟩ := my_join (W1 := [(km, .inr (6, [.int (iI (3)), .int (iI (((sh : Nat) : Int))), .int (iI (((it : Nat) : Int))), .int (iI (((dy : Nat) : Int))), .int (iI (lc)), .int (iI (sv)), .int (iI (lr)), .int (iI (sr)), .ref pL, .ref pP, .ref pC, .ref pI, .ref pM, .ref pS, .ref pV, .ref pN, .ref pE, .ref pA, .ref pO, .ref pT, .ref pD, .ref pG, .ref pW]))]) hP hD [0] rfl pk6 rfl hk1 hB
        have hP : va_P D vwCl [(km, .inr (6, [.int (iI (3)), .int (iI (((sh : Nat) : Int))), .int (iI (((it : Nat) : Int))), .int (iI (((dy : Nat) : Int))), .int (iI (lc)), .int (iI (sv)), .int (iI (lr)), .int (iI (sr)), .ref pL, .ref pP, .ref pC, .ref pI, .ref pM, .ref pS, .ref pV, .ref pN, .ref pE, .ref pA, .ref pO, .ref pT, .ref pD, .ref pG, .ref pW])), (pC, arI cs 5 mC)] H := hP
        have hD : va_D A [(km, .inr (6, [.int (iI (3)), .int (iI (((sh : Nat) : Int))), .int (iI (((it : Nat) : Int))), .int (iI (((dy : Nat) : Int))), .int (iI (lc)), .int (iI (sv)), .int (iI (lr)), .int (iI (sr)), .ref pL, .ref pP, .ref pC, .ref pI, .ref pM, .ref pS, .ref pV, .ref pN, .ref pE, .ref pA, .ref pO, .ref pT, .ref pD, .ref pG, .ref pW])), (pC, arI cs 5 mC)] := hD
        have hWe : ([(km, .inr (6, [.int (iI (3)), .int (iI (((sh : Nat) : Int))), .int (iI (((it : Nat) : Int))), .int (iI (((dy : Nat) : Int))), .int (iI (lc)), .int (iI (sv)), .int (iI (lr)), .int (iI (sr)), .ref pL, .ref pP, .ref pC, .ref pI, .ref pM, .ref pS, .ref pV, .ref pN, .ref pE, .ref pA, .ref pO, .ref pT, .ref pD, .ref pG, .ref pW])), (pC, arI cs 5 mC)] : va_W) = [(km, .inr (6, [.int (iI ((((cd3 (0 ≤ zi ∧ zi < (it : Int)) (1 ≤ uz ∧ uz ≤ 9999) (mC zi.toNat + uz ≤ 99999)) : Nat) : Int))), .int (iI (((sh : Nat) : Int))), .int (iI (((it : Nat) : Int))), .int (iI (((dy : Nat) : Int))), .int (iI (lc)), .int (iI (sv)), .int (iI (lr)), .int (iI (sr)), .ref pL, .ref pP, .ref pC, .ref pI, .ref pM, .ref pS, .ref pV, .ref pN, .ref pE, .ref pA, .ref pO, .ref pT, .ref pD, .ref pG, .ref pW])), (pC, arI cs 5 (if cd3 (0 ≤ zi ∧ zi < (it : Int)) (1 ≤ uz ∧ uz ≤ 9999) (mC zi.toNat + uz ≤ 99999) = 0 then upI mC zi.toNat (mC zi.toNat + uz) else mC))] := by
          have hcd : cd3 (0 ≤ zi ∧ zi < (it : Int)) (1 ≤ uz ∧ uz ≤ 9999) (mC zi.toNat + uz ≤ 99999) = 3 := by unfold cd3; (repeat' split) <;> omega
          rw [hcd]
          first | rfl | (simp; done)
        rw [hWe] at hP
        subst hAe
        have hres : iI (0) = iI (if cd3 (0 ≤ zi ∧ zi < (it : Int)) (1 ≤ uz ∧ uz ≤ 9999) (mC zi.toNat + uz ≤ 99999) = 0 then mC zi.toNat + uz else 0) := congrArg iI (by
            have hcd : cd3 (0 ≤ zi ∧ zi < (it : Int)) (1 ≤ uz ∧ uz ≤ 9999) (mC zi.toNat + uz ≤ 99999) = 3 := by unfold cd3; (repeat' split) <;> omega
            rw [hcd]
            first | rfl | (simp; done))
        exact W.iret hx hb hr (fun t ht hW => ⟨⟨_, (), rfl, hres, by show va_P D vwCl _ t.heap; rw [ht]; exact hP⟩, hS.F ht⟩) hS.2.2 dX6_supply_49
    · refine lv_aload_n hx hb dX6_supply_25 rfl (lv_at hl 0 rfl) ?_
      refine lv_iconst (v := iI (2)) hx hb dX6_supply_26 rfl ?_
      have pk7 : picks [(km, .inr (6, [.int (iI (th)), .int (iI (((sh : Nat) : Int))), .int (iI (((it : Nat) : Int))), .int (iI (((dy : Nat) : Int))), .int (iI (lc)), .int (iI (sv)), .int (iI (lr)), .int (iI (sr)), .ref pL, .ref pP, .ref pC, .ref pI, .ref pM, .ref pS, .ref pV, .ref pN, .ref pE, .ref pA, .ref pO, .ref pT, .ref pD, .ref pG, .ref pW])), (pC, arI cs 5 mC)] [0] [(km, .inr (6, [.int (iI (th)), .int (iI (((sh : Nat) : Int))), .int (iI (((it : Nat) : Int))), .int (iI (((dy : Nat) : Int))), .int (iI (lc)), .int (iI (sv)), .int (iI (lr)), .int (iI (sr)), .ref pL, .ref pP, .ref pC, .ref pI, .ref pM, .ref pS, .ref pV, .ref pN, .ref pE, .ref pA, .ref pO, .ref pT, .ref pD, .ref pG, .ref pW]))] := ⟨rfl, trivial⟩
      refine va_calli (va_runV (As := [.int (iI (2))]) (rest := []) ⟨hx, hb, hml, hown, hts⟩ (m_X6_fails l D cs km pL pP pC pI pM pS pV pN pE pA pO pT pD pG pW sh it th dy lc sv lr sr 2) (cwV 1 hts (gV w_883 w_885 w_p16 w_5 w_886) rfl rfl rfl (by decide +kernel) ⟨Nat.le_of_ble_eq_true rfl, Nat.le_of_ble_eq_true rfl⟩) (PC_V hK hN hP hD [0] rfl pk7 rfl rfl) rfl rfl hl.1 rfl (lv_room (Nat.le_of_ble_eq_true rfl)) dX6_supply_27 ⟨Nat.le_of_ble_eq_true rfl, Nat.le_of_ble_eq_true rfl⟩) hS (fun q _ h => inW_sub hD [0] pk7 q h) (fun q h => inW_sub hD [0] pk7 q h) (fun r u t H locs ht hvm hw hB hz1 hk1 hS => ?_)
      subst hw
      rw [ht] at hB
      obtain ⟨hP, hD⟩ := my_join (W1 := [(km, .inr (6, [.int (iI (2)), .int (iI (((sh : Nat) : Int))), .int (iI (((it : Nat) : Int))), .int (iI (((dy : Nat) : Int))), .int (iI (lc)), .int (iI (sv)), .int (iI (lr)), .int (iI (sr)), .ref pL, .ref pP, .ref pC, .ref pI, .ref pM, .ref pS, .ref pV, .ref pN, .ref pE, .ref pA, .ref pO, .ref pT, .ref pD, .ref pG, .ref pW]))]) hP hD [0] rfl pk7 rfl hk1 hB
      have hP : va_P D vwCl [(km, .inr (6, [.int (iI (2)), .int (iI (((sh : Nat) : Int))), .int (iI (((it : Nat) : Int))), .int (iI (((dy : Nat) : Int))), .int (iI (lc)), .int (iI (sv)), .int (iI (lr)), .int (iI (sr)), .ref pL, .ref pP, .ref pC, .ref pI, .ref pM, .ref pS, .ref pV, .ref pN, .ref pE, .ref pA, .ref pO, .ref pT, .ref pD, .ref pG, .ref pW])), (pC, arI cs 5 mC)] H := hP
      have hD : va_D A [(km, .inr (6, [.int (iI (2)), .int (iI (((sh : Nat) : Int))), .int (iI (((it : Nat) : Int))), .int (iI (((dy : Nat) : Int))), .int (iI (lc)), .int (iI (sv)), .int (iI (lr)), .int (iI (sr)), .ref pL, .ref pP, .ref pC, .ref pI, .ref pM, .ref pS, .ref pV, .ref pN, .ref pE, .ref pA, .ref pO, .ref pT, .ref pD, .ref pG, .ref pW])), (pC, arI cs 5 mC)] := hD
      have hWe : ([(km, .inr (6, [.int (iI (2)), .int (iI (((sh : Nat) : Int))), .int (iI (((it : Nat) : Int))), .int (iI (((dy : Nat) : Int))), .int (iI (lc)), .int (iI (sv)), .int (iI (lr)), .int (iI (sr)), .ref pL, .ref pP, .ref pC, .ref pI, .ref pM, .ref pS, .ref pV, .ref pN, .ref pE, .ref pA, .ref pO, .ref pT, .ref pD, .ref pG, .ref pW])), (pC, arI cs 5 mC)] : va_W) = [(km, .inr (6, [.int (iI ((((cd3 (0 ≤ zi ∧ zi < (it : Int)) (1 ≤ uz ∧ uz ≤ 9999) (mC zi.toNat + uz ≤ 99999)) : Nat) : Int))), .int (iI (((sh : Nat) : Int))), .int (iI (((it : Nat) : Int))), .int (iI (((dy : Nat) : Int))), .int (iI (lc)), .int (iI (sv)), .int (iI (lr)), .int (iI (sr)), .ref pL, .ref pP, .ref pC, .ref pI, .ref pM, .ref pS, .ref pV, .ref pN, .ref pE, .ref pA, .ref pO, .ref pT, .ref pD, .ref pG, .ref pW])), (pC, arI cs 5 (if cd3 (0 ≤ zi ∧ zi < (it : Int)) (1 ≤ uz ∧ uz ≤ 9999) (mC zi.toNat + uz ≤ 99999) = 0 then upI mC zi.toNat (mC zi.toNat + uz) else mC))] := by
        have hcd : cd3 (0 ≤ zi ∧ zi < (it : Int)) (1 ≤ uz ∧ uz ≤ 9999) (mC zi.toNat + uz ≤ 99999) = 2 := by unfold cd3; (repeat' split) <;> omega
        rw [hcd]
        first | rfl | (simp; done)
      rw [hWe] at hP
      subst hAe
      have hres : iI (0) = iI (if cd3 (0 ≤ zi ∧ zi < (it : Int)) (1 ≤ uz ∧ uz ≤ 9999) (mC zi.toNat + uz ≤ 99999) = 0 then mC zi.toNat + uz else 0) := congrArg iI (by
          have hcd : cd3 (0 ≤ zi ∧ zi < (it : Int)) (1 ≤ uz ∧ uz ≤ 9999) (mC zi.toNat + uz ≤ 99999) = 2 := by unfold cd3; (repeat' split) <;> omega
          rw [hcd]
          first | rfl | (simp; done))
      exact W.iret hx hb hr (fun t ht hW => ⟨⟨_, (), rfl, hres, by show va_P D vwCl _ t.heap; rw [ht]; exact hP⟩, hS.F ht⟩) hS.2.2 dX6_supply_30
  · refine lv_aload_n hx hb dX6_supply_8 rfl (lv_at hl 0 rfl) ?_
    refine lv_iconst (v := iI (1)) hx hb dX6_supply_9 rfl ?_
    have pk8 : picks [(km, .inr (6, [.int (iI (th)), .int (iI (((sh : Nat) : Int))), .int (iI (((it : Nat) : Int))), .int (iI (((dy : Nat) : Int))), .int (iI (lc)), .int (iI (sv)), .int (iI (lr)), .int (iI (sr)), .ref pL, .ref pP, .ref pC, .ref pI, .ref pM, .ref pS, .ref pV, .ref pN, .ref pE, .ref pA, .ref pO, .ref pT, .ref pD, .ref pG, .ref pW])), (pC, arI cs 5 mC)] [0] [(km, .inr (6, [.int (iI (th)), .int (iI (((sh : Nat) : Int))), .int (iI (((it : Nat) : Int))), .int (iI (((dy : Nat) : Int))), .int (iI (lc)), .int (iI (sv)), .int (iI (lr)), .int (iI (sr)), .ref pL, .ref pP, .ref pC, .ref pI, .ref pM, .ref pS, .ref pV, .ref pN, .ref pE, .ref pA, .ref pO, .ref pT, .ref pD, .ref pG, .ref pW]))] := ⟨rfl, trivial⟩
    refine va_calli (va_runV (As := [.int (iI (1))]) (rest := []) ⟨hx, hb, hml, hown, hts⟩ (m_X6_fails l D cs km pL pP pC pI pM pS pV pN pE pA pO pT pD pG pW sh it th dy lc sv lr sr 1) (cwV 1 hts (gV w_883 w_885 w_p16 w_5 w_886) rfl rfl rfl (by decide +kernel) ⟨Nat.le_of_ble_eq_true rfl, Nat.le_of_ble_eq_true rfl⟩) (PC_V hK hN hP hD [0] rfl pk8 rfl rfl) rfl rfl hl.1 rfl (lv_room (Nat.le_of_ble_eq_true rfl)) dX6_supply_10 ⟨Nat.le_of_ble_eq_true rfl, Nat.le_of_ble_eq_true rfl⟩) hS (fun q _ h => inW_sub hD [0] pk8 q h) (fun q h => inW_sub hD [0] pk8 q h) (fun r u t H locs ht hvm hw hB hz1 hk1 hS => ?_)
    subst hw
    rw [ht] at hB
    obtain ⟨hP, hD⟩ := my_join (W1 := [(km, .inr (6, [.int (iI (1)), .int (iI (((sh : Nat) : Int))), .int (iI (((it : Nat) : Int))), .int (iI (((dy : Nat) : Int))), .int (iI (lc)), .int (iI (sv)), .int (iI (lr)), .int (iI (sr)), .ref pL, .ref pP, .ref pC, .ref pI, .ref pM, .ref pS, .ref pV, .ref pN, .ref pE, .ref pA, .ref pO, .ref pT, .ref pD, .ref pG, .ref pW]))]) hP hD [0] rfl pk8 rfl hk1 hB
    have hP : va_P D vwCl [(km, .inr (6, [.int (iI (1)), .int (iI (((sh : Nat) : Int))), .int (iI (((it : Nat) : Int))), .int (iI (((dy : Nat) : Int))), .int (iI (lc)), .int (iI (sv)), .int (iI (lr)), .int (iI (sr)), .ref pL, .ref pP, .ref pC, .ref pI, .ref pM, .ref pS, .ref pV, .ref pN, .ref pE, .ref pA, .ref pO, .ref pT, .ref pD, .ref pG, .ref pW])), (pC, arI cs 5 mC)] H := hP
    have hD : va_D A [(km, .inr (6, [.int (iI (1)), .int (iI (((sh : Nat) : Int))), .int (iI (((it : Nat) : Int))), .int (iI (((dy : Nat) : Int))), .int (iI (lc)), .int (iI (sv)), .int (iI (lr)), .int (iI (sr)), .ref pL, .ref pP, .ref pC, .ref pI, .ref pM, .ref pS, .ref pV, .ref pN, .ref pE, .ref pA, .ref pO, .ref pT, .ref pD, .ref pG, .ref pW])), (pC, arI cs 5 mC)] := hD
    have hWe : ([(km, .inr (6, [.int (iI (1)), .int (iI (((sh : Nat) : Int))), .int (iI (((it : Nat) : Int))), .int (iI (((dy : Nat) : Int))), .int (iI (lc)), .int (iI (sv)), .int (iI (lr)), .int (iI (sr)), .ref pL, .ref pP, .ref pC, .ref pI, .ref pM, .ref pS, .ref pV, .ref pN, .ref pE, .ref pA, .ref pO, .ref pT, .ref pD, .ref pG, .ref pW])), (pC, arI cs 5 mC)] : va_W) = [(km, .inr (6, [.int (iI ((((cd3 (0 ≤ zi ∧ zi < (it : Int)) (1 ≤ uz ∧ uz ≤ 9999) (mC zi.toNat + uz ≤ 99999)) : Nat) : Int))), .int (iI (((sh : Nat) : Int))), .int (iI (((it : Nat) : Int))), .int (iI (((dy : Nat) : Int))), .int (iI (lc)), .int (iI (sv)), .int (iI (lr)), .int (iI (sr)), .ref pL, .ref pP, .ref pC, .ref pI, .ref pM, .ref pS, .ref pV, .ref pN, .ref pE, .ref pA, .ref pO, .ref pT, .ref pD, .ref pG, .ref pW])), (pC, arI cs 5 (if cd3 (0 ≤ zi ∧ zi < (it : Int)) (1 ≤ uz ∧ uz ≤ 9999) (mC zi.toNat + uz ≤ 99999) = 0 then upI mC zi.toNat (mC zi.toNat + uz) else mC))] := by
      have hcd : cd3 (0 ≤ zi ∧ zi < (it : Int)) (1 ≤ uz ∧ uz ≤ 9999) (mC zi.toNat + uz ≤ 99999) = 1 := by unfold cd3; (repeat' split) <;> omega
      rw [hcd]
      first | rfl | (simp; done)
    rw [hWe] at hP
    subst hAe
    have hres : iI (0) = iI (if cd3 (0 ≤ zi ∧ zi < (it : Int)) (1 ≤ uz ∧ uz ≤ 9999) (mC zi.toNat + uz ≤ 99999) = 0 then mC zi.toNat + uz else 0) := congrArg iI (by
        have hcd : cd3 (0 ≤ zi ∧ zi < (it : Int)) (1 ≤ uz ∧ uz ≤ 9999) (mC zi.toNat + uz ≤ 99999) = 1 := by unfold cd3; (repeat' split) <;> omega
        rw [hcd]
        first | rfl | (simp; done))
    exact W.iret hx hb hr (fun t ht hW => ⟨⟨_, (), rfl, hres, by show va_P D vwCl _ t.heap; rw [ht]; exact hP⟩, hS.F ht⟩) hS.2.2 dX6_supply_13

abbrev ws_X6_setService : List Cond := Cond.code yX6_setService cX6_setService 3 (some .int) :: ALL
set_option maxHeartbeats 4000000 in
set_option maxRecDepth 100000 in
theorem m_X6_setService (l : Launch) (D : va_G) (cs : Nat → ClassId) (km pL pP pC pI pM pS pV pN pE pA pO pT pD pG pW sh it : Nat) (th : Int) (dy : Nat) (lc sv lr sr : Int) (pz : Int) (hpz : -2147483648 ≤ pz ∧ pz < 2147483648) : Met l yX6_setService ws_X6_setService ({ frames := 1, cells := 0, slots := 0, locals := 22 }) (va_Pc [.ref km, .int (iI (pz))] (PC D cs [(km, .inr (6, [.int (iI (th)), .int (iI (((sh : Nat) : Int))), .int (iI (((it : Nat) : Int))), .int (iI (((dy : Nat) : Int))), .int (iI (lc)), .int (iI (sv)), .int (iI (lr)), .int (iI (sr)), .ref pL, .ref pP, .ref pC, .ref pI, .ref pM, .ref pS, .ref pV, .ref pN, .ref pE, .ref pA, .ref pO, .ref pT, .ref pD, .ref pG, .ref pW]))])) (va_Qi (fun r (_ : Unit) => r = iI (if cd2 (1 ≤ pz ∧ pz ≤ 100) (True) = 0 then sv else 0)) (fun _ t => va_P D vwCl [(km, .inr (6, [.int (iI ((((cd2 (1 ≤ pz ∧ pz ≤ 100) (True)) : Nat) : Int))), .int (iI (((sh : Nat) : Int))), .int (iI (((it : Nat) : Int))), .int (iI (((dy : Nat) : Int))), .int (iI (lc)), .int (iI (if cd2 (1 ≤ pz ∧ pz ≤ 100) (True) = 0 then pz else sv)), .int (iI (lr)), .int (iI (sr)), .ref pL, .ref pP, .ref pC, .ref pI, .ref pM, .ref pS, .ref pV, .ref pN, .ref pE, .ref pA, .ref pO, .ref pT, .ref pD, .ref pG, .ref pW]))] t.heap) (inW [(km, .inr (6, [.int (iI (th)), .int (iI (((sh : Nat) : Int))), .int (iI (((it : Nat) : Int))), .int (iI (((dy : Nat) : Int))), .int (iI (lc)), .int (iI (sv)), .int (iI (lr)), .int (iI (sr)), .ref pL, .ref pP, .ref pC, .ref pI, .ref pM, .ref pS, .ref pV, .ref pN, .ref pE, .ref pA, .ref pO, .ref pT, .ref pD, .ref pG, .ref pW]))])) 0 0 (inW [(km, .inr (6, [.int (iI (th)), .int (iI (((sh : Nat) : Int))), .int (iI (((it : Nat) : Int))), .int (iI (((dy : Nat) : Int))), .int (iI (lc)), .int (iI (sv)), .int (iI (lr)), .int (iI (sr)), .ref pL, .ref pP, .ref pC, .ref pI, .ref pM, .ref pS, .ref pV, .ref pN, .ref pE, .ref pA, .ref pO, .ref pT, .ref pD, .ref pG, .ref pW]))]) := by
  refine Met.ofW (cc := cX6_setService) (maxL := 3) (ret := (some .int)) (by decide +kernel) rfl ?_
  intro p e s m args below meth c s₁ B hml hv
  obtain ⟨rfl, hP, hK, hD, hN⟩ := hv
  have hx := B.exec
  have hb := B.bytes
  have hr := B.returns
  have hts : ∀ w ∈ ALL, w.before _ s = true := fun w h => atoms_spec (ws := ws_X6_setService) B.pre w (List.mem_cons_of_mem _ h)
  have hown : s.vm.findClass RX6 = some m.cls := findClass_of_methodNamed B.named
  have hlocks := B.notSynchronized
  generalize hAe : inW [(km, .inr (6, [.int (iI (th)), .int (iI (((sh : Nat) : Int))), .int (iI (((it : Nat) : Int))), .int (iI (((dy : Nat) : Int))), .int (iI (lc)), .int (iI (sv)), .int (iI (lr)), .int (iI (sr)), .ref pL, .ref pP, .ref pC, .ref pI, .ref pM, .ref pS, .ref pV, .ref pN, .ref pE, .ref pA, .ref pO, .ref pT, .ref pD, .ref pG, .ref pW]))] = A at hD ⊢
  have hS : va_S A s.heap s.heap [] := va_S.rf
  have hl := lv_entry ([.ref km, .int (iI (pz))]) (n := 3) (Nat.le_of_ble_eq_true rfl)
  rw [lg_entry_eq]
  generalize (lg_sl ([.ref km, .int (iI (pz))]) ++ List.replicate (3 - (lg_sl ([.ref km, .int (iI (pz))])).length) Slot.unset).toArray = ls at hl ⊢
  have hl : lv_has ls 3 [(0, .ref km), (1, .int (iI (pz)))] := hl
  have hH := rfl (a := s.heap)
  refine lv_iload_n hx hb dX6_setService_0 rfl (lv_at hl 1 rfl) ?_
  refine lv_iconst (v := iI (1)) hx hb dX6_setService_1 rfl ?_
  refine lv_bipush (v := iI (100)) hx hb dX6_setService_2 (by decide) ?_
  have pk1 : picks [(km, .inr (6, [.int (iI (th)), .int (iI (((sh : Nat) : Int))), .int (iI (((it : Nat) : Int))), .int (iI (((dy : Nat) : Int))), .int (iI (lc)), .int (iI (sv)), .int (iI (lr)), .int (iI (sr)), .ref pL, .ref pP, .ref pC, .ref pI, .ref pM, .ref pS, .ref pV, .ref pN, .ref pE, .ref pA, .ref pO, .ref pT, .ref pD, .ref pG, .ref pW]))] [] [] := trivial
  refine va_calli (va_runS (As := [.int (iI (pz)), .int (iI (1)), .int (iI (100))]) (rest := []) ⟨hx, hb, hml, hown, hts⟩ (m_X6_in l D cs pz 1 100 (by omega) (by omega) (by omega)) (va_cwS 3 hts (gS w_880 w_881 w_5 w_882) rfl rfl rfl (by decide +kernel) ⟨Nat.le_of_ble_eq_true rfl, Nat.le_of_ble_eq_true rfl⟩) (PC_S hK hN hP hD [] rfl pk1) rfl rfl hl.1 rfl (lv_room (Nat.le_of_ble_eq_true rfl)) dX6_setService_4 ⟨Nat.le_of_ble_eq_true rfl, Nat.le_of_ble_eq_true rfl⟩) hS (fun _ _ h => False.elim h) (fun _ h => False.elim h) (fun r u t H locs ht hvm hw hB hz1 hk1 hS => ?_)
  subst hw
  have hP := P_kept hP hk1
  have hin := inI_s pz 1 100
  refine my_if_ne (tgt := 16) hx hb (by omega) dX6_setService_7 (by decide) (fun b2 => ?_) (fun b2 => ?_)
  · refine lv_aload_n hx hb dX6_setService_16 rfl (lv_at hl 0 rfl) ?_
    refine lv_iconst (v := iI (0)) hx hb dX6_setService_17 rfl ?_
    refine my_put hx hb hts inAX6 tyX6_ok nmX6 hown hK hP hD hS 0 rfl rfl 0 (by decide) w_801 rfl rfl rfl (Nat.le_of_ble_eq_true rfl) dX6_setService_18 (fun H locs hP hD hS => ?_)
    have hP : va_P D vwCl [(km, .inr (6, [.int (iI (0)), .int (iI (((sh : Nat) : Int))), .int (iI (((it : Nat) : Int))), .int (iI (((dy : Nat) : Int))), .int (iI (lc)), .int (iI (sv)), .int (iI (lr)), .int (iI (sr)), .ref pL, .ref pP, .ref pC, .ref pI, .ref pM, .ref pS, .ref pV, .ref pN, .ref pE, .ref pA, .ref pO, .ref pT, .ref pD, .ref pG, .ref pW]))] H := hP
    have hD : va_D A [(km, .inr (6, [.int (iI (0)), .int (iI (((sh : Nat) : Int))), .int (iI (((it : Nat) : Int))), .int (iI (((dy : Nat) : Int))), .int (iI (lc)), .int (iI (sv)), .int (iI (lr)), .int (iI (sr)), .ref pL, .ref pP, .ref pC, .ref pI, .ref pM, .ref pS, .ref pV, .ref pN, .ref pE, .ref pA, .ref pO, .ref pT, .ref pD, .ref pG, .ref pW]))] := hD
    refine lv_aload_n hx hb dX6_setService_21 rfl (lv_at hl 0 rfl) ?_
    refine my_get hx hb hts inAX6 hown hK hP 0 rfl rfl 5 (by decide) w_806 rfl rfl dX6_setService_22 ?_
    refine lv_istore_n (lv' := [(2, .int (iI (sv))), (0, .ref km), (1, .int (iI (pz)))]) hx hb dX6_setService_25 rfl hl (by decide) rfl (fun ls hl => ?_)
    refine lv_aload_n hx hb dX6_setService_26 rfl (lv_at hl 1 rfl) ?_
    refine lv_iload_n hx hb dX6_setService_27 rfl (lv_at hl 2 rfl) ?_
    refine my_put hx hb hts inAX6 tyX6_ok nmX6 hown hK hP hD hS 0 rfl rfl 5 (by decide) w_806 rfl rfl rfl (Nat.le_of_ble_eq_true rfl) dX6_setService_28 (fun H locs hP hD hS => ?_)
    have hP : va_P D vwCl [(km, .inr (6, [.int (iI (0)), .int (iI (((sh : Nat) : Int))), .int (iI (((it : Nat) : Int))), .int (iI (((dy : Nat) : Int))), .int (iI (lc)), .int (iI (pz)), .int (iI (lr)), .int (iI (sr)), .ref pL, .ref pP, .ref pC, .ref pI, .ref pM, .ref pS, .ref pV, .ref pN, .ref pE, .ref pA, .ref pO, .ref pT, .ref pD, .ref pG, .ref pW]))] H := hP
    have hD : va_D A [(km, .inr (6, [.int (iI (0)), .int (iI (((sh : Nat) : Int))), .int (iI (((it : Nat) : Int))), .int (iI (((dy : Nat) : Int))), .int (iI (lc)), .int (iI (pz)), .int (iI (lr)), .int (iI (sr)), .ref pL, .ref pP, .ref pC, .ref pI, .ref pM, .ref pS, .ref pV, .ref pN, .ref pE, .ref pA, .ref pO, .ref pT, .ref pD, .ref pG, .ref pW]))] := hD
    refine lv_iload_n hx hb dX6_setService_31 rfl (lv_at hl 0 rfl) ?_
    have hWe : ([(km, .inr (6, [.int (iI (0)), .int (iI (((sh : Nat) : Int))), .int (iI (((it : Nat) : Int))), .int (iI (((dy : Nat) : Int))), .int (iI (lc)), .int (iI (pz)), .int (iI (lr)), .int (iI (sr)), .ref pL, .ref pP, .ref pC, .ref pI, .ref pM, .ref pS, .ref pV, .ref pN, .ref pE, .ref pA, .ref pO, .ref pT, .ref pD, .ref pG, .ref pW]))] : va_W) = [(km, .inr (6, [.int (iI ((((cd2 (1 ≤ pz ∧ pz ≤ 100) (True)) : Nat) : Int))), .int (iI (((sh : Nat) : Int))), .int (iI (((it : Nat) : Int))), .int (iI (((dy : Nat) : Int))), .int (iI (lc)), .int (iI (if cd2 (1 ≤ pz ∧ pz ≤ 100) (True) = 0 then pz else sv)), .int (iI (lr)), .int (iI (sr)), .ref pL, .ref pP, .ref pC, .ref pI, .ref pM, .ref pS, .ref pV, .ref pN, .ref pE, .ref pA, .ref pO, .ref pT, .ref pD, .ref pG, .ref pW]))] := by
      have hcd : cd2 (1 ≤ pz ∧ pz ≤ 100) (True) = 0 := by unfold cd2; (repeat' split) <;> omega
      rw [hcd]
      first | rfl | (simp; done)
    rw [hWe] at hP
    subst hAe
    have hres : iI (sv) = iI (if cd2 (1 ≤ pz ∧ pz ≤ 100) (True) = 0 then sv else 0) := congrArg iI (by
        have hcd : cd2 (1 ≤ pz ∧ pz ≤ 100) (True) = 0 := by unfold cd2; (repeat' split) <;> omega
        rw [hcd]
        first | rfl | (simp; done))
    exact W.iret hx hb hr (fun t ht hW => ⟨⟨_, (), rfl, hres, by show va_P D vwCl _ t.heap; rw [ht]; exact hP⟩, hS.F ht⟩) hS.2.2 dX6_setService_32
  · refine lv_aload_n hx hb dX6_setService_10 rfl (lv_at hl 0 rfl) ?_
    refine lv_iconst (v := iI (1)) hx hb dX6_setService_11 rfl ?_
    have pk3 : picks [(km, .inr (6, [.int (iI (th)), .int (iI (((sh : Nat) : Int))), .int (iI (((it : Nat) : Int))), .int (iI (((dy : Nat) : Int))), .int (iI (lc)), .int (iI (sv)), .int (iI (lr)), .int (iI (sr)), .ref pL, .ref pP, .ref pC, .ref pI, .ref pM, .ref pS, .ref pV, .ref pN, .ref pE, .ref pA, .ref pO, .ref pT, .ref pD, .ref pG, .ref pW]))] [0] [(km, .inr (6, [.int (iI (th)), .int (iI (((sh : Nat) : Int))), .int (iI (((it : Nat) : Int))), .int (iI (((dy : Nat) : Int))), .int (iI (lc)), .int (iI (sv)), .int (iI (lr)), .int (iI (sr)), .ref pL, .ref pP, .ref pC, .ref pI, .ref pM, .ref pS, .ref pV, .ref pN, .ref pE, .ref pA, .ref pO, .ref pT, .ref pD, .ref pG, .ref pW]))] := ⟨rfl, trivial⟩
    refine va_calli (va_runV (As := [.int (iI (1))]) (rest := []) ⟨hx, hb, hml, hown, hts⟩ (m_X6_fails l D cs km pL pP pC pI pM pS pV pN pE pA pO pT pD pG pW sh it th dy lc sv lr sr 1) (cwV 1 hts (gV w_883 w_885 w_p16 w_5 w_886) rfl rfl rfl (by decide +kernel) ⟨Nat.le_of_ble_eq_true rfl, Nat.le_of_ble_eq_true rfl⟩) (PC_V hK hN hP hD [0] rfl pk3 rfl rfl) rfl rfl hl.1 rfl (lv_room (Nat.le_of_ble_eq_true rfl)) dX6_setService_12 ⟨Nat.le_of_ble_eq_true rfl, Nat.le_of_ble_eq_true rfl⟩) hS (fun q _ h => inW_sub hD [0] pk3 q h) (fun q h => inW_sub hD [0] pk3 q h) (fun r u t H locs ht hvm hw hB hz1 hk1 hS => ?_)
    subst hw
    rw [ht] at hB
    obtain ⟨hP, hD⟩ := my_join (W1 := [(km, .inr (6, [.int (iI (1)), .int (iI (((sh : Nat) : Int))), .int (iI (((it : Nat) : Int))), .int (iI (((dy : Nat) : Int))), .int (iI (lc)), .int (iI (sv)), .int (iI (lr)), .int (iI (sr)), .ref pL, .ref pP, .ref pC, .ref pI, .ref pM, .ref pS, .ref pV, .ref pN, .ref pE, .ref pA, .ref pO, .ref pT, .ref pD, .ref pG, .ref pW]))]) hP hD [0] rfl pk3 rfl hk1 hB
    have hP : va_P D vwCl [(km, .inr (6, [.int (iI (1)), .int (iI (((sh : Nat) : Int))), .int (iI (((it : Nat) : Int))), .int (iI (((dy : Nat) : Int))), .int (iI (lc)), .int (iI (sv)), .int (iI (lr)), .int (iI (sr)), .ref pL, .ref pP, .ref pC, .ref pI, .ref pM, .ref pS, .ref pV, .ref pN, .ref pE, .ref pA, .ref pO, .ref pT, .ref pD, .ref pG, .ref pW]))] H := hP
    have hD : va_D A [(km, .inr (6, [.int (iI (1)), .int (iI (((sh : Nat) : Int))), .int (iI (((it : Nat) : Int))), .int (iI (((dy : Nat) : Int))), .int (iI (lc)), .int (iI (sv)), .int (iI (lr)), .int (iI (sr)), .ref pL, .ref pP, .ref pC, .ref pI, .ref pM, .ref pS, .ref pV, .ref pN, .ref pE, .ref pA, .ref pO, .ref pT, .ref pD, .ref pG, .ref pW]))] := hD
    have hWe : ([(km, .inr (6, [.int (iI (1)), .int (iI (((sh : Nat) : Int))), .int (iI (((it : Nat) : Int))), .int (iI (((dy : Nat) : Int))), .int (iI (lc)), .int (iI (sv)), .int (iI (lr)), .int (iI (sr)), .ref pL, .ref pP, .ref pC, .ref pI, .ref pM, .ref pS, .ref pV, .ref pN, .ref pE, .ref pA, .ref pO, .ref pT, .ref pD, .ref pG, .ref pW]))] : va_W) = [(km, .inr (6, [.int (iI ((((cd2 (1 ≤ pz ∧ pz ≤ 100) (True)) : Nat) : Int))), .int (iI (((sh : Nat) : Int))), .int (iI (((it : Nat) : Int))), .int (iI (((dy : Nat) : Int))), .int (iI (lc)), .int (iI (if cd2 (1 ≤ pz ∧ pz ≤ 100) (True) = 0 then pz else sv)), .int (iI (lr)), .int (iI (sr)), .ref pL, .ref pP, .ref pC, .ref pI, .ref pM, .ref pS, .ref pV, .ref pN, .ref pE, .ref pA, .ref pO, .ref pT, .ref pD, .ref pG, .ref pW]))] := by
      have hcd : cd2 (1 ≤ pz ∧ pz ≤ 100) (True) = 1 := by unfold cd2; (repeat' split) <;> omega
      rw [hcd]
      first | rfl | (simp; done)
    rw [hWe] at hP
    subst hAe
    have hres : iI (0) = iI (if cd2 (1 ≤ pz ∧ pz ≤ 100) (True) = 0 then sv else 0) := congrArg iI (by
        have hcd : cd2 (1 ≤ pz ∧ pz ≤ 100) (True) = 1 := by unfold cd2; (repeat' split) <;> omega
        rw [hcd]
        first | rfl | (simp; done))
    exact W.iret hx hb hr (fun t ht hW => ⟨⟨_, (), rfl, hres, by show va_P D vwCl _ t.heap; rw [ht]; exact hP⟩, hS.F ht⟩) hS.2.2 dX6_setService_15

abbrev ws_X6_setRates : List Cond := Cond.code yX6_setRates cX6_setRates 4 (some .int) :: ALL
set_option maxHeartbeats 4000000 in
set_option maxRecDepth 100000 in
theorem m_X6_setRates (l : Launch) (D : va_G) (cs : Nat → ClassId) (km pL pP pC pI pM pS pV pN pE pA pO pT pD pG pW sh it : Nat) (th : Int) (dy : Nat) (lc sv lr sr : Int) (az bz : Int) (haz : -2147483648 ≤ az ∧ az < 2147483648) (hbz : -2147483648 ≤ bz ∧ bz < 2147483648) : Met l yX6_setRates ws_X6_setRates ({ frames := 1, cells := 0, slots := 0, locals := 22 }) (va_Pc [.ref km, .int (iI (az)), .int (iI (bz))] (PC D cs [(km, .inr (6, [.int (iI (th)), .int (iI (((sh : Nat) : Int))), .int (iI (((it : Nat) : Int))), .int (iI (((dy : Nat) : Int))), .int (iI (lc)), .int (iI (sv)), .int (iI (lr)), .int (iI (sr)), .ref pL, .ref pP, .ref pC, .ref pI, .ref pM, .ref pS, .ref pV, .ref pN, .ref pE, .ref pA, .ref pO, .ref pT, .ref pD, .ref pG, .ref pW]))])) (va_Qi (fun r (_ : Unit) => r = iI (if cd2 ((0 ≤ az ∧ az ≤ 100) ∧ (0 ≤ bz ∧ bz ≤ 100)) (True) = 0 then lr else 0)) (fun _ t => va_P D vwCl [(km, .inr (6, [.int (iI ((((cd2 ((0 ≤ az ∧ az ≤ 100) ∧ (0 ≤ bz ∧ bz ≤ 100)) (True)) : Nat) : Int))), .int (iI (((sh : Nat) : Int))), .int (iI (((it : Nat) : Int))), .int (iI (((dy : Nat) : Int))), .int (iI (lc)), .int (iI (sv)), .int (iI (if cd2 ((0 ≤ az ∧ az ≤ 100) ∧ (0 ≤ bz ∧ bz ≤ 100)) (True) = 0 then az else lr)), .int (iI (if cd2 ((0 ≤ az ∧ az ≤ 100) ∧ (0 ≤ bz ∧ bz ≤ 100)) (True) = 0 then bz else sr)), .ref pL, .ref pP, .ref pC, .ref pI, .ref pM, .ref pS, .ref pV, .ref pN, .ref pE, .ref pA, .ref pO, .ref pT, .ref pD, .ref pG, .ref pW]))] t.heap) (inW [(km, .inr (6, [.int (iI (th)), .int (iI (((sh : Nat) : Int))), .int (iI (((it : Nat) : Int))), .int (iI (((dy : Nat) : Int))), .int (iI (lc)), .int (iI (sv)), .int (iI (lr)), .int (iI (sr)), .ref pL, .ref pP, .ref pC, .ref pI, .ref pM, .ref pS, .ref pV, .ref pN, .ref pE, .ref pA, .ref pO, .ref pT, .ref pD, .ref pG, .ref pW]))])) 0 0 (inW [(km, .inr (6, [.int (iI (th)), .int (iI (((sh : Nat) : Int))), .int (iI (((it : Nat) : Int))), .int (iI (((dy : Nat) : Int))), .int (iI (lc)), .int (iI (sv)), .int (iI (lr)), .int (iI (sr)), .ref pL, .ref pP, .ref pC, .ref pI, .ref pM, .ref pS, .ref pV, .ref pN, .ref pE, .ref pA, .ref pO, .ref pT, .ref pD, .ref pG, .ref pW]))]) := by
  refine Met.ofW (cc := cX6_setRates) (maxL := 4) (ret := (some .int)) (by decide +kernel) rfl ?_
  intro p e s m args below meth c s₁ B hml hv
  obtain ⟨rfl, hP, hK, hD, hN⟩ := hv
  have hx := B.exec
  have hb := B.bytes
  have hr := B.returns
  have hts : ∀ w ∈ ALL, w.before _ s = true := fun w h => atoms_spec (ws := ws_X6_setRates) B.pre w (List.mem_cons_of_mem _ h)
  have hown : s.vm.findClass RX6 = some m.cls := findClass_of_methodNamed B.named
  have hlocks := B.notSynchronized
  generalize hAe : inW [(km, .inr (6, [.int (iI (th)), .int (iI (((sh : Nat) : Int))), .int (iI (((it : Nat) : Int))), .int (iI (((dy : Nat) : Int))), .int (iI (lc)), .int (iI (sv)), .int (iI (lr)), .int (iI (sr)), .ref pL, .ref pP, .ref pC, .ref pI, .ref pM, .ref pS, .ref pV, .ref pN, .ref pE, .ref pA, .ref pO, .ref pT, .ref pD, .ref pG, .ref pW]))] = A at hD ⊢
  have hS : va_S A s.heap s.heap [] := va_S.rf
  have hl := lv_entry ([.ref km, .int (iI (az)), .int (iI (bz))]) (n := 4) (Nat.le_of_ble_eq_true rfl)
  rw [lg_entry_eq]
  generalize (lg_sl ([.ref km, .int (iI (az)), .int (iI (bz))]) ++ List.replicate (4 - (lg_sl ([.ref km, .int (iI (az)), .int (iI (bz))])).length) Slot.unset).toArray = ls at hl ⊢
  have hl : lv_has ls 4 [(0, .ref km), (1, .int (iI (az))), (2, .int (iI (bz)))] := hl
  have hH := rfl (a := s.heap)
  refine lv_iload_n hx hb dX6_setRates_0 rfl (lv_at hl 1 rfl) ?_
  refine lv_iconst (v := iI (0)) hx hb dX6_setRates_1 rfl ?_
  refine lv_bipush (v := iI (100)) hx hb dX6_setRates_2 (by decide) ?_
  have pk1 : picks [(km, .inr (6, [.int (iI (th)), .int (iI (((sh : Nat) : Int))), .int (iI (((it : Nat) : Int))), .int (iI (((dy : Nat) : Int))), .int (iI (lc)), .int (iI (sv)), .int (iI (lr)), .int (iI (sr)), .ref pL, .ref pP, .ref pC, .ref pI, .ref pM, .ref pS, .ref pV, .ref pN, .ref pE, .ref pA, .ref pO, .ref pT, .ref pD, .ref pG, .ref pW]))] [] [] := trivial
  refine va_calli (va_runS (As := [.int (iI (az)), .int (iI (0)), .int (iI (100))]) (rest := []) ⟨hx, hb, hml, hown, hts⟩ (m_X6_in l D cs az 0 100 (by omega) (by omega) (by omega)) (va_cwS 3 hts (gS w_880 w_881 w_5 w_882) rfl rfl rfl (by decide +kernel) ⟨Nat.le_of_ble_eq_true rfl, Nat.le_of_ble_eq_true rfl⟩) (PC_S hK hN hP hD [] rfl pk1) rfl rfl hl.1 rfl (lv_room (Nat.le_of_ble_eq_true rfl)) dX6_setRates_4 ⟨Nat.le_of_ble_eq_true rfl, Nat.le_of_ble_eq_true rfl⟩) hS (fun _ _ h => False.elim h) (fun _ h => False.elim h) (fun r u t H locs ht hvm hw hB hz1 hk1 hS => ?_)
  subst hw
  have hP := P_kept hP hk1
  have hin := inI_s az 0 100
  refine my_if_eq (tgt := 20) hx hb (by omega) dX6_setRates_7 (by decide) (fun b2 => ?_) (fun b2 => ?_)
  · refine lv_aload_n hx hb dX6_setRates_20 rfl (lv_at hl 0 rfl) ?_
    refine lv_iconst (v := iI (1)) hx hb dX6_setRates_21 rfl ?_
    have pk3 : picks [(km, .inr (6, [.int (iI (th)), .int (iI (((sh : Nat) : Int))), .int (iI (((it : Nat) : Int))), .int (iI (((dy : Nat) : Int))), .int (iI (lc)), .int (iI (sv)), .int (iI (lr)), .int (iI (sr)), .ref pL, .ref pP, .ref pC, .ref pI, .ref pM, .ref pS, .ref pV, .ref pN, .ref pE, .ref pA, .ref pO, .ref pT, .ref pD, .ref pG, .ref pW]))] [0] [(km, .inr (6, [.int (iI (th)), .int (iI (((sh : Nat) : Int))), .int (iI (((it : Nat) : Int))), .int (iI (((dy : Nat) : Int))), .int (iI (lc)), .int (iI (sv)), .int (iI (lr)), .int (iI (sr)), .ref pL, .ref pP, .ref pC, .ref pI, .ref pM, .ref pS, .ref pV, .ref pN, .ref pE, .ref pA, .ref pO, .ref pT, .ref pD, .ref pG, .ref pW]))] := ⟨rfl, trivial⟩
    refine va_calli (va_runV (As := [.int (iI (1))]) (rest := []) ⟨hx, hb, hml, hown, hts⟩ (m_X6_fails l D cs km pL pP pC pI pM pS pV pN pE pA pO pT pD pG pW sh it th dy lc sv lr sr 1) (cwV 1 hts (gV w_883 w_885 w_p16 w_5 w_886) rfl rfl rfl (by decide +kernel) ⟨Nat.le_of_ble_eq_true rfl, Nat.le_of_ble_eq_true rfl⟩) (PC_V hK hN hP hD [0] rfl pk3 rfl rfl) rfl rfl hl.1 rfl (lv_room (Nat.le_of_ble_eq_true rfl)) dX6_setRates_22 ⟨Nat.le_of_ble_eq_true rfl, Nat.le_of_ble_eq_true rfl⟩) hS (fun q _ h => inW_sub hD [0] pk3 q h) (fun q h => inW_sub hD [0] pk3 q h) (fun r u t H locs ht hvm hw hB hz1 hk1 hS => ?_)
    subst hw
    rw [ht] at hB
    obtain ⟨hP, hD⟩ := my_join (W1 := [(km, .inr (6, [.int (iI (1)), .int (iI (((sh : Nat) : Int))), .int (iI (((it : Nat) : Int))), .int (iI (((dy : Nat) : Int))), .int (iI (lc)), .int (iI (sv)), .int (iI (lr)), .int (iI (sr)), .ref pL, .ref pP, .ref pC, .ref pI, .ref pM, .ref pS, .ref pV, .ref pN, .ref pE, .ref pA, .ref pO, .ref pT, .ref pD, .ref pG, .ref pW]))]) hP hD [0] rfl pk3 rfl hk1 hB
    have hP : va_P D vwCl [(km, .inr (6, [.int (iI (1)), .int (iI (((sh : Nat) : Int))), .int (iI (((it : Nat) : Int))), .int (iI (((dy : Nat) : Int))), .int (iI (lc)), .int (iI (sv)), .int (iI (lr)), .int (iI (sr)), .ref pL, .ref pP, .ref pC, .ref pI, .ref pM, .ref pS, .ref pV, .ref pN, .ref pE, .ref pA, .ref pO, .ref pT, .ref pD, .ref pG, .ref pW]))] H := hP
    have hD : va_D A [(km, .inr (6, [.int (iI (1)), .int (iI (((sh : Nat) : Int))), .int (iI (((it : Nat) : Int))), .int (iI (((dy : Nat) : Int))), .int (iI (lc)), .int (iI (sv)), .int (iI (lr)), .int (iI (sr)), .ref pL, .ref pP, .ref pC, .ref pI, .ref pM, .ref pS, .ref pV, .ref pN, .ref pE, .ref pA, .ref pO, .ref pT, .ref pD, .ref pG, .ref pW]))] := hD
    have hWe : ([(km, .inr (6, [.int (iI (1)), .int (iI (((sh : Nat) : Int))), .int (iI (((it : Nat) : Int))), .int (iI (((dy : Nat) : Int))), .int (iI (lc)), .int (iI (sv)), .int (iI (lr)), .int (iI (sr)), .ref pL, .ref pP, .ref pC, .ref pI, .ref pM, .ref pS, .ref pV, .ref pN, .ref pE, .ref pA, .ref pO, .ref pT, .ref pD, .ref pG, .ref pW]))] : va_W) = [(km, .inr (6, [.int (iI ((((cd2 ((0 ≤ az ∧ az ≤ 100) ∧ (0 ≤ bz ∧ bz ≤ 100)) (True)) : Nat) : Int))), .int (iI (((sh : Nat) : Int))), .int (iI (((it : Nat) : Int))), .int (iI (((dy : Nat) : Int))), .int (iI (lc)), .int (iI (sv)), .int (iI (if cd2 ((0 ≤ az ∧ az ≤ 100) ∧ (0 ≤ bz ∧ bz ≤ 100)) (True) = 0 then az else lr)), .int (iI (if cd2 ((0 ≤ az ∧ az ≤ 100) ∧ (0 ≤ bz ∧ bz ≤ 100)) (True) = 0 then bz else sr)), .ref pL, .ref pP, .ref pC, .ref pI, .ref pM, .ref pS, .ref pV, .ref pN, .ref pE, .ref pA, .ref pO, .ref pT, .ref pD, .ref pG, .ref pW]))] := by
      have hcd : cd2 ((0 ≤ az ∧ az ≤ 100) ∧ (0 ≤ bz ∧ bz ≤ 100)) (True) = 1 := by unfold cd2; (repeat' split) <;> omega
      rw [hcd]
      first | rfl | (simp; done)
    rw [hWe] at hP
    subst hAe
    have hres : iI (0) = iI (if cd2 ((0 ≤ az ∧ az ≤ 100) ∧ (0 ≤ bz ∧ bz ≤ 100)) (True) = 0 then lr else 0) := congrArg iI (by
        have hcd : cd2 ((0 ≤ az ∧ az ≤ 100) ∧ (0 ≤ bz ∧ bz ≤ 100)) (True) = 1 := by unfold cd2; (repeat' split) <;> omega
        rw [hcd]
        first | rfl | (simp; done))
    exact W.iret hx hb hr (fun t ht hW => ⟨⟨_, (), rfl, hres, by show va_P D vwCl _ t.heap; rw [ht]; exact hP⟩, hS.F ht⟩) hS.2.2 dX6_setRates_25
  · refine lv_iload_n hx hb dX6_setRates_10 rfl (lv_at hl 2 rfl) ?_
    refine lv_iconst (v := iI (0)) hx hb dX6_setRates_11 rfl ?_
    refine lv_bipush (v := iI (100)) hx hb dX6_setRates_12 (by decide) ?_
    have pk4 : picks [(km, .inr (6, [.int (iI (th)), .int (iI (((sh : Nat) : Int))), .int (iI (((it : Nat) : Int))), .int (iI (((dy : Nat) : Int))), .int (iI (lc)), .int (iI (sv)), .int (iI (lr)), .int (iI (sr)), .ref pL, .ref pP, .ref pC, .ref pI, .ref pM, .ref pS, .ref pV, .ref pN, .ref pE, .ref pA, .ref pO, .ref pT, .ref pD, .ref pG, .ref pW]))] [] [] := trivial
    refine va_calli (va_runS (As := [.int (iI (bz)), .int (iI (0)), .int (iI (100))]) (rest := []) ⟨hx, hb, hml, hown, hts⟩ (m_X6_in l D cs bz 0 100 (by omega) (by omega) (by omega)) (va_cwS 3 hts (gS w_880 w_881 w_5 w_882) rfl rfl rfl (by decide +kernel) ⟨Nat.le_of_ble_eq_true rfl, Nat.le_of_ble_eq_true rfl⟩) (PC_S hK hN hP hD [] rfl pk4) rfl rfl hl.1 rfl (lv_room (Nat.le_of_ble_eq_true rfl)) dX6_setRates_14 ⟨Nat.le_of_ble_eq_true rfl, Nat.le_of_ble_eq_true rfl⟩) hS (fun _ _ h => False.elim h) (fun _ h => False.elim h) (fun r u t H locs ht hvm hw hB hz1 hk1 hS => ?_)
    subst hw
    have hP := P_kept hP hk1
    have hin := inI_s bz 0 100
    refine my_if_ne (tgt := 26) hx hb (by omega) dX6_setRates_17 (by decide) (fun b5 => ?_) (fun b5 => ?_)
    · refine lv_aload_n hx hb dX6_setRates_26 rfl (lv_at hl 0 rfl) ?_
      refine lv_iconst (v := iI (0)) hx hb dX6_setRates_27 rfl ?_
      refine my_put hx hb hts inAX6 tyX6_ok nmX6 hown hK hP hD hS 0 rfl rfl 0 (by decide) w_801 rfl rfl rfl (Nat.le_of_ble_eq_true rfl) dX6_setRates_28 (fun H locs hP hD hS => ?_)
      have hP : va_P D vwCl [(km, .inr (6, [.int (iI (0)), .int (iI (((sh : Nat) : Int))), .int (iI (((it : Nat) : Int))), .int (iI (((dy : Nat) : Int))), .int (iI (lc)), .int (iI (sv)), .int (iI (lr)), .int (iI (sr)), .ref pL, .ref pP, .ref pC, .ref pI, .ref pM, .ref pS, .ref pV, .ref pN, .ref pE, .ref pA, .ref pO, .ref pT, .ref pD, .ref pG, .ref pW]))] H := hP
      have hD : va_D A [(km, .inr (6, [.int (iI (0)), .int (iI (((sh : Nat) : Int))), .int (iI (((it : Nat) : Int))), .int (iI (((dy : Nat) : Int))), .int (iI (lc)), .int (iI (sv)), .int (iI (lr)), .int (iI (sr)), .ref pL, .ref pP, .ref pC, .ref pI, .ref pM, .ref pS, .ref pV, .ref pN, .ref pE, .ref pA, .ref pO, .ref pT, .ref pD, .ref pG, .ref pW]))] := hD
      refine lv_aload_n hx hb dX6_setRates_31 rfl (lv_at hl 0 rfl) ?_
      refine my_get hx hb hts inAX6 hown hK hP 0 rfl rfl 6 (by decide) w_807 rfl rfl dX6_setRates_32 ?_
      refine lv_istore_n (lv' := [(3, .int (iI (lr))), (0, .ref km), (1, .int (iI (az))), (2, .int (iI (bz)))]) hx hb dX6_setRates_35 rfl hl (by decide) rfl (fun ls hl => ?_)
      refine lv_aload_n hx hb dX6_setRates_36 rfl (lv_at hl 1 rfl) ?_
      refine lv_iload_n hx hb dX6_setRates_37 rfl (lv_at hl 2 rfl) ?_
      refine my_put hx hb hts inAX6 tyX6_ok nmX6 hown hK hP hD hS 0 rfl rfl 6 (by decide) w_807 rfl rfl rfl (Nat.le_of_ble_eq_true rfl) dX6_setRates_38 (fun H locs hP hD hS => ?_)
      have hP : va_P D vwCl [(km, .inr (6, [.int (iI (0)), .int (iI (((sh : Nat) : Int))), .int (iI (((it : Nat) : Int))), .int (iI (((dy : Nat) : Int))), .int (iI (lc)), .int (iI (sv)), .int (iI (az)), .int (iI (sr)), .ref pL, .ref pP, .ref pC, .ref pI, .ref pM, .ref pS, .ref pV, .ref pN, .ref pE, .ref pA, .ref pO, .ref pT, .ref pD, .ref pG, .ref pW]))] H := hP
      have hD : va_D A [(km, .inr (6, [.int (iI (0)), .int (iI (((sh : Nat) : Int))), .int (iI (((it : Nat) : Int))), .int (iI (((dy : Nat) : Int))), .int (iI (lc)), .int (iI (sv)), .int (iI (az)), .int (iI (sr)), .ref pL, .ref pP, .ref pC, .ref pI, .ref pM, .ref pS, .ref pV, .ref pN, .ref pE, .ref pA, .ref pO, .ref pT, .ref pD, .ref pG, .ref pW]))] := hD
      refine lv_aload_n hx hb dX6_setRates_41 rfl (lv_at hl 1 rfl) ?_
      refine lv_iload_n hx hb dX6_setRates_42 rfl (lv_at hl 3 rfl) ?_
      refine my_put hx hb hts inAX6 tyX6_ok nmX6 hown hK hP hD hS 0 rfl rfl 7 (by decide) w_808 rfl rfl rfl (Nat.le_of_ble_eq_true rfl) dX6_setRates_43 (fun H locs hP hD hS => ?_)
      have hP : va_P D vwCl [(km, .inr (6, [.int (iI (0)), .int (iI (((sh : Nat) : Int))), .int (iI (((it : Nat) : Int))), .int (iI (((dy : Nat) : Int))), .int (iI (lc)), .int (iI (sv)), .int (iI (az)), .int (iI (bz)), .ref pL, .ref pP, .ref pC, .ref pI, .ref pM, .ref pS, .ref pV, .ref pN, .ref pE, .ref pA, .ref pO, .ref pT, .ref pD, .ref pG, .ref pW]))] H := hP
      have hD : va_D A [(km, .inr (6, [.int (iI (0)), .int (iI (((sh : Nat) : Int))), .int (iI (((it : Nat) : Int))), .int (iI (((dy : Nat) : Int))), .int (iI (lc)), .int (iI (sv)), .int (iI (az)), .int (iI (bz)), .ref pL, .ref pP, .ref pC, .ref pI, .ref pM, .ref pS, .ref pV, .ref pN, .ref pE, .ref pA, .ref pO, .ref pT, .ref pD, .ref pG, .ref pW]))] := hD
      refine lv_iload_n hx hb dX6_setRates_46 rfl (lv_at hl 0 rfl) ?_
      have hWe : ([(km, .inr (6, [.int (iI (0)), .int (iI (((sh : Nat) : Int))), .int (iI (((it : Nat) : Int))), .int (iI (((dy : Nat) : Int))), .int (iI (lc)), .int (iI (sv)), .int (iI (az)), .int (iI (bz)), .ref pL, .ref pP, .ref pC, .ref pI, .ref pM, .ref pS, .ref pV, .ref pN, .ref pE, .ref pA, .ref pO, .ref pT, .ref pD, .ref pG, .ref pW]))] : va_W) = [(km, .inr (6, [.int (iI ((((cd2 ((0 ≤ az ∧ az ≤ 100) ∧ (0 ≤ bz ∧ bz ≤ 100)) (True)) : Nat) : Int))), .int (iI (((sh : Nat) : Int))), .int (iI (((it : Nat) : Int))), .int (iI (((dy : Nat) : Int))), .int (iI (lc)), .int (iI (sv)), .int (iI (if cd2 ((0 ≤ az ∧ az ≤ 100) ∧ (0 ≤ bz ∧ bz ≤ 100)) (True) = 0 then az else lr)), .int (iI (if cd2 ((0 ≤ az ∧ az ≤ 100) ∧ (0 ≤ bz ∧ bz ≤ 100)) (True) = 0 then bz else sr)), .ref pL, .ref pP, .ref pC, .ref pI, .ref pM, .ref pS, .ref pV, .ref pN, .ref pE, .ref pA, .ref pO, .ref pT, .ref pD, .ref pG, .ref pW]))] := by
        have hcd : cd2 ((0 ≤ az ∧ az ≤ 100) ∧ (0 ≤ bz ∧ bz ≤ 100)) (True) = 0 := by unfold cd2; (repeat' split) <;> omega
        rw [hcd]
        first | rfl | (simp; done)
      rw [hWe] at hP
      subst hAe
      have hres : iI (lr) = iI (if cd2 ((0 ≤ az ∧ az ≤ 100) ∧ (0 ≤ bz ∧ bz ≤ 100)) (True) = 0 then lr else 0) := congrArg iI (by
          have hcd : cd2 ((0 ≤ az ∧ az ≤ 100) ∧ (0 ≤ bz ∧ bz ≤ 100)) (True) = 0 := by unfold cd2; (repeat' split) <;> omega
          rw [hcd]
          first | rfl | (simp; done))
      exact W.iret hx hb hr (fun t ht hW => ⟨⟨_, (), rfl, hres, by show va_P D vwCl _ t.heap; rw [ht]; exact hP⟩, hS.F ht⟩) hS.2.2 dX6_setRates_47
    · refine lv_aload_n hx hb dX6_setRates_20 rfl (lv_at hl 0 rfl) ?_
      refine lv_iconst (v := iI (1)) hx hb dX6_setRates_21 rfl ?_
      have pk6 : picks [(km, .inr (6, [.int (iI (th)), .int (iI (((sh : Nat) : Int))), .int (iI (((it : Nat) : Int))), .int (iI (((dy : Nat) : Int))), .int (iI (lc)), .int (iI (sv)), .int (iI (lr)), .int (iI (sr)), .ref pL, .ref pP, .ref pC, .ref pI, .ref pM, .ref pS, .ref pV, .ref pN, .ref pE, .ref pA, .ref pO, .ref pT, .ref pD, .ref pG, .ref pW]))] [0] [(km, .inr (6, [.int (iI (th)), .int (iI (((sh : Nat) : Int))), .int (iI (((it : Nat) : Int))), .int (iI (((dy : Nat) : Int))), .int (iI (lc)), .int (iI (sv)), .int (iI (lr)), .int (iI (sr)), .ref pL, .ref pP, .ref pC, .ref pI, .ref pM, .ref pS, .ref pV, .ref pN, .ref pE, .ref pA, .ref pO, .ref pT, .ref pD, .ref pG, .ref pW]))] := ⟨rfl, trivial⟩
      refine va_calli (va_runV (As := [.int (iI (1))]) (rest := []) ⟨hx, hb, hml, hown, hts⟩ (m_X6_fails l D cs km pL pP pC pI pM pS pV pN pE pA pO pT pD pG pW sh it th dy lc sv lr sr 1) (cwV 1 hts (gV w_883 w_885 w_p16 w_5 w_886) rfl rfl rfl (by decide +kernel) ⟨Nat.le_of_ble_eq_true rfl, Nat.le_of_ble_eq_true rfl⟩) (PC_V hK hN hP hD [0] rfl pk6 rfl rfl) rfl rfl hl.1 rfl (lv_room (Nat.le_of_ble_eq_true rfl)) dX6_setRates_22 ⟨Nat.le_of_ble_eq_true rfl, Nat.le_of_ble_eq_true rfl⟩) hS (fun q _ h => inW_sub hD [0] pk6 q h) (fun q h => inW_sub hD [0] pk6 q h) (fun r u t H locs ht hvm hw hB hz1 hk1 hS => ?_)
      subst hw
      rw [ht] at hB
      obtain ⟨hP, hD⟩ := my_join (W1 := [(km, .inr (6, [.int (iI (1)), .int (iI (((sh : Nat) : Int))), .int (iI (((it : Nat) : Int))), .int (iI (((dy : Nat) : Int))), .int (iI (lc)), .int (iI (sv)), .int (iI (lr)), .int (iI (sr)), .ref pL, .ref pP, .ref pC, .ref pI, .ref pM, .ref pS, .ref pV, .ref pN, .ref pE, .ref pA, .ref pO, .ref pT, .ref pD, .ref pG, .ref pW]))]) hP hD [0] rfl pk6 rfl hk1 hB
      have hP : va_P D vwCl [(km, .inr (6, [.int (iI (1)), .int (iI (((sh : Nat) : Int))), .int (iI (((it : Nat) : Int))), .int (iI (((dy : Nat) : Int))), .int (iI (lc)), .int (iI (sv)), .int (iI (lr)), .int (iI (sr)), .ref pL, .ref pP, .ref pC, .ref pI, .ref pM, .ref pS, .ref pV, .ref pN, .ref pE, .ref pA, .ref pO, .ref pT, .ref pD, .ref pG, .ref pW]))] H := hP
      have hD : va_D A [(km, .inr (6, [.int (iI (1)), .int (iI (((sh : Nat) : Int))), .int (iI (((it : Nat) : Int))), .int (iI (((dy : Nat) : Int))), .int (iI (lc)), .int (iI (sv)), .int (iI (lr)), .int (iI (sr)), .ref pL, .ref pP, .ref pC, .ref pI, .ref pM, .ref pS, .ref pV, .ref pN, .ref pE, .ref pA, .ref pO, .ref pT, .ref pD, .ref pG, .ref pW]))] := hD
      have hWe : ([(km, .inr (6, [.int (iI (1)), .int (iI (((sh : Nat) : Int))), .int (iI (((it : Nat) : Int))), .int (iI (((dy : Nat) : Int))), .int (iI (lc)), .int (iI (sv)), .int (iI (lr)), .int (iI (sr)), .ref pL, .ref pP, .ref pC, .ref pI, .ref pM, .ref pS, .ref pV, .ref pN, .ref pE, .ref pA, .ref pO, .ref pT, .ref pD, .ref pG, .ref pW]))] : va_W) = [(km, .inr (6, [.int (iI ((((cd2 ((0 ≤ az ∧ az ≤ 100) ∧ (0 ≤ bz ∧ bz ≤ 100)) (True)) : Nat) : Int))), .int (iI (((sh : Nat) : Int))), .int (iI (((it : Nat) : Int))), .int (iI (((dy : Nat) : Int))), .int (iI (lc)), .int (iI (sv)), .int (iI (if cd2 ((0 ≤ az ∧ az ≤ 100) ∧ (0 ≤ bz ∧ bz ≤ 100)) (True) = 0 then az else lr)), .int (iI (if cd2 ((0 ≤ az ∧ az ≤ 100) ∧ (0 ≤ bz ∧ bz ≤ 100)) (True) = 0 then bz else sr)), .ref pL, .ref pP, .ref pC, .ref pI, .ref pM, .ref pS, .ref pV, .ref pN, .ref pE, .ref pA, .ref pO, .ref pT, .ref pD, .ref pG, .ref pW]))] := by
        have hcd : cd2 ((0 ≤ az ∧ az ≤ 100) ∧ (0 ≤ bz ∧ bz ≤ 100)) (True) = 1 := by unfold cd2; (repeat' split) <;> omega
        rw [hcd]
        first | rfl | (simp; done)
      rw [hWe] at hP
      subst hAe
      have hres : iI (0) = iI (if cd2 ((0 ≤ az ∧ az ≤ 100) ∧ (0 ≤ bz ∧ bz ≤ 100)) (True) = 0 then lr else 0) := congrArg iI (by
          have hcd : cd2 ((0 ≤ az ∧ az ≤ 100) ∧ (0 ≤ bz ∧ bz ≤ 100)) (True) = 1 := by unfold cd2; (repeat' split) <;> omega
          rw [hcd]
          first | rfl | (simp; done))
      exact W.iret hx hb hr (fun t ht hW => ⟨⟨_, (), rfl, hres, by show va_P D vwCl _ t.heap; rw [ht]; exact hP⟩, hS.F ht⟩) hS.2.2 dX6_setRates_25

abbrev ws_X6_mark : List Cond := Cond.code yX6_mark cX6_mark 4 (some .boolean) :: ALL
set_option maxHeartbeats 4000000 in
set_option maxRecDepth 100000 in
theorem m_X6_mark (l : Launch) (D : va_G) (cs : Nat → ClassId) (km pL pP pC pI pM pS pV pN pE pA pO pT pD pG pW sh it : Nat) (th : Int) (dy : Nat) (lc sv lr sr : Int) (mM : Nat → Int) (zi dz : Int) (hit : it ≤ 5) (hdy : dy ≤ 2000) (hmM : ∀ j, 0 ≤ mM j ∧ mM j ≤ 1) (hzi : -2147483648 ≤ zi ∧ zi < 2147483648) (hdz : -2147483648 ≤ dz ∧ dz < 2147483648) : Met l yX6_mark ws_X6_mark ({ frames := 2, cells := 0, slots := 0, locals := 43 }) (va_Pc [.ref km, .int (iI (zi)), .int (iI (dz))] (PC D cs [(km, .inr (6, [.int (iI (th)), .int (iI (((sh : Nat) : Int))), .int (iI (((it : Nat) : Int))), .int (iI (((dy : Nat) : Int))), .int (iI (lc)), .int (iI (sv)), .int (iI (lr)), .int (iI (sr)), .ref pL, .ref pP, .ref pC, .ref pI, .ref pM, .ref pS, .ref pV, .ref pN, .ref pE, .ref pA, .ref pO, .ref pT, .ref pD, .ref pG, .ref pW])), (pM, arZ cs 5000 mM)])) (va_Qi (fun r (_ : Unit) => r = iI (if cd2 (0 ≤ zi ∧ zi < (it : Int)) (((dy : Nat) : Int) ≤ dz ∧ dz ≤ 999) = 0 then mM (1000 * zi + dz).toNat else 0)) (fun _ t => va_P D vwCl [(km, .inr (6, [.int (iI ((((cd2 (0 ≤ zi ∧ zi < (it : Int)) (((dy : Nat) : Int) ≤ dz ∧ dz ≤ 999)) : Nat) : Int))), .int (iI (((sh : Nat) : Int))), .int (iI (((it : Nat) : Int))), .int (iI (((dy : Nat) : Int))), .int (iI (lc)), .int (iI (sv)), .int (iI (lr)), .int (iI (sr)), .ref pL, .ref pP, .ref pC, .ref pI, .ref pM, .ref pS, .ref pV, .ref pN, .ref pE, .ref pA, .ref pO, .ref pT, .ref pD, .ref pG, .ref pW])), (pM, arZ cs 5000 (if cd2 (0 ≤ zi ∧ zi < (it : Int)) (((dy : Nat) : Int) ≤ dz ∧ dz ≤ 999) = 0 then upI mM (1000 * zi + dz).toNat 1 else mM))] t.heap) (inW [(km, .inr (6, [.int (iI (th)), .int (iI (((sh : Nat) : Int))), .int (iI (((it : Nat) : Int))), .int (iI (((dy : Nat) : Int))), .int (iI (lc)), .int (iI (sv)), .int (iI (lr)), .int (iI (sr)), .ref pL, .ref pP, .ref pC, .ref pI, .ref pM, .ref pS, .ref pV, .ref pN, .ref pE, .ref pA, .ref pO, .ref pT, .ref pD, .ref pG, .ref pW])), (pM, arZ cs 5000 mM)])) 0 0 (inW [(km, .inr (6, [.int (iI (th)), .int (iI (((sh : Nat) : Int))), .int (iI (((it : Nat) : Int))), .int (iI (((dy : Nat) : Int))), .int (iI (lc)), .int (iI (sv)), .int (iI (lr)), .int (iI (sr)), .ref pL, .ref pP, .ref pC, .ref pI, .ref pM, .ref pS, .ref pV, .ref pN, .ref pE, .ref pA, .ref pO, .ref pT, .ref pD, .ref pG, .ref pW])), (pM, arZ cs 5000 mM)]) := by
  refine Met.ofW (cc := cX6_mark) (maxL := 4) (ret := (some .boolean)) (by decide +kernel) rfl ?_
  intro p e s m args below meth c s₁ B hml hv
  obtain ⟨rfl, hP, hK, hD, hN⟩ := hv
  have hx := B.exec
  have hb := B.bytes
  have hr := B.returns
  have hts : ∀ w ∈ ALL, w.before _ s = true := fun w h => atoms_spec (ws := ws_X6_mark) B.pre w (List.mem_cons_of_mem _ h)
  have hown : s.vm.findClass RX6 = some m.cls := findClass_of_methodNamed B.named
  have hlocks := B.notSynchronized
  generalize hAe : inW [(km, .inr (6, [.int (iI (th)), .int (iI (((sh : Nat) : Int))), .int (iI (((it : Nat) : Int))), .int (iI (((dy : Nat) : Int))), .int (iI (lc)), .int (iI (sv)), .int (iI (lr)), .int (iI (sr)), .ref pL, .ref pP, .ref pC, .ref pI, .ref pM, .ref pS, .ref pV, .ref pN, .ref pE, .ref pA, .ref pO, .ref pT, .ref pD, .ref pG, .ref pW])), (pM, arZ cs 5000 mM)] = A at hD ⊢
  have hS : va_S A s.heap s.heap [] := va_S.rf
  have hl := lv_entry ([.ref km, .int (iI (zi)), .int (iI (dz))]) (n := 4) (Nat.le_of_ble_eq_true rfl)
  rw [lg_entry_eq]
  generalize (lg_sl ([.ref km, .int (iI (zi)), .int (iI (dz))]) ++ List.replicate (4 - (lg_sl ([.ref km, .int (iI (zi)), .int (iI (dz))])).length) Slot.unset).toArray = ls at hl ⊢
  have hl : lv_has ls 4 [(0, .ref km), (1, .int (iI (zi))), (2, .int (iI (dz)))] := hl
  have hH := rfl (a := s.heap)
  refine lv_aload_n hx hb dX6_mark_0 rfl (lv_at hl 0 rfl) ?_
  refine lv_aload_n hx hb dX6_mark_1 rfl (lv_at hl 0 rfl) ?_
  refine lv_iload_n hx hb dX6_mark_2 rfl (lv_at hl 1 rfl) ?_
  have pk1 : picks [(km, .inr (6, [.int (iI (th)), .int (iI (((sh : Nat) : Int))), .int (iI (((it : Nat) : Int))), .int (iI (((dy : Nat) : Int))), .int (iI (lc)), .int (iI (sv)), .int (iI (lr)), .int (iI (sr)), .ref pL, .ref pP, .ref pC, .ref pI, .ref pM, .ref pS, .ref pV, .ref pN, .ref pE, .ref pA, .ref pO, .ref pT, .ref pD, .ref pG, .ref pW])), (pM, arZ cs 5000 mM)] [0] [(km, .inr (6, [.int (iI (th)), .int (iI (((sh : Nat) : Int))), .int (iI (((it : Nat) : Int))), .int (iI (((dy : Nat) : Int))), .int (iI (lc)), .int (iI (sv)), .int (iI (lr)), .int (iI (sr)), .ref pL, .ref pP, .ref pC, .ref pI, .ref pM, .ref pS, .ref pV, .ref pN, .ref pE, .ref pA, .ref pO, .ref pT, .ref pD, .ref pG, .ref pW]))] := ⟨rfl, trivial⟩
  refine va_calli (va_runV (As := [.int (iI (zi))]) (rest := [.ref km]) ⟨hx, hb, hml, hown, hts⟩ (m_X6_isItem l D cs km pL pP pC pI pM pS pV pN pE pA pO pT pD pG pW sh it th dy lc sv lr sr zi (by assumption) (by omega)) (cwV 1 hts (gV w_899 w_901 w_p18 w_5 w_902) rfl rfl rfl (by decide +kernel) ⟨Nat.le_of_ble_eq_true rfl, Nat.le_of_ble_eq_true rfl⟩) (PC_V hK hN hP hD [0] rfl pk1 rfl rfl) rfl rfl hl.1 rfl (lv_room (Nat.le_of_ble_eq_true rfl)) dX6_mark_3 ⟨Nat.le_of_ble_eq_true rfl, Nat.le_of_ble_eq_true rfl⟩) hS (fun _ _ h => False.elim h) (fun _ h => False.elim h) (fun r u t H locs ht hvm hw hB hz1 hk1 hS => ?_)
  subst hw
  have hP := P_kept hP hk1
  have hok := okI_s it zi
  refine my_if_ne (tgt := 13) hx hb (by omega) dX6_mark_6 (by decide) (fun b2 => ?_) (fun b2 => ?_)
  · refine lv_iload_n hx hb dX6_mark_13 rfl (lv_at hl 2 rfl) ?_
    refine lv_aload_n hx hb dX6_mark_14 rfl (lv_at hl 0 rfl) ?_
    refine my_get hx hb hts inAX6 hown hK hP 0 rfl rfl 3 (by decide) w_804 rfl rfl dX6_mark_15 ?_
    refine lv_sipush (v := iI (999)) hx hb dX6_mark_18 (by decide) ?_
    have pk3 : picks [(km, .inr (6, [.int (iI (th)), .int (iI (((sh : Nat) : Int))), .int (iI (((it : Nat) : Int))), .int (iI (((dy : Nat) : Int))), .int (iI (lc)), .int (iI (sv)), .int (iI (lr)), .int (iI (sr)), .ref pL, .ref pP, .ref pC, .ref pI, .ref pM, .ref pS, .ref pV, .ref pN, .ref pE, .ref pA, .ref pO, .ref pT, .ref pD, .ref pG, .ref pW])), (pM, arZ cs 5000 mM)] [] [] := trivial
    refine va_calli (va_runS (As := [.int (iI (dz)), .int (iI (((dy : Nat) : Int))), .int (iI (999))]) (rest := [.ref km]) ⟨hx, hb, hml, hown, hts⟩ (m_X6_in l D cs dz ((dy : Nat) : Int) 999 (by omega) (by omega) (by omega)) (va_cwS 3 hts (gS w_880 w_881 w_5 w_882) rfl rfl rfl (by decide +kernel) ⟨Nat.le_of_ble_eq_true rfl, Nat.le_of_ble_eq_true rfl⟩) (PC_S hK hN hP hD [] rfl pk3) rfl rfl hl.1 rfl (lv_room (Nat.le_of_ble_eq_true rfl)) dX6_mark_21 ⟨Nat.le_of_ble_eq_true rfl, Nat.le_of_ble_eq_true rfl⟩) hS (fun _ _ h => False.elim h) (fun _ h => False.elim h) (fun r u t H locs ht hvm hw hB hz1 hk1 hS => ?_)
    subst hw
    have hP := P_kept hP hk1
    have hin := inI_s dz ((dy : Nat) : Int) 999
    refine my_if_eq (tgt := 31) hx hb (by omega) dX6_mark_24 (by decide) (fun b4 => ?_) (fun b4 => ?_)
    · refine lv_iconst (v := iI (2)) hx hb dX6_mark_31 rfl ?_
      refine my_put hx hb hts inAX6 tyX6_ok nmX6 hown hK hP hD hS 0 rfl rfl 0 (by decide) w_801 rfl rfl rfl (Nat.le_of_ble_eq_true rfl) dX6_mark_32 (fun H locs hP hD hS => ?_)
      have hP : va_P D vwCl [(km, .inr (6, [.int (iI (2)), .int (iI (((sh : Nat) : Int))), .int (iI (((it : Nat) : Int))), .int (iI (((dy : Nat) : Int))), .int (iI (lc)), .int (iI (sv)), .int (iI (lr)), .int (iI (sr)), .ref pL, .ref pP, .ref pC, .ref pI, .ref pM, .ref pS, .ref pV, .ref pN, .ref pE, .ref pA, .ref pO, .ref pT, .ref pD, .ref pG, .ref pW])), (pM, arZ cs 5000 mM)] H := hP
      have hD : va_D A [(km, .inr (6, [.int (iI (2)), .int (iI (((sh : Nat) : Int))), .int (iI (((it : Nat) : Int))), .int (iI (((dy : Nat) : Int))), .int (iI (lc)), .int (iI (sv)), .int (iI (lr)), .int (iI (sr)), .ref pL, .ref pP, .ref pC, .ref pI, .ref pM, .ref pS, .ref pV, .ref pN, .ref pE, .ref pA, .ref pO, .ref pT, .ref pD, .ref pG, .ref pW])), (pM, arZ cs 5000 mM)] := hD
      refine lv_aload_n hx hb dX6_mark_35 rfl (lv_at hl 0 rfl) ?_
      refine my_get hx hb hts inAX6 hown hK hP 0 rfl rfl 0 (by decide) w_801 rfl rfl dX6_mark_36 ?_
      refine my_if_le (tgt := 44) hx hb (by omega) dX6_mark_39 (by decide) (fun b5 => (by omega : False).elim) (fun b5 => ?_)
      refine lv_iconst (v := iI (0)) hx hb dX6_mark_42 rfl ?_
      have hWe : ([(km, .inr (6, [.int (iI (2)), .int (iI (((sh : Nat) : Int))), .int (iI (((it : Nat) : Int))), .int (iI (((dy : Nat) : Int))), .int (iI (lc)), .int (iI (sv)), .int (iI (lr)), .int (iI (sr)), .ref pL, .ref pP, .ref pC, .ref pI, .ref pM, .ref pS, .ref pV, .ref pN, .ref pE, .ref pA, .ref pO, .ref pT, .ref pD, .ref pG, .ref pW])), (pM, arZ cs 5000 mM)] : va_W) = [(km, .inr (6, [.int (iI ((((cd2 (0 ≤ zi ∧ zi < (it : Int)) (((dy : Nat) : Int) ≤ dz ∧ dz ≤ 999)) : Nat) : Int))), .int (iI (((sh : Nat) : Int))), .int (iI (((it : Nat) : Int))), .int (iI (((dy : Nat) : Int))), .int (iI (lc)), .int (iI (sv)), .int (iI (lr)), .int (iI (sr)), .ref pL, .ref pP, .ref pC, .ref pI, .ref pM, .ref pS, .ref pV, .ref pN, .ref pE, .ref pA, .ref pO, .ref pT, .ref pD, .ref pG, .ref pW])), (pM, arZ cs 5000 (if cd2 (0 ≤ zi ∧ zi < (it : Int)) (((dy : Nat) : Int) ≤ dz ∧ dz ≤ 999) = 0 then upI mM (1000 * zi + dz).toNat 1 else mM))] := by
        have hcd : cd2 (0 ≤ zi ∧ zi < (it : Int)) (((dy : Nat) : Int) ≤ dz ∧ dz ≤ 999) = 2 := by unfold cd2; (repeat' split) <;> omega
        rw [hcd]
        first | rfl | (simp; done)
      rw [hWe] at hP
      subst hAe
      have hres : iI (0) = iI (if cd2 (0 ≤ zi ∧ zi < (it : Int)) (((dy : Nat) : Int) ≤ dz ∧ dz ≤ 999) = 0 then mM (1000 * zi + dz).toNat else 0) := congrArg iI (by
          have hcd : cd2 (0 ≤ zi ∧ zi < (it : Int)) (((dy : Nat) : Int) ≤ dz ∧ dz ≤ 999) = 2 := by unfold cd2; (repeat' split) <;> omega
          rw [hcd]
          first | rfl | (simp; done))
      exact W.zret hx hb hr (by decide) (fun t ht hW => ⟨⟨_, (), rfl, hres, by show va_P D vwCl _ t.heap; rw [ht]; exact hP⟩, hS.F ht⟩) hS.2.2 dX6_mark_43
    · refine lv_iconst (v := iI (0)) hx hb dX6_mark_27 rfl ?_
      refine lv_goto (tgt := 32) hx hb dX6_mark_28 (by decide) ?_
      refine my_put hx hb hts inAX6 tyX6_ok nmX6 hown hK hP hD hS 0 rfl rfl 0 (by decide) w_801 rfl rfl rfl (Nat.le_of_ble_eq_true rfl) dX6_mark_32 (fun H locs hP hD hS => ?_)
      have hP : va_P D vwCl [(km, .inr (6, [.int (iI (0)), .int (iI (((sh : Nat) : Int))), .int (iI (((it : Nat) : Int))), .int (iI (((dy : Nat) : Int))), .int (iI (lc)), .int (iI (sv)), .int (iI (lr)), .int (iI (sr)), .ref pL, .ref pP, .ref pC, .ref pI, .ref pM, .ref pS, .ref pV, .ref pN, .ref pE, .ref pA, .ref pO, .ref pT, .ref pD, .ref pG, .ref pW])), (pM, arZ cs 5000 mM)] H := hP
      have hD : va_D A [(km, .inr (6, [.int (iI (0)), .int (iI (((sh : Nat) : Int))), .int (iI (((it : Nat) : Int))), .int (iI (((dy : Nat) : Int))), .int (iI (lc)), .int (iI (sv)), .int (iI (lr)), .int (iI (sr)), .ref pL, .ref pP, .ref pC, .ref pI, .ref pM, .ref pS, .ref pV, .ref pN, .ref pE, .ref pA, .ref pO, .ref pT, .ref pD, .ref pG, .ref pW])), (pM, arZ cs 5000 mM)] := hD
      refine lv_aload_n hx hb dX6_mark_35 rfl (lv_at hl 0 rfl) ?_
      refine my_get hx hb hts inAX6 hown hK hP 0 rfl rfl 0 (by decide) w_801 rfl rfl dX6_mark_36 ?_
      refine my_if_le (tgt := 44) hx hb (by omega) dX6_mark_39 (by decide) (fun b6 => ?_) (fun b6 => (by omega : False).elim)
      refine lv_aload_n hx hb dX6_mark_44 rfl (lv_at hl 0 rfl) ?_
      refine my_get hx hb hts inAX6 hown hK hP 0 rfl rfl 12 (by decide) w_813 rfl rfl dX6_mark_45 ?_
      refine lv_sipush (v := iI (1000)) hx hb dX6_mark_48 (by decide) ?_
      refine lv_iload_n hx hb dX6_mark_51 rfl (lv_at hl 1 rfl) ?_
      refine my_imul (z := 1000 * zi) hx hb dX6_mark_52 (rfl) ?_
      refine lv_iload_n hx hb dX6_mark_53 rfl (lv_at hl 2 rfl) ?_
      refine my_iadd (z := (1000 * zi) + dz) hx hb dX6_mark_54 (rfl) ?_
      refine my_zald hx hb hK hP 1 rfl (by omega) (k := ((1000 * zi) + dz).toNat) (rfl) dX6_mark_55 ?_
      refine lv_istore_n (lv' := [(3, .int (iI (mM (((1000 * zi) + dz).toNat)))), (0, .ref km), (1, .int (iI (zi))), (2, .int (iI (dz)))]) hx hb dX6_mark_56 rfl hl (by decide) rfl (fun ls hl => ?_)
      refine lv_aload_n hx hb dX6_mark_57 rfl (lv_at hl 1 rfl) ?_
      refine my_get hx hb hts inAX6 hown hK hP 0 rfl rfl 12 (by decide) w_813 rfl rfl dX6_mark_58 ?_
      refine lv_sipush (v := iI (1000)) hx hb dX6_mark_61 (by decide) ?_
      refine lv_iload_n hx hb dX6_mark_64 rfl (lv_at hl 2 rfl) ?_
      refine my_imul (z := 1000 * zi) hx hb dX6_mark_65 (rfl) ?_
      refine lv_iload_n hx hb dX6_mark_66 rfl (lv_at hl 3 rfl) ?_
      refine my_iadd (z := (1000 * zi) + dz) hx hb dX6_mark_67 (rfl) ?_
      refine lv_iconst (v := iI (1)) hx hb dX6_mark_68 rfl ?_
      refine my_zast1 hx hb hK hP hD hS 1 rfl (by omega) (k := ((1000 * zi) + dz).toNat) (rfl) dX6_mark_69 (fun H locs hP hD hS => ?_)
      have hP : va_P D vwCl [(km, .inr (6, [.int (iI (0)), .int (iI (((sh : Nat) : Int))), .int (iI (((it : Nat) : Int))), .int (iI (((dy : Nat) : Int))), .int (iI (lc)), .int (iI (sv)), .int (iI (lr)), .int (iI (sr)), .ref pL, .ref pP, .ref pC, .ref pI, .ref pM, .ref pS, .ref pV, .ref pN, .ref pE, .ref pA, .ref pO, .ref pT, .ref pD, .ref pG, .ref pW])), (pM, arZ cs 5000 (upI mM (((1000 * zi) + dz).toNat) 1))] H := hP
      have hD : va_D A [(km, .inr (6, [.int (iI (0)), .int (iI (((sh : Nat) : Int))), .int (iI (((it : Nat) : Int))), .int (iI (((dy : Nat) : Int))), .int (iI (lc)), .int (iI (sv)), .int (iI (lr)), .int (iI (sr)), .ref pL, .ref pP, .ref pC, .ref pI, .ref pM, .ref pS, .ref pV, .ref pN, .ref pE, .ref pA, .ref pO, .ref pT, .ref pD, .ref pG, .ref pW])), (pM, arZ cs 5000 (upI mM (((1000 * zi) + dz).toNat) 1))] := hD
      refine lv_iload_n hx hb dX6_mark_70 rfl (lv_at hl 0 rfl) ?_
      have hWe : ([(km, .inr (6, [.int (iI (0)), .int (iI (((sh : Nat) : Int))), .int (iI (((it : Nat) : Int))), .int (iI (((dy : Nat) : Int))), .int (iI (lc)), .int (iI (sv)), .int (iI (lr)), .int (iI (sr)), .ref pL, .ref pP, .ref pC, .ref pI, .ref pM, .ref pS, .ref pV, .ref pN, .ref pE, .ref pA, .ref pO, .ref pT, .ref pD, .ref pG, .ref pW])), (pM, arZ cs 5000 (upI mM (((1000 * zi) + dz).toNat) 1))] : va_W) = [(km, .inr (6, [.int (iI ((((cd2 (0 ≤ zi ∧ zi < (it : Int)) (((dy : Nat) : Int) ≤ dz ∧ dz ≤ 999)) : Nat) : Int))), .int (iI (((sh : Nat) : Int))), .int (iI (((it : Nat) : Int))), .int (iI (((dy : Nat) : Int))), .int (iI (lc)), .int (iI (sv)), .int (iI (lr)), .int (iI (sr)), .ref pL, .ref pP, .ref pC, .ref pI, .ref pM, .ref pS, .ref pV, .ref pN, .ref pE, .ref pA, .ref pO, .ref pT, .ref pD, .ref pG, .ref pW])), (pM, arZ cs 5000 (if cd2 (0 ≤ zi ∧ zi < (it : Int)) (((dy : Nat) : Int) ≤ dz ∧ dz ≤ 999) = 0 then upI mM (1000 * zi + dz).toNat 1 else mM))] := by
        have hcd : cd2 (0 ≤ zi ∧ zi < (it : Int)) (((dy : Nat) : Int) ≤ dz ∧ dz ≤ 999) = 0 := by unfold cd2; (repeat' split) <;> omega
        rw [hcd]
        first | rfl | (simp; done)
      rw [hWe] at hP
      subst hAe
      have hres : iI (mM (((1000 * zi) + dz).toNat)) = iI (if cd2 (0 ≤ zi ∧ zi < (it : Int)) (((dy : Nat) : Int) ≤ dz ∧ dz ≤ 999) = 0 then mM (1000 * zi + dz).toNat else 0) := congrArg iI (by
          have hcd : cd2 (0 ≤ zi ∧ zi < (it : Int)) (((dy : Nat) : Int) ≤ dz ∧ dz ≤ 999) = 0 := by unfold cd2; (repeat' split) <;> omega
          rw [hcd]
          first | rfl | (simp; done))
      exact W.zret hx hb hr (nar01 (hmM _)) (fun t ht hW => ⟨⟨_, (), rfl, hres, by show va_P D vwCl _ t.heap; rw [ht]; exact hP⟩, hS.F ht⟩) hS.2.2 dX6_mark_71
  · refine lv_iconst (v := iI (1)) hx hb dX6_mark_9 rfl ?_
    refine lv_goto (tgt := 32) hx hb dX6_mark_10 (by decide) ?_
    refine my_put hx hb hts inAX6 tyX6_ok nmX6 hown hK hP hD hS 0 rfl rfl 0 (by decide) w_801 rfl rfl rfl (Nat.le_of_ble_eq_true rfl) dX6_mark_32 (fun H locs hP hD hS => ?_)
    have hP : va_P D vwCl [(km, .inr (6, [.int (iI (1)), .int (iI (((sh : Nat) : Int))), .int (iI (((it : Nat) : Int))), .int (iI (((dy : Nat) : Int))), .int (iI (lc)), .int (iI (sv)), .int (iI (lr)), .int (iI (sr)), .ref pL, .ref pP, .ref pC, .ref pI, .ref pM, .ref pS, .ref pV, .ref pN, .ref pE, .ref pA, .ref pO, .ref pT, .ref pD, .ref pG, .ref pW])), (pM, arZ cs 5000 mM)] H := hP
    have hD : va_D A [(km, .inr (6, [.int (iI (1)), .int (iI (((sh : Nat) : Int))), .int (iI (((it : Nat) : Int))), .int (iI (((dy : Nat) : Int))), .int (iI (lc)), .int (iI (sv)), .int (iI (lr)), .int (iI (sr)), .ref pL, .ref pP, .ref pC, .ref pI, .ref pM, .ref pS, .ref pV, .ref pN, .ref pE, .ref pA, .ref pO, .ref pT, .ref pD, .ref pG, .ref pW])), (pM, arZ cs 5000 mM)] := hD
    refine lv_aload_n hx hb dX6_mark_35 rfl (lv_at hl 0 rfl) ?_
    refine my_get hx hb hts inAX6 hown hK hP 0 rfl rfl 0 (by decide) w_801 rfl rfl dX6_mark_36 ?_
    refine my_if_le (tgt := 44) hx hb (by omega) dX6_mark_39 (by decide) (fun b7 => (by omega : False).elim) (fun b7 => ?_)
    refine lv_iconst (v := iI (0)) hx hb dX6_mark_42 rfl ?_
    have hWe : ([(km, .inr (6, [.int (iI (1)), .int (iI (((sh : Nat) : Int))), .int (iI (((it : Nat) : Int))), .int (iI (((dy : Nat) : Int))), .int (iI (lc)), .int (iI (sv)), .int (iI (lr)), .int (iI (sr)), .ref pL, .ref pP, .ref pC, .ref pI, .ref pM, .ref pS, .ref pV, .ref pN, .ref pE, .ref pA, .ref pO, .ref pT, .ref pD, .ref pG, .ref pW])), (pM, arZ cs 5000 mM)] : va_W) = [(km, .inr (6, [.int (iI ((((cd2 (0 ≤ zi ∧ zi < (it : Int)) (((dy : Nat) : Int) ≤ dz ∧ dz ≤ 999)) : Nat) : Int))), .int (iI (((sh : Nat) : Int))), .int (iI (((it : Nat) : Int))), .int (iI (((dy : Nat) : Int))), .int (iI (lc)), .int (iI (sv)), .int (iI (lr)), .int (iI (sr)), .ref pL, .ref pP, .ref pC, .ref pI, .ref pM, .ref pS, .ref pV, .ref pN, .ref pE, .ref pA, .ref pO, .ref pT, .ref pD, .ref pG, .ref pW])), (pM, arZ cs 5000 (if cd2 (0 ≤ zi ∧ zi < (it : Int)) (((dy : Nat) : Int) ≤ dz ∧ dz ≤ 999) = 0 then upI mM (1000 * zi + dz).toNat 1 else mM))] := by
      have hcd : cd2 (0 ≤ zi ∧ zi < (it : Int)) (((dy : Nat) : Int) ≤ dz ∧ dz ≤ 999) = 1 := by unfold cd2; (repeat' split) <;> omega
      rw [hcd]
      first | rfl | (simp; done)
    rw [hWe] at hP
    subst hAe
    have hres : iI (0) = iI (if cd2 (0 ≤ zi ∧ zi < (it : Int)) (((dy : Nat) : Int) ≤ dz ∧ dz ≤ 999) = 0 then mM (1000 * zi + dz).toNat else 0) := congrArg iI (by
        have hcd : cd2 (0 ≤ zi ∧ zi < (it : Int)) (((dy : Nat) : Int) ≤ dz ∧ dz ≤ 999) = 1 := by unfold cd2; (repeat' split) <;> omega
        rw [hcd]
        first | rfl | (simp; done))
    exact W.zret hx hb hr (by decide) (fun t ht hW => ⟨⟨_, (), rfl, hres, by show va_P D vwCl _ t.heap; rw [ht]; exact hP⟩, hS.F ht⟩) hS.2.2 dX6_mark_43

abbrev ws_X6_isMarked : List Cond := Cond.code yX6_isMarked cX6_isMarked 3 (some .boolean) :: ALL
set_option maxHeartbeats 4000000 in
set_option maxRecDepth 100000 in
theorem m_X6_isMarked (l : Launch) (D : va_G) (cs : Nat → ClassId) (km pL pP pC pI pM pS pV pN pE pA pO pT pD pG pW sh it : Nat) (th : Int) (dy : Nat) (lc sv lr sr : Int) (mM : Nat → Int) (zi dz : Int) (hit : it ≤ 5) (hmM : ∀ j, 0 ≤ mM j ∧ mM j ≤ 1) (hzi : -2147483648 ≤ zi ∧ zi < 2147483648) (hdz : -2147483648 ≤ dz ∧ dz < 2147483648) : Met l yX6_isMarked ws_X6_isMarked ({ frames := 2, cells := 0, slots := 0, locals := 43 }) (va_Pc [.ref km, .int (iI (zi)), .int (iI (dz))] (PC D cs [(km, .inr (6, [.int (iI (th)), .int (iI (((sh : Nat) : Int))), .int (iI (((it : Nat) : Int))), .int (iI (((dy : Nat) : Int))), .int (iI (lc)), .int (iI (sv)), .int (iI (lr)), .int (iI (sr)), .ref pL, .ref pP, .ref pC, .ref pI, .ref pM, .ref pS, .ref pV, .ref pN, .ref pE, .ref pA, .ref pO, .ref pT, .ref pD, .ref pG, .ref pW])), (pM, arZ cs 5000 mM)])) (va_Qi (fun r (_ : Unit) => r = iI (if cd2 (0 ≤ zi ∧ zi < (it : Int)) (0 ≤ dz ∧ dz ≤ 999) = 0 then mM (1000 * zi + dz).toNat else 0)) (fun _ t => va_P D vwCl [(km, .inr (6, [.int (iI ((((cd2 (0 ≤ zi ∧ zi < (it : Int)) (0 ≤ dz ∧ dz ≤ 999)) : Nat) : Int))), .int (iI (((sh : Nat) : Int))), .int (iI (((it : Nat) : Int))), .int (iI (((dy : Nat) : Int))), .int (iI (lc)), .int (iI (sv)), .int (iI (lr)), .int (iI (sr)), .ref pL, .ref pP, .ref pC, .ref pI, .ref pM, .ref pS, .ref pV, .ref pN, .ref pE, .ref pA, .ref pO, .ref pT, .ref pD, .ref pG, .ref pW])), (pM, arZ cs 5000 mM)] t.heap) (inW [(km, .inr (6, [.int (iI (th)), .int (iI (((sh : Nat) : Int))), .int (iI (((it : Nat) : Int))), .int (iI (((dy : Nat) : Int))), .int (iI (lc)), .int (iI (sv)), .int (iI (lr)), .int (iI (sr)), .ref pL, .ref pP, .ref pC, .ref pI, .ref pM, .ref pS, .ref pV, .ref pN, .ref pE, .ref pA, .ref pO, .ref pT, .ref pD, .ref pG, .ref pW])), (pM, arZ cs 5000 mM)])) 0 0 (inW [(km, .inr (6, [.int (iI (th)), .int (iI (((sh : Nat) : Int))), .int (iI (((it : Nat) : Int))), .int (iI (((dy : Nat) : Int))), .int (iI (lc)), .int (iI (sv)), .int (iI (lr)), .int (iI (sr)), .ref pL, .ref pP, .ref pC, .ref pI, .ref pM, .ref pS, .ref pV, .ref pN, .ref pE, .ref pA, .ref pO, .ref pT, .ref pD, .ref pG, .ref pW])), (pM, arZ cs 5000 mM)]) := by
  refine Met.ofW (cc := cX6_isMarked) (maxL := 3) (ret := (some .boolean)) (by decide +kernel) rfl ?_
  intro p e s m args below meth c s₁ B hml hv
  obtain ⟨rfl, hP, hK, hD, hN⟩ := hv
  have hx := B.exec
  have hb := B.bytes
  have hr := B.returns
  have hts : ∀ w ∈ ALL, w.before _ s = true := fun w h => atoms_spec (ws := ws_X6_isMarked) B.pre w (List.mem_cons_of_mem _ h)
  have hown : s.vm.findClass RX6 = some m.cls := findClass_of_methodNamed B.named
  have hlocks := B.notSynchronized
  generalize hAe : inW [(km, .inr (6, [.int (iI (th)), .int (iI (((sh : Nat) : Int))), .int (iI (((it : Nat) : Int))), .int (iI (((dy : Nat) : Int))), .int (iI (lc)), .int (iI (sv)), .int (iI (lr)), .int (iI (sr)), .ref pL, .ref pP, .ref pC, .ref pI, .ref pM, .ref pS, .ref pV, .ref pN, .ref pE, .ref pA, .ref pO, .ref pT, .ref pD, .ref pG, .ref pW])), (pM, arZ cs 5000 mM)] = A at hD ⊢
  have hS : va_S A s.heap s.heap [] := va_S.rf
  have hl := lv_entry ([.ref km, .int (iI (zi)), .int (iI (dz))]) (n := 3) (Nat.le_of_ble_eq_true rfl)
  rw [lg_entry_eq]
  generalize (lg_sl ([.ref km, .int (iI (zi)), .int (iI (dz))]) ++ List.replicate (3 - (lg_sl ([.ref km, .int (iI (zi)), .int (iI (dz))])).length) Slot.unset).toArray = ls at hl ⊢
  have hl : lv_has ls 3 [(0, .ref km), (1, .int (iI (zi))), (2, .int (iI (dz)))] := hl
  have hH := rfl (a := s.heap)
  refine lv_aload_n hx hb dX6_isMarked_0 rfl (lv_at hl 0 rfl) ?_
  refine lv_aload_n hx hb dX6_isMarked_1 rfl (lv_at hl 0 rfl) ?_
  refine lv_iload_n hx hb dX6_isMarked_2 rfl (lv_at hl 1 rfl) ?_
  have pk1 : picks [(km, .inr (6, [.int (iI (th)), .int (iI (((sh : Nat) : Int))), .int (iI (((it : Nat) : Int))), .int (iI (((dy : Nat) : Int))), .int (iI (lc)), .int (iI (sv)), .int (iI (lr)), .int (iI (sr)), .ref pL, .ref pP, .ref pC, .ref pI, .ref pM, .ref pS, .ref pV, .ref pN, .ref pE, .ref pA, .ref pO, .ref pT, .ref pD, .ref pG, .ref pW])), (pM, arZ cs 5000 mM)] [0] [(km, .inr (6, [.int (iI (th)), .int (iI (((sh : Nat) : Int))), .int (iI (((it : Nat) : Int))), .int (iI (((dy : Nat) : Int))), .int (iI (lc)), .int (iI (sv)), .int (iI (lr)), .int (iI (sr)), .ref pL, .ref pP, .ref pC, .ref pI, .ref pM, .ref pS, .ref pV, .ref pN, .ref pE, .ref pA, .ref pO, .ref pT, .ref pD, .ref pG, .ref pW]))] := ⟨rfl, trivial⟩
  refine va_calli (va_runV (As := [.int (iI (zi))]) (rest := [.ref km]) ⟨hx, hb, hml, hown, hts⟩ (m_X6_isItem l D cs km pL pP pC pI pM pS pV pN pE pA pO pT pD pG pW sh it th dy lc sv lr sr zi (by assumption) (by omega)) (cwV 1 hts (gV w_899 w_901 w_p18 w_5 w_902) rfl rfl rfl (by decide +kernel) ⟨Nat.le_of_ble_eq_true rfl, Nat.le_of_ble_eq_true rfl⟩) (PC_V hK hN hP hD [0] rfl pk1 rfl rfl) rfl rfl hl.1 rfl (lv_room (Nat.le_of_ble_eq_true rfl)) dX6_isMarked_3 ⟨Nat.le_of_ble_eq_true rfl, Nat.le_of_ble_eq_true rfl⟩) hS (fun _ _ h => False.elim h) (fun _ h => False.elim h) (fun r u t H locs ht hvm hw hB hz1 hk1 hS => ?_)
  subst hw
  have hP := P_kept hP hk1
  have hok := okI_s it zi
  refine my_if_ne (tgt := 13) hx hb (by omega) dX6_isMarked_6 (by decide) (fun b2 => ?_) (fun b2 => ?_)
  · refine lv_iload_n hx hb dX6_isMarked_13 rfl (lv_at hl 2 rfl) ?_
    refine lv_iconst (v := iI (0)) hx hb dX6_isMarked_14 rfl ?_
    refine lv_sipush (v := iI (999)) hx hb dX6_isMarked_15 (by decide) ?_
    have pk3 : picks [(km, .inr (6, [.int (iI (th)), .int (iI (((sh : Nat) : Int))), .int (iI (((it : Nat) : Int))), .int (iI (((dy : Nat) : Int))), .int (iI (lc)), .int (iI (sv)), .int (iI (lr)), .int (iI (sr)), .ref pL, .ref pP, .ref pC, .ref pI, .ref pM, .ref pS, .ref pV, .ref pN, .ref pE, .ref pA, .ref pO, .ref pT, .ref pD, .ref pG, .ref pW])), (pM, arZ cs 5000 mM)] [] [] := trivial
    refine va_calli (va_runS (As := [.int (iI (dz)), .int (iI (0)), .int (iI (999))]) (rest := [.ref km]) ⟨hx, hb, hml, hown, hts⟩ (m_X6_in l D cs dz 0 999 (by omega) (by omega) (by omega)) (va_cwS 3 hts (gS w_880 w_881 w_5 w_882) rfl rfl rfl (by decide +kernel) ⟨Nat.le_of_ble_eq_true rfl, Nat.le_of_ble_eq_true rfl⟩) (PC_S hK hN hP hD [] rfl pk3) rfl rfl hl.1 rfl (lv_room (Nat.le_of_ble_eq_true rfl)) dX6_isMarked_18 ⟨Nat.le_of_ble_eq_true rfl, Nat.le_of_ble_eq_true rfl⟩) hS (fun _ _ h => False.elim h) (fun _ h => False.elim h) (fun r u t H locs ht hvm hw hB hz1 hk1 hS => ?_)
    subst hw
    have hP := P_kept hP hk1
    have hin := inI_s dz 0 999
    refine my_if_eq (tgt := 28) hx hb (by omega) dX6_isMarked_21 (by decide) (fun b4 => ?_) (fun b4 => ?_)
    · refine lv_iconst (v := iI (2)) hx hb dX6_isMarked_28 rfl ?_
      refine my_put hx hb hts inAX6 tyX6_ok nmX6 hown hK hP hD hS 0 rfl rfl 0 (by decide) w_801 rfl rfl rfl (Nat.le_of_ble_eq_true rfl) dX6_isMarked_29 (fun H locs hP hD hS => ?_)
      have hP : va_P D vwCl [(km, .inr (6, [.int (iI (2)), .int (iI (((sh : Nat) : Int))), .int (iI (((it : Nat) : Int))), .int (iI (((dy : Nat) : Int))), .int (iI (lc)), .int (iI (sv)), .int (iI (lr)), .int (iI (sr)), .ref pL, .ref pP, .ref pC, .ref pI, .ref pM, .ref pS, .ref pV, .ref pN, .ref pE, .ref pA, .ref pO, .ref pT, .ref pD, .ref pG, .ref pW])), (pM, arZ cs 5000 mM)] H := hP
      have hD : va_D A [(km, .inr (6, [.int (iI (2)), .int (iI (((sh : Nat) : Int))), .int (iI (((it : Nat) : Int))), .int (iI (((dy : Nat) : Int))), .int (iI (lc)), .int (iI (sv)), .int (iI (lr)), .int (iI (sr)), .ref pL, .ref pP, .ref pC, .ref pI, .ref pM, .ref pS, .ref pV, .ref pN, .ref pE, .ref pA, .ref pO, .ref pT, .ref pD, .ref pG, .ref pW])), (pM, arZ cs 5000 mM)] := hD
      refine lv_aload_n hx hb dX6_isMarked_32 rfl (lv_at hl 0 rfl) ?_
      refine my_get hx hb hts inAX6 hown hK hP 0 rfl rfl 0 (by decide) w_801 rfl rfl dX6_isMarked_33 ?_
      refine my_if_ne (tgt := 58) hx hb (by omega) dX6_isMarked_36 (by decide) (fun b5 => ?_) (fun b5 => (by omega : False).elim)
      refine lv_iconst (v := iI (0)) hx hb dX6_isMarked_58 rfl ?_
      have hWe : ([(km, .inr (6, [.int (iI (2)), .int (iI (((sh : Nat) : Int))), .int (iI (((it : Nat) : Int))), .int (iI (((dy : Nat) : Int))), .int (iI (lc)), .int (iI (sv)), .int (iI (lr)), .int (iI (sr)), .ref pL, .ref pP, .ref pC, .ref pI, .ref pM, .ref pS, .ref pV, .ref pN, .ref pE, .ref pA, .ref pO, .ref pT, .ref pD, .ref pG, .ref pW])), (pM, arZ cs 5000 mM)] : va_W) = [(km, .inr (6, [.int (iI ((((cd2 (0 ≤ zi ∧ zi < (it : Int)) (0 ≤ dz ∧ dz ≤ 999)) : Nat) : Int))), .int (iI (((sh : Nat) : Int))), .int (iI (((it : Nat) : Int))), .int (iI (((dy : Nat) : Int))), .int (iI (lc)), .int (iI (sv)), .int (iI (lr)), .int (iI (sr)), .ref pL, .ref pP, .ref pC, .ref pI, .ref pM, .ref pS, .ref pV, .ref pN, .ref pE, .ref pA, .ref pO, .ref pT, .ref pD, .ref pG, .ref pW])), (pM, arZ cs 5000 mM)] := by
        have hcd : cd2 (0 ≤ zi ∧ zi < (it : Int)) (0 ≤ dz ∧ dz ≤ 999) = 2 := by unfold cd2; (repeat' split) <;> omega
        rw [hcd]
        first | rfl | (simp; done)
      rw [hWe] at hP
      subst hAe
      have hres : iI (0) = iI (if cd2 (0 ≤ zi ∧ zi < (it : Int)) (0 ≤ dz ∧ dz ≤ 999) = 0 then mM (1000 * zi + dz).toNat else 0) := congrArg iI (by
          have hcd : cd2 (0 ≤ zi ∧ zi < (it : Int)) (0 ≤ dz ∧ dz ≤ 999) = 2 := by unfold cd2; (repeat' split) <;> omega
          rw [hcd]
          first | rfl | (rw [if_pos rfl]; omega))
      exact W.zret hx hb hr (by decide) (fun t ht hW => ⟨⟨_, (), rfl, hres, by show va_P D vwCl _ t.heap; rw [ht]; exact hP⟩, hS.F ht⟩) hS.2.2 dX6_isMarked_59
    · refine lv_iconst (v := iI (0)) hx hb dX6_isMarked_24 rfl ?_
      refine lv_goto (tgt := 29) hx hb dX6_isMarked_25 (by decide) ?_
      refine my_put hx hb hts inAX6 tyX6_ok nmX6 hown hK hP hD hS 0 rfl rfl 0 (by decide) w_801 rfl rfl rfl (Nat.le_of_ble_eq_true rfl) dX6_isMarked_29 (fun H locs hP hD hS => ?_)
      have hP : va_P D vwCl [(km, .inr (6, [.int (iI (0)), .int (iI (((sh : Nat) : Int))), .int (iI (((it : Nat) : Int))), .int (iI (((dy : Nat) : Int))), .int (iI (lc)), .int (iI (sv)), .int (iI (lr)), .int (iI (sr)), .ref pL, .ref pP, .ref pC, .ref pI, .ref pM, .ref pS, .ref pV, .ref pN, .ref pE, .ref pA, .ref pO, .ref pT, .ref pD, .ref pG, .ref pW])), (pM, arZ cs 5000 mM)] H := hP
      have hD : va_D A [(km, .inr (6, [.int (iI (0)), .int (iI (((sh : Nat) : Int))), .int (iI (((it : Nat) : Int))), .int (iI (((dy : Nat) : Int))), .int (iI (lc)), .int (iI (sv)), .int (iI (lr)), .int (iI (sr)), .ref pL, .ref pP, .ref pC, .ref pI, .ref pM, .ref pS, .ref pV, .ref pN, .ref pE, .ref pA, .ref pO, .ref pT, .ref pD, .ref pG, .ref pW])), (pM, arZ cs 5000 mM)] := hD
      refine lv_aload_n hx hb dX6_isMarked_32 rfl (lv_at hl 0 rfl) ?_
      refine my_get hx hb hts inAX6 hown hK hP 0 rfl rfl 0 (by decide) w_801 rfl rfl dX6_isMarked_33 ?_
      refine my_if_ne (tgt := 58) hx hb (by omega) dX6_isMarked_36 (by decide) (fun b6 => (by omega : False).elim) (fun b6 => ?_)
      refine lv_aload_n hx hb dX6_isMarked_39 rfl (lv_at hl 0 rfl) ?_
      refine my_get hx hb hts inAX6 hown hK hP 0 rfl rfl 12 (by decide) w_813 rfl rfl dX6_isMarked_40 ?_
      refine lv_sipush (v := iI (1000)) hx hb dX6_isMarked_43 (by decide) ?_
      refine lv_iload_n hx hb dX6_isMarked_46 rfl (lv_at hl 1 rfl) ?_
      refine my_imul (z := 1000 * zi) hx hb dX6_isMarked_47 (rfl) ?_
      refine lv_iload_n hx hb dX6_isMarked_48 rfl (lv_at hl 2 rfl) ?_
      refine my_iadd (z := (1000 * zi) + dz) hx hb dX6_isMarked_49 (rfl) ?_
      have hmm := hmM (1000 * zi + dz).toNat
      refine my_zald hx hb hK hP 1 rfl (by omega) (k := ((1000 * zi) + dz).toNat) (rfl) dX6_isMarked_50 ?_
      refine my_if_eq (tgt := 58) hx hb (by omega) dX6_isMarked_51 (by decide) (fun b7 => ?_) (fun b7 => ?_)
      · refine lv_iconst (v := iI (0)) hx hb dX6_isMarked_58 rfl ?_
        have hWe : ([(km, .inr (6, [.int (iI (0)), .int (iI (((sh : Nat) : Int))), .int (iI (((it : Nat) : Int))), .int (iI (((dy : Nat) : Int))), .int (iI (lc)), .int (iI (sv)), .int (iI (lr)), .int (iI (sr)), .ref pL, .ref pP, .ref pC, .ref pI, .ref pM, .ref pS, .ref pV, .ref pN, .ref pE, .ref pA, .ref pO, .ref pT, .ref pD, .ref pG, .ref pW])), (pM, arZ cs 5000 mM)] : va_W) = [(km, .inr (6, [.int (iI ((((cd2 (0 ≤ zi ∧ zi < (it : Int)) (0 ≤ dz ∧ dz ≤ 999)) : Nat) : Int))), .int (iI (((sh : Nat) : Int))), .int (iI (((it : Nat) : Int))), .int (iI (((dy : Nat) : Int))), .int (iI (lc)), .int (iI (sv)), .int (iI (lr)), .int (iI (sr)), .ref pL, .ref pP, .ref pC, .ref pI, .ref pM, .ref pS, .ref pV, .ref pN, .ref pE, .ref pA, .ref pO, .ref pT, .ref pD, .ref pG, .ref pW])), (pM, arZ cs 5000 mM)] := by
          have hcd : cd2 (0 ≤ zi ∧ zi < (it : Int)) (0 ≤ dz ∧ dz ≤ 999) = 0 := by unfold cd2; (repeat' split) <;> omega
          rw [hcd]
          first | rfl | (simp; done)
        rw [hWe] at hP
        subst hAe
        have hres : iI (0) = iI (if cd2 (0 ≤ zi ∧ zi < (it : Int)) (0 ≤ dz ∧ dz ≤ 999) = 0 then mM (1000 * zi + dz).toNat else 0) := congrArg iI (by
            have hcd : cd2 (0 ≤ zi ∧ zi < (it : Int)) (0 ≤ dz ∧ dz ≤ 999) = 0 := by unfold cd2; (repeat' split) <;> omega
            rw [hcd]
            first | rfl | (rw [if_pos rfl]; omega))
        exact W.zret hx hb hr (by decide) (fun t ht hW => ⟨⟨_, (), rfl, hres, by show va_P D vwCl _ t.heap; rw [ht]; exact hP⟩, hS.F ht⟩) hS.2.2 dX6_isMarked_59
      · refine lv_iconst (v := iI (1)) hx hb dX6_isMarked_54 rfl ?_
        refine lv_goto (tgt := 59) hx hb dX6_isMarked_55 (by decide) ?_
        have hWe : ([(km, .inr (6, [.int (iI (0)), .int (iI (((sh : Nat) : Int))), .int (iI (((it : Nat) : Int))), .int (iI (((dy : Nat) : Int))), .int (iI (lc)), .int (iI (sv)), .int (iI (lr)), .int (iI (sr)), .ref pL, .ref pP, .ref pC, .ref pI, .ref pM, .ref pS, .ref pV, .ref pN, .ref pE, .ref pA, .ref pO, .ref pT, .ref pD, .ref pG, .ref pW])), (pM, arZ cs 5000 mM)] : va_W) = [(km, .inr (6, [.int (iI ((((cd2 (0 ≤ zi ∧ zi < (it : Int)) (0 ≤ dz ∧ dz ≤ 999)) : Nat) : Int))), .int (iI (((sh : Nat) : Int))), .int (iI (((it : Nat) : Int))), .int (iI (((dy : Nat) : Int))), .int (iI (lc)), .int (iI (sv)), .int (iI (lr)), .int (iI (sr)), .ref pL, .ref pP, .ref pC, .ref pI, .ref pM, .ref pS, .ref pV, .ref pN, .ref pE, .ref pA, .ref pO, .ref pT, .ref pD, .ref pG, .ref pW])), (pM, arZ cs 5000 mM)] := by
          have hcd : cd2 (0 ≤ zi ∧ zi < (it : Int)) (0 ≤ dz ∧ dz ≤ 999) = 0 := by unfold cd2; (repeat' split) <;> omega
          rw [hcd]
          first | rfl | (simp; done)
        rw [hWe] at hP
        subst hAe
        have hres : iI (1) = iI (if cd2 (0 ≤ zi ∧ zi < (it : Int)) (0 ≤ dz ∧ dz ≤ 999) = 0 then mM (1000 * zi + dz).toNat else 0) := congrArg iI (by
            have hcd : cd2 (0 ≤ zi ∧ zi < (it : Int)) (0 ≤ dz ∧ dz ≤ 999) = 0 := by unfold cd2; (repeat' split) <;> omega
            rw [hcd]
            first | rfl | (rw [if_pos rfl]; omega))
        exact W.zret hx hb hr (by decide) (fun t ht hW => ⟨⟨_, (), rfl, hres, by show va_P D vwCl _ t.heap; rw [ht]; exact hP⟩, hS.F ht⟩) hS.2.2 dX6_isMarked_59
  · refine lv_iconst (v := iI (1)) hx hb dX6_isMarked_9 rfl ?_
    refine lv_goto (tgt := 29) hx hb dX6_isMarked_10 (by decide) ?_
    refine my_put hx hb hts inAX6 tyX6_ok nmX6 hown hK hP hD hS 0 rfl rfl 0 (by decide) w_801 rfl rfl rfl (Nat.le_of_ble_eq_true rfl) dX6_isMarked_29 (fun H locs hP hD hS => ?_)
    have hP : va_P D vwCl [(km, .inr (6, [.int (iI (1)), .int (iI (((sh : Nat) : Int))), .int (iI (((it : Nat) : Int))), .int (iI (((dy : Nat) : Int))), .int (iI (lc)), .int (iI (sv)), .int (iI (lr)), .int (iI (sr)), .ref pL, .ref pP, .ref pC, .ref pI, .ref pM, .ref pS, .ref pV, .ref pN, .ref pE, .ref pA, .ref pO, .ref pT, .ref pD, .ref pG, .ref pW])), (pM, arZ cs 5000 mM)] H := hP
    have hD : va_D A [(km, .inr (6, [.int (iI (1)), .int (iI (((sh : Nat) : Int))), .int (iI (((it : Nat) : Int))), .int (iI (((dy : Nat) : Int))), .int (iI (lc)), .int (iI (sv)), .int (iI (lr)), .int (iI (sr)), .ref pL, .ref pP, .ref pC, .ref pI, .ref pM, .ref pS, .ref pV, .ref pN, .ref pE, .ref pA, .ref pO, .ref pT, .ref pD, .ref pG, .ref pW])), (pM, arZ cs 5000 mM)] := hD
    refine lv_aload_n hx hb dX6_isMarked_32 rfl (lv_at hl 0 rfl) ?_
    refine my_get hx hb hts inAX6 hown hK hP 0 rfl rfl 0 (by decide) w_801 rfl rfl dX6_isMarked_33 ?_
    refine my_if_ne (tgt := 58) hx hb (by omega) dX6_isMarked_36 (by decide) (fun b8 => ?_) (fun b8 => (by omega : False).elim)
    refine lv_iconst (v := iI (0)) hx hb dX6_isMarked_58 rfl ?_
    have hWe : ([(km, .inr (6, [.int (iI (1)), .int (iI (((sh : Nat) : Int))), .int (iI (((it : Nat) : Int))), .int (iI (((dy : Nat) : Int))), .int (iI (lc)), .int (iI (sv)), .int (iI (lr)), .int (iI (sr)), .ref pL, .ref pP, .ref pC, .ref pI, .ref pM, .ref pS, .ref pV, .ref pN, .ref pE, .ref pA, .ref pO, .ref pT, .ref pD, .ref pG, .ref pW])), (pM, arZ cs 5000 mM)] : va_W) = [(km, .inr (6, [.int (iI ((((cd2 (0 ≤ zi ∧ zi < (it : Int)) (0 ≤ dz ∧ dz ≤ 999)) : Nat) : Int))), .int (iI (((sh : Nat) : Int))), .int (iI (((it : Nat) : Int))), .int (iI (((dy : Nat) : Int))), .int (iI (lc)), .int (iI (sv)), .int (iI (lr)), .int (iI (sr)), .ref pL, .ref pP, .ref pC, .ref pI, .ref pM, .ref pS, .ref pV, .ref pN, .ref pE, .ref pA, .ref pO, .ref pT, .ref pD, .ref pG, .ref pW])), (pM, arZ cs 5000 mM)] := by
      have hcd : cd2 (0 ≤ zi ∧ zi < (it : Int)) (0 ≤ dz ∧ dz ≤ 999) = 1 := by unfold cd2; (repeat' split) <;> omega
      rw [hcd]
      first | rfl | (simp; done)
    rw [hWe] at hP
    subst hAe
    have hres : iI (0) = iI (if cd2 (0 ≤ zi ∧ zi < (it : Int)) (0 ≤ dz ∧ dz ≤ 999) = 0 then mM (1000 * zi + dz).toNat else 0) := congrArg iI (by
        have hcd : cd2 (0 ≤ zi ∧ zi < (it : Int)) (0 ≤ dz ∧ dz ≤ 999) = 1 := by unfold cd2; (repeat' split) <;> omega
        rw [hcd]
        first | rfl | (rw [if_pos rfl]; omega))
    exact W.zret hx hb hr (by decide) (fun t ht hW => ⟨⟨_, (), rfl, hres, by show va_P D vwCl _ t.heap; rw [ht]; exact hP⟩, hS.F ht⟩) hS.2.2 dX6_isMarked_59

abbrev ws_X6_demand : List Cond := Cond.code yX6_demand cX6_demand 6 (some .int) :: ALL
set_option maxHeartbeats 4000000 in
set_option maxRecDepth 100000 in
theorem m_X6_demand (l : Launch) (D : va_G) (cs : Nat → ClassId) (km pL pP pC pI pM pS pV pN pE pA pO pT pD pG pW sh it : Nat) (th : Int) (dy : Nat) (lc sv lr sr : Int) (mI : Nat → Int) (mA : Nat → Int) (mS : Nat → Int) (mO : Nat → Int) (mT : Nat → Int) (zs zi uz : Int) (hsh : sh ≤ 4) (hit : it ≤ 5) (hmI : ∀ j, 0 ≤ mI j ∧ mI j ≤ 1) (hmA : ∀ j, 0 ≤ mA j ∧ mA j ≤ 999) (hmS : ∀ j, 0 ≤ mS j ∧ mS j ≤ 100000000) (hzs : -2147483648 ≤ zs ∧ zs < 2147483648) (hzi : -2147483648 ≤ zi ∧ zi < 2147483648) (huz : -2147483648 ≤ uz ∧ uz < 2147483648) : Met l yX6_demand ws_X6_demand ({ frames := 3, cells := 0, slots := 0, locals := 65 }) (va_Pc [.ref km, .int (iI (zs)), .int (iI (zi)), .int (iI (uz))] (PC D cs [(km, .inr (6, [.int (iI (th)), .int (iI (((sh : Nat) : Int))), .int (iI (((it : Nat) : Int))), .int (iI (((dy : Nat) : Int))), .int (iI (lc)), .int (iI (sv)), .int (iI (lr)), .int (iI (sr)), .ref pL, .ref pP, .ref pC, .ref pI, .ref pM, .ref pS, .ref pV, .ref pN, .ref pE, .ref pA, .ref pO, .ref pT, .ref pD, .ref pG, .ref pW])), (pI, arZ cs 20 mI), (pA, arI cs 20 mA), (pS, arI cs 20 mS), (pO, arI cs 20 mO), (pT, arI cs 20 mT)])) (va_Qi (fun r (_ : Unit) => r = iI (if cdD (cdM sh it mI zs zi) (1 ≤ uz ∧ uz ≤ 99) (mA (5 * zs + zi).toNat + uz ≤ 999) = 0 then mnI uz (mS (5 * zs + zi).toNat) else 0)) (fun _ t => va_P D vwCl [(km, .inr (6, [.int (iI ((((cdD (cdM sh it mI zs zi) (1 ≤ uz ∧ uz ≤ 99) (mA (5 * zs + zi).toNat + uz ≤ 999)) : Nat) : Int))), .int (iI (((sh : Nat) : Int))), .int (iI (((it : Nat) : Int))), .int (iI (((dy : Nat) : Int))), .int (iI (lc)), .int (iI (sv)), .int (iI (lr)), .int (iI (sr)), .ref pL, .ref pP, .ref pC, .ref pI, .ref pM, .ref pS, .ref pV, .ref pN, .ref pE, .ref pA, .ref pO, .ref pT, .ref pD, .ref pG, .ref pW])), (pI, arZ cs 20 mI), (pA, arI cs 20 (if cdD (cdM sh it mI zs zi) (1 ≤ uz ∧ uz ≤ 99) (mA (5 * zs + zi).toNat + uz ≤ 999) = 0 then upI mA (5 * zs + zi).toNat (mA (5 * zs + zi).toNat + uz) else mA)), (pS, arI cs 20 (if cdD (cdM sh it mI zs zi) (1 ≤ uz ∧ uz ≤ 99) (mA (5 * zs + zi).toNat + uz ≤ 999) = 0 then upI mS (5 * zs + zi).toNat (mS (5 * zs + zi).toNat - mnI uz (mS (5 * zs + zi).toNat)) else mS)), (pO, arI cs 20 (if cdD (cdM sh it mI zs zi) (1 ≤ uz ∧ uz ≤ 99) (mA (5 * zs + zi).toNat + uz ≤ 999) = 0 then upI mO (5 * zs + zi).toNat (mO (5 * zs + zi).toNat + mnI uz (mS (5 * zs + zi).toNat)) else mO)), (pT, arI cs 20 (if cdD (cdM sh it mI zs zi) (1 ≤ uz ∧ uz ≤ 99) (mA (5 * zs + zi).toNat + uz ≤ 999) = 0 then upI mT (5 * zs + zi).toNat (mT (5 * zs + zi).toNat + (uz - mnI uz (mS (5 * zs + zi).toNat))) else mT))] t.heap) (inW [(km, .inr (6, [.int (iI (th)), .int (iI (((sh : Nat) : Int))), .int (iI (((it : Nat) : Int))), .int (iI (((dy : Nat) : Int))), .int (iI (lc)), .int (iI (sv)), .int (iI (lr)), .int (iI (sr)), .ref pL, .ref pP, .ref pC, .ref pI, .ref pM, .ref pS, .ref pV, .ref pN, .ref pE, .ref pA, .ref pO, .ref pT, .ref pD, .ref pG, .ref pW])), (pI, arZ cs 20 mI), (pA, arI cs 20 mA), (pS, arI cs 20 mS), (pO, arI cs 20 mO), (pT, arI cs 20 mT)])) 0 0 (inW [(km, .inr (6, [.int (iI (th)), .int (iI (((sh : Nat) : Int))), .int (iI (((it : Nat) : Int))), .int (iI (((dy : Nat) : Int))), .int (iI (lc)), .int (iI (sv)), .int (iI (lr)), .int (iI (sr)), .ref pL, .ref pP, .ref pC, .ref pI, .ref pM, .ref pS, .ref pV, .ref pN, .ref pE, .ref pA, .ref pO, .ref pT, .ref pD, .ref pG, .ref pW])), (pI, arZ cs 20 mI), (pA, arI cs 20 mA), (pS, arI cs 20 mS), (pO, arI cs 20 mO), (pT, arI cs 20 mT)]) := by
  refine Met.ofW (cc := cX6_demand) (maxL := 6) (ret := (some .int)) (by decide +kernel) rfl ?_
  intro p e s m args below meth c s₁ B hml hv
  obtain ⟨rfl, hP, hK, hD, hN⟩ := hv
  have hx := B.exec
  have hb := B.bytes
  have hr := B.returns
  have hts : ∀ w ∈ ALL, w.before _ s = true := fun w h => atoms_spec (ws := ws_X6_demand) B.pre w (List.mem_cons_of_mem _ h)
  have hown : s.vm.findClass RX6 = some m.cls := findClass_of_methodNamed B.named
  have hlocks := B.notSynchronized
  generalize hAe : inW [(km, .inr (6, [.int (iI (th)), .int (iI (((sh : Nat) : Int))), .int (iI (((it : Nat) : Int))), .int (iI (((dy : Nat) : Int))), .int (iI (lc)), .int (iI (sv)), .int (iI (lr)), .int (iI (sr)), .ref pL, .ref pP, .ref pC, .ref pI, .ref pM, .ref pS, .ref pV, .ref pN, .ref pE, .ref pA, .ref pO, .ref pT, .ref pD, .ref pG, .ref pW])), (pI, arZ cs 20 mI), (pA, arI cs 20 mA), (pS, arI cs 20 mS), (pO, arI cs 20 mO), (pT, arI cs 20 mT)] = A at hD ⊢
  have hS : va_S A s.heap s.heap [] := va_S.rf
  have hl := lv_entry ([.ref km, .int (iI (zs)), .int (iI (zi)), .int (iI (uz))]) (n := 6) (Nat.le_of_ble_eq_true rfl)
  rw [lg_entry_eq]
  generalize (lg_sl ([.ref km, .int (iI (zs)), .int (iI (zi)), .int (iI (uz))]) ++ List.replicate (6 - (lg_sl ([.ref km, .int (iI (zs)), .int (iI (zi)), .int (iI (uz))])).length) Slot.unset).toArray = ls at hl ⊢
  have hl : lv_has ls 6 [(0, .ref km), (1, .int (iI (zs))), (2, .int (iI (zi))), (3, .int (iI (uz)))] := hl
  have hH := rfl (a := s.heap)
  refine lv_aload_n hx hb dX6_demand_0 rfl (lv_at hl 0 rfl) ?_
  refine lv_iload_n hx hb dX6_demand_1 rfl (lv_at hl 1 rfl) ?_
  refine lv_iload_n hx hb dX6_demand_2 rfl (lv_at hl 2 rfl) ?_
  have pk1 : picks [(km, .inr (6, [.int (iI (th)), .int (iI (((sh : Nat) : Int))), .int (iI (((it : Nat) : Int))), .int (iI (((dy : Nat) : Int))), .int (iI (lc)), .int (iI (sv)), .int (iI (lr)), .int (iI (sr)), .ref pL, .ref pP, .ref pC, .ref pI, .ref pM, .ref pS, .ref pV, .ref pN, .ref pE, .ref pA, .ref pO, .ref pT, .ref pD, .ref pG, .ref pW])), (pI, arZ cs 20 mI), (pA, arI cs 20 mA), (pS, arI cs 20 mS), (pO, arI cs 20 mO), (pT, arI cs 20 mT)] [0, 1] [(km, .inr (6, [.int (iI (th)), .int (iI (((sh : Nat) : Int))), .int (iI (((it : Nat) : Int))), .int (iI (((dy : Nat) : Int))), .int (iI (lc)), .int (iI (sv)), .int (iI (lr)), .int (iI (sr)), .ref pL, .ref pP, .ref pC, .ref pI, .ref pM, .ref pS, .ref pV, .ref pN, .ref pE, .ref pA, .ref pO, .ref pT, .ref pD, .ref pG, .ref pW])), (pI, arZ cs 20 mI)] := ⟨rfl, rfl, trivial⟩
  refine va_calli (va_runV (As := [.int (iI (zs)), .int (iI (zi))]) (rest := []) ⟨hx, hb, hml, hown, hts⟩ (m_X6_isLine l D cs km pL pP pC pI pM pS pV pN pE pA pO pT pD pG pW sh it th dy lc sv lr sr mI zs zi (by assumption) (by assumption) (by assumption) (by omega) (by omega)) (cwV 2 hts (gV w_932 w_934 w_p19 w_5 w_935) rfl rfl rfl (by decide +kernel) ⟨Nat.le_of_ble_eq_true rfl, Nat.le_of_ble_eq_true rfl⟩) (PC_V hK hN hP hD [0, 1] rfl pk1 rfl rfl) rfl rfl hl.1 rfl (lv_room (Nat.le_of_ble_eq_true rfl)) dX6_demand_3 ⟨Nat.le_of_ble_eq_true rfl, Nat.le_of_ble_eq_true rfl⟩) hS (fun q _ h => inW_sub hD [0, 1] pk1 q h) (fun q h => inW_sub hD [0, 1] pk1 q h) (fun r u t H locs ht hvm hw hB hz1 hk1 hS => ?_)
  subst hw
  rw [ht] at hB
  obtain ⟨hP, hD⟩ := my_join (W1 := [(km, .inr (6, [.int (iI (((cdM sh it mI zs zi : Nat) : Int))), .int (iI (((sh : Nat) : Int))), .int (iI (((it : Nat) : Int))), .int (iI (((dy : Nat) : Int))), .int (iI (lc)), .int (iI (sv)), .int (iI (lr)), .int (iI (sr)), .ref pL, .ref pP, .ref pC, .ref pI, .ref pM, .ref pS, .ref pV, .ref pN, .ref pE, .ref pA, .ref pO, .ref pT, .ref pD, .ref pG, .ref pW])), (pI, arZ cs 20 mI)]) hP hD [0, 1] rfl pk1 rfl hk1 hB
  have hP : va_P D vwCl [(km, .inr (6, [.int (iI (((cdM sh it mI zs zi : Nat) : Int))), .int (iI (((sh : Nat) : Int))), .int (iI (((it : Nat) : Int))), .int (iI (((dy : Nat) : Int))), .int (iI (lc)), .int (iI (sv)), .int (iI (lr)), .int (iI (sr)), .ref pL, .ref pP, .ref pC, .ref pI, .ref pM, .ref pS, .ref pV, .ref pN, .ref pE, .ref pA, .ref pO, .ref pT, .ref pD, .ref pG, .ref pW])), (pI, arZ cs 20 mI), (pA, arI cs 20 mA), (pS, arI cs 20 mS), (pO, arI cs 20 mO), (pT, arI cs 20 mT)] H := hP
  have hD : va_D A [(km, .inr (6, [.int (iI (((cdM sh it mI zs zi : Nat) : Int))), .int (iI (((sh : Nat) : Int))), .int (iI (((it : Nat) : Int))), .int (iI (((dy : Nat) : Int))), .int (iI (lc)), .int (iI (sv)), .int (iI (lr)), .int (iI (sr)), .ref pL, .ref pP, .ref pC, .ref pI, .ref pM, .ref pS, .ref pV, .ref pN, .ref pE, .ref pA, .ref pO, .ref pT, .ref pD, .ref pG, .ref pW])), (pI, arZ cs 20 mI), (pA, arI cs 20 mA), (pS, arI cs 20 mS), (pO, arI cs 20 mO), (pT, arI cs 20 mT)] := hD
  have hcm := cdM_s sh it mI zs zi
  have hbb := b01_s (cdM sh it mI zs zi)
  refine my_if_ne (tgt := 11) hx hb (by omega) dX6_demand_6 (by decide) (fun b2 => ?_) (fun b2 => ?_)
  · refine lv_iconst (v := iI (5)) hx hb dX6_demand_11 rfl ?_
    refine lv_iload_n hx hb dX6_demand_12 rfl (lv_at hl 1 rfl) ?_
    refine my_imul (z := 5 * zs) hx hb dX6_demand_13 (rfl) ?_
    refine lv_iload_n hx hb dX6_demand_14 rfl (lv_at hl 2 rfl) ?_
    refine my_iadd (z := (5 * zs) + zi) hx hb dX6_demand_15 (rfl) ?_
    refine my_cv0 (z := ((((5 * zs + zi).toNat) : Nat) : Int)) (by omega) ?_
    refine lv_istore (lv' := [(4, .int (iI (((((5 * zs + zi).toNat) : Nat) : Int)))), (0, .ref km), (1, .int (iI (zs))), (2, .int (iI (zi))), (3, .int (iI (uz)))]) hx hb dX6_demand_16 hl (by decide) rfl (fun ls hl => ?_)
    refine lv_iload_n hx hb dX6_demand_18 rfl (lv_at hl 4 rfl) ?_
    refine lv_iconst (v := iI (1)) hx hb dX6_demand_19 rfl ?_
    refine lv_bipush (v := iI (99)) hx hb dX6_demand_20 (by decide) ?_
    have pk3 : picks [(km, .inr (6, [.int (iI (((cdM sh it mI zs zi : Nat) : Int))), .int (iI (((sh : Nat) : Int))), .int (iI (((it : Nat) : Int))), .int (iI (((dy : Nat) : Int))), .int (iI (lc)), .int (iI (sv)), .int (iI (lr)), .int (iI (sr)), .ref pL, .ref pP, .ref pC, .ref pI, .ref pM, .ref pS, .ref pV, .ref pN, .ref pE, .ref pA, .ref pO, .ref pT, .ref pD, .ref pG, .ref pW])), (pI, arZ cs 20 mI), (pA, arI cs 20 mA), (pS, arI cs 20 mS), (pO, arI cs 20 mO), (pT, arI cs 20 mT)] [] [] := trivial
    refine va_calli (va_runS (As := [.int (iI (uz)), .int (iI (1)), .int (iI (99))]) (rest := []) ⟨hx, hb, hml, hown, hts⟩ (m_X6_in l D cs uz 1 99 (by omega) (by omega) (by omega)) (va_cwS 3 hts (gS w_880 w_881 w_5 w_882) rfl rfl rfl (by decide +kernel) ⟨Nat.le_of_ble_eq_true rfl, Nat.le_of_ble_eq_true rfl⟩) (PC_S hK hN hP hD [] rfl pk3) rfl rfl hl.1 rfl (lv_room (Nat.le_of_ble_eq_true rfl)) dX6_demand_22 ⟨Nat.le_of_ble_eq_true rfl, Nat.le_of_ble_eq_true rfl⟩) hS (fun _ _ h => False.elim h) (fun _ h => False.elim h) (fun r u t H locs ht hvm hw hB hz1 hk1 hS => ?_)
    subst hw
    have hP := P_kept hP hk1
    have hin := inI_s uz 1 99
    refine my_if_ne (tgt := 34) hx hb (by omega) dX6_demand_25 (by decide) (fun b4 => ?_) (fun b4 => ?_)
    · refine lv_aload_n hx hb dX6_demand_34 rfl (lv_at hl 1 rfl) ?_
      have hma := hmA (5 * zs + zi).toNat
      have hms := hmS (5 * zs + zi).toNat
      refine my_get hx hb hts inAX6 hown hK hP 0 rfl rfl 17 (by decide) w_818 rfl rfl dX6_demand_35 ?_
      refine lv_iload hx hb dX6_demand_38 (lv_at hl 0 rfl) ?_
      refine my_iald hx hb hK hP 2 rfl (by omega) (k := (5 * zs + zi).toNat) (Int.toNat_natCast _) dX6_demand_40 ?_
      refine lv_iload_n hx hb dX6_demand_41 rfl (lv_at hl 4 rfl) ?_
      refine my_iadd (z := (mA ((5 * zs + zi).toNat)) + uz) hx hb dX6_demand_42 (rfl) ?_
      refine lv_sipush (v := iI (999)) hx hb dX6_demand_43 (by decide) ?_
      refine my_icmp_le (tgt := 55) hx hb (by omega) dX6_demand_46 (by decide) (fun b5 => ?_) (fun b5 => ?_)
      · refine lv_iload_n hx hb dX6_demand_55 rfl (lv_at hl 4 rfl) ?_
        refine lv_aload_n hx hb dX6_demand_56 rfl (lv_at hl 1 rfl) ?_
        refine my_get hx hb hts inAX6 hown hK hP 0 rfl rfl 13 (by decide) w_814 rfl rfl dX6_demand_57 ?_
        refine lv_iload hx hb dX6_demand_60 (lv_at hl 0 rfl) ?_
        refine my_iald hx hb hK hP 3 rfl (by omega) (k := (5 * zs + zi).toNat) (Int.toNat_natCast _) dX6_demand_62 ?_
        refine my_icmp_ge (tgt := 70) hx hb (by omega) dX6_demand_63 (by decide) (fun b6 => ?_) (fun b6 => ?_)
        · refine lv_aload_n hx hb dX6_demand_70 rfl (lv_at hl 1 rfl) ?_
          refine my_get hx hb hts inAX6 hown hK hP 0 rfl rfl 13 (by decide) w_814 rfl rfl dX6_demand_71 ?_
          refine lv_iload hx hb dX6_demand_74 (lv_at hl 0 rfl) ?_
          refine my_iald hx hb hK hP 3 rfl (by omega) (k := (5 * zs + zi).toNat) (Int.toNat_natCast _) dX6_demand_76 ?_
          refine my_cv0 (z := mnI uz (mS (5 * zs + zi).toNat)) (by unfold mnI; split <;> omega) ?_
          refine lv_istore (lv' := [(5, .int (iI (mnI uz (mS (5 * zs + zi).toNat)))), (4, .int (iI (((((5 * zs + zi).toNat) : Nat) : Int)))), (0, .ref km), (1, .int (iI (zs))), (2, .int (iI (zi))), (3, .int (iI (uz)))]) hx hb dX6_demand_77 hl (by decide) rfl (fun ls hl => ?_)
          refine lv_aload_n hx hb dX6_demand_79 rfl (lv_at hl 2 rfl) ?_
          refine my_get hx hb hts inAX6 hown hK hP 0 rfl rfl 17 (by decide) w_818 rfl rfl dX6_demand_80 ?_
          refine lv_iload hx hb dX6_demand_83 (lv_at hl 1 rfl) ?_
          refine lv_dup2_11 hx hb dX6_demand_85 rfl rfl ?_
          refine my_iald hx hb hK hP 2 rfl (by omega) (k := (5 * zs + zi).toNat) (Int.toNat_natCast _) dX6_demand_86 ?_
          refine lv_iload_n hx hb dX6_demand_87 rfl (lv_at hl 5 rfl) ?_
          refine my_iadd (z := (mA ((5 * zs + zi).toNat)) + uz) hx hb dX6_demand_88 (rfl) ?_
          refine my_iast hx hb hK hP hD hS 2 rfl (by omega) (k := (5 * zs + zi).toNat) (Int.toNat_natCast _) dX6_demand_89 (fun H locs hP hD hS => ?_)
          have hP : va_P D vwCl [(km, .inr (6, [.int (iI (((cdM sh it mI zs zi : Nat) : Int))), .int (iI (((sh : Nat) : Int))), .int (iI (((it : Nat) : Int))), .int (iI (((dy : Nat) : Int))), .int (iI (lc)), .int (iI (sv)), .int (iI (lr)), .int (iI (sr)), .ref pL, .ref pP, .ref pC, .ref pI, .ref pM, .ref pS, .ref pV, .ref pN, .ref pE, .ref pA, .ref pO, .ref pT, .ref pD, .ref pG, .ref pW])), (pI, arZ cs 20 mI), (pA, arI cs 20 (upI mA ((5 * zs + zi).toNat) ((mA ((5 * zs + zi).toNat)) + uz))), (pS, arI cs 20 mS), (pO, arI cs 20 mO), (pT, arI cs 20 mT)] H := hP
          have hD : va_D A [(km, .inr (6, [.int (iI (((cdM sh it mI zs zi : Nat) : Int))), .int (iI (((sh : Nat) : Int))), .int (iI (((it : Nat) : Int))), .int (iI (((dy : Nat) : Int))), .int (iI (lc)), .int (iI (sv)), .int (iI (lr)), .int (iI (sr)), .ref pL, .ref pP, .ref pC, .ref pI, .ref pM, .ref pS, .ref pV, .ref pN, .ref pE, .ref pA, .ref pO, .ref pT, .ref pD, .ref pG, .ref pW])), (pI, arZ cs 20 mI), (pA, arI cs 20 (upI mA ((5 * zs + zi).toNat) ((mA ((5 * zs + zi).toNat)) + uz))), (pS, arI cs 20 mS), (pO, arI cs 20 mO), (pT, arI cs 20 mT)] := hD
          refine lv_aload_n hx hb dX6_demand_90 rfl (lv_at hl 2 rfl) ?_
          refine my_get hx hb hts inAX6 hown hK hP 0 rfl rfl 13 (by decide) w_814 rfl rfl dX6_demand_91 ?_
          refine lv_iload hx hb dX6_demand_94 (lv_at hl 1 rfl) ?_
          refine lv_dup2_11 hx hb dX6_demand_96 rfl rfl ?_
          refine my_iald hx hb hK hP 3 rfl (by omega) (k := (5 * zs + zi).toNat) (Int.toNat_natCast _) dX6_demand_97 ?_
          refine lv_iload hx hb dX6_demand_98 (lv_at hl 0 rfl) ?_
          refine my_isub (z := (mS ((5 * zs + zi).toNat)) - (mnI uz (mS (5 * zs + zi).toNat))) hx hb dX6_demand_100 (rfl) ?_
          refine my_iast hx hb hK hP hD hS 3 rfl (by omega) (k := (5 * zs + zi).toNat) (Int.toNat_natCast _) dX6_demand_101 (fun H locs hP hD hS => ?_)
          have hP : va_P D vwCl [(km, .inr (6, [.int (iI (((cdM sh it mI zs zi : Nat) : Int))), .int (iI (((sh : Nat) : Int))), .int (iI (((it : Nat) : Int))), .int (iI (((dy : Nat) : Int))), .int (iI (lc)), .int (iI (sv)), .int (iI (lr)), .int (iI (sr)), .ref pL, .ref pP, .ref pC, .ref pI, .ref pM, .ref pS, .ref pV, .ref pN, .ref pE, .ref pA, .ref pO, .ref pT, .ref pD, .ref pG, .ref pW])), (pI, arZ cs 20 mI), (pA, arI cs 20 (upI mA ((5 * zs + zi).toNat) ((mA ((5 * zs + zi).toNat)) + uz))), (pS, arI cs 20 (upI mS ((5 * zs + zi).toNat) ((mS ((5 * zs + zi).toNat)) - (mnI uz (mS (5 * zs + zi).toNat))))), (pO, arI cs 20 mO), (pT, arI cs 20 mT)] H := hP
          have hD : va_D A [(km, .inr (6, [.int (iI (((cdM sh it mI zs zi : Nat) : Int))), .int (iI (((sh : Nat) : Int))), .int (iI (((it : Nat) : Int))), .int (iI (((dy : Nat) : Int))), .int (iI (lc)), .int (iI (sv)), .int (iI (lr)), .int (iI (sr)), .ref pL, .ref pP, .ref pC, .ref pI, .ref pM, .ref pS, .ref pV, .ref pN, .ref pE, .ref pA, .ref pO, .ref pT, .ref pD, .ref pG, .ref pW])), (pI, arZ cs 20 mI), (pA, arI cs 20 (upI mA ((5 * zs + zi).toNat) ((mA ((5 * zs + zi).toNat)) + uz))), (pS, arI cs 20 (upI mS ((5 * zs + zi).toNat) ((mS ((5 * zs + zi).toNat)) - (mnI uz (mS (5 * zs + zi).toNat))))), (pO, arI cs 20 mO), (pT, arI cs 20 mT)] := hD
          refine lv_aload_n hx hb dX6_demand_102 rfl (lv_at hl 2 rfl) ?_
          refine my_get hx hb hts inAX6 hown hK hP 0 rfl rfl 18 (by decide) w_819 rfl rfl dX6_demand_103 ?_
          refine lv_iload hx hb dX6_demand_106 (lv_at hl 1 rfl) ?_
          refine lv_dup2_11 hx hb dX6_demand_108 rfl rfl ?_
          refine my_iald hx hb hK hP 4 rfl (by omega) (k := (5 * zs + zi).toNat) (Int.toNat_natCast _) dX6_demand_109 ?_
          refine lv_iload hx hb dX6_demand_110 (lv_at hl 0 rfl) ?_
          refine my_iadd (z := (mO ((5 * zs + zi).toNat)) + (mnI uz (mS (5 * zs + zi).toNat))) hx hb dX6_demand_112 (rfl) ?_
          refine my_iast hx hb hK hP hD hS 4 rfl (by omega) (k := (5 * zs + zi).toNat) (Int.toNat_natCast _) dX6_demand_113 (fun H locs hP hD hS => ?_)
          have hP : va_P D vwCl [(km, .inr (6, [.int (iI (((cdM sh it mI zs zi : Nat) : Int))), .int (iI (((sh : Nat) : Int))), .int (iI (((it : Nat) : Int))), .int (iI (((dy : Nat) : Int))), .int (iI (lc)), .int (iI (sv)), .int (iI (lr)), .int (iI (sr)), .ref pL, .ref pP, .ref pC, .ref pI, .ref pM, .ref pS, .ref pV, .ref pN, .ref pE, .ref pA, .ref pO, .ref pT, .ref pD, .ref pG, .ref pW])), (pI, arZ cs 20 mI), (pA, arI cs 20 (upI mA ((5 * zs + zi).toNat) ((mA ((5 * zs + zi).toNat)) + uz))), (pS, arI cs 20 (upI mS ((5 * zs + zi).toNat) ((mS ((5 * zs + zi).toNat)) - (mnI uz (mS (5 * zs + zi).toNat))))), (pO, arI cs 20 (upI mO ((5 * zs + zi).toNat) ((mO ((5 * zs + zi).toNat)) + (mnI uz (mS (5 * zs + zi).toNat))))), (pT, arI cs 20 mT)] H := hP
          have hD : va_D A [(km, .inr (6, [.int (iI (((cdM sh it mI zs zi : Nat) : Int))), .int (iI (((sh : Nat) : Int))), .int (iI (((it : Nat) : Int))), .int (iI (((dy : Nat) : Int))), .int (iI (lc)), .int (iI (sv)), .int (iI (lr)), .int (iI (sr)), .ref pL, .ref pP, .ref pC, .ref pI, .ref pM, .ref pS, .ref pV, .ref pN, .ref pE, .ref pA, .ref pO, .ref pT, .ref pD, .ref pG, .ref pW])), (pI, arZ cs 20 mI), (pA, arI cs 20 (upI mA ((5 * zs + zi).toNat) ((mA ((5 * zs + zi).toNat)) + uz))), (pS, arI cs 20 (upI mS ((5 * zs + zi).toNat) ((mS ((5 * zs + zi).toNat)) - (mnI uz (mS (5 * zs + zi).toNat))))), (pO, arI cs 20 (upI mO ((5 * zs + zi).toNat) ((mO ((5 * zs + zi).toNat)) + (mnI uz (mS (5 * zs + zi).toNat))))), (pT, arI cs 20 mT)] := hD
          refine lv_aload_n hx hb dX6_demand_114 rfl (lv_at hl 2 rfl) ?_
          refine my_get hx hb hts inAX6 hown hK hP 0 rfl rfl 19 (by decide) w_820 rfl rfl dX6_demand_115 ?_
          refine lv_iload hx hb dX6_demand_118 (lv_at hl 1 rfl) ?_
          refine lv_dup2_11 hx hb dX6_demand_120 rfl rfl ?_
          refine my_iald hx hb hK hP 5 rfl (by omega) (k := (5 * zs + zi).toNat) (Int.toNat_natCast _) dX6_demand_121 ?_
          refine lv_iload_n hx hb dX6_demand_122 rfl (lv_at hl 5 rfl) ?_
          refine lv_iload hx hb dX6_demand_123 (lv_at hl 0 rfl) ?_
          refine my_isub (z := uz - (mnI uz (mS (5 * zs + zi).toNat))) hx hb dX6_demand_125 (rfl) ?_
          refine my_iadd (z := (mT ((5 * zs + zi).toNat)) + (uz - (mnI uz (mS (5 * zs + zi).toNat)))) hx hb dX6_demand_126 (rfl) ?_
          refine my_iast hx hb hK hP hD hS 5 rfl (by omega) (k := (5 * zs + zi).toNat) (Int.toNat_natCast _) dX6_demand_127 (fun H locs hP hD hS => ?_)
          have hP : va_P D vwCl [(km, .inr (6, [.int (iI (((cdM sh it mI zs zi : Nat) : Int))), .int (iI (((sh : Nat) : Int))), .int (iI (((it : Nat) : Int))), .int (iI (((dy : Nat) : Int))), .int (iI (lc)), .int (iI (sv)), .int (iI (lr)), .int (iI (sr)), .ref pL, .ref pP, .ref pC, .ref pI, .ref pM, .ref pS, .ref pV, .ref pN, .ref pE, .ref pA, .ref pO, .ref pT, .ref pD, .ref pG, .ref pW])), (pI, arZ cs 20 mI), (pA, arI cs 20 (upI mA ((5 * zs + zi).toNat) ((mA ((5 * zs + zi).toNat)) + uz))), (pS, arI cs 20 (upI mS ((5 * zs + zi).toNat) ((mS ((5 * zs + zi).toNat)) - (mnI uz (mS (5 * zs + zi).toNat))))), (pO, arI cs 20 (upI mO ((5 * zs + zi).toNat) ((mO ((5 * zs + zi).toNat)) + (mnI uz (mS (5 * zs + zi).toNat))))), (pT, arI cs 20 (upI mT ((5 * zs + zi).toNat) ((mT ((5 * zs + zi).toNat)) + (uz - (mnI uz (mS (5 * zs + zi).toNat))))))] H := hP
          have hD : va_D A [(km, .inr (6, [.int (iI (((cdM sh it mI zs zi : Nat) : Int))), .int (iI (((sh : Nat) : Int))), .int (iI (((it : Nat) : Int))), .int (iI (((dy : Nat) : Int))), .int (iI (lc)), .int (iI (sv)), .int (iI (lr)), .int (iI (sr)), .ref pL, .ref pP, .ref pC, .ref pI, .ref pM, .ref pS, .ref pV, .ref pN, .ref pE, .ref pA, .ref pO, .ref pT, .ref pD, .ref pG, .ref pW])), (pI, arZ cs 20 mI), (pA, arI cs 20 (upI mA ((5 * zs + zi).toNat) ((mA ((5 * zs + zi).toNat)) + uz))), (pS, arI cs 20 (upI mS ((5 * zs + zi).toNat) ((mS ((5 * zs + zi).toNat)) - (mnI uz (mS (5 * zs + zi).toNat))))), (pO, arI cs 20 (upI mO ((5 * zs + zi).toNat) ((mO ((5 * zs + zi).toNat)) + (mnI uz (mS (5 * zs + zi).toNat))))), (pT, arI cs 20 (upI mT ((5 * zs + zi).toNat) ((mT ((5 * zs + zi).toNat)) + (uz - (mnI uz (mS (5 * zs + zi).toNat))))))] := hD
          refine lv_iload hx hb dX6_demand_128 (lv_at hl 0 rfl) ?_
          have hWe : ([(km, .inr (6, [.int (iI (((cdM sh it mI zs zi : Nat) : Int))), .int (iI (((sh : Nat) : Int))), .int (iI (((it : Nat) : Int))), .int (iI (((dy : Nat) : Int))), .int (iI (lc)), .int (iI (sv)), .int (iI (lr)), .int (iI (sr)), .ref pL, .ref pP, .ref pC, .ref pI, .ref pM, .ref pS, .ref pV, .ref pN, .ref pE, .ref pA, .ref pO, .ref pT, .ref pD, .ref pG, .ref pW])), (pI, arZ cs 20 mI), (pA, arI cs 20 (upI mA ((5 * zs + zi).toNat) ((mA ((5 * zs + zi).toNat)) + uz))), (pS, arI cs 20 (upI mS ((5 * zs + zi).toNat) ((mS ((5 * zs + zi).toNat)) - (mnI uz (mS (5 * zs + zi).toNat))))), (pO, arI cs 20 (upI mO ((5 * zs + zi).toNat) ((mO ((5 * zs + zi).toNat)) + (mnI uz (mS (5 * zs + zi).toNat))))), (pT, arI cs 20 (upI mT ((5 * zs + zi).toNat) ((mT ((5 * zs + zi).toNat)) + (uz - (mnI uz (mS (5 * zs + zi).toNat))))))] : va_W) = [(km, .inr (6, [.int (iI ((((cdD (cdM sh it mI zs zi) (1 ≤ uz ∧ uz ≤ 99) (mA (5 * zs + zi).toNat + uz ≤ 999)) : Nat) : Int))), .int (iI (((sh : Nat) : Int))), .int (iI (((it : Nat) : Int))), .int (iI (((dy : Nat) : Int))), .int (iI (lc)), .int (iI (sv)), .int (iI (lr)), .int (iI (sr)), .ref pL, .ref pP, .ref pC, .ref pI, .ref pM, .ref pS, .ref pV, .ref pN, .ref pE, .ref pA, .ref pO, .ref pT, .ref pD, .ref pG, .ref pW])), (pI, arZ cs 20 mI), (pA, arI cs 20 (if cdD (cdM sh it mI zs zi) (1 ≤ uz ∧ uz ≤ 99) (mA (5 * zs + zi).toNat + uz ≤ 999) = 0 then upI mA (5 * zs + zi).toNat (mA (5 * zs + zi).toNat + uz) else mA)), (pS, arI cs 20 (if cdD (cdM sh it mI zs zi) (1 ≤ uz ∧ uz ≤ 99) (mA (5 * zs + zi).toNat + uz ≤ 999) = 0 then upI mS (5 * zs + zi).toNat (mS (5 * zs + zi).toNat - mnI uz (mS (5 * zs + zi).toNat)) else mS)), (pO, arI cs 20 (if cdD (cdM sh it mI zs zi) (1 ≤ uz ∧ uz ≤ 99) (mA (5 * zs + zi).toNat + uz ≤ 999) = 0 then upI mO (5 * zs + zi).toNat (mO (5 * zs + zi).toNat + mnI uz (mS (5 * zs + zi).toNat)) else mO)), (pT, arI cs 20 (if cdD (cdM sh it mI zs zi) (1 ≤ uz ∧ uz ≤ 99) (mA (5 * zs + zi).toNat + uz ≤ 999) = 0 then upI mT (5 * zs + zi).toNat (mT (5 * zs + zi).toNat + (uz - mnI uz (mS (5 * zs + zi).toNat))) else mT))] := by
            have hcd : cdD (cdM sh it mI zs zi) (1 ≤ uz ∧ uz ≤ 99) (mA (5 * zs + zi).toNat + uz ≤ 999) = cdM sh it mI zs zi := by unfold cdD; (repeat' split) <;> omega
            rw [hcd]
            first | rfl | (rw [if_neg (by omega), if_neg (by omega), if_neg (by omega), if_neg (by omega)]; done) | (rw [if_pos (by omega), if_pos (by omega), if_pos (by omega), if_pos (by omega)]; done) | (simp; done)
          rw [hWe] at hP
          subst hAe
          have hres : iI (mnI uz (mS (5 * zs + zi).toNat)) = iI (if cdD (cdM sh it mI zs zi) (1 ≤ uz ∧ uz ≤ 99) (mA (5 * zs + zi).toNat + uz ≤ 999) = 0 then mnI uz (mS (5 * zs + zi).toNat) else 0) := congrArg iI (by
              have hcd : cdD (cdM sh it mI zs zi) (1 ≤ uz ∧ uz ≤ 99) (mA (5 * zs + zi).toNat + uz ≤ 999) = cdM sh it mI zs zi := by unfold cdD; (repeat' split) <;> omega
              rw [hcd]
              first | rfl | (rw [if_neg (by omega)]; done) | (rw [if_pos (by omega)]; done) | (simp; done))
          exact W.iret hx hb hr (fun t ht hW => ⟨⟨_, (), rfl, hres, by show va_P D vwCl _ t.heap; rw [ht]; exact hP⟩, hS.F ht⟩) hS.2.2 dX6_demand_130
        · refine lv_iload_n hx hb dX6_demand_66 rfl (lv_at hl 4 rfl) ?_
          refine lv_goto (tgt := 77) hx hb dX6_demand_67 (by decide) ?_
          refine my_cv0 (z := mnI uz (mS (5 * zs + zi).toNat)) (by unfold mnI; split <;> omega) ?_
          refine lv_istore (lv' := [(5, .int (iI (mnI uz (mS (5 * zs + zi).toNat)))), (4, .int (iI (((((5 * zs + zi).toNat) : Nat) : Int)))), (0, .ref km), (1, .int (iI (zs))), (2, .int (iI (zi))), (3, .int (iI (uz)))]) hx hb dX6_demand_77 hl (by decide) rfl (fun ls hl => ?_)
          refine lv_aload_n hx hb dX6_demand_79 rfl (lv_at hl 2 rfl) ?_
          refine my_get hx hb hts inAX6 hown hK hP 0 rfl rfl 17 (by decide) w_818 rfl rfl dX6_demand_80 ?_
          refine lv_iload hx hb dX6_demand_83 (lv_at hl 1 rfl) ?_
          refine lv_dup2_11 hx hb dX6_demand_85 rfl rfl ?_
          refine my_iald hx hb hK hP 2 rfl (by omega) (k := (5 * zs + zi).toNat) (Int.toNat_natCast _) dX6_demand_86 ?_
          refine lv_iload_n hx hb dX6_demand_87 rfl (lv_at hl 5 rfl) ?_
          refine my_iadd (z := (mA ((5 * zs + zi).toNat)) + uz) hx hb dX6_demand_88 (rfl) ?_
          refine my_iast hx hb hK hP hD hS 2 rfl (by omega) (k := (5 * zs + zi).toNat) (Int.toNat_natCast _) dX6_demand_89 (fun H locs hP hD hS => ?_)
          have hP : va_P D vwCl [(km, .inr (6, [.int (iI (((cdM sh it mI zs zi : Nat) : Int))), .int (iI (((sh : Nat) : Int))), .int (iI (((it : Nat) : Int))), .int (iI (((dy : Nat) : Int))), .int (iI (lc)), .int (iI (sv)), .int (iI (lr)), .int (iI (sr)), .ref pL, .ref pP, .ref pC, .ref pI, .ref pM, .ref pS, .ref pV, .ref pN, .ref pE, .ref pA, .ref pO, .ref pT, .ref pD, .ref pG, .ref pW])), (pI, arZ cs 20 mI), (pA, arI cs 20 (upI mA ((5 * zs + zi).toNat) ((mA ((5 * zs + zi).toNat)) + uz))), (pS, arI cs 20 mS), (pO, arI cs 20 mO), (pT, arI cs 20 mT)] H := hP
          have hD : va_D A [(km, .inr (6, [.int (iI (((cdM sh it mI zs zi : Nat) : Int))), .int (iI (((sh : Nat) : Int))), .int (iI (((it : Nat) : Int))), .int (iI (((dy : Nat) : Int))), .int (iI (lc)), .int (iI (sv)), .int (iI (lr)), .int (iI (sr)), .ref pL, .ref pP, .ref pC, .ref pI, .ref pM, .ref pS, .ref pV, .ref pN, .ref pE, .ref pA, .ref pO, .ref pT, .ref pD, .ref pG, .ref pW])), (pI, arZ cs 20 mI), (pA, arI cs 20 (upI mA ((5 * zs + zi).toNat) ((mA ((5 * zs + zi).toNat)) + uz))), (pS, arI cs 20 mS), (pO, arI cs 20 mO), (pT, arI cs 20 mT)] := hD
          refine lv_aload_n hx hb dX6_demand_90 rfl (lv_at hl 2 rfl) ?_
          refine my_get hx hb hts inAX6 hown hK hP 0 rfl rfl 13 (by decide) w_814 rfl rfl dX6_demand_91 ?_
          refine lv_iload hx hb dX6_demand_94 (lv_at hl 1 rfl) ?_
          refine lv_dup2_11 hx hb dX6_demand_96 rfl rfl ?_
          refine my_iald hx hb hK hP 3 rfl (by omega) (k := (5 * zs + zi).toNat) (Int.toNat_natCast _) dX6_demand_97 ?_
          refine lv_iload hx hb dX6_demand_98 (lv_at hl 0 rfl) ?_
          refine my_isub (z := (mS ((5 * zs + zi).toNat)) - (mnI uz (mS (5 * zs + zi).toNat))) hx hb dX6_demand_100 (rfl) ?_
          refine my_iast hx hb hK hP hD hS 3 rfl (by omega) (k := (5 * zs + zi).toNat) (Int.toNat_natCast _) dX6_demand_101 (fun H locs hP hD hS => ?_)
          have hP : va_P D vwCl [(km, .inr (6, [.int (iI (((cdM sh it mI zs zi : Nat) : Int))), .int (iI (((sh : Nat) : Int))), .int (iI (((it : Nat) : Int))), .int (iI (((dy : Nat) : Int))), .int (iI (lc)), .int (iI (sv)), .int (iI (lr)), .int (iI (sr)), .ref pL, .ref pP, .ref pC, .ref pI, .ref pM, .ref pS, .ref pV, .ref pN, .ref pE, .ref pA, .ref pO, .ref pT, .ref pD, .ref pG, .ref pW])), (pI, arZ cs 20 mI), (pA, arI cs 20 (upI mA ((5 * zs + zi).toNat) ((mA ((5 * zs + zi).toNat)) + uz))), (pS, arI cs 20 (upI mS ((5 * zs + zi).toNat) ((mS ((5 * zs + zi).toNat)) - (mnI uz (mS (5 * zs + zi).toNat))))), (pO, arI cs 20 mO), (pT, arI cs 20 mT)] H := hP
          have hD : va_D A [(km, .inr (6, [.int (iI (((cdM sh it mI zs zi : Nat) : Int))), .int (iI (((sh : Nat) : Int))), .int (iI (((it : Nat) : Int))), .int (iI (((dy : Nat) : Int))), .int (iI (lc)), .int (iI (sv)), .int (iI (lr)), .int (iI (sr)), .ref pL, .ref pP, .ref pC, .ref pI, .ref pM, .ref pS, .ref pV, .ref pN, .ref pE, .ref pA, .ref pO, .ref pT, .ref pD, .ref pG, .ref pW])), (pI, arZ cs 20 mI), (pA, arI cs 20 (upI mA ((5 * zs + zi).toNat) ((mA ((5 * zs + zi).toNat)) + uz))), (pS, arI cs 20 (upI mS ((5 * zs + zi).toNat) ((mS ((5 * zs + zi).toNat)) - (mnI uz (mS (5 * zs + zi).toNat))))), (pO, arI cs 20 mO), (pT, arI cs 20 mT)] := hD
          refine lv_aload_n hx hb dX6_demand_102 rfl (lv_at hl 2 rfl) ?_
          refine my_get hx hb hts inAX6 hown hK hP 0 rfl rfl 18 (by decide) w_819 rfl rfl dX6_demand_103 ?_
          refine lv_iload hx hb dX6_demand_106 (lv_at hl 1 rfl) ?_
          refine lv_dup2_11 hx hb dX6_demand_108 rfl rfl ?_
          refine my_iald hx hb hK hP 4 rfl (by omega) (k := (5 * zs + zi).toNat) (Int.toNat_natCast _) dX6_demand_109 ?_
          refine lv_iload hx hb dX6_demand_110 (lv_at hl 0 rfl) ?_
          refine my_iadd (z := (mO ((5 * zs + zi).toNat)) + (mnI uz (mS (5 * zs + zi).toNat))) hx hb dX6_demand_112 (rfl) ?_
          refine my_iast hx hb hK hP hD hS 4 rfl (by omega) (k := (5 * zs + zi).toNat) (Int.toNat_natCast _) dX6_demand_113 (fun H locs hP hD hS => ?_)
          have hP : va_P D vwCl [(km, .inr (6, [.int (iI (((cdM sh it mI zs zi : Nat) : Int))), .int (iI (((sh : Nat) : Int))), .int (iI (((it : Nat) : Int))), .int (iI (((dy : Nat) : Int))), .int (iI (lc)), .int (iI (sv)), .int (iI (lr)), .int (iI (sr)), .ref pL, .ref pP, .ref pC, .ref pI, .ref pM, .ref pS, .ref pV, .ref pN, .ref pE, .ref pA, .ref pO, .ref pT, .ref pD, .ref pG, .ref pW])), (pI, arZ cs 20 mI), (pA, arI cs 20 (upI mA ((5 * zs + zi).toNat) ((mA ((5 * zs + zi).toNat)) + uz))), (pS, arI cs 20 (upI mS ((5 * zs + zi).toNat) ((mS ((5 * zs + zi).toNat)) - (mnI uz (mS (5 * zs + zi).toNat))))), (pO, arI cs 20 (upI mO ((5 * zs + zi).toNat) ((mO ((5 * zs + zi).toNat)) + (mnI uz (mS (5 * zs + zi).toNat))))), (pT, arI cs 20 mT)] H := hP
          have hD : va_D A [(km, .inr (6, [.int (iI (((cdM sh it mI zs zi : Nat) : Int))), .int (iI (((sh : Nat) : Int))), .int (iI (((it : Nat) : Int))), .int (iI (((dy : Nat) : Int))), .int (iI (lc)), .int (iI (sv)), .int (iI (lr)), .int (iI (sr)), .ref pL, .ref pP, .ref pC, .ref pI, .ref pM, .ref pS, .ref pV, .ref pN, .ref pE, .ref pA, .ref pO, .ref pT, .ref pD, .ref pG, .ref pW])), (pI, arZ cs 20 mI), (pA, arI cs 20 (upI mA ((5 * zs + zi).toNat) ((mA ((5 * zs + zi).toNat)) + uz))), (pS, arI cs 20 (upI mS ((5 * zs + zi).toNat) ((mS ((5 * zs + zi).toNat)) - (mnI uz (mS (5 * zs + zi).toNat))))), (pO, arI cs 20 (upI mO ((5 * zs + zi).toNat) ((mO ((5 * zs + zi).toNat)) + (mnI uz (mS (5 * zs + zi).toNat))))), (pT, arI cs 20 mT)] := hD
          refine lv_aload_n hx hb dX6_demand_114 rfl (lv_at hl 2 rfl) ?_
          refine my_get hx hb hts inAX6 hown hK hP 0 rfl rfl 19 (by decide) w_820 rfl rfl dX6_demand_115 ?_
          refine lv_iload hx hb dX6_demand_118 (lv_at hl 1 rfl) ?_
          refine lv_dup2_11 hx hb dX6_demand_120 rfl rfl ?_
          refine my_iald hx hb hK hP 5 rfl (by omega) (k := (5 * zs + zi).toNat) (Int.toNat_natCast _) dX6_demand_121 ?_
          refine lv_iload_n hx hb dX6_demand_122 rfl (lv_at hl 5 rfl) ?_
          refine lv_iload hx hb dX6_demand_123 (lv_at hl 0 rfl) ?_
          refine my_isub (z := uz - (mnI uz (mS (5 * zs + zi).toNat))) hx hb dX6_demand_125 (rfl) ?_
          refine my_iadd (z := (mT ((5 * zs + zi).toNat)) + (uz - (mnI uz (mS (5 * zs + zi).toNat)))) hx hb dX6_demand_126 (rfl) ?_
          refine my_iast hx hb hK hP hD hS 5 rfl (by omega) (k := (5 * zs + zi).toNat) (Int.toNat_natCast _) dX6_demand_127 (fun H locs hP hD hS => ?_)
          have hP : va_P D vwCl [(km, .inr (6, [.int (iI (((cdM sh it mI zs zi : Nat) : Int))), .int (iI (((sh : Nat) : Int))), .int (iI (((it : Nat) : Int))), .int (iI (((dy : Nat) : Int))), .int (iI (lc)), .int (iI (sv)), .int (iI (lr)), .int (iI (sr)), .ref pL, .ref pP, .ref pC, .ref pI, .ref pM, .ref pS, .ref pV, .ref pN, .ref pE, .ref pA, .ref pO, .ref pT, .ref pD, .ref pG, .ref pW])), (pI, arZ cs 20 mI), (pA, arI cs 20 (upI mA ((5 * zs + zi).toNat) ((mA ((5 * zs + zi).toNat)) + uz))), (pS, arI cs 20 (upI mS ((5 * zs + zi).toNat) ((mS ((5 * zs + zi).toNat)) - (mnI uz (mS (5 * zs + zi).toNat))))), (pO, arI cs 20 (upI mO ((5 * zs + zi).toNat) ((mO ((5 * zs + zi).toNat)) + (mnI uz (mS (5 * zs + zi).toNat))))), (pT, arI cs 20 (upI mT ((5 * zs + zi).toNat) ((mT ((5 * zs + zi).toNat)) + (uz - (mnI uz (mS (5 * zs + zi).toNat))))))] H := hP
          have hD : va_D A [(km, .inr (6, [.int (iI (((cdM sh it mI zs zi : Nat) : Int))), .int (iI (((sh : Nat) : Int))), .int (iI (((it : Nat) : Int))), .int (iI (((dy : Nat) : Int))), .int (iI (lc)), .int (iI (sv)), .int (iI (lr)), .int (iI (sr)), .ref pL, .ref pP, .ref pC, .ref pI, .ref pM, .ref pS, .ref pV, .ref pN, .ref pE, .ref pA, .ref pO, .ref pT, .ref pD, .ref pG, .ref pW])), (pI, arZ cs 20 mI), (pA, arI cs 20 (upI mA ((5 * zs + zi).toNat) ((mA ((5 * zs + zi).toNat)) + uz))), (pS, arI cs 20 (upI mS ((5 * zs + zi).toNat) ((mS ((5 * zs + zi).toNat)) - (mnI uz (mS (5 * zs + zi).toNat))))), (pO, arI cs 20 (upI mO ((5 * zs + zi).toNat) ((mO ((5 * zs + zi).toNat)) + (mnI uz (mS (5 * zs + zi).toNat))))), (pT, arI cs 20 (upI mT ((5 * zs + zi).toNat) ((mT ((5 * zs + zi).toNat)) + (uz - (mnI uz (mS (5 * zs + zi).toNat))))))] := hD
          refine lv_iload hx hb dX6_demand_128 (lv_at hl 0 rfl) ?_
          have hWe : ([(km, .inr (6, [.int (iI (((cdM sh it mI zs zi : Nat) : Int))), .int (iI (((sh : Nat) : Int))), .int (iI (((it : Nat) : Int))), .int (iI (((dy : Nat) : Int))), .int (iI (lc)), .int (iI (sv)), .int (iI (lr)), .int (iI (sr)), .ref pL, .ref pP, .ref pC, .ref pI, .ref pM, .ref pS, .ref pV, .ref pN, .ref pE, .ref pA, .ref pO, .ref pT, .ref pD, .ref pG, .ref pW])), (pI, arZ cs 20 mI), (pA, arI cs 20 (upI mA ((5 * zs + zi).toNat) ((mA ((5 * zs + zi).toNat)) + uz))), (pS, arI cs 20 (upI mS ((5 * zs + zi).toNat) ((mS ((5 * zs + zi).toNat)) - (mnI uz (mS (5 * zs + zi).toNat))))), (pO, arI cs 20 (upI mO ((5 * zs + zi).toNat) ((mO ((5 * zs + zi).toNat)) + (mnI uz (mS (5 * zs + zi).toNat))))), (pT, arI cs 20 (upI mT ((5 * zs + zi).toNat) ((mT ((5 * zs + zi).toNat)) + (uz - (mnI uz (mS (5 * zs + zi).toNat))))))] : va_W) = [(km, .inr (6, [.int (iI ((((cdD (cdM sh it mI zs zi) (1 ≤ uz ∧ uz ≤ 99) (mA (5 * zs + zi).toNat + uz ≤ 999)) : Nat) : Int))), .int (iI (((sh : Nat) : Int))), .int (iI (((it : Nat) : Int))), .int (iI (((dy : Nat) : Int))), .int (iI (lc)), .int (iI (sv)), .int (iI (lr)), .int (iI (sr)), .ref pL, .ref pP, .ref pC, .ref pI, .ref pM, .ref pS, .ref pV, .ref pN, .ref pE, .ref pA, .ref pO, .ref pT, .ref pD, .ref pG, .ref pW])), (pI, arZ cs 20 mI), (pA, arI cs 20 (if cdD (cdM sh it mI zs zi) (1 ≤ uz ∧ uz ≤ 99) (mA (5 * zs + zi).toNat + uz ≤ 999) = 0 then upI mA (5 * zs + zi).toNat (mA (5 * zs + zi).toNat + uz) else mA)), (pS, arI cs 20 (if cdD (cdM sh it mI zs zi) (1 ≤ uz ∧ uz ≤ 99) (mA (5 * zs + zi).toNat + uz ≤ 999) = 0 then upI mS (5 * zs + zi).toNat (mS (5 * zs + zi).toNat - mnI uz (mS (5 * zs + zi).toNat)) else mS)), (pO, arI cs 20 (if cdD (cdM sh it mI zs zi) (1 ≤ uz ∧ uz ≤ 99) (mA (5 * zs + zi).toNat + uz ≤ 999) = 0 then upI mO (5 * zs + zi).toNat (mO (5 * zs + zi).toNat + mnI uz (mS (5 * zs + zi).toNat)) else mO)), (pT, arI cs 20 (if cdD (cdM sh it mI zs zi) (1 ≤ uz ∧ uz ≤ 99) (mA (5 * zs + zi).toNat + uz ≤ 999) = 0 then upI mT (5 * zs + zi).toNat (mT (5 * zs + zi).toNat + (uz - mnI uz (mS (5 * zs + zi).toNat))) else mT))] := by
            have hcd : cdD (cdM sh it mI zs zi) (1 ≤ uz ∧ uz ≤ 99) (mA (5 * zs + zi).toNat + uz ≤ 999) = cdM sh it mI zs zi := by unfold cdD; (repeat' split) <;> omega
            rw [hcd]
            first | rfl | (rw [if_neg (by omega), if_neg (by omega), if_neg (by omega), if_neg (by omega)]; done) | (rw [if_pos (by omega), if_pos (by omega), if_pos (by omega), if_pos (by omega)]; done) | (simp; done)
          rw [hWe] at hP
          subst hAe
          have hres : iI (mnI uz (mS (5 * zs + zi).toNat)) = iI (if cdD (cdM sh it mI zs zi) (1 ≤ uz ∧ uz ≤ 99) (mA (5 * zs + zi).toNat + uz ≤ 999) = 0 then mnI uz (mS (5 * zs + zi).toNat) else 0) := congrArg iI (by
              have hcd : cdD (cdM sh it mI zs zi) (1 ≤ uz ∧ uz ≤ 99) (mA (5 * zs + zi).toNat + uz ≤ 999) = cdM sh it mI zs zi := by unfold cdD; (repeat' split) <;> omega
              rw [hcd]
              first | rfl | (rw [if_neg (by omega)]; done) | (rw [if_pos (by omega)]; done) | (simp; done))
          exact W.iret hx hb hr (fun t ht hW => ⟨⟨_, (), rfl, hres, by show va_P D vwCl _ t.heap; rw [ht]; exact hP⟩, hS.F ht⟩) hS.2.2 dX6_demand_130
      · refine lv_aload_n hx hb dX6_demand_49 rfl (lv_at hl 1 rfl) ?_
        refine lv_iconst (v := iI (4)) hx hb dX6_demand_50 rfl ?_
        have pk7 : picks [(km, .inr (6, [.int (iI (((cdM sh it mI zs zi : Nat) : Int))), .int (iI (((sh : Nat) : Int))), .int (iI (((it : Nat) : Int))), .int (iI (((dy : Nat) : Int))), .int (iI (lc)), .int (iI (sv)), .int (iI (lr)), .int (iI (sr)), .ref pL, .ref pP, .ref pC, .ref pI, .ref pM, .ref pS, .ref pV, .ref pN, .ref pE, .ref pA, .ref pO, .ref pT, .ref pD, .ref pG, .ref pW])), (pI, arZ cs 20 mI), (pA, arI cs 20 mA), (pS, arI cs 20 mS), (pO, arI cs 20 mO), (pT, arI cs 20 mT)] [0] [(km, .inr (6, [.int (iI (((cdM sh it mI zs zi : Nat) : Int))), .int (iI (((sh : Nat) : Int))), .int (iI (((it : Nat) : Int))), .int (iI (((dy : Nat) : Int))), .int (iI (lc)), .int (iI (sv)), .int (iI (lr)), .int (iI (sr)), .ref pL, .ref pP, .ref pC, .ref pI, .ref pM, .ref pS, .ref pV, .ref pN, .ref pE, .ref pA, .ref pO, .ref pT, .ref pD, .ref pG, .ref pW]))] := ⟨rfl, trivial⟩
        refine va_calli (va_runV (As := [.int (iI (4))]) (rest := []) ⟨hx, hb, hml, hown, hts⟩ (m_X6_fails l D cs km pL pP pC pI pM pS pV pN pE pA pO pT pD pG pW sh it ((cdM sh it mI zs zi : Nat) : Int) dy lc sv lr sr 4) (cwV 1 hts (gV w_883 w_885 w_p16 w_5 w_886) rfl rfl rfl (by decide +kernel) ⟨Nat.le_of_ble_eq_true rfl, Nat.le_of_ble_eq_true rfl⟩) (PC_V hK hN hP hD [0] rfl pk7 rfl rfl) rfl rfl hl.1 rfl (lv_room (Nat.le_of_ble_eq_true rfl)) dX6_demand_51 ⟨Nat.le_of_ble_eq_true rfl, Nat.le_of_ble_eq_true rfl⟩) hS (fun q _ h => inW_sub hD [0] pk7 q h) (fun q h => inW_sub hD [0] pk7 q h) (fun r u t H locs ht hvm hw hB hz1 hk1 hS => ?_)
        subst hw
        rw [ht] at hB
        obtain ⟨hP, hD⟩ := my_join (W1 := [(km, .inr (6, [.int (iI (4)), .int (iI (((sh : Nat) : Int))), .int (iI (((it : Nat) : Int))), .int (iI (((dy : Nat) : Int))), .int (iI (lc)), .int (iI (sv)), .int (iI (lr)), .int (iI (sr)), .ref pL, .ref pP, .ref pC, .ref pI, .ref pM, .ref pS, .ref pV, .ref pN, .ref pE, .ref pA, .ref pO, .ref pT, .ref pD, .ref pG, .ref pW]))]) hP hD [0] rfl pk7 rfl hk1 hB
        have hP : va_P D vwCl [(km, .inr (6, [.int (iI (4)), .int (iI (((sh : Nat) : Int))), .int (iI (((it : Nat) : Int))), .int (iI (((dy : Nat) : Int))), .int (iI (lc)), .int (iI (sv)), .int (iI (lr)), .int (iI (sr)), .ref pL, .ref pP, .ref pC, .ref pI, .ref pM, .ref pS, .ref pV, .ref pN, .ref pE, .ref pA, .ref pO, .ref pT, .ref pD, .ref pG, .ref pW])), (pI, arZ cs 20 mI), (pA, arI cs 20 mA), (pS, arI cs 20 mS), (pO, arI cs 20 mO), (pT, arI cs 20 mT)] H := hP
        have hD : va_D A [(km, .inr (6, [.int (iI (4)), .int (iI (((sh : Nat) : Int))), .int (iI (((it : Nat) : Int))), .int (iI (((dy : Nat) : Int))), .int (iI (lc)), .int (iI (sv)), .int (iI (lr)), .int (iI (sr)), .ref pL, .ref pP, .ref pC, .ref pI, .ref pM, .ref pS, .ref pV, .ref pN, .ref pE, .ref pA, .ref pO, .ref pT, .ref pD, .ref pG, .ref pW])), (pI, arZ cs 20 mI), (pA, arI cs 20 mA), (pS, arI cs 20 mS), (pO, arI cs 20 mO), (pT, arI cs 20 mT)] := hD
        have hWe : ([(km, .inr (6, [.int (iI (4)), .int (iI (((sh : Nat) : Int))), .int (iI (((it : Nat) : Int))), .int (iI (((dy : Nat) : Int))), .int (iI (lc)), .int (iI (sv)), .int (iI (lr)), .int (iI (sr)), .ref pL, .ref pP, .ref pC, .ref pI, .ref pM, .ref pS, .ref pV, .ref pN, .ref pE, .ref pA, .ref pO, .ref pT, .ref pD, .ref pG, .ref pW])), (pI, arZ cs 20 mI), (pA, arI cs 20 mA), (pS, arI cs 20 mS), (pO, arI cs 20 mO), (pT, arI cs 20 mT)] : va_W) = [(km, .inr (6, [.int (iI ((((cdD (cdM sh it mI zs zi) (1 ≤ uz ∧ uz ≤ 99) (mA (5 * zs + zi).toNat + uz ≤ 999)) : Nat) : Int))), .int (iI (((sh : Nat) : Int))), .int (iI (((it : Nat) : Int))), .int (iI (((dy : Nat) : Int))), .int (iI (lc)), .int (iI (sv)), .int (iI (lr)), .int (iI (sr)), .ref pL, .ref pP, .ref pC, .ref pI, .ref pM, .ref pS, .ref pV, .ref pN, .ref pE, .ref pA, .ref pO, .ref pT, .ref pD, .ref pG, .ref pW])), (pI, arZ cs 20 mI), (pA, arI cs 20 (if cdD (cdM sh it mI zs zi) (1 ≤ uz ∧ uz ≤ 99) (mA (5 * zs + zi).toNat + uz ≤ 999) = 0 then upI mA (5 * zs + zi).toNat (mA (5 * zs + zi).toNat + uz) else mA)), (pS, arI cs 20 (if cdD (cdM sh it mI zs zi) (1 ≤ uz ∧ uz ≤ 99) (mA (5 * zs + zi).toNat + uz ≤ 999) = 0 then upI mS (5 * zs + zi).toNat (mS (5 * zs + zi).toNat - mnI uz (mS (5 * zs + zi).toNat)) else mS)), (pO, arI cs 20 (if cdD (cdM sh it mI zs zi) (1 ≤ uz ∧ uz ≤ 99) (mA (5 * zs + zi).toNat + uz ≤ 999) = 0 then upI mO (5 * zs + zi).toNat (mO (5 * zs + zi).toNat + mnI uz (mS (5 * zs + zi).toNat)) else mO)), (pT, arI cs 20 (if cdD (cdM sh it mI zs zi) (1 ≤ uz ∧ uz ≤ 99) (mA (5 * zs + zi).toNat + uz ≤ 999) = 0 then upI mT (5 * zs + zi).toNat (mT (5 * zs + zi).toNat + (uz - mnI uz (mS (5 * zs + zi).toNat))) else mT))] := by
          have hcd : cdD (cdM sh it mI zs zi) (1 ≤ uz ∧ uz ≤ 99) (mA (5 * zs + zi).toNat + uz ≤ 999) = 4 := by unfold cdD; (repeat' split) <;> omega
          rw [hcd]
          first | rfl | (rw [if_neg (by omega), if_neg (by omega), if_neg (by omega), if_neg (by omega)]; done) | (rw [if_pos (by omega), if_pos (by omega), if_pos (by omega), if_pos (by omega)]; done) | (simp; done)
        rw [hWe] at hP
        subst hAe
        have hres : iI (0) = iI (if cdD (cdM sh it mI zs zi) (1 ≤ uz ∧ uz ≤ 99) (mA (5 * zs + zi).toNat + uz ≤ 999) = 0 then mnI uz (mS (5 * zs + zi).toNat) else 0) := congrArg iI (by
            have hcd : cdD (cdM sh it mI zs zi) (1 ≤ uz ∧ uz ≤ 99) (mA (5 * zs + zi).toNat + uz ≤ 999) = 4 := by unfold cdD; (repeat' split) <;> omega
            rw [hcd]
            first | rfl | (rw [if_neg (by omega)]; done) | (rw [if_pos (by omega)]; done) | (simp; done))
        exact W.iret hx hb hr (fun t ht hW => ⟨⟨_, (), rfl, hres, by show va_P D vwCl _ t.heap; rw [ht]; exact hP⟩, hS.F ht⟩) hS.2.2 dX6_demand_54
    · refine lv_aload_n hx hb dX6_demand_28 rfl (lv_at hl 1 rfl) ?_
      refine lv_iconst (v := iI (3)) hx hb dX6_demand_29 rfl ?_
      have pk8 : picks [(km, .inr (6, [.int (iI (((cdM sh it mI zs zi : Nat) : Int))), .int (iI (((sh : Nat) : Int))), .int (iI (((it : Nat) : Int))), .int (iI (((dy : Nat) : Int))), .int (iI (lc)), .int (iI (sv)), .int (iI (lr)), .int (iI (sr)), .ref pL, .ref pP, .ref pC, .ref pI, .ref pM, .ref pS, .ref pV, .ref pN, .ref pE, .ref pA, .ref pO, .ref pT, .ref pD, .ref pG, .ref pW])), (pI, arZ cs 20 mI), (pA, arI cs 20 mA), (pS, arI cs 20 mS), (pO, arI cs 20 mO), (pT, arI cs 20 mT)] [0] [(km, .inr (6, [.int (iI (((cdM sh it mI zs zi : Nat) : Int))), .int (iI (((sh : Nat) : Int))), .int (iI (((it : Nat) : Int))), .int (iI (((dy : Nat) : Int))), .int (iI (lc)), .int (iI (sv)), .int (iI (lr)), .int (iI (sr)), .ref pL, .ref pP, .ref pC, .ref pI, .ref pM, .ref pS, .ref pV, .ref pN, .ref pE, .ref pA, .ref pO, .ref pT, .ref pD, .ref pG, .ref pW]))] := ⟨rfl, trivial⟩
      refine va_calli (va_runV (As := [.int (iI (3))]) (rest := []) ⟨hx, hb, hml, hown, hts⟩ (m_X6_fails l D cs km pL pP pC pI pM pS pV pN pE pA pO pT pD pG pW sh it ((cdM sh it mI zs zi : Nat) : Int) dy lc sv lr sr 3) (cwV 1 hts (gV w_883 w_885 w_p16 w_5 w_886) rfl rfl rfl (by decide +kernel) ⟨Nat.le_of_ble_eq_true rfl, Nat.le_of_ble_eq_true rfl⟩) (PC_V hK hN hP hD [0] rfl pk8 rfl rfl) rfl rfl hl.1 rfl (lv_room (Nat.le_of_ble_eq_true rfl)) dX6_demand_30 ⟨Nat.le_of_ble_eq_true rfl, Nat.le_of_ble_eq_true rfl⟩) hS (fun q _ h => inW_sub hD [0] pk8 q h) (fun q h => inW_sub hD [0] pk8 q h) (fun r u t H locs ht hvm hw hB hz1 hk1 hS => ?_)
      subst hw
      rw [ht] at hB
      obtain ⟨hP, hD⟩ := my_join (W1 := [(km, .inr (6, [.int (iI (3)), .int (iI (((sh : Nat) : Int))), .int (iI (((it : Nat) : Int))), .int (iI (((dy : Nat) : Int))), .int (iI (lc)), .int (iI (sv)), .int (iI (lr)), .int (iI (sr)), .ref pL, .ref pP, .ref pC, .ref pI, .ref pM, .ref pS, .ref pV, .ref pN, .ref pE, .ref pA, .ref pO, .ref pT, .ref pD, .ref pG, .ref pW]))]) hP hD [0] rfl pk8 rfl hk1 hB
      have hP : va_P D vwCl [(km, .inr (6, [.int (iI (3)), .int (iI (((sh : Nat) : Int))), .int (iI (((it : Nat) : Int))), .int (iI (((dy : Nat) : Int))), .int (iI (lc)), .int (iI (sv)), .int (iI (lr)), .int (iI (sr)), .ref pL, .ref pP, .ref pC, .ref pI, .ref pM, .ref pS, .ref pV, .ref pN, .ref pE, .ref pA, .ref pO, .ref pT, .ref pD, .ref pG, .ref pW])), (pI, arZ cs 20 mI), (pA, arI cs 20 mA), (pS, arI cs 20 mS), (pO, arI cs 20 mO), (pT, arI cs 20 mT)] H := hP
      have hD : va_D A [(km, .inr (6, [.int (iI (3)), .int (iI (((sh : Nat) : Int))), .int (iI (((it : Nat) : Int))), .int (iI (((dy : Nat) : Int))), .int (iI (lc)), .int (iI (sv)), .int (iI (lr)), .int (iI (sr)), .ref pL, .ref pP, .ref pC, .ref pI, .ref pM, .ref pS, .ref pV, .ref pN, .ref pE, .ref pA, .ref pO, .ref pT, .ref pD, .ref pG, .ref pW])), (pI, arZ cs 20 mI), (pA, arI cs 20 mA), (pS, arI cs 20 mS), (pO, arI cs 20 mO), (pT, arI cs 20 mT)] := hD
      have hWe : ([(km, .inr (6, [.int (iI (3)), .int (iI (((sh : Nat) : Int))), .int (iI (((it : Nat) : Int))), .int (iI (((dy : Nat) : Int))), .int (iI (lc)), .int (iI (sv)), .int (iI (lr)), .int (iI (sr)), .ref pL, .ref pP, .ref pC, .ref pI, .ref pM, .ref pS, .ref pV, .ref pN, .ref pE, .ref pA, .ref pO, .ref pT, .ref pD, .ref pG, .ref pW])), (pI, arZ cs 20 mI), (pA, arI cs 20 mA), (pS, arI cs 20 mS), (pO, arI cs 20 mO), (pT, arI cs 20 mT)] : va_W) = [(km, .inr (6, [.int (iI ((((cdD (cdM sh it mI zs zi) (1 ≤ uz ∧ uz ≤ 99) (mA (5 * zs + zi).toNat + uz ≤ 999)) : Nat) : Int))), .int (iI (((sh : Nat) : Int))), .int (iI (((it : Nat) : Int))), .int (iI (((dy : Nat) : Int))), .int (iI (lc)), .int (iI (sv)), .int (iI (lr)), .int (iI (sr)), .ref pL, .ref pP, .ref pC, .ref pI, .ref pM, .ref pS, .ref pV, .ref pN, .ref pE, .ref pA, .ref pO, .ref pT, .ref pD, .ref pG, .ref pW])), (pI, arZ cs 20 mI), (pA, arI cs 20 (if cdD (cdM sh it mI zs zi) (1 ≤ uz ∧ uz ≤ 99) (mA (5 * zs + zi).toNat + uz ≤ 999) = 0 then upI mA (5 * zs + zi).toNat (mA (5 * zs + zi).toNat + uz) else mA)), (pS, arI cs 20 (if cdD (cdM sh it mI zs zi) (1 ≤ uz ∧ uz ≤ 99) (mA (5 * zs + zi).toNat + uz ≤ 999) = 0 then upI mS (5 * zs + zi).toNat (mS (5 * zs + zi).toNat - mnI uz (mS (5 * zs + zi).toNat)) else mS)), (pO, arI cs 20 (if cdD (cdM sh it mI zs zi) (1 ≤ uz ∧ uz ≤ 99) (mA (5 * zs + zi).toNat + uz ≤ 999) = 0 then upI mO (5 * zs + zi).toNat (mO (5 * zs + zi).toNat + mnI uz (mS (5 * zs + zi).toNat)) else mO)), (pT, arI cs 20 (if cdD (cdM sh it mI zs zi) (1 ≤ uz ∧ uz ≤ 99) (mA (5 * zs + zi).toNat + uz ≤ 999) = 0 then upI mT (5 * zs + zi).toNat (mT (5 * zs + zi).toNat + (uz - mnI uz (mS (5 * zs + zi).toNat))) else mT))] := by
        have hcd : cdD (cdM sh it mI zs zi) (1 ≤ uz ∧ uz ≤ 99) (mA (5 * zs + zi).toNat + uz ≤ 999) = 3 := by unfold cdD; (repeat' split) <;> omega
        rw [hcd]
        first | rfl | (rw [if_neg (by omega), if_neg (by omega), if_neg (by omega), if_neg (by omega)]; done) | (rw [if_pos (by omega), if_pos (by omega), if_pos (by omega), if_pos (by omega)]; done) | (simp; done)
      rw [hWe] at hP
      subst hAe
      have hres : iI (0) = iI (if cdD (cdM sh it mI zs zi) (1 ≤ uz ∧ uz ≤ 99) (mA (5 * zs + zi).toNat + uz ≤ 999) = 0 then mnI uz (mS (5 * zs + zi).toNat) else 0) := congrArg iI (by
          have hcd : cdD (cdM sh it mI zs zi) (1 ≤ uz ∧ uz ≤ 99) (mA (5 * zs + zi).toNat + uz ≤ 999) = 3 := by unfold cdD; (repeat' split) <;> omega
          rw [hcd]
          first | rfl | (rw [if_neg (by omega)]; done) | (rw [if_pos (by omega)]; done) | (simp; done))
      exact W.iret hx hb hr (fun t ht hW => ⟨⟨_, (), rfl, hres, by show va_P D vwCl _ t.heap; rw [ht]; exact hP⟩, hS.F ht⟩) hS.2.2 dX6_demand_33
  · refine lv_iconst (v := iI (0)) hx hb dX6_demand_9 rfl ?_
    have hWe : ([(km, .inr (6, [.int (iI (((cdM sh it mI zs zi : Nat) : Int))), .int (iI (((sh : Nat) : Int))), .int (iI (((it : Nat) : Int))), .int (iI (((dy : Nat) : Int))), .int (iI (lc)), .int (iI (sv)), .int (iI (lr)), .int (iI (sr)), .ref pL, .ref pP, .ref pC, .ref pI, .ref pM, .ref pS, .ref pV, .ref pN, .ref pE, .ref pA, .ref pO, .ref pT, .ref pD, .ref pG, .ref pW])), (pI, arZ cs 20 mI), (pA, arI cs 20 mA), (pS, arI cs 20 mS), (pO, arI cs 20 mO), (pT, arI cs 20 mT)] : va_W) = [(km, .inr (6, [.int (iI ((((cdD (cdM sh it mI zs zi) (1 ≤ uz ∧ uz ≤ 99) (mA (5 * zs + zi).toNat + uz ≤ 999)) : Nat) : Int))), .int (iI (((sh : Nat) : Int))), .int (iI (((it : Nat) : Int))), .int (iI (((dy : Nat) : Int))), .int (iI (lc)), .int (iI (sv)), .int (iI (lr)), .int (iI (sr)), .ref pL, .ref pP, .ref pC, .ref pI, .ref pM, .ref pS, .ref pV, .ref pN, .ref pE, .ref pA, .ref pO, .ref pT, .ref pD, .ref pG, .ref pW])), (pI, arZ cs 20 mI), (pA, arI cs 20 (if cdD (cdM sh it mI zs zi) (1 ≤ uz ∧ uz ≤ 99) (mA (5 * zs + zi).toNat + uz ≤ 999) = 0 then upI mA (5 * zs + zi).toNat (mA (5 * zs + zi).toNat + uz) else mA)), (pS, arI cs 20 (if cdD (cdM sh it mI zs zi) (1 ≤ uz ∧ uz ≤ 99) (mA (5 * zs + zi).toNat + uz ≤ 999) = 0 then upI mS (5 * zs + zi).toNat (mS (5 * zs + zi).toNat - mnI uz (mS (5 * zs + zi).toNat)) else mS)), (pO, arI cs 20 (if cdD (cdM sh it mI zs zi) (1 ≤ uz ∧ uz ≤ 99) (mA (5 * zs + zi).toNat + uz ≤ 999) = 0 then upI mO (5 * zs + zi).toNat (mO (5 * zs + zi).toNat + mnI uz (mS (5 * zs + zi).toNat)) else mO)), (pT, arI cs 20 (if cdD (cdM sh it mI zs zi) (1 ≤ uz ∧ uz ≤ 99) (mA (5 * zs + zi).toNat + uz ≤ 999) = 0 then upI mT (5 * zs + zi).toNat (mT (5 * zs + zi).toNat + (uz - mnI uz (mS (5 * zs + zi).toNat))) else mT))] := by
      have hcd : cdD (cdM sh it mI zs zi) (1 ≤ uz ∧ uz ≤ 99) (mA (5 * zs + zi).toNat + uz ≤ 999) = cdM sh it mI zs zi := by unfold cdD; (repeat' split) <;> omega
      rw [hcd]
      first | rfl | (rw [if_neg (by omega), if_neg (by omega), if_neg (by omega), if_neg (by omega)]; done) | (rw [if_pos (by omega), if_pos (by omega), if_pos (by omega), if_pos (by omega)]; done) | (simp; done)
    rw [hWe] at hP
    subst hAe
    have hres : iI (0) = iI (if cdD (cdM sh it mI zs zi) (1 ≤ uz ∧ uz ≤ 99) (mA (5 * zs + zi).toNat + uz ≤ 999) = 0 then mnI uz (mS (5 * zs + zi).toNat) else 0) := congrArg iI (by
        have hcd : cdD (cdM sh it mI zs zi) (1 ≤ uz ∧ uz ≤ 99) (mA (5 * zs + zi).toNat + uz ≤ 999) = cdM sh it mI zs zi := by unfold cdD; (repeat' split) <;> omega
        rw [hcd]
        first | rfl | (rw [if_neg (by omega)]; done) | (rw [if_pos (by omega)]; done) | (simp; done))
    exact W.iret hx hb hr (fun t ht hW => ⟨⟨_, (), rfl, hres, by show va_P D vwCl _ t.heap; rw [ht]; exact hP⟩, hS.F ht⟩) hS.2.2 dX6_demand_10

abbrev ws_X6_demandToday : List Cond := Cond.code yX6_demandToday cX6_demandToday 3 (some .int) :: ALL
set_option maxHeartbeats 4000000 in
set_option maxRecDepth 100000 in
theorem m_X6_demandToday (l : Launch) (D : va_G) (cs : Nat → ClassId) (km pL pP pC pI pM pS pV pN pE pA pO pT pD pG pW sh it : Nat) (th : Int) (dy : Nat) (lc sv lr sr : Int) (mI : Nat → Int) (mA : Nat → Int) (zs zi : Int) (hsh : sh ≤ 4) (hit : it ≤ 5) (hmI : ∀ j, 0 ≤ mI j ∧ mI j ≤ 1) (hzs : -2147483648 ≤ zs ∧ zs < 2147483648) (hzi : -2147483648 ≤ zi ∧ zi < 2147483648) : Met l yX6_demandToday ws_X6_demandToday ({ frames := 3, cells := 0, slots := 0, locals := 65 }) (va_Pc [.ref km, .int (iI (zs)), .int (iI (zi))] (PC D cs [(km, .inr (6, [.int (iI (th)), .int (iI (((sh : Nat) : Int))), .int (iI (((it : Nat) : Int))), .int (iI (((dy : Nat) : Int))), .int (iI (lc)), .int (iI (sv)), .int (iI (lr)), .int (iI (sr)), .ref pL, .ref pP, .ref pC, .ref pI, .ref pM, .ref pS, .ref pV, .ref pN, .ref pE, .ref pA, .ref pO, .ref pT, .ref pD, .ref pG, .ref pW])), (pI, arZ cs 20 mI), (pA, arI cs 20 mA)])) (va_Qi (fun r (_ : Unit) => r = iI (if cdM sh it mI zs zi = 0 then mA (5 * zs + zi).toNat else 0)) (fun _ t => va_P D vwCl [(km, .inr (6, [.int (iI ((((cdM sh it mI zs zi) : Nat) : Int))), .int (iI (((sh : Nat) : Int))), .int (iI (((it : Nat) : Int))), .int (iI (((dy : Nat) : Int))), .int (iI (lc)), .int (iI (sv)), .int (iI (lr)), .int (iI (sr)), .ref pL, .ref pP, .ref pC, .ref pI, .ref pM, .ref pS, .ref pV, .ref pN, .ref pE, .ref pA, .ref pO, .ref pT, .ref pD, .ref pG, .ref pW])), (pI, arZ cs 20 mI), (pA, arI cs 20 mA)] t.heap) (inW [(km, .inr (6, [.int (iI (th)), .int (iI (((sh : Nat) : Int))), .int (iI (((it : Nat) : Int))), .int (iI (((dy : Nat) : Int))), .int (iI (lc)), .int (iI (sv)), .int (iI (lr)), .int (iI (sr)), .ref pL, .ref pP, .ref pC, .ref pI, .ref pM, .ref pS, .ref pV, .ref pN, .ref pE, .ref pA, .ref pO, .ref pT, .ref pD, .ref pG, .ref pW])), (pI, arZ cs 20 mI), (pA, arI cs 20 mA)])) 0 0 (inW [(km, .inr (6, [.int (iI (th)), .int (iI (((sh : Nat) : Int))), .int (iI (((it : Nat) : Int))), .int (iI (((dy : Nat) : Int))), .int (iI (lc)), .int (iI (sv)), .int (iI (lr)), .int (iI (sr)), .ref pL, .ref pP, .ref pC, .ref pI, .ref pM, .ref pS, .ref pV, .ref pN, .ref pE, .ref pA, .ref pO, .ref pT, .ref pD, .ref pG, .ref pW])), (pI, arZ cs 20 mI), (pA, arI cs 20 mA)]) := by
  refine Met.ofW (cc := cX6_demandToday) (maxL := 3) (ret := (some .int)) (by decide +kernel) rfl ?_
  intro p e s m args below meth c s₁ B hml hv
  obtain ⟨rfl, hP, hK, hD, hN⟩ := hv
  have hx := B.exec
  have hb := B.bytes
  have hr := B.returns
  have hts : ∀ w ∈ ALL, w.before _ s = true := fun w h => atoms_spec (ws := ws_X6_demandToday) B.pre w (List.mem_cons_of_mem _ h)
  have hown : s.vm.findClass RX6 = some m.cls := findClass_of_methodNamed B.named
  have hlocks := B.notSynchronized
  generalize hAe : inW [(km, .inr (6, [.int (iI (th)), .int (iI (((sh : Nat) : Int))), .int (iI (((it : Nat) : Int))), .int (iI (((dy : Nat) : Int))), .int (iI (lc)), .int (iI (sv)), .int (iI (lr)), .int (iI (sr)), .ref pL, .ref pP, .ref pC, .ref pI, .ref pM, .ref pS, .ref pV, .ref pN, .ref pE, .ref pA, .ref pO, .ref pT, .ref pD, .ref pG, .ref pW])), (pI, arZ cs 20 mI), (pA, arI cs 20 mA)] = A at hD ⊢
  have hS : va_S A s.heap s.heap [] := va_S.rf
  have hl := lv_entry ([.ref km, .int (iI (zs)), .int (iI (zi))]) (n := 3) (Nat.le_of_ble_eq_true rfl)
  rw [lg_entry_eq]
  generalize (lg_sl ([.ref km, .int (iI (zs)), .int (iI (zi))]) ++ List.replicate (3 - (lg_sl ([.ref km, .int (iI (zs)), .int (iI (zi))])).length) Slot.unset).toArray = ls at hl ⊢
  have hl : lv_has ls 3 [(0, .ref km), (1, .int (iI (zs))), (2, .int (iI (zi)))] := hl
  have hH := rfl (a := s.heap)
  refine lv_aload_n hx hb dX6_demandToday_0 rfl (lv_at hl 0 rfl) ?_
  refine lv_iload_n hx hb dX6_demandToday_1 rfl (lv_at hl 1 rfl) ?_
  refine lv_iload_n hx hb dX6_demandToday_2 rfl (lv_at hl 2 rfl) ?_
  have pk1 : picks [(km, .inr (6, [.int (iI (th)), .int (iI (((sh : Nat) : Int))), .int (iI (((it : Nat) : Int))), .int (iI (((dy : Nat) : Int))), .int (iI (lc)), .int (iI (sv)), .int (iI (lr)), .int (iI (sr)), .ref pL, .ref pP, .ref pC, .ref pI, .ref pM, .ref pS, .ref pV, .ref pN, .ref pE, .ref pA, .ref pO, .ref pT, .ref pD, .ref pG, .ref pW])), (pI, arZ cs 20 mI), (pA, arI cs 20 mA)] [0, 1] [(km, .inr (6, [.int (iI (th)), .int (iI (((sh : Nat) : Int))), .int (iI (((it : Nat) : Int))), .int (iI (((dy : Nat) : Int))), .int (iI (lc)), .int (iI (sv)), .int (iI (lr)), .int (iI (sr)), .ref pL, .ref pP, .ref pC, .ref pI, .ref pM, .ref pS, .ref pV, .ref pN, .ref pE, .ref pA, .ref pO, .ref pT, .ref pD, .ref pG, .ref pW])), (pI, arZ cs 20 mI)] := ⟨rfl, rfl, trivial⟩
  refine va_calli (va_runV (As := [.int (iI (zs)), .int (iI (zi))]) (rest := []) ⟨hx, hb, hml, hown, hts⟩ (m_X6_isLine l D cs km pL pP pC pI pM pS pV pN pE pA pO pT pD pG pW sh it th dy lc sv lr sr mI zs zi (by assumption) (by assumption) (by assumption) (by omega) (by omega)) (cwV 2 hts (gV w_932 w_934 w_p19 w_5 w_935) rfl rfl rfl (by decide +kernel) ⟨Nat.le_of_ble_eq_true rfl, Nat.le_of_ble_eq_true rfl⟩) (PC_V hK hN hP hD [0, 1] rfl pk1 rfl rfl) rfl rfl hl.1 rfl (lv_room (Nat.le_of_ble_eq_true rfl)) dX6_demandToday_3 ⟨Nat.le_of_ble_eq_true rfl, Nat.le_of_ble_eq_true rfl⟩) hS (fun q _ h => inW_sub hD [0, 1] pk1 q h) (fun q h => inW_sub hD [0, 1] pk1 q h) (fun r u t H locs ht hvm hw hB hz1 hk1 hS => ?_)
  subst hw
  rw [ht] at hB
  obtain ⟨hP, hD⟩ := my_join (W1 := [(km, .inr (6, [.int (iI (((cdM sh it mI zs zi : Nat) : Int))), .int (iI (((sh : Nat) : Int))), .int (iI (((it : Nat) : Int))), .int (iI (((dy : Nat) : Int))), .int (iI (lc)), .int (iI (sv)), .int (iI (lr)), .int (iI (sr)), .ref pL, .ref pP, .ref pC, .ref pI, .ref pM, .ref pS, .ref pV, .ref pN, .ref pE, .ref pA, .ref pO, .ref pT, .ref pD, .ref pG, .ref pW])), (pI, arZ cs 20 mI)]) hP hD [0, 1] rfl pk1 rfl hk1 hB
  have hP : va_P D vwCl [(km, .inr (6, [.int (iI (((cdM sh it mI zs zi : Nat) : Int))), .int (iI (((sh : Nat) : Int))), .int (iI (((it : Nat) : Int))), .int (iI (((dy : Nat) : Int))), .int (iI (lc)), .int (iI (sv)), .int (iI (lr)), .int (iI (sr)), .ref pL, .ref pP, .ref pC, .ref pI, .ref pM, .ref pS, .ref pV, .ref pN, .ref pE, .ref pA, .ref pO, .ref pT, .ref pD, .ref pG, .ref pW])), (pI, arZ cs 20 mI), (pA, arI cs 20 mA)] H := hP
  have hD : va_D A [(km, .inr (6, [.int (iI (((cdM sh it mI zs zi : Nat) : Int))), .int (iI (((sh : Nat) : Int))), .int (iI (((it : Nat) : Int))), .int (iI (((dy : Nat) : Int))), .int (iI (lc)), .int (iI (sv)), .int (iI (lr)), .int (iI (sr)), .ref pL, .ref pP, .ref pC, .ref pI, .ref pM, .ref pS, .ref pV, .ref pN, .ref pE, .ref pA, .ref pO, .ref pT, .ref pD, .ref pG, .ref pW])), (pI, arZ cs 20 mI), (pA, arI cs 20 mA)] := hD
  have hcm := cdM_s sh it mI zs zi
  have hbb := b01_s (cdM sh it mI zs zi)
  refine my_if_eq (tgt := 22) hx hb (by omega) dX6_demandToday_6 (by decide) (fun b2 => ?_) (fun b2 => ?_)
  · refine lv_iconst (v := iI (0)) hx hb dX6_demandToday_22 rfl ?_
    have hWe : ([(km, .inr (6, [.int (iI (((cdM sh it mI zs zi : Nat) : Int))), .int (iI (((sh : Nat) : Int))), .int (iI (((it : Nat) : Int))), .int (iI (((dy : Nat) : Int))), .int (iI (lc)), .int (iI (sv)), .int (iI (lr)), .int (iI (sr)), .ref pL, .ref pP, .ref pC, .ref pI, .ref pM, .ref pS, .ref pV, .ref pN, .ref pE, .ref pA, .ref pO, .ref pT, .ref pD, .ref pG, .ref pW])), (pI, arZ cs 20 mI), (pA, arI cs 20 mA)] : va_W) = [(km, .inr (6, [.int (iI ((((cdM sh it mI zs zi) : Nat) : Int))), .int (iI (((sh : Nat) : Int))), .int (iI (((it : Nat) : Int))), .int (iI (((dy : Nat) : Int))), .int (iI (lc)), .int (iI (sv)), .int (iI (lr)), .int (iI (sr)), .ref pL, .ref pP, .ref pC, .ref pI, .ref pM, .ref pS, .ref pV, .ref pN, .ref pE, .ref pA, .ref pO, .ref pT, .ref pD, .ref pG, .ref pW])), (pI, arZ cs 20 mI), (pA, arI cs 20 mA)] := by
      first | rfl | (congr 1; omega)
    rw [hWe] at hP
    subst hAe
    have hres : iI (0) = iI (if cdM sh it mI zs zi = 0 then mA (5 * zs + zi).toNat else 0) := congrArg iI (by
        first | rw [if_pos (by omega)] | rw [if_neg (by omega)])
    exact W.iret hx hb hr (fun t ht hW => ⟨⟨_, (), rfl, hres, by show va_P D vwCl _ t.heap; rw [ht]; exact hP⟩, hS.F ht⟩) hS.2.2 dX6_demandToday_23
  · refine lv_aload_n hx hb dX6_demandToday_9 rfl (lv_at hl 0 rfl) ?_
    refine my_get hx hb hts inAX6 hown hK hP 0 rfl rfl 17 (by decide) w_818 rfl rfl dX6_demandToday_10 ?_
    refine lv_iconst (v := iI (5)) hx hb dX6_demandToday_13 rfl ?_
    refine lv_iload_n hx hb dX6_demandToday_14 rfl (lv_at hl 1 rfl) ?_
    refine my_imul (z := 5 * zs) hx hb dX6_demandToday_15 (rfl) ?_
    refine lv_iload_n hx hb dX6_demandToday_16 rfl (lv_at hl 2 rfl) ?_
    refine my_iadd (z := (5 * zs) + zi) hx hb dX6_demandToday_17 (rfl) ?_
    refine my_iald hx hb hK hP 2 rfl (by omega) (k := ((5 * zs) + zi).toNat) (rfl) dX6_demandToday_18 ?_
    refine lv_goto (tgt := 23) hx hb dX6_demandToday_19 (by decide) ?_
    have hWe : ([(km, .inr (6, [.int (iI (((cdM sh it mI zs zi : Nat) : Int))), .int (iI (((sh : Nat) : Int))), .int (iI (((it : Nat) : Int))), .int (iI (((dy : Nat) : Int))), .int (iI (lc)), .int (iI (sv)), .int (iI (lr)), .int (iI (sr)), .ref pL, .ref pP, .ref pC, .ref pI, .ref pM, .ref pS, .ref pV, .ref pN, .ref pE, .ref pA, .ref pO, .ref pT, .ref pD, .ref pG, .ref pW])), (pI, arZ cs 20 mI), (pA, arI cs 20 mA)] : va_W) = [(km, .inr (6, [.int (iI ((((cdM sh it mI zs zi) : Nat) : Int))), .int (iI (((sh : Nat) : Int))), .int (iI (((it : Nat) : Int))), .int (iI (((dy : Nat) : Int))), .int (iI (lc)), .int (iI (sv)), .int (iI (lr)), .int (iI (sr)), .ref pL, .ref pP, .ref pC, .ref pI, .ref pM, .ref pS, .ref pV, .ref pN, .ref pE, .ref pA, .ref pO, .ref pT, .ref pD, .ref pG, .ref pW])), (pI, arZ cs 20 mI), (pA, arI cs 20 mA)] := by
      first | rfl | (congr 1; omega)
    rw [hWe] at hP
    subst hAe
    have hres : iI (mA (((5 * zs) + zi).toNat)) = iI (if cdM sh it mI zs zi = 0 then mA (5 * zs + zi).toNat else 0) := congrArg iI (by
        first | rw [if_pos (by omega)] | rw [if_neg (by omega)])
    exact W.iret hx hb hr (fun t ht hW => ⟨⟨_, (), rfl, hres, by show va_P D vwCl _ t.heap; rw [ht]; exact hP⟩, hS.F ht⟩) hS.2.2 dX6_demandToday_23

abbrev ws_X6_level : List Cond := Cond.code yX6_level cX6_level 3 (some .int) :: ALL
set_option maxHeartbeats 4000000 in
set_option maxRecDepth 100000 in
theorem m_X6_level (l : Launch) (D : va_G) (cs : Nat → ClassId) (km pL pP pC pI pM pS pV pN pE pA pO pT pD pG pW sh it : Nat) (th : Int) (dy : Nat) (lc sv lr sr : Int) (mI : Nat → Int) (mV : Nat → Int) (zs zi : Int) (hsh : sh ≤ 4) (hit : it ≤ 5) (hmI : ∀ j, 0 ≤ mI j ∧ mI j ≤ 1) (hzs : -2147483648 ≤ zs ∧ zs < 2147483648) (hzi : -2147483648 ≤ zi ∧ zi < 2147483648) : Met l yX6_level ws_X6_level ({ frames := 3, cells := 0, slots := 0, locals := 65 }) (va_Pc [.ref km, .int (iI (zs)), .int (iI (zi))] (PC D cs [(km, .inr (6, [.int (iI (th)), .int (iI (((sh : Nat) : Int))), .int (iI (((it : Nat) : Int))), .int (iI (((dy : Nat) : Int))), .int (iI (lc)), .int (iI (sv)), .int (iI (lr)), .int (iI (sr)), .ref pL, .ref pP, .ref pC, .ref pI, .ref pM, .ref pS, .ref pV, .ref pN, .ref pE, .ref pA, .ref pO, .ref pT, .ref pD, .ref pG, .ref pW])), (pI, arZ cs 20 mI), (pV, arI cs 20 mV)])) (va_Qi (fun r (_ : Unit) => r = iI (if cdM sh it mI zs zi = 0 then mV (5 * zs + zi).toNat else 0)) (fun _ t => va_P D vwCl [(km, .inr (6, [.int (iI ((((cdM sh it mI zs zi) : Nat) : Int))), .int (iI (((sh : Nat) : Int))), .int (iI (((it : Nat) : Int))), .int (iI (((dy : Nat) : Int))), .int (iI (lc)), .int (iI (sv)), .int (iI (lr)), .int (iI (sr)), .ref pL, .ref pP, .ref pC, .ref pI, .ref pM, .ref pS, .ref pV, .ref pN, .ref pE, .ref pA, .ref pO, .ref pT, .ref pD, .ref pG, .ref pW])), (pI, arZ cs 20 mI), (pV, arI cs 20 mV)] t.heap) (inW [(km, .inr (6, [.int (iI (th)), .int (iI (((sh : Nat) : Int))), .int (iI (((it : Nat) : Int))), .int (iI (((dy : Nat) : Int))), .int (iI (lc)), .int (iI (sv)), .int (iI (lr)), .int (iI (sr)), .ref pL, .ref pP, .ref pC, .ref pI, .ref pM, .ref pS, .ref pV, .ref pN, .ref pE, .ref pA, .ref pO, .ref pT, .ref pD, .ref pG, .ref pW])), (pI, arZ cs 20 mI), (pV, arI cs 20 mV)])) 0 0 (inW [(km, .inr (6, [.int (iI (th)), .int (iI (((sh : Nat) : Int))), .int (iI (((it : Nat) : Int))), .int (iI (((dy : Nat) : Int))), .int (iI (lc)), .int (iI (sv)), .int (iI (lr)), .int (iI (sr)), .ref pL, .ref pP, .ref pC, .ref pI, .ref pM, .ref pS, .ref pV, .ref pN, .ref pE, .ref pA, .ref pO, .ref pT, .ref pD, .ref pG, .ref pW])), (pI, arZ cs 20 mI), (pV, arI cs 20 mV)]) := by
  refine Met.ofW (cc := cX6_level) (maxL := 3) (ret := (some .int)) (by decide +kernel) rfl ?_
  intro p e s m args below meth c s₁ B hml hv
  obtain ⟨rfl, hP, hK, hD, hN⟩ := hv
  have hx := B.exec
  have hb := B.bytes
  have hr := B.returns
  have hts : ∀ w ∈ ALL, w.before _ s = true := fun w h => atoms_spec (ws := ws_X6_level) B.pre w (List.mem_cons_of_mem _ h)
  have hown : s.vm.findClass RX6 = some m.cls := findClass_of_methodNamed B.named
  have hlocks := B.notSynchronized
  generalize hAe : inW [(km, .inr (6, [.int (iI (th)), .int (iI (((sh : Nat) : Int))), .int (iI (((it : Nat) : Int))), .int (iI (((dy : Nat) : Int))), .int (iI (lc)), .int (iI (sv)), .int (iI (lr)), .int (iI (sr)), .ref pL, .ref pP, .ref pC, .ref pI, .ref pM, .ref pS, .ref pV, .ref pN, .ref pE, .ref pA, .ref pO, .ref pT, .ref pD, .ref pG, .ref pW])), (pI, arZ cs 20 mI), (pV, arI cs 20 mV)] = A at hD ⊢
  have hS : va_S A s.heap s.heap [] := va_S.rf
  have hl := lv_entry ([.ref km, .int (iI (zs)), .int (iI (zi))]) (n := 3) (Nat.le_of_ble_eq_true rfl)
  rw [lg_entry_eq]
  generalize (lg_sl ([.ref km, .int (iI (zs)), .int (iI (zi))]) ++ List.replicate (3 - (lg_sl ([.ref km, .int (iI (zs)), .int (iI (zi))])).length) Slot.unset).toArray = ls at hl ⊢
  have hl : lv_has ls 3 [(0, .ref km), (1, .int (iI (zs))), (2, .int (iI (zi)))] := hl
  have hH := rfl (a := s.heap)
  refine lv_aload_n hx hb dX6_level_0 rfl (lv_at hl 0 rfl) ?_
  refine lv_iload_n hx hb dX6_level_1 rfl (lv_at hl 1 rfl) ?_
  refine lv_iload_n hx hb dX6_level_2 rfl (lv_at hl 2 rfl) ?_
  have pk1 : picks [(km, .inr (6, [.int (iI (th)), .int (iI (((sh : Nat) : Int))), .int (iI (((it : Nat) : Int))), .int (iI (((dy : Nat) : Int))), .int (iI (lc)), .int (iI (sv)), .int (iI (lr)), .int (iI (sr)), .ref pL, .ref pP, .ref pC, .ref pI, .ref pM, .ref pS, .ref pV, .ref pN, .ref pE, .ref pA, .ref pO, .ref pT, .ref pD, .ref pG, .ref pW])), (pI, arZ cs 20 mI), (pV, arI cs 20 mV)] [0, 1] [(km, .inr (6, [.int (iI (th)), .int (iI (((sh : Nat) : Int))), .int (iI (((it : Nat) : Int))), .int (iI (((dy : Nat) : Int))), .int (iI (lc)), .int (iI (sv)), .int (iI (lr)), .int (iI (sr)), .ref pL, .ref pP, .ref pC, .ref pI, .ref pM, .ref pS, .ref pV, .ref pN, .ref pE, .ref pA, .ref pO, .ref pT, .ref pD, .ref pG, .ref pW])), (pI, arZ cs 20 mI)] := ⟨rfl, rfl, trivial⟩
  refine va_calli (va_runV (As := [.int (iI (zs)), .int (iI (zi))]) (rest := []) ⟨hx, hb, hml, hown, hts⟩ (m_X6_isLine l D cs km pL pP pC pI pM pS pV pN pE pA pO pT pD pG pW sh it th dy lc sv lr sr mI zs zi (by assumption) (by assumption) (by assumption) (by omega) (by omega)) (cwV 2 hts (gV w_932 w_934 w_p19 w_5 w_935) rfl rfl rfl (by decide +kernel) ⟨Nat.le_of_ble_eq_true rfl, Nat.le_of_ble_eq_true rfl⟩) (PC_V hK hN hP hD [0, 1] rfl pk1 rfl rfl) rfl rfl hl.1 rfl (lv_room (Nat.le_of_ble_eq_true rfl)) dX6_level_3 ⟨Nat.le_of_ble_eq_true rfl, Nat.le_of_ble_eq_true rfl⟩) hS (fun q _ h => inW_sub hD [0, 1] pk1 q h) (fun q h => inW_sub hD [0, 1] pk1 q h) (fun r u t H locs ht hvm hw hB hz1 hk1 hS => ?_)
  subst hw
  rw [ht] at hB
  obtain ⟨hP, hD⟩ := my_join (W1 := [(km, .inr (6, [.int (iI (((cdM sh it mI zs zi : Nat) : Int))), .int (iI (((sh : Nat) : Int))), .int (iI (((it : Nat) : Int))), .int (iI (((dy : Nat) : Int))), .int (iI (lc)), .int (iI (sv)), .int (iI (lr)), .int (iI (sr)), .ref pL, .ref pP, .ref pC, .ref pI, .ref pM, .ref pS, .ref pV, .ref pN, .ref pE, .ref pA, .ref pO, .ref pT, .ref pD, .ref pG, .ref pW])), (pI, arZ cs 20 mI)]) hP hD [0, 1] rfl pk1 rfl hk1 hB
  have hP : va_P D vwCl [(km, .inr (6, [.int (iI (((cdM sh it mI zs zi : Nat) : Int))), .int (iI (((sh : Nat) : Int))), .int (iI (((it : Nat) : Int))), .int (iI (((dy : Nat) : Int))), .int (iI (lc)), .int (iI (sv)), .int (iI (lr)), .int (iI (sr)), .ref pL, .ref pP, .ref pC, .ref pI, .ref pM, .ref pS, .ref pV, .ref pN, .ref pE, .ref pA, .ref pO, .ref pT, .ref pD, .ref pG, .ref pW])), (pI, arZ cs 20 mI), (pV, arI cs 20 mV)] H := hP
  have hD : va_D A [(km, .inr (6, [.int (iI (((cdM sh it mI zs zi : Nat) : Int))), .int (iI (((sh : Nat) : Int))), .int (iI (((it : Nat) : Int))), .int (iI (((dy : Nat) : Int))), .int (iI (lc)), .int (iI (sv)), .int (iI (lr)), .int (iI (sr)), .ref pL, .ref pP, .ref pC, .ref pI, .ref pM, .ref pS, .ref pV, .ref pN, .ref pE, .ref pA, .ref pO, .ref pT, .ref pD, .ref pG, .ref pW])), (pI, arZ cs 20 mI), (pV, arI cs 20 mV)] := hD
  have hcm := cdM_s sh it mI zs zi
  have hbb := b01_s (cdM sh it mI zs zi)
  refine my_if_eq (tgt := 22) hx hb (by omega) dX6_level_6 (by decide) (fun b2 => ?_) (fun b2 => ?_)
  · refine lv_iconst (v := iI (0)) hx hb dX6_level_22 rfl ?_
    have hWe : ([(km, .inr (6, [.int (iI (((cdM sh it mI zs zi : Nat) : Int))), .int (iI (((sh : Nat) : Int))), .int (iI (((it : Nat) : Int))), .int (iI (((dy : Nat) : Int))), .int (iI (lc)), .int (iI (sv)), .int (iI (lr)), .int (iI (sr)), .ref pL, .ref pP, .ref pC, .ref pI, .ref pM, .ref pS, .ref pV, .ref pN, .ref pE, .ref pA, .ref pO, .ref pT, .ref pD, .ref pG, .ref pW])), (pI, arZ cs 20 mI), (pV, arI cs 20 mV)] : va_W) = [(km, .inr (6, [.int (iI ((((cdM sh it mI zs zi) : Nat) : Int))), .int (iI (((sh : Nat) : Int))), .int (iI (((it : Nat) : Int))), .int (iI (((dy : Nat) : Int))), .int (iI (lc)), .int (iI (sv)), .int (iI (lr)), .int (iI (sr)), .ref pL, .ref pP, .ref pC, .ref pI, .ref pM, .ref pS, .ref pV, .ref pN, .ref pE, .ref pA, .ref pO, .ref pT, .ref pD, .ref pG, .ref pW])), (pI, arZ cs 20 mI), (pV, arI cs 20 mV)] := by
      first | rfl | (congr 1; omega)
    rw [hWe] at hP
    subst hAe
    have hres : iI (0) = iI (if cdM sh it mI zs zi = 0 then mV (5 * zs + zi).toNat else 0) := congrArg iI (by
        first | rw [if_pos (by omega)] | rw [if_neg (by omega)])
    exact W.iret hx hb hr (fun t ht hW => ⟨⟨_, (), rfl, hres, by show va_P D vwCl _ t.heap; rw [ht]; exact hP⟩, hS.F ht⟩) hS.2.2 dX6_level_23
  · refine lv_aload_n hx hb dX6_level_9 rfl (lv_at hl 0 rfl) ?_
    refine my_get hx hb hts inAX6 hown hK hP 0 rfl rfl 14 (by decide) w_815 rfl rfl dX6_level_10 ?_
    refine lv_iconst (v := iI (5)) hx hb dX6_level_13 rfl ?_
    refine lv_iload_n hx hb dX6_level_14 rfl (lv_at hl 1 rfl) ?_
    refine my_imul (z := 5 * zs) hx hb dX6_level_15 (rfl) ?_
    refine lv_iload_n hx hb dX6_level_16 rfl (lv_at hl 2 rfl) ?_
    refine my_iadd (z := (5 * zs) + zi) hx hb dX6_level_17 (rfl) ?_
    refine my_iald hx hb hK hP 2 rfl (by omega) (k := ((5 * zs) + zi).toNat) (rfl) dX6_level_18 ?_
    refine lv_goto (tgt := 23) hx hb dX6_level_19 (by decide) ?_
    have hWe : ([(km, .inr (6, [.int (iI (((cdM sh it mI zs zi : Nat) : Int))), .int (iI (((sh : Nat) : Int))), .int (iI (((it : Nat) : Int))), .int (iI (((dy : Nat) : Int))), .int (iI (lc)), .int (iI (sv)), .int (iI (lr)), .int (iI (sr)), .ref pL, .ref pP, .ref pC, .ref pI, .ref pM, .ref pS, .ref pV, .ref pN, .ref pE, .ref pA, .ref pO, .ref pT, .ref pD, .ref pG, .ref pW])), (pI, arZ cs 20 mI), (pV, arI cs 20 mV)] : va_W) = [(km, .inr (6, [.int (iI ((((cdM sh it mI zs zi) : Nat) : Int))), .int (iI (((sh : Nat) : Int))), .int (iI (((it : Nat) : Int))), .int (iI (((dy : Nat) : Int))), .int (iI (lc)), .int (iI (sv)), .int (iI (lr)), .int (iI (sr)), .ref pL, .ref pP, .ref pC, .ref pI, .ref pM, .ref pS, .ref pV, .ref pN, .ref pE, .ref pA, .ref pO, .ref pT, .ref pD, .ref pG, .ref pW])), (pI, arZ cs 20 mI), (pV, arI cs 20 mV)] := by
      first | rfl | (congr 1; omega)
    rw [hWe] at hP
    subst hAe
    have hres : iI (mV (((5 * zs) + zi).toNat)) = iI (if cdM sh it mI zs zi = 0 then mV (5 * zs + zi).toNat else 0) := congrArg iI (by
        first | rw [if_pos (by omega)] | rw [if_neg (by omega)])
    exact W.iret hx hb hr (fun t ht hW => ⟨⟨_, (), rfl, hres, by show va_P D vwCl _ t.heap; rw [ht]; exact hP⟩, hS.F ht⟩) hS.2.2 dX6_level_23

abbrev ws_X6_stock : List Cond := Cond.code yX6_stock cX6_stock 3 (some .int) :: ALL
set_option maxHeartbeats 4000000 in
set_option maxRecDepth 100000 in
theorem m_X6_stock (l : Launch) (D : va_G) (cs : Nat → ClassId) (km pL pP pC pI pM pS pV pN pE pA pO pT pD pG pW sh it : Nat) (th : Int) (dy : Nat) (lc sv lr sr : Int) (mI : Nat → Int) (mS : Nat → Int) (zs zi : Int) (hsh : sh ≤ 4) (hit : it ≤ 5) (hmI : ∀ j, 0 ≤ mI j ∧ mI j ≤ 1) (hzs : -2147483648 ≤ zs ∧ zs < 2147483648) (hzi : -2147483648 ≤ zi ∧ zi < 2147483648) : Met l yX6_stock ws_X6_stock ({ frames := 3, cells := 0, slots := 0, locals := 65 }) (va_Pc [.ref km, .int (iI (zs)), .int (iI (zi))] (PC D cs [(km, .inr (6, [.int (iI (th)), .int (iI (((sh : Nat) : Int))), .int (iI (((it : Nat) : Int))), .int (iI (((dy : Nat) : Int))), .int (iI (lc)), .int (iI (sv)), .int (iI (lr)), .int (iI (sr)), .ref pL, .ref pP, .ref pC, .ref pI, .ref pM, .ref pS, .ref pV, .ref pN, .ref pE, .ref pA, .ref pO, .ref pT, .ref pD, .ref pG, .ref pW])), (pI, arZ cs 20 mI), (pS, arI cs 20 mS)])) (va_Qi (fun r (_ : Unit) => r = iI (if cdM sh it mI zs zi = 0 then mS (5 * zs + zi).toNat else 0)) (fun _ t => va_P D vwCl [(km, .inr (6, [.int (iI ((((cdM sh it mI zs zi) : Nat) : Int))), .int (iI (((sh : Nat) : Int))), .int (iI (((it : Nat) : Int))), .int (iI (((dy : Nat) : Int))), .int (iI (lc)), .int (iI (sv)), .int (iI (lr)), .int (iI (sr)), .ref pL, .ref pP, .ref pC, .ref pI, .ref pM, .ref pS, .ref pV, .ref pN, .ref pE, .ref pA, .ref pO, .ref pT, .ref pD, .ref pG, .ref pW])), (pI, arZ cs 20 mI), (pS, arI cs 20 mS)] t.heap) (inW [(km, .inr (6, [.int (iI (th)), .int (iI (((sh : Nat) : Int))), .int (iI (((it : Nat) : Int))), .int (iI (((dy : Nat) : Int))), .int (iI (lc)), .int (iI (sv)), .int (iI (lr)), .int (iI (sr)), .ref pL, .ref pP, .ref pC, .ref pI, .ref pM, .ref pS, .ref pV, .ref pN, .ref pE, .ref pA, .ref pO, .ref pT, .ref pD, .ref pG, .ref pW])), (pI, arZ cs 20 mI), (pS, arI cs 20 mS)])) 0 0 (inW [(km, .inr (6, [.int (iI (th)), .int (iI (((sh : Nat) : Int))), .int (iI (((it : Nat) : Int))), .int (iI (((dy : Nat) : Int))), .int (iI (lc)), .int (iI (sv)), .int (iI (lr)), .int (iI (sr)), .ref pL, .ref pP, .ref pC, .ref pI, .ref pM, .ref pS, .ref pV, .ref pN, .ref pE, .ref pA, .ref pO, .ref pT, .ref pD, .ref pG, .ref pW])), (pI, arZ cs 20 mI), (pS, arI cs 20 mS)]) := by
  refine Met.ofW (cc := cX6_stock) (maxL := 3) (ret := (some .int)) (by decide +kernel) rfl ?_
  intro p e s m args below meth c s₁ B hml hv
  obtain ⟨rfl, hP, hK, hD, hN⟩ := hv
  have hx := B.exec
  have hb := B.bytes
  have hr := B.returns
  have hts : ∀ w ∈ ALL, w.before _ s = true := fun w h => atoms_spec (ws := ws_X6_stock) B.pre w (List.mem_cons_of_mem _ h)
  have hown : s.vm.findClass RX6 = some m.cls := findClass_of_methodNamed B.named
  have hlocks := B.notSynchronized
  generalize hAe : inW [(km, .inr (6, [.int (iI (th)), .int (iI (((sh : Nat) : Int))), .int (iI (((it : Nat) : Int))), .int (iI (((dy : Nat) : Int))), .int (iI (lc)), .int (iI (sv)), .int (iI (lr)), .int (iI (sr)), .ref pL, .ref pP, .ref pC, .ref pI, .ref pM, .ref pS, .ref pV, .ref pN, .ref pE, .ref pA, .ref pO, .ref pT, .ref pD, .ref pG, .ref pW])), (pI, arZ cs 20 mI), (pS, arI cs 20 mS)] = A at hD ⊢
  have hS : va_S A s.heap s.heap [] := va_S.rf
  have hl := lv_entry ([.ref km, .int (iI (zs)), .int (iI (zi))]) (n := 3) (Nat.le_of_ble_eq_true rfl)
  rw [lg_entry_eq]
  generalize (lg_sl ([.ref km, .int (iI (zs)), .int (iI (zi))]) ++ List.replicate (3 - (lg_sl ([.ref km, .int (iI (zs)), .int (iI (zi))])).length) Slot.unset).toArray = ls at hl ⊢
  have hl : lv_has ls 3 [(0, .ref km), (1, .int (iI (zs))), (2, .int (iI (zi)))] := hl
  have hH := rfl (a := s.heap)
  refine lv_aload_n hx hb dX6_stock_0 rfl (lv_at hl 0 rfl) ?_
  refine lv_iload_n hx hb dX6_stock_1 rfl (lv_at hl 1 rfl) ?_
  refine lv_iload_n hx hb dX6_stock_2 rfl (lv_at hl 2 rfl) ?_
  have pk1 : picks [(km, .inr (6, [.int (iI (th)), .int (iI (((sh : Nat) : Int))), .int (iI (((it : Nat) : Int))), .int (iI (((dy : Nat) : Int))), .int (iI (lc)), .int (iI (sv)), .int (iI (lr)), .int (iI (sr)), .ref pL, .ref pP, .ref pC, .ref pI, .ref pM, .ref pS, .ref pV, .ref pN, .ref pE, .ref pA, .ref pO, .ref pT, .ref pD, .ref pG, .ref pW])), (pI, arZ cs 20 mI), (pS, arI cs 20 mS)] [0, 1] [(km, .inr (6, [.int (iI (th)), .int (iI (((sh : Nat) : Int))), .int (iI (((it : Nat) : Int))), .int (iI (((dy : Nat) : Int))), .int (iI (lc)), .int (iI (sv)), .int (iI (lr)), .int (iI (sr)), .ref pL, .ref pP, .ref pC, .ref pI, .ref pM, .ref pS, .ref pV, .ref pN, .ref pE, .ref pA, .ref pO, .ref pT, .ref pD, .ref pG, .ref pW])), (pI, arZ cs 20 mI)] := ⟨rfl, rfl, trivial⟩
  refine va_calli (va_runV (As := [.int (iI (zs)), .int (iI (zi))]) (rest := []) ⟨hx, hb, hml, hown, hts⟩ (m_X6_isLine l D cs km pL pP pC pI pM pS pV pN pE pA pO pT pD pG pW sh it th dy lc sv lr sr mI zs zi (by assumption) (by assumption) (by assumption) (by omega) (by omega)) (cwV 2 hts (gV w_932 w_934 w_p19 w_5 w_935) rfl rfl rfl (by decide +kernel) ⟨Nat.le_of_ble_eq_true rfl, Nat.le_of_ble_eq_true rfl⟩) (PC_V hK hN hP hD [0, 1] rfl pk1 rfl rfl) rfl rfl hl.1 rfl (lv_room (Nat.le_of_ble_eq_true rfl)) dX6_stock_3 ⟨Nat.le_of_ble_eq_true rfl, Nat.le_of_ble_eq_true rfl⟩) hS (fun q _ h => inW_sub hD [0, 1] pk1 q h) (fun q h => inW_sub hD [0, 1] pk1 q h) (fun r u t H locs ht hvm hw hB hz1 hk1 hS => ?_)
  subst hw
  rw [ht] at hB
  obtain ⟨hP, hD⟩ := my_join (W1 := [(km, .inr (6, [.int (iI (((cdM sh it mI zs zi : Nat) : Int))), .int (iI (((sh : Nat) : Int))), .int (iI (((it : Nat) : Int))), .int (iI (((dy : Nat) : Int))), .int (iI (lc)), .int (iI (sv)), .int (iI (lr)), .int (iI (sr)), .ref pL, .ref pP, .ref pC, .ref pI, .ref pM, .ref pS, .ref pV, .ref pN, .ref pE, .ref pA, .ref pO, .ref pT, .ref pD, .ref pG, .ref pW])), (pI, arZ cs 20 mI)]) hP hD [0, 1] rfl pk1 rfl hk1 hB
  have hP : va_P D vwCl [(km, .inr (6, [.int (iI (((cdM sh it mI zs zi : Nat) : Int))), .int (iI (((sh : Nat) : Int))), .int (iI (((it : Nat) : Int))), .int (iI (((dy : Nat) : Int))), .int (iI (lc)), .int (iI (sv)), .int (iI (lr)), .int (iI (sr)), .ref pL, .ref pP, .ref pC, .ref pI, .ref pM, .ref pS, .ref pV, .ref pN, .ref pE, .ref pA, .ref pO, .ref pT, .ref pD, .ref pG, .ref pW])), (pI, arZ cs 20 mI), (pS, arI cs 20 mS)] H := hP
  have hD : va_D A [(km, .inr (6, [.int (iI (((cdM sh it mI zs zi : Nat) : Int))), .int (iI (((sh : Nat) : Int))), .int (iI (((it : Nat) : Int))), .int (iI (((dy : Nat) : Int))), .int (iI (lc)), .int (iI (sv)), .int (iI (lr)), .int (iI (sr)), .ref pL, .ref pP, .ref pC, .ref pI, .ref pM, .ref pS, .ref pV, .ref pN, .ref pE, .ref pA, .ref pO, .ref pT, .ref pD, .ref pG, .ref pW])), (pI, arZ cs 20 mI), (pS, arI cs 20 mS)] := hD
  have hcm := cdM_s sh it mI zs zi
  have hbb := b01_s (cdM sh it mI zs zi)
  refine my_if_eq (tgt := 22) hx hb (by omega) dX6_stock_6 (by decide) (fun b2 => ?_) (fun b2 => ?_)
  · refine lv_iconst (v := iI (0)) hx hb dX6_stock_22 rfl ?_
    have hWe : ([(km, .inr (6, [.int (iI (((cdM sh it mI zs zi : Nat) : Int))), .int (iI (((sh : Nat) : Int))), .int (iI (((it : Nat) : Int))), .int (iI (((dy : Nat) : Int))), .int (iI (lc)), .int (iI (sv)), .int (iI (lr)), .int (iI (sr)), .ref pL, .ref pP, .ref pC, .ref pI, .ref pM, .ref pS, .ref pV, .ref pN, .ref pE, .ref pA, .ref pO, .ref pT, .ref pD, .ref pG, .ref pW])), (pI, arZ cs 20 mI), (pS, arI cs 20 mS)] : va_W) = [(km, .inr (6, [.int (iI ((((cdM sh it mI zs zi) : Nat) : Int))), .int (iI (((sh : Nat) : Int))), .int (iI (((it : Nat) : Int))), .int (iI (((dy : Nat) : Int))), .int (iI (lc)), .int (iI (sv)), .int (iI (lr)), .int (iI (sr)), .ref pL, .ref pP, .ref pC, .ref pI, .ref pM, .ref pS, .ref pV, .ref pN, .ref pE, .ref pA, .ref pO, .ref pT, .ref pD, .ref pG, .ref pW])), (pI, arZ cs 20 mI), (pS, arI cs 20 mS)] := by
      first | rfl | (congr 1; omega)
    rw [hWe] at hP
    subst hAe
    have hres : iI (0) = iI (if cdM sh it mI zs zi = 0 then mS (5 * zs + zi).toNat else 0) := congrArg iI (by
        first | rw [if_pos (by omega)] | rw [if_neg (by omega)])
    exact W.iret hx hb hr (fun t ht hW => ⟨⟨_, (), rfl, hres, by show va_P D vwCl _ t.heap; rw [ht]; exact hP⟩, hS.F ht⟩) hS.2.2 dX6_stock_23
  · refine lv_aload_n hx hb dX6_stock_9 rfl (lv_at hl 0 rfl) ?_
    refine my_get hx hb hts inAX6 hown hK hP 0 rfl rfl 13 (by decide) w_814 rfl rfl dX6_stock_10 ?_
    refine lv_iconst (v := iI (5)) hx hb dX6_stock_13 rfl ?_
    refine lv_iload_n hx hb dX6_stock_14 rfl (lv_at hl 1 rfl) ?_
    refine my_imul (z := 5 * zs) hx hb dX6_stock_15 (rfl) ?_
    refine lv_iload_n hx hb dX6_stock_16 rfl (lv_at hl 2 rfl) ?_
    refine my_iadd (z := (5 * zs) + zi) hx hb dX6_stock_17 (rfl) ?_
    refine my_iald hx hb hK hP 2 rfl (by omega) (k := ((5 * zs) + zi).toNat) (rfl) dX6_stock_18 ?_
    refine lv_goto (tgt := 23) hx hb dX6_stock_19 (by decide) ?_
    have hWe : ([(km, .inr (6, [.int (iI (((cdM sh it mI zs zi : Nat) : Int))), .int (iI (((sh : Nat) : Int))), .int (iI (((it : Nat) : Int))), .int (iI (((dy : Nat) : Int))), .int (iI (lc)), .int (iI (sv)), .int (iI (lr)), .int (iI (sr)), .ref pL, .ref pP, .ref pC, .ref pI, .ref pM, .ref pS, .ref pV, .ref pN, .ref pE, .ref pA, .ref pO, .ref pT, .ref pD, .ref pG, .ref pW])), (pI, arZ cs 20 mI), (pS, arI cs 20 mS)] : va_W) = [(km, .inr (6, [.int (iI ((((cdM sh it mI zs zi) : Nat) : Int))), .int (iI (((sh : Nat) : Int))), .int (iI (((it : Nat) : Int))), .int (iI (((dy : Nat) : Int))), .int (iI (lc)), .int (iI (sv)), .int (iI (lr)), .int (iI (sr)), .ref pL, .ref pP, .ref pC, .ref pI, .ref pM, .ref pS, .ref pV, .ref pN, .ref pE, .ref pA, .ref pO, .ref pT, .ref pD, .ref pG, .ref pW])), (pI, arZ cs 20 mI), (pS, arI cs 20 mS)] := by
      first | rfl | (congr 1; omega)
    rw [hWe] at hP
    subst hAe
    have hres : iI (mS (((5 * zs) + zi).toNat)) = iI (if cdM sh it mI zs zi = 0 then mS (5 * zs + zi).toNat else 0) := congrArg iI (by
        first | rw [if_pos (by omega)] | rw [if_neg (by omega)])
    exact W.iret hx hb hr (fun t ht hW => ⟨⟨_, (), rfl, hres, by show va_P D vwCl _ t.heap; rw [ht]; exact hP⟩, hS.F ht⟩) hS.2.2 dX6_stock_23

abbrev ws_X6_sold : List Cond := Cond.code yX6_sold cX6_sold 3 (some .int) :: ALL
set_option maxHeartbeats 4000000 in
set_option maxRecDepth 100000 in
theorem m_X6_sold (l : Launch) (D : va_G) (cs : Nat → ClassId) (km pL pP pC pI pM pS pV pN pE pA pO pT pD pG pW sh it : Nat) (th : Int) (dy : Nat) (lc sv lr sr : Int) (mI : Nat → Int) (mO : Nat → Int) (zs zi : Int) (hsh : sh ≤ 4) (hit : it ≤ 5) (hmI : ∀ j, 0 ≤ mI j ∧ mI j ≤ 1) (hzs : -2147483648 ≤ zs ∧ zs < 2147483648) (hzi : -2147483648 ≤ zi ∧ zi < 2147483648) : Met l yX6_sold ws_X6_sold ({ frames := 3, cells := 0, slots := 0, locals := 65 }) (va_Pc [.ref km, .int (iI (zs)), .int (iI (zi))] (PC D cs [(km, .inr (6, [.int (iI (th)), .int (iI (((sh : Nat) : Int))), .int (iI (((it : Nat) : Int))), .int (iI (((dy : Nat) : Int))), .int (iI (lc)), .int (iI (sv)), .int (iI (lr)), .int (iI (sr)), .ref pL, .ref pP, .ref pC, .ref pI, .ref pM, .ref pS, .ref pV, .ref pN, .ref pE, .ref pA, .ref pO, .ref pT, .ref pD, .ref pG, .ref pW])), (pI, arZ cs 20 mI), (pO, arI cs 20 mO)])) (va_Qi (fun r (_ : Unit) => r = iI (if cdM sh it mI zs zi = 0 then mO (5 * zs + zi).toNat else 0)) (fun _ t => va_P D vwCl [(km, .inr (6, [.int (iI ((((cdM sh it mI zs zi) : Nat) : Int))), .int (iI (((sh : Nat) : Int))), .int (iI (((it : Nat) : Int))), .int (iI (((dy : Nat) : Int))), .int (iI (lc)), .int (iI (sv)), .int (iI (lr)), .int (iI (sr)), .ref pL, .ref pP, .ref pC, .ref pI, .ref pM, .ref pS, .ref pV, .ref pN, .ref pE, .ref pA, .ref pO, .ref pT, .ref pD, .ref pG, .ref pW])), (pI, arZ cs 20 mI), (pO, arI cs 20 mO)] t.heap) (inW [(km, .inr (6, [.int (iI (th)), .int (iI (((sh : Nat) : Int))), .int (iI (((it : Nat) : Int))), .int (iI (((dy : Nat) : Int))), .int (iI (lc)), .int (iI (sv)), .int (iI (lr)), .int (iI (sr)), .ref pL, .ref pP, .ref pC, .ref pI, .ref pM, .ref pS, .ref pV, .ref pN, .ref pE, .ref pA, .ref pO, .ref pT, .ref pD, .ref pG, .ref pW])), (pI, arZ cs 20 mI), (pO, arI cs 20 mO)])) 0 0 (inW [(km, .inr (6, [.int (iI (th)), .int (iI (((sh : Nat) : Int))), .int (iI (((it : Nat) : Int))), .int (iI (((dy : Nat) : Int))), .int (iI (lc)), .int (iI (sv)), .int (iI (lr)), .int (iI (sr)), .ref pL, .ref pP, .ref pC, .ref pI, .ref pM, .ref pS, .ref pV, .ref pN, .ref pE, .ref pA, .ref pO, .ref pT, .ref pD, .ref pG, .ref pW])), (pI, arZ cs 20 mI), (pO, arI cs 20 mO)]) := by
  refine Met.ofW (cc := cX6_sold) (maxL := 3) (ret := (some .int)) (by decide +kernel) rfl ?_
  intro p e s m args below meth c s₁ B hml hv
  obtain ⟨rfl, hP, hK, hD, hN⟩ := hv
  have hx := B.exec
  have hb := B.bytes
  have hr := B.returns
  have hts : ∀ w ∈ ALL, w.before _ s = true := fun w h => atoms_spec (ws := ws_X6_sold) B.pre w (List.mem_cons_of_mem _ h)
  have hown : s.vm.findClass RX6 = some m.cls := findClass_of_methodNamed B.named
  have hlocks := B.notSynchronized
  generalize hAe : inW [(km, .inr (6, [.int (iI (th)), .int (iI (((sh : Nat) : Int))), .int (iI (((it : Nat) : Int))), .int (iI (((dy : Nat) : Int))), .int (iI (lc)), .int (iI (sv)), .int (iI (lr)), .int (iI (sr)), .ref pL, .ref pP, .ref pC, .ref pI, .ref pM, .ref pS, .ref pV, .ref pN, .ref pE, .ref pA, .ref pO, .ref pT, .ref pD, .ref pG, .ref pW])), (pI, arZ cs 20 mI), (pO, arI cs 20 mO)] = A at hD ⊢
  have hS : va_S A s.heap s.heap [] := va_S.rf
  have hl := lv_entry ([.ref km, .int (iI (zs)), .int (iI (zi))]) (n := 3) (Nat.le_of_ble_eq_true rfl)
  rw [lg_entry_eq]
  generalize (lg_sl ([.ref km, .int (iI (zs)), .int (iI (zi))]) ++ List.replicate (3 - (lg_sl ([.ref km, .int (iI (zs)), .int (iI (zi))])).length) Slot.unset).toArray = ls at hl ⊢
  have hl : lv_has ls 3 [(0, .ref km), (1, .int (iI (zs))), (2, .int (iI (zi)))] := hl
  have hH := rfl (a := s.heap)
  refine lv_aload_n hx hb dX6_sold_0 rfl (lv_at hl 0 rfl) ?_
  refine lv_iload_n hx hb dX6_sold_1 rfl (lv_at hl 1 rfl) ?_
  refine lv_iload_n hx hb dX6_sold_2 rfl (lv_at hl 2 rfl) ?_
  have pk1 : picks [(km, .inr (6, [.int (iI (th)), .int (iI (((sh : Nat) : Int))), .int (iI (((it : Nat) : Int))), .int (iI (((dy : Nat) : Int))), .int (iI (lc)), .int (iI (sv)), .int (iI (lr)), .int (iI (sr)), .ref pL, .ref pP, .ref pC, .ref pI, .ref pM, .ref pS, .ref pV, .ref pN, .ref pE, .ref pA, .ref pO, .ref pT, .ref pD, .ref pG, .ref pW])), (pI, arZ cs 20 mI), (pO, arI cs 20 mO)] [0, 1] [(km, .inr (6, [.int (iI (th)), .int (iI (((sh : Nat) : Int))), .int (iI (((it : Nat) : Int))), .int (iI (((dy : Nat) : Int))), .int (iI (lc)), .int (iI (sv)), .int (iI (lr)), .int (iI (sr)), .ref pL, .ref pP, .ref pC, .ref pI, .ref pM, .ref pS, .ref pV, .ref pN, .ref pE, .ref pA, .ref pO, .ref pT, .ref pD, .ref pG, .ref pW])), (pI, arZ cs 20 mI)] := ⟨rfl, rfl, trivial⟩
  refine va_calli (va_runV (As := [.int (iI (zs)), .int (iI (zi))]) (rest := []) ⟨hx, hb, hml, hown, hts⟩ (m_X6_isLine l D cs km pL pP pC pI pM pS pV pN pE pA pO pT pD pG pW sh it th dy lc sv lr sr mI zs zi (by assumption) (by assumption) (by assumption) (by omega) (by omega)) (cwV 2 hts (gV w_932 w_934 w_p19 w_5 w_935) rfl rfl rfl (by decide +kernel) ⟨Nat.le_of_ble_eq_true rfl, Nat.le_of_ble_eq_true rfl⟩) (PC_V hK hN hP hD [0, 1] rfl pk1 rfl rfl) rfl rfl hl.1 rfl (lv_room (Nat.le_of_ble_eq_true rfl)) dX6_sold_3 ⟨Nat.le_of_ble_eq_true rfl, Nat.le_of_ble_eq_true rfl⟩) hS (fun q _ h => inW_sub hD [0, 1] pk1 q h) (fun q h => inW_sub hD [0, 1] pk1 q h) (fun r u t H locs ht hvm hw hB hz1 hk1 hS => ?_)
  subst hw
  rw [ht] at hB
  obtain ⟨hP, hD⟩ := my_join (W1 := [(km, .inr (6, [.int (iI (((cdM sh it mI zs zi : Nat) : Int))), .int (iI (((sh : Nat) : Int))), .int (iI (((it : Nat) : Int))), .int (iI (((dy : Nat) : Int))), .int (iI (lc)), .int (iI (sv)), .int (iI (lr)), .int (iI (sr)), .ref pL, .ref pP, .ref pC, .ref pI, .ref pM, .ref pS, .ref pV, .ref pN, .ref pE, .ref pA, .ref pO, .ref pT, .ref pD, .ref pG, .ref pW])), (pI, arZ cs 20 mI)]) hP hD [0, 1] rfl pk1 rfl hk1 hB
  have hP : va_P D vwCl [(km, .inr (6, [.int (iI (((cdM sh it mI zs zi : Nat) : Int))), .int (iI (((sh : Nat) : Int))), .int (iI (((it : Nat) : Int))), .int (iI (((dy : Nat) : Int))), .int (iI (lc)), .int (iI (sv)), .int (iI (lr)), .int (iI (sr)), .ref pL, .ref pP, .ref pC, .ref pI, .ref pM, .ref pS, .ref pV, .ref pN, .ref pE, .ref pA, .ref pO, .ref pT, .ref pD, .ref pG, .ref pW])), (pI, arZ cs 20 mI), (pO, arI cs 20 mO)] H := hP
  have hD : va_D A [(km, .inr (6, [.int (iI (((cdM sh it mI zs zi : Nat) : Int))), .int (iI (((sh : Nat) : Int))), .int (iI (((it : Nat) : Int))), .int (iI (((dy : Nat) : Int))), .int (iI (lc)), .int (iI (sv)), .int (iI (lr)), .int (iI (sr)), .ref pL, .ref pP, .ref pC, .ref pI, .ref pM, .ref pS, .ref pV, .ref pN, .ref pE, .ref pA, .ref pO, .ref pT, .ref pD, .ref pG, .ref pW])), (pI, arZ cs 20 mI), (pO, arI cs 20 mO)] := hD
  have hcm := cdM_s sh it mI zs zi
  have hbb := b01_s (cdM sh it mI zs zi)
  refine my_if_eq (tgt := 22) hx hb (by omega) dX6_sold_6 (by decide) (fun b2 => ?_) (fun b2 => ?_)
  · refine lv_iconst (v := iI (0)) hx hb dX6_sold_22 rfl ?_
    have hWe : ([(km, .inr (6, [.int (iI (((cdM sh it mI zs zi : Nat) : Int))), .int (iI (((sh : Nat) : Int))), .int (iI (((it : Nat) : Int))), .int (iI (((dy : Nat) : Int))), .int (iI (lc)), .int (iI (sv)), .int (iI (lr)), .int (iI (sr)), .ref pL, .ref pP, .ref pC, .ref pI, .ref pM, .ref pS, .ref pV, .ref pN, .ref pE, .ref pA, .ref pO, .ref pT, .ref pD, .ref pG, .ref pW])), (pI, arZ cs 20 mI), (pO, arI cs 20 mO)] : va_W) = [(km, .inr (6, [.int (iI ((((cdM sh it mI zs zi) : Nat) : Int))), .int (iI (((sh : Nat) : Int))), .int (iI (((it : Nat) : Int))), .int (iI (((dy : Nat) : Int))), .int (iI (lc)), .int (iI (sv)), .int (iI (lr)), .int (iI (sr)), .ref pL, .ref pP, .ref pC, .ref pI, .ref pM, .ref pS, .ref pV, .ref pN, .ref pE, .ref pA, .ref pO, .ref pT, .ref pD, .ref pG, .ref pW])), (pI, arZ cs 20 mI), (pO, arI cs 20 mO)] := by
      first | rfl | (congr 1; omega)
    rw [hWe] at hP
    subst hAe
    have hres : iI (0) = iI (if cdM sh it mI zs zi = 0 then mO (5 * zs + zi).toNat else 0) := congrArg iI (by
        first | rw [if_pos (by omega)] | rw [if_neg (by omega)])
    exact W.iret hx hb hr (fun t ht hW => ⟨⟨_, (), rfl, hres, by show va_P D vwCl _ t.heap; rw [ht]; exact hP⟩, hS.F ht⟩) hS.2.2 dX6_sold_23
  · refine lv_aload_n hx hb dX6_sold_9 rfl (lv_at hl 0 rfl) ?_
    refine my_get hx hb hts inAX6 hown hK hP 0 rfl rfl 18 (by decide) w_819 rfl rfl dX6_sold_10 ?_
    refine lv_iconst (v := iI (5)) hx hb dX6_sold_13 rfl ?_
    refine lv_iload_n hx hb dX6_sold_14 rfl (lv_at hl 1 rfl) ?_
    refine my_imul (z := 5 * zs) hx hb dX6_sold_15 (rfl) ?_
    refine lv_iload_n hx hb dX6_sold_16 rfl (lv_at hl 2 rfl) ?_
    refine my_iadd (z := (5 * zs) + zi) hx hb dX6_sold_17 (rfl) ?_
    refine my_iald hx hb hK hP 2 rfl (by omega) (k := ((5 * zs) + zi).toNat) (rfl) dX6_sold_18 ?_
    refine lv_goto (tgt := 23) hx hb dX6_sold_19 (by decide) ?_
    have hWe : ([(km, .inr (6, [.int (iI (((cdM sh it mI zs zi : Nat) : Int))), .int (iI (((sh : Nat) : Int))), .int (iI (((it : Nat) : Int))), .int (iI (((dy : Nat) : Int))), .int (iI (lc)), .int (iI (sv)), .int (iI (lr)), .int (iI (sr)), .ref pL, .ref pP, .ref pC, .ref pI, .ref pM, .ref pS, .ref pV, .ref pN, .ref pE, .ref pA, .ref pO, .ref pT, .ref pD, .ref pG, .ref pW])), (pI, arZ cs 20 mI), (pO, arI cs 20 mO)] : va_W) = [(km, .inr (6, [.int (iI ((((cdM sh it mI zs zi) : Nat) : Int))), .int (iI (((sh : Nat) : Int))), .int (iI (((it : Nat) : Int))), .int (iI (((dy : Nat) : Int))), .int (iI (lc)), .int (iI (sv)), .int (iI (lr)), .int (iI (sr)), .ref pL, .ref pP, .ref pC, .ref pI, .ref pM, .ref pS, .ref pV, .ref pN, .ref pE, .ref pA, .ref pO, .ref pT, .ref pD, .ref pG, .ref pW])), (pI, arZ cs 20 mI), (pO, arI cs 20 mO)] := by
      first | rfl | (congr 1; omega)
    rw [hWe] at hP
    subst hAe
    have hres : iI (mO (((5 * zs) + zi).toNat)) = iI (if cdM sh it mI zs zi = 0 then mO (5 * zs + zi).toNat else 0) := congrArg iI (by
        first | rw [if_pos (by omega)] | rw [if_neg (by omega)])
    exact W.iret hx hb hr (fun t ht hW => ⟨⟨_, (), rfl, hres, by show va_P D vwCl _ t.heap; rw [ht]; exact hP⟩, hS.F ht⟩) hS.2.2 dX6_sold_23

abbrev ws_X6_lost : List Cond := Cond.code yX6_lost cX6_lost 3 (some .int) :: ALL
set_option maxHeartbeats 4000000 in
set_option maxRecDepth 100000 in
theorem m_X6_lost (l : Launch) (D : va_G) (cs : Nat → ClassId) (km pL pP pC pI pM pS pV pN pE pA pO pT pD pG pW sh it : Nat) (th : Int) (dy : Nat) (lc sv lr sr : Int) (mI : Nat → Int) (mT : Nat → Int) (zs zi : Int) (hsh : sh ≤ 4) (hit : it ≤ 5) (hmI : ∀ j, 0 ≤ mI j ∧ mI j ≤ 1) (hzs : -2147483648 ≤ zs ∧ zs < 2147483648) (hzi : -2147483648 ≤ zi ∧ zi < 2147483648) : Met l yX6_lost ws_X6_lost ({ frames := 3, cells := 0, slots := 0, locals := 65 }) (va_Pc [.ref km, .int (iI (zs)), .int (iI (zi))] (PC D cs [(km, .inr (6, [.int (iI (th)), .int (iI (((sh : Nat) : Int))), .int (iI (((it : Nat) : Int))), .int (iI (((dy : Nat) : Int))), .int (iI (lc)), .int (iI (sv)), .int (iI (lr)), .int (iI (sr)), .ref pL, .ref pP, .ref pC, .ref pI, .ref pM, .ref pS, .ref pV, .ref pN, .ref pE, .ref pA, .ref pO, .ref pT, .ref pD, .ref pG, .ref pW])), (pI, arZ cs 20 mI), (pT, arI cs 20 mT)])) (va_Qi (fun r (_ : Unit) => r = iI (if cdM sh it mI zs zi = 0 then mT (5 * zs + zi).toNat else 0)) (fun _ t => va_P D vwCl [(km, .inr (6, [.int (iI ((((cdM sh it mI zs zi) : Nat) : Int))), .int (iI (((sh : Nat) : Int))), .int (iI (((it : Nat) : Int))), .int (iI (((dy : Nat) : Int))), .int (iI (lc)), .int (iI (sv)), .int (iI (lr)), .int (iI (sr)), .ref pL, .ref pP, .ref pC, .ref pI, .ref pM, .ref pS, .ref pV, .ref pN, .ref pE, .ref pA, .ref pO, .ref pT, .ref pD, .ref pG, .ref pW])), (pI, arZ cs 20 mI), (pT, arI cs 20 mT)] t.heap) (inW [(km, .inr (6, [.int (iI (th)), .int (iI (((sh : Nat) : Int))), .int (iI (((it : Nat) : Int))), .int (iI (((dy : Nat) : Int))), .int (iI (lc)), .int (iI (sv)), .int (iI (lr)), .int (iI (sr)), .ref pL, .ref pP, .ref pC, .ref pI, .ref pM, .ref pS, .ref pV, .ref pN, .ref pE, .ref pA, .ref pO, .ref pT, .ref pD, .ref pG, .ref pW])), (pI, arZ cs 20 mI), (pT, arI cs 20 mT)])) 0 0 (inW [(km, .inr (6, [.int (iI (th)), .int (iI (((sh : Nat) : Int))), .int (iI (((it : Nat) : Int))), .int (iI (((dy : Nat) : Int))), .int (iI (lc)), .int (iI (sv)), .int (iI (lr)), .int (iI (sr)), .ref pL, .ref pP, .ref pC, .ref pI, .ref pM, .ref pS, .ref pV, .ref pN, .ref pE, .ref pA, .ref pO, .ref pT, .ref pD, .ref pG, .ref pW])), (pI, arZ cs 20 mI), (pT, arI cs 20 mT)]) := by
  refine Met.ofW (cc := cX6_lost) (maxL := 3) (ret := (some .int)) (by decide +kernel) rfl ?_
  intro p e s m args below meth c s₁ B hml hv
  obtain ⟨rfl, hP, hK, hD, hN⟩ := hv
  have hx := B.exec
  have hb := B.bytes
  have hr := B.returns
  have hts : ∀ w ∈ ALL, w.before _ s = true := fun w h => atoms_spec (ws := ws_X6_lost) B.pre w (List.mem_cons_of_mem _ h)
  have hown : s.vm.findClass RX6 = some m.cls := findClass_of_methodNamed B.named
  have hlocks := B.notSynchronized
  generalize hAe : inW [(km, .inr (6, [.int (iI (th)), .int (iI (((sh : Nat) : Int))), .int (iI (((it : Nat) : Int))), .int (iI (((dy : Nat) : Int))), .int (iI (lc)), .int (iI (sv)), .int (iI (lr)), .int (iI (sr)), .ref pL, .ref pP, .ref pC, .ref pI, .ref pM, .ref pS, .ref pV, .ref pN, .ref pE, .ref pA, .ref pO, .ref pT, .ref pD, .ref pG, .ref pW])), (pI, arZ cs 20 mI), (pT, arI cs 20 mT)] = A at hD ⊢
  have hS : va_S A s.heap s.heap [] := va_S.rf
  have hl := lv_entry ([.ref km, .int (iI (zs)), .int (iI (zi))]) (n := 3) (Nat.le_of_ble_eq_true rfl)
  rw [lg_entry_eq]
  generalize (lg_sl ([.ref km, .int (iI (zs)), .int (iI (zi))]) ++ List.replicate (3 - (lg_sl ([.ref km, .int (iI (zs)), .int (iI (zi))])).length) Slot.unset).toArray = ls at hl ⊢
  have hl : lv_has ls 3 [(0, .ref km), (1, .int (iI (zs))), (2, .int (iI (zi)))] := hl
  have hH := rfl (a := s.heap)
  refine lv_aload_n hx hb dX6_lost_0 rfl (lv_at hl 0 rfl) ?_
  refine lv_iload_n hx hb dX6_lost_1 rfl (lv_at hl 1 rfl) ?_
  refine lv_iload_n hx hb dX6_lost_2 rfl (lv_at hl 2 rfl) ?_
  have pk1 : picks [(km, .inr (6, [.int (iI (th)), .int (iI (((sh : Nat) : Int))), .int (iI (((it : Nat) : Int))), .int (iI (((dy : Nat) : Int))), .int (iI (lc)), .int (iI (sv)), .int (iI (lr)), .int (iI (sr)), .ref pL, .ref pP, .ref pC, .ref pI, .ref pM, .ref pS, .ref pV, .ref pN, .ref pE, .ref pA, .ref pO, .ref pT, .ref pD, .ref pG, .ref pW])), (pI, arZ cs 20 mI), (pT, arI cs 20 mT)] [0, 1] [(km, .inr (6, [.int (iI (th)), .int (iI (((sh : Nat) : Int))), .int (iI (((it : Nat) : Int))), .int (iI (((dy : Nat) : Int))), .int (iI (lc)), .int (iI (sv)), .int (iI (lr)), .int (iI (sr)), .ref pL, .ref pP, .ref pC, .ref pI, .ref pM, .ref pS, .ref pV, .ref pN, .ref pE, .ref pA, .ref pO, .ref pT, .ref pD, .ref pG, .ref pW])), (pI, arZ cs 20 mI)] := ⟨rfl, rfl, trivial⟩
  refine va_calli (va_runV (As := [.int (iI (zs)), .int (iI (zi))]) (rest := []) ⟨hx, hb, hml, hown, hts⟩ (m_X6_isLine l D cs km pL pP pC pI pM pS pV pN pE pA pO pT pD pG pW sh it th dy lc sv lr sr mI zs zi (by assumption) (by assumption) (by assumption) (by omega) (by omega)) (cwV 2 hts (gV w_932 w_934 w_p19 w_5 w_935) rfl rfl rfl (by decide +kernel) ⟨Nat.le_of_ble_eq_true rfl, Nat.le_of_ble_eq_true rfl⟩) (PC_V hK hN hP hD [0, 1] rfl pk1 rfl rfl) rfl rfl hl.1 rfl (lv_room (Nat.le_of_ble_eq_true rfl)) dX6_lost_3 ⟨Nat.le_of_ble_eq_true rfl, Nat.le_of_ble_eq_true rfl⟩) hS (fun q _ h => inW_sub hD [0, 1] pk1 q h) (fun q h => inW_sub hD [0, 1] pk1 q h) (fun r u t H locs ht hvm hw hB hz1 hk1 hS => ?_)
  subst hw
  rw [ht] at hB
  obtain ⟨hP, hD⟩ := my_join (W1 := [(km, .inr (6, [.int (iI (((cdM sh it mI zs zi : Nat) : Int))), .int (iI (((sh : Nat) : Int))), .int (iI (((it : Nat) : Int))), .int (iI (((dy : Nat) : Int))), .int (iI (lc)), .int (iI (sv)), .int (iI (lr)), .int (iI (sr)), .ref pL, .ref pP, .ref pC, .ref pI, .ref pM, .ref pS, .ref pV, .ref pN, .ref pE, .ref pA, .ref pO, .ref pT, .ref pD, .ref pG, .ref pW])), (pI, arZ cs 20 mI)]) hP hD [0, 1] rfl pk1 rfl hk1 hB
  have hP : va_P D vwCl [(km, .inr (6, [.int (iI (((cdM sh it mI zs zi : Nat) : Int))), .int (iI (((sh : Nat) : Int))), .int (iI (((it : Nat) : Int))), .int (iI (((dy : Nat) : Int))), .int (iI (lc)), .int (iI (sv)), .int (iI (lr)), .int (iI (sr)), .ref pL, .ref pP, .ref pC, .ref pI, .ref pM, .ref pS, .ref pV, .ref pN, .ref pE, .ref pA, .ref pO, .ref pT, .ref pD, .ref pG, .ref pW])), (pI, arZ cs 20 mI), (pT, arI cs 20 mT)] H := hP
  have hD : va_D A [(km, .inr (6, [.int (iI (((cdM sh it mI zs zi : Nat) : Int))), .int (iI (((sh : Nat) : Int))), .int (iI (((it : Nat) : Int))), .int (iI (((dy : Nat) : Int))), .int (iI (lc)), .int (iI (sv)), .int (iI (lr)), .int (iI (sr)), .ref pL, .ref pP, .ref pC, .ref pI, .ref pM, .ref pS, .ref pV, .ref pN, .ref pE, .ref pA, .ref pO, .ref pT, .ref pD, .ref pG, .ref pW])), (pI, arZ cs 20 mI), (pT, arI cs 20 mT)] := hD
  have hcm := cdM_s sh it mI zs zi
  have hbb := b01_s (cdM sh it mI zs zi)
  refine my_if_eq (tgt := 22) hx hb (by omega) dX6_lost_6 (by decide) (fun b2 => ?_) (fun b2 => ?_)
  · refine lv_iconst (v := iI (0)) hx hb dX6_lost_22 rfl ?_
    have hWe : ([(km, .inr (6, [.int (iI (((cdM sh it mI zs zi : Nat) : Int))), .int (iI (((sh : Nat) : Int))), .int (iI (((it : Nat) : Int))), .int (iI (((dy : Nat) : Int))), .int (iI (lc)), .int (iI (sv)), .int (iI (lr)), .int (iI (sr)), .ref pL, .ref pP, .ref pC, .ref pI, .ref pM, .ref pS, .ref pV, .ref pN, .ref pE, .ref pA, .ref pO, .ref pT, .ref pD, .ref pG, .ref pW])), (pI, arZ cs 20 mI), (pT, arI cs 20 mT)] : va_W) = [(km, .inr (6, [.int (iI ((((cdM sh it mI zs zi) : Nat) : Int))), .int (iI (((sh : Nat) : Int))), .int (iI (((it : Nat) : Int))), .int (iI (((dy : Nat) : Int))), .int (iI (lc)), .int (iI (sv)), .int (iI (lr)), .int (iI (sr)), .ref pL, .ref pP, .ref pC, .ref pI, .ref pM, .ref pS, .ref pV, .ref pN, .ref pE, .ref pA, .ref pO, .ref pT, .ref pD, .ref pG, .ref pW])), (pI, arZ cs 20 mI), (pT, arI cs 20 mT)] := by
      first | rfl | (congr 1; omega)
    rw [hWe] at hP
    subst hAe
    have hres : iI (0) = iI (if cdM sh it mI zs zi = 0 then mT (5 * zs + zi).toNat else 0) := congrArg iI (by
        first | rw [if_pos (by omega)] | rw [if_neg (by omega)])
    exact W.iret hx hb hr (fun t ht hW => ⟨⟨_, (), rfl, hres, by show va_P D vwCl _ t.heap; rw [ht]; exact hP⟩, hS.F ht⟩) hS.2.2 dX6_lost_23
  · refine lv_aload_n hx hb dX6_lost_9 rfl (lv_at hl 0 rfl) ?_
    refine my_get hx hb hts inAX6 hown hK hP 0 rfl rfl 19 (by decide) w_820 rfl rfl dX6_lost_10 ?_
    refine lv_iconst (v := iI (5)) hx hb dX6_lost_13 rfl ?_
    refine lv_iload_n hx hb dX6_lost_14 rfl (lv_at hl 1 rfl) ?_
    refine my_imul (z := 5 * zs) hx hb dX6_lost_15 (rfl) ?_
    refine lv_iload_n hx hb dX6_lost_16 rfl (lv_at hl 2 rfl) ?_
    refine my_iadd (z := (5 * zs) + zi) hx hb dX6_lost_17 (rfl) ?_
    refine my_iald hx hb hK hP 2 rfl (by omega) (k := ((5 * zs) + zi).toNat) (rfl) dX6_lost_18 ?_
    refine lv_goto (tgt := 23) hx hb dX6_lost_19 (by decide) ?_
    have hWe : ([(km, .inr (6, [.int (iI (((cdM sh it mI zs zi : Nat) : Int))), .int (iI (((sh : Nat) : Int))), .int (iI (((it : Nat) : Int))), .int (iI (((dy : Nat) : Int))), .int (iI (lc)), .int (iI (sv)), .int (iI (lr)), .int (iI (sr)), .ref pL, .ref pP, .ref pC, .ref pI, .ref pM, .ref pS, .ref pV, .ref pN, .ref pE, .ref pA, .ref pO, .ref pT, .ref pD, .ref pG, .ref pW])), (pI, arZ cs 20 mI), (pT, arI cs 20 mT)] : va_W) = [(km, .inr (6, [.int (iI ((((cdM sh it mI zs zi) : Nat) : Int))), .int (iI (((sh : Nat) : Int))), .int (iI (((it : Nat) : Int))), .int (iI (((dy : Nat) : Int))), .int (iI (lc)), .int (iI (sv)), .int (iI (lr)), .int (iI (sr)), .ref pL, .ref pP, .ref pC, .ref pI, .ref pM, .ref pS, .ref pV, .ref pN, .ref pE, .ref pA, .ref pO, .ref pT, .ref pD, .ref pG, .ref pW])), (pI, arZ cs 20 mI), (pT, arI cs 20 mT)] := by
      first | rfl | (congr 1; omega)
    rw [hWe] at hP
    subst hAe
    have hres : iI (mT (((5 * zs) + zi).toNat)) = iI (if cdM sh it mI zs zi = 0 then mT (5 * zs + zi).toNat else 0) := congrArg iI (by
        first | rw [if_pos (by omega)] | rw [if_neg (by omega)])
    exact W.iret hx hb hr (fun t ht hW => ⟨⟨_, (), rfl, hres, by show va_P D vwCl _ t.heap; rw [ht]; exact hP⟩, hS.F ht⟩) hS.2.2 dX6_lost_23

abbrev ws_X6_levelByDays : List Cond := Cond.code yX6_levelByDays cX6_levelByDays 3 (some .int) :: ALL
set_option maxHeartbeats 4000000 in
set_option maxRecDepth 100000 in
theorem m_X6_levelByDays (l : Launch) (D : va_G) (cs : Nat → ClassId) (km pL pP pC pI pM pS pV pN pE pA pO pT pD pG pW sh it : Nat) (th : Int) (dy : Nat) (lc sv lr sr : Int) (mI : Nat → Int) (mV : Nat → Int) (zs zi : Int) (hsh : sh ≤ 4) (hit : it ≤ 5) (hmI : ∀ j, 0 ≤ mI j ∧ mI j ≤ 1) (hzs : -2147483648 ≤ zs ∧ zs < 2147483648) (hzi : -2147483648 ≤ zi ∧ zi < 2147483648) : Met l yX6_levelByDays ws_X6_levelByDays ({ frames := 4, cells := 0, slots := 0, locals := 87 }) (va_Pc [.ref km, .int (iI (zs)), .int (iI (zi))] (PC D cs [(km, .inr (6, [.int (iI (th)), .int (iI (((sh : Nat) : Int))), .int (iI (((it : Nat) : Int))), .int (iI (((dy : Nat) : Int))), .int (iI (lc)), .int (iI (sv)), .int (iI (lr)), .int (iI (sr)), .ref pL, .ref pP, .ref pC, .ref pI, .ref pM, .ref pS, .ref pV, .ref pN, .ref pE, .ref pA, .ref pO, .ref pT, .ref pD, .ref pG, .ref pW])), (pI, arZ cs 20 mI), (pV, arI cs 20 mV)])) (va_Qi (fun r (_ : Unit) => r = iI (if cdM sh it mI zs zi = 0 then mV (5 * zs + zi).toNat else 0)) (fun _ t => va_P D vwCl [(km, .inr (6, [.int (iI ((((cdM sh it mI zs zi) : Nat) : Int))), .int (iI (((sh : Nat) : Int))), .int (iI (((it : Nat) : Int))), .int (iI (((dy : Nat) : Int))), .int (iI (lc)), .int (iI (sv)), .int (iI (lr)), .int (iI (sr)), .ref pL, .ref pP, .ref pC, .ref pI, .ref pM, .ref pS, .ref pV, .ref pN, .ref pE, .ref pA, .ref pO, .ref pT, .ref pD, .ref pG, .ref pW])), (pI, arZ cs 20 mI), (pV, arI cs 20 mV)] t.heap) (inW [(km, .inr (6, [.int (iI (th)), .int (iI (((sh : Nat) : Int))), .int (iI (((it : Nat) : Int))), .int (iI (((dy : Nat) : Int))), .int (iI (lc)), .int (iI (sv)), .int (iI (lr)), .int (iI (sr)), .ref pL, .ref pP, .ref pC, .ref pI, .ref pM, .ref pS, .ref pV, .ref pN, .ref pE, .ref pA, .ref pO, .ref pT, .ref pD, .ref pG, .ref pW])), (pI, arZ cs 20 mI), (pV, arI cs 20 mV)])) 0 0 (inW [(km, .inr (6, [.int (iI (th)), .int (iI (((sh : Nat) : Int))), .int (iI (((it : Nat) : Int))), .int (iI (((dy : Nat) : Int))), .int (iI (lc)), .int (iI (sv)), .int (iI (lr)), .int (iI (sr)), .ref pL, .ref pP, .ref pC, .ref pI, .ref pM, .ref pS, .ref pV, .ref pN, .ref pE, .ref pA, .ref pO, .ref pT, .ref pD, .ref pG, .ref pW])), (pI, arZ cs 20 mI), (pV, arI cs 20 mV)]) := by
  refine Met.ofW (cc := cX6_levelByDays) (maxL := 3) (ret := (some .int)) (by decide +kernel) rfl ?_
  intro p e s m args below meth c s₁ B hml hv
  obtain ⟨rfl, hP, hK, hD, hN⟩ := hv
  have hx := B.exec
  have hb := B.bytes
  have hr := B.returns
  have hts : ∀ w ∈ ALL, w.before _ s = true := fun w h => atoms_spec (ws := ws_X6_levelByDays) B.pre w (List.mem_cons_of_mem _ h)
  have hown : s.vm.findClass RX6 = some m.cls := findClass_of_methodNamed B.named
  have hlocks := B.notSynchronized
  generalize hAe : inW [(km, .inr (6, [.int (iI (th)), .int (iI (((sh : Nat) : Int))), .int (iI (((it : Nat) : Int))), .int (iI (((dy : Nat) : Int))), .int (iI (lc)), .int (iI (sv)), .int (iI (lr)), .int (iI (sr)), .ref pL, .ref pP, .ref pC, .ref pI, .ref pM, .ref pS, .ref pV, .ref pN, .ref pE, .ref pA, .ref pO, .ref pT, .ref pD, .ref pG, .ref pW])), (pI, arZ cs 20 mI), (pV, arI cs 20 mV)] = A at hD ⊢
  have hS : va_S A s.heap s.heap [] := va_S.rf
  have hl := lv_entry ([.ref km, .int (iI (zs)), .int (iI (zi))]) (n := 3) (Nat.le_of_ble_eq_true rfl)
  rw [lg_entry_eq]
  generalize (lg_sl ([.ref km, .int (iI (zs)), .int (iI (zi))]) ++ List.replicate (3 - (lg_sl ([.ref km, .int (iI (zs)), .int (iI (zi))])).length) Slot.unset).toArray = ls at hl ⊢
  have hl : lv_has ls 3 [(0, .ref km), (1, .int (iI (zs))), (2, .int (iI (zi)))] := hl
  have hH := rfl (a := s.heap)
  refine lv_aload_n hx hb dX6_levelByDays_0 rfl (lv_at hl 0 rfl) ?_
  refine lv_iload_n hx hb dX6_levelByDays_1 rfl (lv_at hl 1 rfl) ?_
  refine lv_iload_n hx hb dX6_levelByDays_2 rfl (lv_at hl 2 rfl) ?_
  have pk1 : picks [(km, .inr (6, [.int (iI (th)), .int (iI (((sh : Nat) : Int))), .int (iI (((it : Nat) : Int))), .int (iI (((dy : Nat) : Int))), .int (iI (lc)), .int (iI (sv)), .int (iI (lr)), .int (iI (sr)), .ref pL, .ref pP, .ref pC, .ref pI, .ref pM, .ref pS, .ref pV, .ref pN, .ref pE, .ref pA, .ref pO, .ref pT, .ref pD, .ref pG, .ref pW])), (pI, arZ cs 20 mI), (pV, arI cs 20 mV)] [0, 1, 2] [(km, .inr (6, [.int (iI (th)), .int (iI (((sh : Nat) : Int))), .int (iI (((it : Nat) : Int))), .int (iI (((dy : Nat) : Int))), .int (iI (lc)), .int (iI (sv)), .int (iI (lr)), .int (iI (sr)), .ref pL, .ref pP, .ref pC, .ref pI, .ref pM, .ref pS, .ref pV, .ref pN, .ref pE, .ref pA, .ref pO, .ref pT, .ref pD, .ref pG, .ref pW])), (pI, arZ cs 20 mI), (pV, arI cs 20 mV)] := ⟨rfl, rfl, rfl, trivial⟩
  refine va_calli (va_runV (As := [.int (iI (zs)), .int (iI (zi))]) (rest := []) ⟨hx, hb, hml, hown, hts⟩ (m_X6_level l D cs km pL pP pC pI pM pS pV pN pE pA pO pT pD pG pW sh it th dy lc sv lr sr mI mV zs zi (by assumption) (by assumption) (by assumption) (by omega) (by omega)) (cwV 2 hts (gV w_990 w_983 w_984 w_5 w_985) rfl rfl rfl (by decide +kernel) ⟨Nat.le_of_ble_eq_true rfl, Nat.le_of_ble_eq_true rfl⟩) (PC_V hK hN hP hD [0, 1, 2] rfl pk1 rfl rfl) rfl rfl hl.1 rfl (lv_room (Nat.le_of_ble_eq_true rfl)) dX6_levelByDays_3 ⟨Nat.le_of_ble_eq_true rfl, Nat.le_of_ble_eq_true rfl⟩) hS (fun q _ h => inW_sub hD [0, 1, 2] pk1 q h) (fun q h => inW_sub hD [0, 1, 2] pk1 q h) (fun r u t H locs ht hvm hw hB hz1 hk1 hS => ?_)
  subst hw
  rw [ht] at hB
  obtain ⟨hP, hD⟩ := my_join (W1 := [(km, .inr (6, [.int (iI ((((cdM sh it mI zs zi) : Nat) : Int))), .int (iI (((sh : Nat) : Int))), .int (iI (((it : Nat) : Int))), .int (iI (((dy : Nat) : Int))), .int (iI (lc)), .int (iI (sv)), .int (iI (lr)), .int (iI (sr)), .ref pL, .ref pP, .ref pC, .ref pI, .ref pM, .ref pS, .ref pV, .ref pN, .ref pE, .ref pA, .ref pO, .ref pT, .ref pD, .ref pG, .ref pW])), (pI, arZ cs 20 mI), (pV, arI cs 20 mV)]) hP hD [0, 1, 2] rfl pk1 rfl hk1 hB
  have hP : va_P D vwCl [(km, .inr (6, [.int (iI ((((cdM sh it mI zs zi) : Nat) : Int))), .int (iI (((sh : Nat) : Int))), .int (iI (((it : Nat) : Int))), .int (iI (((dy : Nat) : Int))), .int (iI (lc)), .int (iI (sv)), .int (iI (lr)), .int (iI (sr)), .ref pL, .ref pP, .ref pC, .ref pI, .ref pM, .ref pS, .ref pV, .ref pN, .ref pE, .ref pA, .ref pO, .ref pT, .ref pD, .ref pG, .ref pW])), (pI, arZ cs 20 mI), (pV, arI cs 20 mV)] H := hP
  have hD : va_D A [(km, .inr (6, [.int (iI ((((cdM sh it mI zs zi) : Nat) : Int))), .int (iI (((sh : Nat) : Int))), .int (iI (((it : Nat) : Int))), .int (iI (((dy : Nat) : Int))), .int (iI (lc)), .int (iI (sv)), .int (iI (lr)), .int (iI (sr)), .ref pL, .ref pP, .ref pC, .ref pI, .ref pM, .ref pS, .ref pV, .ref pN, .ref pE, .ref pA, .ref pO, .ref pT, .ref pD, .ref pG, .ref pW])), (pI, arZ cs 20 mI), (pV, arI cs 20 mV)] := hD
  subst hAe
  have hres : iI (if cdM sh it mI zs zi = 0 then mV (5 * zs + zi).toNat else 0) = iI (if cdM sh it mI zs zi = 0 then mV (5 * zs + zi).toNat else 0) := congrArg iI (by
      first | rfl | omega)
  exact W.iret hx hb hr (fun t ht hW => ⟨⟨_, (), rfl, hres, by show va_P D vwCl _ t.heap; rw [ht]; exact hP⟩, hS.F ht⟩) hS.2.2 dX6_levelByDays_6

abbrev ws_X6_stockByJournal : List Cond := Cond.code yX6_stockByJournal cX6_stockByJournal 3 (some .int) :: ALL
set_option maxHeartbeats 4000000 in
set_option maxRecDepth 100000 in
theorem m_X6_stockByJournal (l : Launch) (D : va_G) (cs : Nat → ClassId) (km pL pP pC pI pM pS pV pN pE pA pO pT pD pG pW sh it : Nat) (th : Int) (dy : Nat) (lc sv lr sr : Int) (mI : Nat → Int) (mS : Nat → Int) (zs zi : Int) (hsh : sh ≤ 4) (hit : it ≤ 5) (hmI : ∀ j, 0 ≤ mI j ∧ mI j ≤ 1) (hzs : -2147483648 ≤ zs ∧ zs < 2147483648) (hzi : -2147483648 ≤ zi ∧ zi < 2147483648) : Met l yX6_stockByJournal ws_X6_stockByJournal ({ frames := 4, cells := 0, slots := 0, locals := 87 }) (va_Pc [.ref km, .int (iI (zs)), .int (iI (zi))] (PC D cs [(km, .inr (6, [.int (iI (th)), .int (iI (((sh : Nat) : Int))), .int (iI (((it : Nat) : Int))), .int (iI (((dy : Nat) : Int))), .int (iI (lc)), .int (iI (sv)), .int (iI (lr)), .int (iI (sr)), .ref pL, .ref pP, .ref pC, .ref pI, .ref pM, .ref pS, .ref pV, .ref pN, .ref pE, .ref pA, .ref pO, .ref pT, .ref pD, .ref pG, .ref pW])), (pI, arZ cs 20 mI), (pS, arI cs 20 mS)])) (va_Qi (fun r (_ : Unit) => r = iI (if cdM sh it mI zs zi = 0 then mS (5 * zs + zi).toNat else 0)) (fun _ t => va_P D vwCl [(km, .inr (6, [.int (iI ((((cdM sh it mI zs zi) : Nat) : Int))), .int (iI (((sh : Nat) : Int))), .int (iI (((it : Nat) : Int))), .int (iI (((dy : Nat) : Int))), .int (iI (lc)), .int (iI (sv)), .int (iI (lr)), .int (iI (sr)), .ref pL, .ref pP, .ref pC, .ref pI, .ref pM, .ref pS, .ref pV, .ref pN, .ref pE, .ref pA, .ref pO, .ref pT, .ref pD, .ref pG, .ref pW])), (pI, arZ cs 20 mI), (pS, arI cs 20 mS)] t.heap) (inW [(km, .inr (6, [.int (iI (th)), .int (iI (((sh : Nat) : Int))), .int (iI (((it : Nat) : Int))), .int (iI (((dy : Nat) : Int))), .int (iI (lc)), .int (iI (sv)), .int (iI (lr)), .int (iI (sr)), .ref pL, .ref pP, .ref pC, .ref pI, .ref pM, .ref pS, .ref pV, .ref pN, .ref pE, .ref pA, .ref pO, .ref pT, .ref pD, .ref pG, .ref pW])), (pI, arZ cs 20 mI), (pS, arI cs 20 mS)])) 0 0 (inW [(km, .inr (6, [.int (iI (th)), .int (iI (((sh : Nat) : Int))), .int (iI (((it : Nat) : Int))), .int (iI (((dy : Nat) : Int))), .int (iI (lc)), .int (iI (sv)), .int (iI (lr)), .int (iI (sr)), .ref pL, .ref pP, .ref pC, .ref pI, .ref pM, .ref pS, .ref pV, .ref pN, .ref pE, .ref pA, .ref pO, .ref pT, .ref pD, .ref pG, .ref pW])), (pI, arZ cs 20 mI), (pS, arI cs 20 mS)]) := by
  refine Met.ofW (cc := cX6_stockByJournal) (maxL := 3) (ret := (some .int)) (by decide +kernel) rfl ?_
  intro p e s m args below meth c s₁ B hml hv
  obtain ⟨rfl, hP, hK, hD, hN⟩ := hv
  have hx := B.exec
  have hb := B.bytes
  have hr := B.returns
  have hts : ∀ w ∈ ALL, w.before _ s = true := fun w h => atoms_spec (ws := ws_X6_stockByJournal) B.pre w (List.mem_cons_of_mem _ h)
  have hown : s.vm.findClass RX6 = some m.cls := findClass_of_methodNamed B.named
  have hlocks := B.notSynchronized
  generalize hAe : inW [(km, .inr (6, [.int (iI (th)), .int (iI (((sh : Nat) : Int))), .int (iI (((it : Nat) : Int))), .int (iI (((dy : Nat) : Int))), .int (iI (lc)), .int (iI (sv)), .int (iI (lr)), .int (iI (sr)), .ref pL, .ref pP, .ref pC, .ref pI, .ref pM, .ref pS, .ref pV, .ref pN, .ref pE, .ref pA, .ref pO, .ref pT, .ref pD, .ref pG, .ref pW])), (pI, arZ cs 20 mI), (pS, arI cs 20 mS)] = A at hD ⊢
  have hS : va_S A s.heap s.heap [] := va_S.rf
  have hl := lv_entry ([.ref km, .int (iI (zs)), .int (iI (zi))]) (n := 3) (Nat.le_of_ble_eq_true rfl)
  rw [lg_entry_eq]
  generalize (lg_sl ([.ref km, .int (iI (zs)), .int (iI (zi))]) ++ List.replicate (3 - (lg_sl ([.ref km, .int (iI (zs)), .int (iI (zi))])).length) Slot.unset).toArray = ls at hl ⊢
  have hl : lv_has ls 3 [(0, .ref km), (1, .int (iI (zs))), (2, .int (iI (zi)))] := hl
  have hH := rfl (a := s.heap)
  refine lv_aload_n hx hb dX6_stockByJournal_0 rfl (lv_at hl 0 rfl) ?_
  refine lv_iload_n hx hb dX6_stockByJournal_1 rfl (lv_at hl 1 rfl) ?_
  refine lv_iload_n hx hb dX6_stockByJournal_2 rfl (lv_at hl 2 rfl) ?_
  have pk1 : picks [(km, .inr (6, [.int (iI (th)), .int (iI (((sh : Nat) : Int))), .int (iI (((it : Nat) : Int))), .int (iI (((dy : Nat) : Int))), .int (iI (lc)), .int (iI (sv)), .int (iI (lr)), .int (iI (sr)), .ref pL, .ref pP, .ref pC, .ref pI, .ref pM, .ref pS, .ref pV, .ref pN, .ref pE, .ref pA, .ref pO, .ref pT, .ref pD, .ref pG, .ref pW])), (pI, arZ cs 20 mI), (pS, arI cs 20 mS)] [0, 1, 2] [(km, .inr (6, [.int (iI (th)), .int (iI (((sh : Nat) : Int))), .int (iI (((it : Nat) : Int))), .int (iI (((dy : Nat) : Int))), .int (iI (lc)), .int (iI (sv)), .int (iI (lr)), .int (iI (sr)), .ref pL, .ref pP, .ref pC, .ref pI, .ref pM, .ref pS, .ref pV, .ref pN, .ref pE, .ref pA, .ref pO, .ref pT, .ref pD, .ref pG, .ref pW])), (pI, arZ cs 20 mI), (pS, arI cs 20 mS)] := ⟨rfl, rfl, rfl, trivial⟩
  refine va_calli (va_runV (As := [.int (iI (zs)), .int (iI (zi))]) (rest := []) ⟨hx, hb, hml, hown, hts⟩ (m_X6_stock l D cs km pL pP pC pI pM pS pV pN pE pA pO pT pD pG pW sh it th dy lc sv lr sr mI mS zs zi (by assumption) (by assumption) (by assumption) (by omega) (by omega)) (cwV 2 hts (gV w_1015 w_1008 w_1009 w_5 w_1010) rfl rfl rfl (by decide +kernel) ⟨Nat.le_of_ble_eq_true rfl, Nat.le_of_ble_eq_true rfl⟩) (PC_V hK hN hP hD [0, 1, 2] rfl pk1 rfl rfl) rfl rfl hl.1 rfl (lv_room (Nat.le_of_ble_eq_true rfl)) dX6_stockByJournal_3 ⟨Nat.le_of_ble_eq_true rfl, Nat.le_of_ble_eq_true rfl⟩) hS (fun q _ h => inW_sub hD [0, 1, 2] pk1 q h) (fun q h => inW_sub hD [0, 1, 2] pk1 q h) (fun r u t H locs ht hvm hw hB hz1 hk1 hS => ?_)
  subst hw
  rw [ht] at hB
  obtain ⟨hP, hD⟩ := my_join (W1 := [(km, .inr (6, [.int (iI ((((cdM sh it mI zs zi) : Nat) : Int))), .int (iI (((sh : Nat) : Int))), .int (iI (((it : Nat) : Int))), .int (iI (((dy : Nat) : Int))), .int (iI (lc)), .int (iI (sv)), .int (iI (lr)), .int (iI (sr)), .ref pL, .ref pP, .ref pC, .ref pI, .ref pM, .ref pS, .ref pV, .ref pN, .ref pE, .ref pA, .ref pO, .ref pT, .ref pD, .ref pG, .ref pW])), (pI, arZ cs 20 mI), (pS, arI cs 20 mS)]) hP hD [0, 1, 2] rfl pk1 rfl hk1 hB
  have hP : va_P D vwCl [(km, .inr (6, [.int (iI ((((cdM sh it mI zs zi) : Nat) : Int))), .int (iI (((sh : Nat) : Int))), .int (iI (((it : Nat) : Int))), .int (iI (((dy : Nat) : Int))), .int (iI (lc)), .int (iI (sv)), .int (iI (lr)), .int (iI (sr)), .ref pL, .ref pP, .ref pC, .ref pI, .ref pM, .ref pS, .ref pV, .ref pN, .ref pE, .ref pA, .ref pO, .ref pT, .ref pD, .ref pG, .ref pW])), (pI, arZ cs 20 mI), (pS, arI cs 20 mS)] H := hP
  have hD : va_D A [(km, .inr (6, [.int (iI ((((cdM sh it mI zs zi) : Nat) : Int))), .int (iI (((sh : Nat) : Int))), .int (iI (((it : Nat) : Int))), .int (iI (((dy : Nat) : Int))), .int (iI (lc)), .int (iI (sv)), .int (iI (lr)), .int (iI (sr)), .ref pL, .ref pP, .ref pC, .ref pI, .ref pM, .ref pS, .ref pV, .ref pN, .ref pE, .ref pA, .ref pO, .ref pT, .ref pD, .ref pG, .ref pW])), (pI, arZ cs 20 mI), (pS, arI cs 20 mS)] := hD
  subst hAe
  have hres : iI (if cdM sh it mI zs zi = 0 then mS (5 * zs + zi).toNat else 0) = iI (if cdM sh it mI zs zi = 0 then mS (5 * zs + zi).toNat else 0) := congrArg iI (by
      first | rfl | omega)
  exact W.iret hx hb hr (fun t ht hW => ⟨⟨_, (), rfl, hres, by show va_P D vwCl _ t.heap; rw [ht]; exact hP⟩, hS.F ht⟩) hS.2.2 dX6_stockByJournal_6

abbrev ws_X6_centre : List Cond := Cond.code yX6_centre cX6_centre 2 (some .int) :: ALL
set_option maxHeartbeats 4000000 in
set_option maxRecDepth 100000 in
theorem m_X6_centre (l : Launch) (D : va_G) (cs : Nat → ClassId) (km pL pP pC pI pM pS pV pN pE pA pO pT pD pG pW sh it : Nat) (th : Int) (dy : Nat) (lc sv lr sr : Int) (mC : Nat → Int) (zi : Int) (hit : it ≤ 5) (hzi : -2147483648 ≤ zi ∧ zi < 2147483648) : Met l yX6_centre ws_X6_centre ({ frames := 2, cells := 0, slots := 0, locals := 43 }) (va_Pc [.ref km, .int (iI (zi))] (PC D cs [(km, .inr (6, [.int (iI (th)), .int (iI (((sh : Nat) : Int))), .int (iI (((it : Nat) : Int))), .int (iI (((dy : Nat) : Int))), .int (iI (lc)), .int (iI (sv)), .int (iI (lr)), .int (iI (sr)), .ref pL, .ref pP, .ref pC, .ref pI, .ref pM, .ref pS, .ref pV, .ref pN, .ref pE, .ref pA, .ref pO, .ref pT, .ref pD, .ref pG, .ref pW])), (pC, arI cs 5 mC)])) (va_Qi (fun r (_ : Unit) => r = iI (if cd2 (0 ≤ zi ∧ zi < (it : Int)) True = 0 then mC zi.toNat else 0)) (fun _ t => va_P D vwCl [(km, .inr (6, [.int (iI ((((cd2 (0 ≤ zi ∧ zi < (it : Int)) True) : Nat) : Int))), .int (iI (((sh : Nat) : Int))), .int (iI (((it : Nat) : Int))), .int (iI (((dy : Nat) : Int))), .int (iI (lc)), .int (iI (sv)), .int (iI (lr)), .int (iI (sr)), .ref pL, .ref pP, .ref pC, .ref pI, .ref pM, .ref pS, .ref pV, .ref pN, .ref pE, .ref pA, .ref pO, .ref pT, .ref pD, .ref pG, .ref pW])), (pC, arI cs 5 mC)] t.heap) (inW [(km, .inr (6, [.int (iI (th)), .int (iI (((sh : Nat) : Int))), .int (iI (((it : Nat) : Int))), .int (iI (((dy : Nat) : Int))), .int (iI (lc)), .int (iI (sv)), .int (iI (lr)), .int (iI (sr)), .ref pL, .ref pP, .ref pC, .ref pI, .ref pM, .ref pS, .ref pV, .ref pN, .ref pE, .ref pA, .ref pO, .ref pT, .ref pD, .ref pG, .ref pW])), (pC, arI cs 5 mC)])) 0 0 (inW [(km, .inr (6, [.int (iI (th)), .int (iI (((sh : Nat) : Int))), .int (iI (((it : Nat) : Int))), .int (iI (((dy : Nat) : Int))), .int (iI (lc)), .int (iI (sv)), .int (iI (lr)), .int (iI (sr)), .ref pL, .ref pP, .ref pC, .ref pI, .ref pM, .ref pS, .ref pV, .ref pN, .ref pE, .ref pA, .ref pO, .ref pT, .ref pD, .ref pG, .ref pW])), (pC, arI cs 5 mC)]) := by
  refine Met.ofW (cc := cX6_centre) (maxL := 2) (ret := (some .int)) (by decide +kernel) rfl ?_
  intro p e s m args below meth c s₁ B hml hv
  obtain ⟨rfl, hP, hK, hD, hN⟩ := hv
  have hx := B.exec
  have hb := B.bytes
  have hr := B.returns
  have hts : ∀ w ∈ ALL, w.before _ s = true := fun w h => atoms_spec (ws := ws_X6_centre) B.pre w (List.mem_cons_of_mem _ h)
  have hown : s.vm.findClass RX6 = some m.cls := findClass_of_methodNamed B.named
  have hlocks := B.notSynchronized
  generalize hAe : inW [(km, .inr (6, [.int (iI (th)), .int (iI (((sh : Nat) : Int))), .int (iI (((it : Nat) : Int))), .int (iI (((dy : Nat) : Int))), .int (iI (lc)), .int (iI (sv)), .int (iI (lr)), .int (iI (sr)), .ref pL, .ref pP, .ref pC, .ref pI, .ref pM, .ref pS, .ref pV, .ref pN, .ref pE, .ref pA, .ref pO, .ref pT, .ref pD, .ref pG, .ref pW])), (pC, arI cs 5 mC)] = A at hD ⊢
  have hS : va_S A s.heap s.heap [] := va_S.rf
  have hl := lv_entry ([.ref km, .int (iI (zi))]) (n := 2) (Nat.le_of_ble_eq_true rfl)
  rw [lg_entry_eq]
  generalize (lg_sl ([.ref km, .int (iI (zi))]) ++ List.replicate (2 - (lg_sl ([.ref km, .int (iI (zi))])).length) Slot.unset).toArray = ls at hl ⊢
  have hl : lv_has ls 2 [(0, .ref km), (1, .int (iI (zi)))] := hl
  have hH := rfl (a := s.heap)
  refine lv_aload_n hx hb dX6_centre_0 rfl (lv_at hl 0 rfl) ?_
  refine lv_aload_n hx hb dX6_centre_1 rfl (lv_at hl 0 rfl) ?_
  refine lv_iload_n hx hb dX6_centre_2 rfl (lv_at hl 1 rfl) ?_
  have pk1 : picks [(km, .inr (6, [.int (iI (th)), .int (iI (((sh : Nat) : Int))), .int (iI (((it : Nat) : Int))), .int (iI (((dy : Nat) : Int))), .int (iI (lc)), .int (iI (sv)), .int (iI (lr)), .int (iI (sr)), .ref pL, .ref pP, .ref pC, .ref pI, .ref pM, .ref pS, .ref pV, .ref pN, .ref pE, .ref pA, .ref pO, .ref pT, .ref pD, .ref pG, .ref pW])), (pC, arI cs 5 mC)] [0] [(km, .inr (6, [.int (iI (th)), .int (iI (((sh : Nat) : Int))), .int (iI (((it : Nat) : Int))), .int (iI (((dy : Nat) : Int))), .int (iI (lc)), .int (iI (sv)), .int (iI (lr)), .int (iI (sr)), .ref pL, .ref pP, .ref pC, .ref pI, .ref pM, .ref pS, .ref pV, .ref pN, .ref pE, .ref pA, .ref pO, .ref pT, .ref pD, .ref pG, .ref pW]))] := ⟨rfl, trivial⟩
  refine va_calli (va_runV (As := [.int (iI (zi))]) (rest := [.ref km]) ⟨hx, hb, hml, hown, hts⟩ (m_X6_isItem l D cs km pL pP pC pI pM pS pV pN pE pA pO pT pD pG pW sh it th dy lc sv lr sr zi (by assumption) (by omega)) (cwV 1 hts (gV w_899 w_901 w_p18 w_5 w_902) rfl rfl rfl (by decide +kernel) ⟨Nat.le_of_ble_eq_true rfl, Nat.le_of_ble_eq_true rfl⟩) (PC_V hK hN hP hD [0] rfl pk1 rfl rfl) rfl rfl hl.1 rfl (lv_room (Nat.le_of_ble_eq_true rfl)) dX6_centre_3 ⟨Nat.le_of_ble_eq_true rfl, Nat.le_of_ble_eq_true rfl⟩) hS (fun _ _ h => False.elim h) (fun _ h => False.elim h) (fun r u t H locs ht hvm hw hB hz1 hk1 hS => ?_)
  subst hw
  have hP := P_kept hP hk1
  have hok := okI_s it zi
  refine my_if_eq (tgt := 13) hx hb (by omega) dX6_centre_6 (by decide) (fun b2 => ?_) (fun b2 => ?_)
  · refine lv_iconst (v := iI (1)) hx hb dX6_centre_13 rfl ?_
    refine my_put hx hb hts inAX6 tyX6_ok nmX6 hown hK hP hD hS 0 rfl rfl 0 (by decide) w_801 rfl rfl rfl (Nat.le_of_ble_eq_true rfl) dX6_centre_14 (fun H locs hP hD hS => ?_)
    have hP : va_P D vwCl [(km, .inr (6, [.int (iI (1)), .int (iI (((sh : Nat) : Int))), .int (iI (((it : Nat) : Int))), .int (iI (((dy : Nat) : Int))), .int (iI (lc)), .int (iI (sv)), .int (iI (lr)), .int (iI (sr)), .ref pL, .ref pP, .ref pC, .ref pI, .ref pM, .ref pS, .ref pV, .ref pN, .ref pE, .ref pA, .ref pO, .ref pT, .ref pD, .ref pG, .ref pW])), (pC, arI cs 5 mC)] H := hP
    have hD : va_D A [(km, .inr (6, [.int (iI (1)), .int (iI (((sh : Nat) : Int))), .int (iI (((it : Nat) : Int))), .int (iI (((dy : Nat) : Int))), .int (iI (lc)), .int (iI (sv)), .int (iI (lr)), .int (iI (sr)), .ref pL, .ref pP, .ref pC, .ref pI, .ref pM, .ref pS, .ref pV, .ref pN, .ref pE, .ref pA, .ref pO, .ref pT, .ref pD, .ref pG, .ref pW])), (pC, arI cs 5 mC)] := hD
    refine lv_aload_n hx hb dX6_centre_17 rfl (lv_at hl 0 rfl) ?_
    refine my_get hx hb hts inAX6 hown hK hP 0 rfl rfl 0 (by decide) w_801 rfl rfl dX6_centre_18 ?_
    refine my_if_le (tgt := 28) hx hb (by omega) dX6_centre_21 (by decide) (fun b3 => (by omega : False).elim) (fun b3 => ?_)
    refine lv_iconst (v := iI (0)) hx hb dX6_centre_24 rfl ?_
    refine lv_goto (tgt := 34) hx hb dX6_centre_25 (by decide) ?_
    have hWe : ([(km, .inr (6, [.int (iI (1)), .int (iI (((sh : Nat) : Int))), .int (iI (((it : Nat) : Int))), .int (iI (((dy : Nat) : Int))), .int (iI (lc)), .int (iI (sv)), .int (iI (lr)), .int (iI (sr)), .ref pL, .ref pP, .ref pC, .ref pI, .ref pM, .ref pS, .ref pV, .ref pN, .ref pE, .ref pA, .ref pO, .ref pT, .ref pD, .ref pG, .ref pW])), (pC, arI cs 5 mC)] : va_W) = [(km, .inr (6, [.int (iI ((((cd2 (0 ≤ zi ∧ zi < (it : Int)) True) : Nat) : Int))), .int (iI (((sh : Nat) : Int))), .int (iI (((it : Nat) : Int))), .int (iI (((dy : Nat) : Int))), .int (iI (lc)), .int (iI (sv)), .int (iI (lr)), .int (iI (sr)), .ref pL, .ref pP, .ref pC, .ref pI, .ref pM, .ref pS, .ref pV, .ref pN, .ref pE, .ref pA, .ref pO, .ref pT, .ref pD, .ref pG, .ref pW])), (pC, arI cs 5 mC)] := by
      have hcd : cd2 (0 ≤ zi ∧ zi < (it : Int)) True = 1 := by unfold cd2; (repeat' split) <;> omega
      rw [hcd]
      first | rfl | (simp; done)
    rw [hWe] at hP
    subst hAe
    have hres : iI (0) = iI (if cd2 (0 ≤ zi ∧ zi < (it : Int)) True = 0 then mC zi.toNat else 0) := congrArg iI (by
        have hcd : cd2 (0 ≤ zi ∧ zi < (it : Int)) True = 1 := by unfold cd2; (repeat' split) <;> omega
        rw [hcd]
        first | rfl | (simp; done))
    exact W.iret hx hb hr (fun t ht hW => ⟨⟨_, (), rfl, hres, by show va_P D vwCl _ t.heap; rw [ht]; exact hP⟩, hS.F ht⟩) hS.2.2 dX6_centre_34
  · refine lv_iconst (v := iI (0)) hx hb dX6_centre_9 rfl ?_
    refine lv_goto (tgt := 14) hx hb dX6_centre_10 (by decide) ?_
    refine my_put hx hb hts inAX6 tyX6_ok nmX6 hown hK hP hD hS 0 rfl rfl 0 (by decide) w_801 rfl rfl rfl (Nat.le_of_ble_eq_true rfl) dX6_centre_14 (fun H locs hP hD hS => ?_)
    have hP : va_P D vwCl [(km, .inr (6, [.int (iI (0)), .int (iI (((sh : Nat) : Int))), .int (iI (((it : Nat) : Int))), .int (iI (((dy : Nat) : Int))), .int (iI (lc)), .int (iI (sv)), .int (iI (lr)), .int (iI (sr)), .ref pL, .ref pP, .ref pC, .ref pI, .ref pM, .ref pS, .ref pV, .ref pN, .ref pE, .ref pA, .ref pO, .ref pT, .ref pD, .ref pG, .ref pW])), (pC, arI cs 5 mC)] H := hP
    have hD : va_D A [(km, .inr (6, [.int (iI (0)), .int (iI (((sh : Nat) : Int))), .int (iI (((it : Nat) : Int))), .int (iI (((dy : Nat) : Int))), .int (iI (lc)), .int (iI (sv)), .int (iI (lr)), .int (iI (sr)), .ref pL, .ref pP, .ref pC, .ref pI, .ref pM, .ref pS, .ref pV, .ref pN, .ref pE, .ref pA, .ref pO, .ref pT, .ref pD, .ref pG, .ref pW])), (pC, arI cs 5 mC)] := hD
    refine lv_aload_n hx hb dX6_centre_17 rfl (lv_at hl 0 rfl) ?_
    refine my_get hx hb hts inAX6 hown hK hP 0 rfl rfl 0 (by decide) w_801 rfl rfl dX6_centre_18 ?_
    refine my_if_le (tgt := 28) hx hb (by omega) dX6_centre_21 (by decide) (fun b4 => ?_) (fun b4 => (by omega : False).elim)
    refine lv_aload_n hx hb dX6_centre_28 rfl (lv_at hl 0 rfl) ?_
    refine my_get hx hb hts inAX6 hown hK hP 0 rfl rfl 10 (by decide) w_811 rfl rfl dX6_centre_29 ?_
    refine lv_iload_n hx hb dX6_centre_32 rfl (lv_at hl 1 rfl) ?_
    refine my_iald hx hb hK hP 1 rfl (by omega) (k := zi.toNat) (rfl) dX6_centre_33 ?_
    have hWe : ([(km, .inr (6, [.int (iI (0)), .int (iI (((sh : Nat) : Int))), .int (iI (((it : Nat) : Int))), .int (iI (((dy : Nat) : Int))), .int (iI (lc)), .int (iI (sv)), .int (iI (lr)), .int (iI (sr)), .ref pL, .ref pP, .ref pC, .ref pI, .ref pM, .ref pS, .ref pV, .ref pN, .ref pE, .ref pA, .ref pO, .ref pT, .ref pD, .ref pG, .ref pW])), (pC, arI cs 5 mC)] : va_W) = [(km, .inr (6, [.int (iI ((((cd2 (0 ≤ zi ∧ zi < (it : Int)) True) : Nat) : Int))), .int (iI (((sh : Nat) : Int))), .int (iI (((it : Nat) : Int))), .int (iI (((dy : Nat) : Int))), .int (iI (lc)), .int (iI (sv)), .int (iI (lr)), .int (iI (sr)), .ref pL, .ref pP, .ref pC, .ref pI, .ref pM, .ref pS, .ref pV, .ref pN, .ref pE, .ref pA, .ref pO, .ref pT, .ref pD, .ref pG, .ref pW])), (pC, arI cs 5 mC)] := by
      have hcd : cd2 (0 ≤ zi ∧ zi < (it : Int)) True = 0 := by unfold cd2; (repeat' split) <;> omega
      rw [hcd]
      first | rfl | (simp; done)
    rw [hWe] at hP
    subst hAe
    have hres : iI (mC zi.toNat) = iI (if cd2 (0 ≤ zi ∧ zi < (it : Int)) True = 0 then mC zi.toNat else 0) := congrArg iI (by
        have hcd : cd2 (0 ≤ zi ∧ zi < (it : Int)) True = 0 := by unfold cd2; (repeat' split) <;> omega
        rw [hcd]
        first | rfl | (simp; done))
    exact W.iret hx hb hr (fun t ht hW => ⟨⟨_, (), rfl, hres, by show va_P D vwCl _ t.heap; rw [ht]; exact hP⟩, hS.F ht⟩) hS.2.2 dX6_centre_34

abbrev ws_X6_centreByJournal : List Cond := Cond.code yX6_centreByJournal cX6_centreByJournal 2 (some .int) :: ALL
set_option maxHeartbeats 4000000 in
set_option maxRecDepth 100000 in
theorem m_X6_centreByJournal (l : Launch) (D : va_G) (cs : Nat → ClassId) (km pL pP pC pI pM pS pV pN pE pA pO pT pD pG pW sh it : Nat) (th : Int) (dy : Nat) (lc sv lr sr : Int) (mC : Nat → Int) (zi : Int) (hit : it ≤ 5) (hzi : -2147483648 ≤ zi ∧ zi < 2147483648) : Met l yX6_centreByJournal ws_X6_centreByJournal ({ frames := 3, cells := 0, slots := 0, locals := 64 }) (va_Pc [.ref km, .int (iI (zi))] (PC D cs [(km, .inr (6, [.int (iI (th)), .int (iI (((sh : Nat) : Int))), .int (iI (((it : Nat) : Int))), .int (iI (((dy : Nat) : Int))), .int (iI (lc)), .int (iI (sv)), .int (iI (lr)), .int (iI (sr)), .ref pL, .ref pP, .ref pC, .ref pI, .ref pM, .ref pS, .ref pV, .ref pN, .ref pE, .ref pA, .ref pO, .ref pT, .ref pD, .ref pG, .ref pW])), (pC, arI cs 5 mC)])) (va_Qi (fun r (_ : Unit) => r = iI (if cd2 (0 ≤ zi ∧ zi < (it : Int)) True = 0 then mC zi.toNat else 0)) (fun _ t => va_P D vwCl [(km, .inr (6, [.int (iI ((((cd2 (0 ≤ zi ∧ zi < (it : Int)) True) : Nat) : Int))), .int (iI (((sh : Nat) : Int))), .int (iI (((it : Nat) : Int))), .int (iI (((dy : Nat) : Int))), .int (iI (lc)), .int (iI (sv)), .int (iI (lr)), .int (iI (sr)), .ref pL, .ref pP, .ref pC, .ref pI, .ref pM, .ref pS, .ref pV, .ref pN, .ref pE, .ref pA, .ref pO, .ref pT, .ref pD, .ref pG, .ref pW])), (pC, arI cs 5 mC)] t.heap) (inW [(km, .inr (6, [.int (iI (th)), .int (iI (((sh : Nat) : Int))), .int (iI (((it : Nat) : Int))), .int (iI (((dy : Nat) : Int))), .int (iI (lc)), .int (iI (sv)), .int (iI (lr)), .int (iI (sr)), .ref pL, .ref pP, .ref pC, .ref pI, .ref pM, .ref pS, .ref pV, .ref pN, .ref pE, .ref pA, .ref pO, .ref pT, .ref pD, .ref pG, .ref pW])), (pC, arI cs 5 mC)])) 0 0 (inW [(km, .inr (6, [.int (iI (th)), .int (iI (((sh : Nat) : Int))), .int (iI (((it : Nat) : Int))), .int (iI (((dy : Nat) : Int))), .int (iI (lc)), .int (iI (sv)), .int (iI (lr)), .int (iI (sr)), .ref pL, .ref pP, .ref pC, .ref pI, .ref pM, .ref pS, .ref pV, .ref pN, .ref pE, .ref pA, .ref pO, .ref pT, .ref pD, .ref pG, .ref pW])), (pC, arI cs 5 mC)]) := by
  refine Met.ofW (cc := cX6_centreByJournal) (maxL := 2) (ret := (some .int)) (by decide +kernel) rfl ?_
  intro p e s m args below meth c s₁ B hml hv
  obtain ⟨rfl, hP, hK, hD, hN⟩ := hv
  have hx := B.exec
  have hb := B.bytes
  have hr := B.returns
  have hts : ∀ w ∈ ALL, w.before _ s = true := fun w h => atoms_spec (ws := ws_X6_centreByJournal) B.pre w (List.mem_cons_of_mem _ h)
  have hown : s.vm.findClass RX6 = some m.cls := findClass_of_methodNamed B.named
  have hlocks := B.notSynchronized
  generalize hAe : inW [(km, .inr (6, [.int (iI (th)), .int (iI (((sh : Nat) : Int))), .int (iI (((it : Nat) : Int))), .int (iI (((dy : Nat) : Int))), .int (iI (lc)), .int (iI (sv)), .int (iI (lr)), .int (iI (sr)), .ref pL, .ref pP, .ref pC, .ref pI, .ref pM, .ref pS, .ref pV, .ref pN, .ref pE, .ref pA, .ref pO, .ref pT, .ref pD, .ref pG, .ref pW])), (pC, arI cs 5 mC)] = A at hD ⊢
  have hS : va_S A s.heap s.heap [] := va_S.rf
  have hl := lv_entry ([.ref km, .int (iI (zi))]) (n := 2) (Nat.le_of_ble_eq_true rfl)
  rw [lg_entry_eq]
  generalize (lg_sl ([.ref km, .int (iI (zi))]) ++ List.replicate (2 - (lg_sl ([.ref km, .int (iI (zi))])).length) Slot.unset).toArray = ls at hl ⊢
  have hl : lv_has ls 2 [(0, .ref km), (1, .int (iI (zi)))] := hl
  have hH := rfl (a := s.heap)
  refine lv_aload_n hx hb dX6_centreByJournal_0 rfl (lv_at hl 0 rfl) ?_
  refine lv_iload_n hx hb dX6_centreByJournal_1 rfl (lv_at hl 1 rfl) ?_
  have pk1 : picks [(km, .inr (6, [.int (iI (th)), .int (iI (((sh : Nat) : Int))), .int (iI (((it : Nat) : Int))), .int (iI (((dy : Nat) : Int))), .int (iI (lc)), .int (iI (sv)), .int (iI (lr)), .int (iI (sr)), .ref pL, .ref pP, .ref pC, .ref pI, .ref pM, .ref pS, .ref pV, .ref pN, .ref pE, .ref pA, .ref pO, .ref pT, .ref pD, .ref pG, .ref pW])), (pC, arI cs 5 mC)] [0, 1] [(km, .inr (6, [.int (iI (th)), .int (iI (((sh : Nat) : Int))), .int (iI (((it : Nat) : Int))), .int (iI (((dy : Nat) : Int))), .int (iI (lc)), .int (iI (sv)), .int (iI (lr)), .int (iI (sr)), .ref pL, .ref pP, .ref pC, .ref pI, .ref pM, .ref pS, .ref pV, .ref pN, .ref pE, .ref pA, .ref pO, .ref pT, .ref pD, .ref pG, .ref pW])), (pC, arI cs 5 mC)] := ⟨rfl, rfl, trivial⟩
  refine va_calli (va_runV (As := [.int (iI (zi))]) (rest := []) ⟨hx, hb, hml, hown, hts⟩ (m_X6_centre l D cs km pL pP pC pI pM pS pV pN pE pA pO pT pD pG pW sh it th dy lc sv lr sr mC zi (by assumption) (by omega)) (cwV 1 hts (gV w_1049 w_1042 w_1043 w_5 w_1044) rfl rfl rfl (by decide +kernel) ⟨Nat.le_of_ble_eq_true rfl, Nat.le_of_ble_eq_true rfl⟩) (PC_V hK hN hP hD [0, 1] rfl pk1 rfl rfl) rfl rfl hl.1 rfl (lv_room (Nat.le_of_ble_eq_true rfl)) dX6_centreByJournal_2 ⟨Nat.le_of_ble_eq_true rfl, Nat.le_of_ble_eq_true rfl⟩) hS (fun q _ h => inW_sub hD [0, 1] pk1 q h) (fun q h => inW_sub hD [0, 1] pk1 q h) (fun r u t H locs ht hvm hw hB hz1 hk1 hS => ?_)
  subst hw
  rw [ht] at hB
  obtain ⟨hP, hD⟩ := my_join (W1 := [(km, .inr (6, [.int (iI ((((cd2 (0 ≤ zi ∧ zi < (it : Int)) True) : Nat) : Int))), .int (iI (((sh : Nat) : Int))), .int (iI (((it : Nat) : Int))), .int (iI (((dy : Nat) : Int))), .int (iI (lc)), .int (iI (sv)), .int (iI (lr)), .int (iI (sr)), .ref pL, .ref pP, .ref pC, .ref pI, .ref pM, .ref pS, .ref pV, .ref pN, .ref pE, .ref pA, .ref pO, .ref pT, .ref pD, .ref pG, .ref pW])), (pC, arI cs 5 mC)]) hP hD [0, 1] rfl pk1 rfl hk1 hB
  have hP : va_P D vwCl [(km, .inr (6, [.int (iI ((((cd2 (0 ≤ zi ∧ zi < (it : Int)) True) : Nat) : Int))), .int (iI (((sh : Nat) : Int))), .int (iI (((it : Nat) : Int))), .int (iI (((dy : Nat) : Int))), .int (iI (lc)), .int (iI (sv)), .int (iI (lr)), .int (iI (sr)), .ref pL, .ref pP, .ref pC, .ref pI, .ref pM, .ref pS, .ref pV, .ref pN, .ref pE, .ref pA, .ref pO, .ref pT, .ref pD, .ref pG, .ref pW])), (pC, arI cs 5 mC)] H := hP
  have hD : va_D A [(km, .inr (6, [.int (iI ((((cd2 (0 ≤ zi ∧ zi < (it : Int)) True) : Nat) : Int))), .int (iI (((sh : Nat) : Int))), .int (iI (((it : Nat) : Int))), .int (iI (((dy : Nat) : Int))), .int (iI (lc)), .int (iI (sv)), .int (iI (lr)), .int (iI (sr)), .ref pL, .ref pP, .ref pC, .ref pI, .ref pM, .ref pS, .ref pV, .ref pN, .ref pE, .ref pA, .ref pO, .ref pT, .ref pD, .ref pG, .ref pW])), (pC, arI cs 5 mC)] := hD
  subst hAe
  have hres : iI (if cd2 (0 ≤ zi ∧ zi < (it : Int)) True = 0 then mC zi.toNat else 0) = iI (if cd2 (0 ≤ zi ∧ zi < (it : Int)) True = 0 then mC zi.toNat else 0) := congrArg iI (by
      first | rfl | omega)
  exact W.iret hx hb hr (fun t ht hW => ⟨⟨_, (), rfl, hres, by show va_P D vwCl _ t.heap; rw [ht]; exact hP⟩, hS.F ht⟩) hS.2.2 dX6_centreByJournal_5

abbrev ws_X6_today : List Cond := Cond.code yX6_today cX6_today 1 (some .int) :: ALL
set_option maxHeartbeats 4000000 in
set_option maxRecDepth 100000 in
theorem m_X6_today (l : Launch) (D : va_G) (cs : Nat → ClassId) (km pL pP pC pI pM pS pV pN pE pA pO pT pD pG pW sh it : Nat) (th : Int) (dy : Nat) (lc sv lr sr : Int) : Met l yX6_today ws_X6_today ({ frames := 0, cells := 0, slots := 0, locals := 0 }) (va_Pc [.ref km] (PC D cs [(km, .inr (6, [.int (iI (th)), .int (iI (((sh : Nat) : Int))), .int (iI (((it : Nat) : Int))), .int (iI (((dy : Nat) : Int))), .int (iI (lc)), .int (iI (sv)), .int (iI (lr)), .int (iI (sr)), .ref pL, .ref pP, .ref pC, .ref pI, .ref pM, .ref pS, .ref pV, .ref pN, .ref pE, .ref pA, .ref pO, .ref pT, .ref pD, .ref pG, .ref pW]))])) (va_Qi (fun r (_ : Unit) => r = iI (((dy : Nat) : Int))) (fun _ t => va_P D vwCl [(km, .inr (6, [.int (iI (0)), .int (iI (((sh : Nat) : Int))), .int (iI (((it : Nat) : Int))), .int (iI (((dy : Nat) : Int))), .int (iI (lc)), .int (iI (sv)), .int (iI (lr)), .int (iI (sr)), .ref pL, .ref pP, .ref pC, .ref pI, .ref pM, .ref pS, .ref pV, .ref pN, .ref pE, .ref pA, .ref pO, .ref pT, .ref pD, .ref pG, .ref pW]))] t.heap) (inW [(km, .inr (6, [.int (iI (th)), .int (iI (((sh : Nat) : Int))), .int (iI (((it : Nat) : Int))), .int (iI (((dy : Nat) : Int))), .int (iI (lc)), .int (iI (sv)), .int (iI (lr)), .int (iI (sr)), .ref pL, .ref pP, .ref pC, .ref pI, .ref pM, .ref pS, .ref pV, .ref pN, .ref pE, .ref pA, .ref pO, .ref pT, .ref pD, .ref pG, .ref pW]))])) 0 0 (inW [(km, .inr (6, [.int (iI (th)), .int (iI (((sh : Nat) : Int))), .int (iI (((it : Nat) : Int))), .int (iI (((dy : Nat) : Int))), .int (iI (lc)), .int (iI (sv)), .int (iI (lr)), .int (iI (sr)), .ref pL, .ref pP, .ref pC, .ref pI, .ref pM, .ref pS, .ref pV, .ref pN, .ref pE, .ref pA, .ref pO, .ref pT, .ref pD, .ref pG, .ref pW]))]) := by
  refine Met.ofW (cc := cX6_today) (maxL := 1) (ret := (some .int)) (by decide +kernel) rfl ?_
  intro p e s m args below meth c s₁ B hml hv
  obtain ⟨rfl, hP, hK, hD, hN⟩ := hv
  have hx := B.exec
  have hb := B.bytes
  have hr := B.returns
  have hts : ∀ w ∈ ALL, w.before _ s = true := fun w h => atoms_spec (ws := ws_X6_today) B.pre w (List.mem_cons_of_mem _ h)
  have hown : s.vm.findClass RX6 = some m.cls := findClass_of_methodNamed B.named
  have hlocks := B.notSynchronized
  generalize hAe : inW [(km, .inr (6, [.int (iI (th)), .int (iI (((sh : Nat) : Int))), .int (iI (((it : Nat) : Int))), .int (iI (((dy : Nat) : Int))), .int (iI (lc)), .int (iI (sv)), .int (iI (lr)), .int (iI (sr)), .ref pL, .ref pP, .ref pC, .ref pI, .ref pM, .ref pS, .ref pV, .ref pN, .ref pE, .ref pA, .ref pO, .ref pT, .ref pD, .ref pG, .ref pW]))] = A at hD ⊢
  have hS : va_S A s.heap s.heap [] := va_S.rf
  have hl := lv_entry ([.ref km]) (n := 1) (Nat.le_of_ble_eq_true rfl)
  rw [lg_entry_eq]
  generalize (lg_sl ([.ref km]) ++ List.replicate (1 - (lg_sl ([.ref km])).length) Slot.unset).toArray = ls at hl ⊢
  have hl : lv_has ls 1 [(0, .ref km)] := hl
  have hH := rfl (a := s.heap)
  refine lv_aload_n hx hb dX6_today_0 rfl (lv_at hl 0 rfl) ?_
  refine lv_iconst (v := iI (0)) hx hb dX6_today_1 rfl ?_
  refine my_put hx hb hts inAX6 tyX6_ok nmX6 hown hK hP hD hS 0 rfl rfl 0 (by decide) w_801 rfl rfl rfl (Nat.le_of_ble_eq_true rfl) dX6_today_2 (fun H locs hP hD hS => ?_)
  have hP : va_P D vwCl [(km, .inr (6, [.int (iI (0)), .int (iI (((sh : Nat) : Int))), .int (iI (((it : Nat) : Int))), .int (iI (((dy : Nat) : Int))), .int (iI (lc)), .int (iI (sv)), .int (iI (lr)), .int (iI (sr)), .ref pL, .ref pP, .ref pC, .ref pI, .ref pM, .ref pS, .ref pV, .ref pN, .ref pE, .ref pA, .ref pO, .ref pT, .ref pD, .ref pG, .ref pW]))] H := hP
  have hD : va_D A [(km, .inr (6, [.int (iI (0)), .int (iI (((sh : Nat) : Int))), .int (iI (((it : Nat) : Int))), .int (iI (((dy : Nat) : Int))), .int (iI (lc)), .int (iI (sv)), .int (iI (lr)), .int (iI (sr)), .ref pL, .ref pP, .ref pC, .ref pI, .ref pM, .ref pS, .ref pV, .ref pN, .ref pE, .ref pA, .ref pO, .ref pT, .ref pD, .ref pG, .ref pW]))] := hD
  refine lv_aload_n hx hb dX6_today_5 rfl (lv_at hl 0 rfl) ?_
  refine my_get hx hb hts inAX6 hown hK hP 0 rfl rfl 3 (by decide) w_804 rfl rfl dX6_today_6 ?_
  subst hAe
  have hres : iI (((dy : Nat) : Int)) = iI (((dy : Nat) : Int)) := congrArg iI (by
      first | rfl | omega)
  exact W.iret hx hb hr (fun t ht hW => ⟨⟨_, (), rfl, hres, by show va_P D vwCl _ t.heap; rw [ht]; exact hP⟩, hS.F ht⟩) hS.2.2 dX6_today_9
