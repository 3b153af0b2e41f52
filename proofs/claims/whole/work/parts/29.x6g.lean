abbrev ws_X6_service : List Cond := Cond.code yX6_service cX6_service 5 (some .float) :: ALL
set_option maxHeartbeats 4000000 in
set_option maxRecDepth 100000 in
theorem m_X6_service (l : Launch) (D : va_G) (cs : Nat → ClassId) (km pL pP pC pI pM pS pV pN pE pA pO pT pD pG pW sh it : Nat) (th : Int) (dy : Nat) (lc sv lr sr : Int) (mO : Nat → Int) (mT : Nat → Int) (zs : Int) (hsh : sh ≤ 4) (hmO : ∀ j, 0 ≤ mO j ∧ mO j ≤ 10000000) (hmT : ∀ j, 0 ≤ mT j ∧ mT j ≤ 10000000) (hzs : -2147483648 ≤ zs ∧ zs < 2147483648) : Met l yX6_service ws_X6_service ({ frames := 2, cells := 0, slots := 0, locals := 43 }) (va_Pc [.ref km, .int (iI (zs))] (PC D cs [(km, .inr (6, [.int (iI (th)), .int (iI (((sh : Nat) : Int))), .int (iI (((it : Nat) : Int))), .int (iI (((dy : Nat) : Int))), .int (iI (lc)), .int (iI (sv)), .int (iI (lr)), .int (iI (sr)), .ref pL, .ref pP, .ref pC, .ref pI, .ref pM, .ref pS, .ref pV, .ref pN, .ref pE, .ref pA, .ref pO, .ref pT, .ref pD, .ref pG, .ref pW])), (pO, arI cs 20 mO), (pT, arI cs 20 mT)])) (va_Qf (fun r (_ : Unit) => r = srF (cdV sh zs (smI (fun j => mO (5 * zs.toNat + j) + mT (5 * zs.toNat + j)) 5)) (smI (fun j => mO (5 * zs.toNat + j)) 5) (smI (fun j => mO (5 * zs.toNat + j) + mT (5 * zs.toNat + j)) 5)) (fun _ t => va_P D vwCl [(km, .inr (6, [.int (iI ((((cdV sh zs (smI (fun j => mO (5 * zs.toNat + j) + mT (5 * zs.toNat + j)) 5)) : Nat) : Int))), .int (iI (((sh : Nat) : Int))), .int (iI (((it : Nat) : Int))), .int (iI (((dy : Nat) : Int))), .int (iI (lc)), .int (iI (sv)), .int (iI (lr)), .int (iI (sr)), .ref pL, .ref pP, .ref pC, .ref pI, .ref pM, .ref pS, .ref pV, .ref pN, .ref pE, .ref pA, .ref pO, .ref pT, .ref pD, .ref pG, .ref pW])), (pO, arI cs 20 mO), (pT, arI cs 20 mT)] t.heap) (inW [(km, .inr (6, [.int (iI (th)), .int (iI (((sh : Nat) : Int))), .int (iI (((it : Nat) : Int))), .int (iI (((dy : Nat) : Int))), .int (iI (lc)), .int (iI (sv)), .int (iI (lr)), .int (iI (sr)), .ref pL, .ref pP, .ref pC, .ref pI, .ref pM, .ref pS, .ref pV, .ref pN, .ref pE, .ref pA, .ref pO, .ref pT, .ref pD, .ref pG, .ref pW])), (pO, arI cs 20 mO), (pT, arI cs 20 mT)])) 0 0 (inW [(km, .inr (6, [.int (iI (th)), .int (iI (((sh : Nat) : Int))), .int (iI (((it : Nat) : Int))), .int (iI (((dy : Nat) : Int))), .int (iI (lc)), .int (iI (sv)), .int (iI (lr)), .int (iI (sr)), .ref pL, .ref pP, .ref pC, .ref pI, .ref pM, .ref pS, .ref pV, .ref pN, .ref pE, .ref pA, .ref pO, .ref pT, .ref pD, .ref pG, .ref pW])), (pO, arI cs 20 mO), (pT, arI cs 20 mT)]) := by
  refine Met.ofW (cc := cX6_service) (maxL := 5) (ret := (some .float)) (by decide +kernel) rfl ?_
  intro p e s m args below meth c s₁ B hml hv
  obtain ⟨rfl, hP, hK, hD, hN⟩ := hv
  have hx := B.exec
  have hb := B.bytes
  have hr := B.returns
  have hts : ∀ w ∈ ALL, w.before _ s = true := fun w h => atoms_spec (ws := ws_X6_service) B.pre w (List.mem_cons_of_mem _ h)
  have hown : s.vm.findClass RX6 = some m.cls := findClass_of_methodNamed B.named
  have hlocks := B.notSynchronized
  generalize hAe : inW [(km, .inr (6, [.int (iI (th)), .int (iI (((sh : Nat) : Int))), .int (iI (((it : Nat) : Int))), .int (iI (((dy : Nat) : Int))), .int (iI (lc)), .int (iI (sv)), .int (iI (lr)), .int (iI (sr)), .ref pL, .ref pP, .ref pC, .ref pI, .ref pM, .ref pS, .ref pV, .ref pN, .ref pE, .ref pA, .ref pO, .ref pT, .ref pD, .ref pG, .ref pW])), (pO, arI cs 20 mO), (pT, arI cs 20 mT)] = A at hD ⊢
  have hS : va_S A s.heap s.heap [] := va_S.rf
  have hl := lv_entry ([.ref km, .int (iI (zs))]) (n := 5) (Nat.le_of_ble_eq_true rfl)
  rw [lg_entry_eq]
  generalize (lg_sl ([.ref km, .int (iI (zs))]) ++ List.replicate (5 - (lg_sl ([.ref km, .int (iI (zs))])).length) Slot.unset).toArray = ls at hl ⊢
  have hl : lv_has ls 5 [(0, .ref km), (1, .int (iI (zs)))] := hl
  have hH := rfl (a := s.heap)
  have hal := smI_le (f := (fun j => mO (5 * zs.toNat + j) + mT (5 * zs.toNat + j))) (B := 20000000) (fun j => by have h1 := hmO (5 * zs.toNat + j); have h2 := hmT (5 * zs.toNat + j); omega) 5
  refine lv_aload_n hx hb dX6_service_0 rfl (lv_at hl 0 rfl) ?_
  refine lv_iload_n hx hb dX6_service_1 rfl (lv_at hl 1 rfl) ?_
  have pk1 : picks [(km, .inr (6, [.int (iI (th)), .int (iI (((sh : Nat) : Int))), .int (iI (((it : Nat) : Int))), .int (iI (((dy : Nat) : Int))), .int (iI (lc)), .int (iI (sv)), .int (iI (lr)), .int (iI (sr)), .ref pL, .ref pP, .ref pC, .ref pI, .ref pM, .ref pS, .ref pV, .ref pN, .ref pE, .ref pA, .ref pO, .ref pT, .ref pD, .ref pG, .ref pW])), (pO, arI cs 20 mO), (pT, arI cs 20 mT)] [0] [(km, .inr (6, [.int (iI (th)), .int (iI (((sh : Nat) : Int))), .int (iI (((it : Nat) : Int))), .int (iI (((dy : Nat) : Int))), .int (iI (lc)), .int (iI (sv)), .int (iI (lr)), .int (iI (sr)), .ref pL, .ref pP, .ref pC, .ref pI, .ref pM, .ref pS, .ref pV, .ref pN, .ref pE, .ref pA, .ref pO, .ref pT, .ref pD, .ref pG, .ref pW]))] := ⟨rfl, trivial⟩
  refine va_calli (va_runV (As := [.int (iI (zs))]) (rest := []) ⟨hx, hb, hml, hown, hts⟩ (m_X6_isShop l D cs km pL pP pC pI pM pS pV pN pE pA pO pT pD pG pW sh it th dy lc sv lr sr zs (by assumption) (by omega)) (cwV 1 hts (gV w_895 w_897 w_p17 w_5 w_898) rfl rfl rfl (by decide +kernel) ⟨Nat.le_of_ble_eq_true rfl, Nat.le_of_ble_eq_true rfl⟩) (PC_V hK hN hP hD [0] rfl pk1 rfl rfl) rfl rfl hl.1 rfl (lv_room (Nat.le_of_ble_eq_true rfl)) dX6_service_2 ⟨Nat.le_of_ble_eq_true rfl, Nat.le_of_ble_eq_true rfl⟩) hS (fun _ _ h => False.elim h) (fun _ h => False.elim h) (fun r u t H locs ht hvm hw hB hz1 hk1 hS => ?_)
  subst hw
  have hP := P_kept hP hk1
  have hok := okI_s sh zs
  refine my_if_ne (tgt := 15) hx hb (by omega) dX6_service_5 (by decide) (fun b2 => ?_) (fun b2 => ?_)
  · refine lv_iconst (v := iI (0)) hx hb dX6_service_15 rfl ?_
    refine lv_istore_n (lv' := [(2, .int (iI (0))), (0, .ref km), (1, .int (iI (zs)))]) hx hb dX6_service_16 rfl hl (by decide) rfl (fun ls hl => ?_)
    refine lv_iconst (v := iI (0)) hx hb dX6_service_17 rfl ?_
    refine lv_istore_n (lv' := [(3, .int (iI (0))), (2, .int (iI (0))), (0, .ref km), (1, .int (iI (zs)))]) hx hb dX6_service_18 rfl hl (by decide) rfl (fun ls hl => ?_)
    refine lv_iconst (v := iI (5)) hx hb dX6_service_19 rfl ?_
    refine lv_iload_n hx hb dX6_service_20 rfl (lv_at hl 3 rfl) ?_
    refine my_imul (z := 5 * zs) hx hb dX6_service_21 (rfl) ?_
    refine my_cv0 (z := (((5 * zs.toNat + 0) : Nat) : Int)) (by omega) ?_
    refine lv_istore (lv' := [(4, .int (iI ((((5 * zs.toNat + 0) : Nat) : Int)))), (3, .int (iI (0))), (2, .int (iI (0))), (0, .ref km), (1, .int (iI (zs)))]) hx hb dX6_service_22 hl (by decide) rfl (fun ls hl => ?_)
    suffices KL : ∀ (n : Nat) (i : Nat), i ≤ 5 → 5 - i < n → ∀ (H : Heap) (locs : List Loc) (ls : Array Slot), va_P D vwCl [(km, .inr (6, [.int (iI (th)), .int (iI (((sh : Nat) : Int))), .int (iI (((it : Nat) : Int))), .int (iI (((dy : Nat) : Int))), .int (iI (lc)), .int (iI (sv)), .int (iI (lr)), .int (iI (sr)), .ref pL, .ref pP, .ref pC, .ref pI, .ref pM, .ref pS, .ref pV, .ref pN, .ref pE, .ref pA, .ref pO, .ref pT, .ref pD, .ref pG, .ref pW])), (pO, arI cs 20 mO), (pT, arI cs 20 mT)] H → va_D A [(km, .inr (6, [.int (iI (th)), .int (iI (((sh : Nat) : Int))), .int (iI (((it : Nat) : Int))), .int (iI (((dy : Nat) : Int))), .int (iI (lc)), .int (iI (sv)), .int (iI (lr)), .int (iI (sr)), .ref pL, .ref pP, .ref pC, .ref pI, .ref pM, .ref pS, .ref pV, .ref pN, .ref pE, .ref pA, .ref pO, .ref pT, .ref pD, .ref pG, .ref pW])), (pO, arI cs 20 mO), (pT, arI cs 20 mT)] → va_S A s.heap H locs → lv_has ls 5 [(4, .int (iI ((((5 * zs.toNat + i) : Nat) : Int)))), (3, .int (iI (smI (fun j => mO (5 * zs.toNat + j) + mT (5 * zs.toNat + j)) i))), (2, .int (iI (smI (fun j => mO (5 * zs.toNat + j)) i))), (0, .ref km), (1, .int (iI (zs)))] → W p l e _ s m _ below meth c H locs 0 0 _ (F0 m 24 ls []) from
      KL _ 0 (Nat.zero_le _) (Nat.lt_succ_self _) _ _ _ hP hD hS (lv_sub hl [0, 1, 2, 3, 4] rfl)
    intro n
    induction n with
    | zero => intro i hil h0; exact absurd h0 (Nat.not_lt_zero _)
    | succ n ih =>
      intro i hil hmu H locs ls hP hD hS hl
      refine lv_iload hx hb dX6_service_24 (lv_at hl 0 rfl) ?_
      refine lv_iconst (v := iI (5)) hx hb dX6_service_26 rfl ?_
      refine lv_iload_n hx hb dX6_service_27 rfl (lv_at hl 4 rfl) ?_
      refine my_imul (z := 5 * zs) hx hb dX6_service_28 (rfl) ?_
      refine lv_iconst (v := iI (5)) hx hb dX6_service_29 rfl ?_
      refine my_iadd (z := (5 * zs) + 5) hx hb dX6_service_30 (rfl) ?_
      refine my_icmp_ge (tgt := 68) hx hb (by omega) dX6_service_31 (by decide) (fun b3 => ?_) (fun b3 => ?_)
      · have ei : i = 5 := by omega
        rw [ei] at hl
        refine lv_aload_n hx hb dX6_service_68 rfl (lv_at hl 3 rfl) ?_
        refine lv_iload_n hx hb dX6_service_69 rfl (lv_at hl 1 rfl) ?_
        refine my_if_ne (tgt := 77) hx hb (by omega) dX6_service_70 (by decide) (fun b4 => ?_) (fun b4 => ?_)
        · refine lv_iconst (v := iI (0)) hx hb dX6_service_77 rfl ?_
          refine my_put hx hb hts inAX6 tyX6_ok nmX6 hown hK hP hD hS 0 rfl rfl 0 (by decide) w_801 rfl rfl rfl (Nat.le_of_ble_eq_true rfl) dX6_service_78 (fun H locs hP hD hS => ?_)
          have hP : va_P D vwCl [(km, .inr (6, [.int (iI (0)), .int (iI (((sh : Nat) : Int))), .int (iI (((it : Nat) : Int))), .int (iI (((dy : Nat) : Int))), .int (iI (lc)), .int (iI (sv)), .int (iI (lr)), .int (iI (sr)), .ref pL, .ref pP, .ref pC, .ref pI, .ref pM, .ref pS, .ref pV, .ref pN, .ref pE, .ref pA, .ref pO, .ref pT, .ref pD, .ref pG, .ref pW])), (pO, arI cs 20 mO), (pT, arI cs 20 mT)] H := hP
          have hD : va_D A [(km, .inr (6, [.int (iI (0)), .int (iI (((sh : Nat) : Int))), .int (iI (((it : Nat) : Int))), .int (iI (((dy : Nat) : Int))), .int (iI (lc)), .int (iI (sv)), .int (iI (lr)), .int (iI (sr)), .ref pL, .ref pP, .ref pC, .ref pI, .ref pM, .ref pS, .ref pV, .ref pN, .ref pE, .ref pA, .ref pO, .ref pT, .ref pD, .ref pG, .ref pW])), (pO, arI cs 20 mO), (pT, arI cs 20 mT)] := hD
          refine lv_iload_n hx hb dX6_service_81 rfl (lv_at hl 1 rfl) ?_
          refine my_if_ne (tgt := 89) hx hb (by omega) dX6_service_82 (by decide) (fun b5 => ?_) (fun b5 => (by omega : False).elim)
          refine lv_iload_n hx hb dX6_service_89 rfl (lv_at hl 2 rfl) ?_
          refine lv_i2f hx hb dX6_service_90 ?_
          refine lv_iload_n hx hb dX6_service_91 rfl (lv_at hl 1 rfl) ?_
          refine lv_i2f hx hb dX6_service_92 ?_
          refine lv_fdiv hx hb dX6_service_93 (fdv_ok (by omega)) ?_
          have hWe : ([(km, .inr (6, [.int (iI (0)), .int (iI (((sh : Nat) : Int))), .int (iI (((it : Nat) : Int))), .int (iI (((dy : Nat) : Int))), .int (iI (lc)), .int (iI (sv)), .int (iI (lr)), .int (iI (sr)), .ref pL, .ref pP, .ref pC, .ref pI, .ref pM, .ref pS, .ref pV, .ref pN, .ref pE, .ref pA, .ref pO, .ref pT, .ref pD, .ref pG, .ref pW])), (pO, arI cs 20 mO), (pT, arI cs 20 mT)] : va_W) = [(km, .inr (6, [.int (iI ((((cdV sh zs (smI (fun j => mO (5 * zs.toNat + j) + mT (5 * zs.toNat + j)) 5)) : Nat) : Int))), .int (iI (((sh : Nat) : Int))), .int (iI (((it : Nat) : Int))), .int (iI (((dy : Nat) : Int))), .int (iI (lc)), .int (iI (sv)), .int (iI (lr)), .int (iI (sr)), .ref pL, .ref pP, .ref pC, .ref pI, .ref pM, .ref pS, .ref pV, .ref pN, .ref pE, .ref pA, .ref pO, .ref pT, .ref pD, .ref pG, .ref pW])), (pO, arI cs 20 mO), (pT, arI cs 20 mT)] := by
            have hcd : cdV sh zs (smI (fun j => mO (5 * zs.toNat + j) + mT (5 * zs.toNat + j)) 5) = 0 := by unfold cdV; (repeat' split) <;> omega
            rw [hcd]
            rfl
          rw [hWe] at hP
          subst hAe
          have hres : (FP.fdiv (FP.i2f (iI (smI (fun j => mO (5 * zs.toNat + j)) 5))) (FP.i2f (iI (smI (fun j => mO (5 * zs.toNat + j) + mT (5 * zs.toNat + j)) 5)))) = srF (cdV sh zs (smI (fun j => mO (5 * zs.toNat + j) + mT (5 * zs.toNat + j)) 5)) (smI (fun j => mO (5 * zs.toNat + j)) 5) (smI (fun j => mO (5 * zs.toNat + j) + mT (5 * zs.toNat + j)) 5) := by
              have hcd : cdV sh zs (smI (fun j => mO (5 * zs.toNat + j) + mT (5 * zs.toNat + j)) 5) = 0 := by unfold cdV; (repeat' split) <;> omega
              rw [hcd]
              rfl
          exact W.fret hx hb hr (fun t ht hW => ⟨⟨_, (), rfl, hres, by show va_P D vwCl _ t.heap; rw [ht]; exact hP⟩, hS.F ht⟩) hS.2.2 dX6_service_94 hlocks
        · refine lv_iconst (v := iI (2)) hx hb dX6_service_73 rfl ?_
          refine lv_goto (tgt := 78) hx hb dX6_service_74 (by decide) ?_
          refine my_put hx hb hts inAX6 tyX6_ok nmX6 hown hK hP hD hS 0 rfl rfl 0 (by decide) w_801 rfl rfl rfl (Nat.le_of_ble_eq_true rfl) dX6_service_78 (fun H locs hP hD hS => ?_)
          have hP : va_P D vwCl [(km, .inr (6, [.int (iI (2)), .int (iI (((sh : Nat) : Int))), .int (iI (((it : Nat) : Int))), .int (iI (((dy : Nat) : Int))), .int (iI (lc)), .int (iI (sv)), .int (iI (lr)), .int (iI (sr)), .ref pL, .ref pP, .ref pC, .ref pI, .ref pM, .ref pS, .ref pV, .ref pN, .ref pE, .ref pA, .ref pO, .ref pT, .ref pD, .ref pG, .ref pW])), (pO, arI cs 20 mO), (pT, arI cs 20 mT)] H := hP
          have hD : va_D A [(km, .inr (6, [.int (iI (2)), .int (iI (((sh : Nat) : Int))), .int (iI (((it : Nat) : Int))), .int (iI (((dy : Nat) : Int))), .int (iI (lc)), .int (iI (sv)), .int (iI (lr)), .int (iI (sr)), .ref pL, .ref pP, .ref pC, .ref pI, .ref pM, .ref pS, .ref pV, .ref pN, .ref pE, .ref pA, .ref pO, .ref pT, .ref pD, .ref pG, .ref pW])), (pO, arI cs 20 mO), (pT, arI cs 20 mT)] := hD
          refine lv_iload_n hx hb dX6_service_81 rfl (lv_at hl 1 rfl) ?_
          refine my_if_ne (tgt := 89) hx hb (by omega) dX6_service_82 (by decide) (fun b6 => (by omega : False).elim) (fun b6 => ?_)
          refine lv_fconst0 hx hb dX6_service_85 ?_
          refine lv_goto (tgt := 94) hx hb dX6_service_86 (by decide) ?_
          have hWe : ([(km, .inr (6, [.int (iI (2)), .int (iI (((sh : Nat) : Int))), .int (iI (((it : Nat) : Int))), .int (iI (((dy : Nat) : Int))), .int (iI (lc)), .int (iI (sv)), .int (iI (lr)), .int (iI (sr)), .ref pL, .ref pP, .ref pC, .ref pI, .ref pM, .ref pS, .ref pV, .ref pN, .ref pE, .ref pA, .ref pO, .ref pT, .ref pD, .ref pG, .ref pW])), (pO, arI cs 20 mO), (pT, arI cs 20 mT)] : va_W) = [(km, .inr (6, [.int (iI ((((cdV sh zs (smI (fun j => mO (5 * zs.toNat + j) + mT (5 * zs.toNat + j)) 5)) : Nat) : Int))), .int (iI (((sh : Nat) : Int))), .int (iI (((it : Nat) : Int))), .int (iI (((dy : Nat) : Int))), .int (iI (lc)), .int (iI (sv)), .int (iI (lr)), .int (iI (sr)), .ref pL, .ref pP, .ref pC, .ref pI, .ref pM, .ref pS, .ref pV, .ref pN, .ref pE, .ref pA, .ref pO, .ref pT, .ref pD, .ref pG, .ref pW])), (pO, arI cs 20 mO), (pT, arI cs 20 mT)] := by
            have hcd : cdV sh zs (smI (fun j => mO (5 * zs.toNat + j) + mT (5 * zs.toNat + j)) 5) = 2 := by unfold cdV; (repeat' split) <;> omega
            rw [hcd]
            rfl
          rw [hWe] at hP
          subst hAe
          have hres : (FP.fconst0) = srF (cdV sh zs (smI (fun j => mO (5 * zs.toNat + j) + mT (5 * zs.toNat + j)) 5)) (smI (fun j => mO (5 * zs.toNat + j)) 5) (smI (fun j => mO (5 * zs.toNat + j) + mT (5 * zs.toNat + j)) 5) := by
              have hcd : cdV sh zs (smI (fun j => mO (5 * zs.toNat + j) + mT (5 * zs.toNat + j)) 5) = 2 := by unfold cdV; (repeat' split) <;> omega
              rw [hcd]
              rfl
          exact W.fret hx hb hr (fun t ht hW => ⟨⟨_, (), rfl, hres, by show va_P D vwCl _ t.heap; rw [ht]; exact hP⟩, hS.F ht⟩) hS.2.2 dX6_service_94 hlocks
      · refine lv_iload_n hx hb dX6_service_34 rfl (lv_at hl 2 rfl) ?_
        refine lv_aload_n hx hb dX6_service_35 rfl (lv_at hl 3 rfl) ?_
        refine my_get hx hb hts inAX6 hown hK hP 0 rfl rfl 18 (by decide) w_819 rfl rfl dX6_service_36 ?_
        refine lv_iload hx hb dX6_service_39 (lv_at hl 0 rfl) ?_
        refine my_iald hx hb hK hP 1 rfl (by omega) (k := 5 * zs.toNat + i) (Int.toNat_natCast _) dX6_service_41 ?_
        refine my_iadd (z := (smI (fun j => mO (5 * zs.toNat + j)) i) + (mO (5 * zs.toNat + i))) hx hb dX6_service_42 (rfl) ?_
        refine lv_istore_n (lv' := [(2, .int (iI ((smI (fun j => mO (5 * zs.toNat + j)) i) + (mO (5 * zs.toNat + i))))), (4, .int (iI ((((5 * zs.toNat + i) : Nat) : Int)))), (3, .int (iI (smI (fun j => mO (5 * zs.toNat + j) + mT (5 * zs.toNat + j)) i))), (0, .ref km), (1, .int (iI (zs)))]) hx hb dX6_service_43 rfl hl (by decide) rfl (fun ls hl => ?_)
        refine lv_iload_n hx hb dX6_service_44 rfl (lv_at hl 2 rfl) ?_
        refine lv_aload_n hx hb dX6_service_45 rfl (lv_at hl 3 rfl) ?_
        refine my_get hx hb hts inAX6 hown hK hP 0 rfl rfl 18 (by decide) w_819 rfl rfl dX6_service_46 ?_
        refine lv_iload hx hb dX6_service_49 (lv_at hl 1 rfl) ?_
        refine my_iald hx hb hK hP 1 rfl (by omega) (k := 5 * zs.toNat + i) (Int.toNat_natCast _) dX6_service_51 ?_
        refine lv_aload_n hx hb dX6_service_52 rfl (lv_at hl 3 rfl) ?_
        refine my_get hx hb hts inAX6 hown hK hP 0 rfl rfl 19 (by decide) w_820 rfl rfl dX6_service_53 ?_
        refine lv_iload hx hb dX6_service_56 (lv_at hl 1 rfl) ?_
        refine my_iald hx hb hK hP 2 rfl (by omega) (k := 5 * zs.toNat + i) (Int.toNat_natCast _) dX6_service_58 ?_
        refine my_iadd (z := (mO (5 * zs.toNat + i)) + (mT (5 * zs.toNat + i))) hx hb dX6_service_59 (rfl) ?_
        refine my_iadd (z := (smI (fun j => mO (5 * zs.toNat + j) + mT (5 * zs.toNat + j)) i) + ((mO (5 * zs.toNat + i)) + (mT (5 * zs.toNat + i)))) hx hb dX6_service_60 (rfl) ?_
        refine lv_istore_n (lv' := [(3, .int (iI ((smI (fun j => mO (5 * zs.toNat + j) + mT (5 * zs.toNat + j)) i) + ((mO (5 * zs.toNat + i)) + (mT (5 * zs.toNat + i)))))), (2, .int (iI ((smI (fun j => mO (5 * zs.toNat + j)) i) + (mO (5 * zs.toNat + i))))), (4, .int (iI ((((5 * zs.toNat + i) : Nat) : Int)))), (0, .ref km), (1, .int (iI (zs)))]) hx hb dX6_service_61 rfl hl (by decide) rfl (fun ls hl => ?_)
        refine lv_iinc (v := iI ((((5 * zs.toNat + i) : Nat) : Int) + 1)) (lv' := [(4, .int (iI ((((5 * zs.toNat + i) : Nat) : Int) + 1))), (3, .int (iI ((smI (fun j => mO (5 * zs.toNat + j) + mT (5 * zs.toNat + j)) i) + ((mO (5 * zs.toNat + i)) + (mT (5 * zs.toNat + i)))))), (2, .int (iI ((smI (fun j => mO (5 * zs.toNat + j)) i) + (mO (5 * zs.toNat + i))))), (0, .ref km), (1, .int (iI (zs)))]) hx hb dX6_service_62 hl (k := 2) rfl (by rw [show ((((5 * zs.toNat + i) : Nat) : Int) + 1 : Int) = (((5 * zs.toNat + i) : Nat) : Int) + 1 from rfl]; exact iI_add _ _) (by decide) rfl (fun ls hl => ?_)
        refine lv_goto (tgt := 24) hx hb dX6_service_65 (by decide) ?_
        have e1 : (((5 * zs.toNat + i) : Nat) : Int) + 1 = (((5 * zs.toNat + (i + 1)) : Nat) : Int) := by omega
        have e2 : smI (fun j => mO (5 * zs.toNat + j)) i + mO (5 * zs.toNat + i) = smI (fun j => mO (5 * zs.toNat + j)) (i + 1) := rfl
        have e3 : smI (fun j => mO (5 * zs.toNat + j) + mT (5 * zs.toNat + j)) i + (mO (5 * zs.toNat + i) + mT (5 * zs.toNat + i)) = smI (fun j => mO (5 * zs.toNat + j) + mT (5 * zs.toNat + j)) (i + 1) := rfl
        rw [e1, e2, e3] at hl
        exact ih (i + 1) (by omega) (by omega) _ _ _ hP hD hS (lv_sub hl [0, 1, 2, 3, 4] rfl)
  · refine lv_aload_n hx hb dX6_service_8 rfl (lv_at hl 0 rfl) ?_
    refine lv_iconst (v := iI (1)) hx hb dX6_service_9 rfl ?_
    have pk7 : picks [(km, .inr (6, [.int (iI (th)), .int (iI (((sh : Nat) : Int))), .int (iI (((it : Nat) : Int))), .int (iI (((dy : Nat) : Int))), .int (iI (lc)), .int (iI (sv)), .int (iI (lr)), .int (iI (sr)), .ref pL, .ref pP, .ref pC, .ref pI, .ref pM, .ref pS, .ref pV, .ref pN, .ref pE, .ref pA, .ref pO, .ref pT, .ref pD, .ref pG, .ref pW])), (pO, arI cs 20 mO), (pT, arI cs 20 mT)] [0] [(km, .inr (6, [.int (iI (th)), .int (iI (((sh : Nat) : Int))), .int (iI (((it : Nat) : Int))), .int (iI (((dy : Nat) : Int))), .int (iI (lc)), .int (iI (sv)), .int (iI (lr)), .int (iI (sr)), .ref pL, .ref pP, .ref pC, .ref pI, .ref pM, .ref pS, .ref pV, .ref pN, .ref pE, .ref pA, .ref pO, .ref pT, .ref pD, .ref pG, .ref pW]))] := ⟨rfl, trivial⟩
    refine va_calli (va_runV (As := [.int (iI (1))]) (rest := []) ⟨hx, hb, hml, hown, hts⟩ (m_X6_fails l D cs km pL pP pC pI pM pS pV pN pE pA pO pT pD pG pW sh it th dy lc sv lr sr 1) (cwV 1 hts (gV w_883 w_885 w_p16 w_5 w_886) rfl rfl rfl (by decide +kernel) ⟨Nat.le_of_ble_eq_true rfl, Nat.le_of_ble_eq_true rfl⟩) (PC_V hK hN hP hD [0] rfl pk7 rfl rfl) rfl rfl hl.1 rfl (lv_room (Nat.le_of_ble_eq_true rfl)) dX6_service_10 ⟨Nat.le_of_ble_eq_true rfl, Nat.le_of_ble_eq_true rfl⟩) hS (fun q _ h => inW_sub hD [0] pk7 q h) (fun q h => inW_sub hD [0] pk7 q h) (fun r u t H locs ht hvm hw hB hz1 hk1 hS => ?_)
    subst hw
    rw [ht] at hB
    obtain ⟨hP, hD⟩ := my_join (W1 := [(km, .inr (6, [.int (iI (1)), .int (iI (((sh : Nat) : Int))), .int (iI (((it : Nat) : Int))), .int (iI (((dy : Nat) : Int))), .int (iI (lc)), .int (iI (sv)), .int (iI (lr)), .int (iI (sr)), .ref pL, .ref pP, .ref pC, .ref pI, .ref pM, .ref pS, .ref pV, .ref pN, .ref pE, .ref pA, .ref pO, .ref pT, .ref pD, .ref pG, .ref pW]))]) hP hD [0] rfl pk7 rfl hk1 hB
    have hP : va_P D vwCl [(km, .inr (6, [.int (iI (1)), .int (iI (((sh : Nat) : Int))), .int (iI (((it : Nat) : Int))), .int (iI (((dy : Nat) : Int))), .int (iI (lc)), .int (iI (sv)), .int (iI (lr)), .int (iI (sr)), .ref pL, .ref pP, .ref pC, .ref pI, .ref pM, .ref pS, .ref pV, .ref pN, .ref pE, .ref pA, .ref pO, .ref pT, .ref pD, .ref pG, .ref pW])), (pO, arI cs 20 mO), (pT, arI cs 20 mT)] H := hP
    have hD : va_D A [(km, .inr (6, [.int (iI (1)), .int (iI (((sh : Nat) : Int))), .int (iI (((it : Nat) : Int))), .int (iI (((dy : Nat) : Int))), .int (iI (lc)), .int (iI (sv)), .int (iI (lr)), .int (iI (sr)), .ref pL, .ref pP, .ref pC, .ref pI, .ref pM, .ref pS, .ref pV, .ref pN, .ref pE, .ref pA, .ref pO, .ref pT, .ref pD, .ref pG, .ref pW])), (pO, arI cs 20 mO), (pT, arI cs 20 mT)] := hD
    refine lv_i2f hx hb dX6_service_13 ?_
    have hWe : ([(km, .inr (6, [.int (iI (1)), .int (iI (((sh : Nat) : Int))), .int (iI (((it : Nat) : Int))), .int (iI (((dy : Nat) : Int))), .int (iI (lc)), .int (iI (sv)), .int (iI (lr)), .int (iI (sr)), .ref pL, .ref pP, .ref pC, .ref pI, .ref pM, .ref pS, .ref pV, .ref pN, .ref pE, .ref pA, .ref pO, .ref pT, .ref pD, .ref pG, .ref pW])), (pO, arI cs 20 mO), (pT, arI cs 20 mT)] : va_W) = [(km, .inr (6, [.int (iI ((((cdV sh zs (smI (fun j => mO (5 * zs.toNat + j) + mT (5 * zs.toNat + j)) 5)) : Nat) : Int))), .int (iI (((sh : Nat) : Int))), .int (iI (((it : Nat) : Int))), .int (iI (((dy : Nat) : Int))), .int (iI (lc)), .int (iI (sv)), .int (iI (lr)), .int (iI (sr)), .ref pL, .ref pP, .ref pC, .ref pI, .ref pM, .ref pS, .ref pV, .ref pN, .ref pE, .ref pA, .ref pO, .ref pT, .ref pD, .ref pG, .ref pW])), (pO, arI cs 20 mO), (pT, arI cs 20 mT)] := by
      have hcd : cdV sh zs (smI (fun j => mO (5 * zs.toNat + j) + mT (5 * zs.toNat + j)) 5) = 1 := by unfold cdV; (repeat' split) <;> omega
      rw [hcd]
      rfl
    rw [hWe] at hP
    subst hAe
    have hres : (FP.i2f (iI 0)) = srF (cdV sh zs (smI (fun j => mO (5 * zs.toNat + j) + mT (5 * zs.toNat + j)) 5)) (smI (fun j => mO (5 * zs.toNat + j)) 5) (smI (fun j => mO (5 * zs.toNat + j) + mT (5 * zs.toNat + j)) 5) := by
        have hcd : cdV sh zs (smI (fun j => mO (5 * zs.toNat + j) + mT (5 * zs.toNat + j)) 5) = 1 := by unfold cdV; (repeat' split) <;> omega
        rw [hcd]
        rfl
    exact W.fret hx hb hr (fun t ht hW => ⟨⟨_, (), rfl, hres, by show va_P D vwCl _ t.heap; rw [ht]; exact hP⟩, hS.F ht⟩) hS.2.2 dX6_service_14 hlocks
