abbrev ws_X6_thrown : List Cond := Cond.code yX6_thrown cX6_thrown 1 (some .int) :: ALL
set_option maxHeartbeats 4000000 in
set_option maxRecDepth 100000 in
theorem m_X6_thrown (l : Launch) (D : va_G) (cs : Nat → ClassId) (km pL pP pC pI pM pS pV pN pE pA pO pT pD pG pW sh it : Nat) (th : Int) (dy : Nat) (lc sv lr sr : Int) : Met l yX6_thrown ws_X6_thrown ({ frames := 0, cells := 0, slots := 0, locals := 0 }) (va_Pc [.ref km] (PC D cs [(km, .inr (6, [.int (iI (th)), .int (iI (((sh : Nat) : Int))), .int (iI (((it : Nat) : Int))), .int (iI (((dy : Nat) : Int))), .int (iI (lc)), .int (iI (sv)), .int (iI (lr)), .int (iI (sr)), .ref pL, .ref pP, .ref pC, .ref pI, .ref pM, .ref pS, .ref pV, .ref pN, .ref pE, .ref pA, .ref pO, .ref pT, .ref pD, .ref pG, .ref pW]))])) (va_Qi (fun r (_ : Unit) => r = iI (th)) (fun _ _ => True) noA) 0 0 noA := by
  refine Met.ofW (cc := cX6_thrown) (maxL := 1) (ret := (some .int)) (by decide +kernel) rfl ?_
  intro p e s m args below meth c s₁ B hml hv
  obtain ⟨rfl, hP, hK, hD, hN⟩ := hv
  have hx := B.exec
  have hb := B.bytes
  have hr := B.returns
  have hts : ∀ w ∈ ALL, w.before _ s = true := fun w h => atoms_spec (ws := ws_X6_thrown) B.pre w (List.mem_cons_of_mem _ h)
  have hown : s.vm.findClass RX6 = some m.cls := findClass_of_methodNamed B.named
  have hlocks := B.notSynchronized
  have hS : va_S noA s.heap s.heap [] := va_S.rf
  generalize inW [(km, .inr (6, [.int (iI (th)), .int (iI (((sh : Nat) : Int))), .int (iI (((it : Nat) : Int))), .int (iI (((dy : Nat) : Int))), .int (iI (lc)), .int (iI (sv)), .int (iI (lr)), .int (iI (sr)), .ref pL, .ref pP, .ref pC, .ref pI, .ref pM, .ref pS, .ref pV, .ref pN, .ref pE, .ref pA, .ref pO, .ref pT, .ref pD, .ref pG, .ref pW]))] = A at hD
  have hl := lv_entry ([.ref km]) (n := 1) (Nat.le_of_ble_eq_true rfl)
  rw [lg_entry_eq]
  generalize (lg_sl ([.ref km]) ++ List.replicate (1 - (lg_sl ([.ref km])).length) Slot.unset).toArray = ls at hl ⊢
  have hl : lv_has ls 1 [(0, .ref km)] := hl
  have hH := rfl (a := s.heap)
  refine lv_aload_n hx hb dX6_thrown_0 rfl (lv_at hl 0 rfl) ?_
  refine my_get hx hb hts inAX6 hown hK hP 0 rfl rfl 0 (by decide) w_801 rfl rfl dX6_thrown_1 ?_
  have hres : iI (th) = iI (th) := congrArg iI (by
      first | rfl | omega)
  exact W.iret hx hb hr (fun t ht hW => ⟨⟨_, (), rfl, hres, trivial⟩, hS.F ht⟩) hS.2.2 dX6_thrown_4

abbrev ws_X6_fails : List Cond := Cond.code yX6_fails cX6_fails 2 (some .int) :: ALL
set_option maxHeartbeats 4000000 in
set_option maxRecDepth 100000 in
theorem m_X6_fails (l : Launch) (D : va_G) (cs : Nat → ClassId) (km pL pP pC pI pM pS pV pN pE pA pO pT pD pG pW sh it : Nat) (th : Int) (dy : Nat) (lc sv lr sr : Int) (cz : Int) : Met l yX6_fails ws_X6_fails ({ frames := 0, cells := 0, slots := 0, locals := 0 }) (va_Pc [.ref km, .int (iI (cz))] (PC D cs [(km, .inr (6, [.int (iI (th)), .int (iI (((sh : Nat) : Int))), .int (iI (((it : Nat) : Int))), .int (iI (((dy : Nat) : Int))), .int (iI (lc)), .int (iI (sv)), .int (iI (lr)), .int (iI (sr)), .ref pL, .ref pP, .ref pC, .ref pI, .ref pM, .ref pS, .ref pV, .ref pN, .ref pE, .ref pA, .ref pO, .ref pT, .ref pD, .ref pG, .ref pW]))])) (va_Qi (fun r (_ : Unit) => r = iI (0)) (fun _ t => va_P D vwCl [(km, .inr (6, [.int (iI (cz)), .int (iI (((sh : Nat) : Int))), .int (iI (((it : Nat) : Int))), .int (iI (((dy : Nat) : Int))), .int (iI (lc)), .int (iI (sv)), .int (iI (lr)), .int (iI (sr)), .ref pL, .ref pP, .ref pC, .ref pI, .ref pM, .ref pS, .ref pV, .ref pN, .ref pE, .ref pA, .ref pO, .ref pT, .ref pD, .ref pG, .ref pW]))] t.heap) (inW [(km, .inr (6, [.int (iI (th)), .int (iI (((sh : Nat) : Int))), .int (iI (((it : Nat) : Int))), .int (iI (((dy : Nat) : Int))), .int (iI (lc)), .int (iI (sv)), .int (iI (lr)), .int (iI (sr)), .ref pL, .ref pP, .ref pC, .ref pI, .ref pM, .ref pS, .ref pV, .ref pN, .ref pE, .ref pA, .ref pO, .ref pT, .ref pD, .ref pG, .ref pW]))])) 0 0 (inW [(km, .inr (6, [.int (iI (th)), .int (iI (((sh : Nat) : Int))), .int (iI (((it : Nat) : Int))), .int (iI (((dy : Nat) : Int))), .int (iI (lc)), .int (iI (sv)), .int (iI (lr)), .int (iI (sr)), .ref pL, .ref pP, .ref pC, .ref pI, .ref pM, .ref pS, .ref pV, .ref pN, .ref pE, .ref pA, .ref pO, .ref pT, .ref pD, .ref pG, .ref pW]))]) := by
  refine Met.ofW (cc := cX6_fails) (maxL := 2) (ret := (some .int)) (by decide +kernel) rfl ?_
  intro p e s m args below meth c s₁ B hml hv
  obtain ⟨rfl, hP, hK, hD, hN⟩ := hv
  have hx := B.exec
  have hb := B.bytes
  have hr := B.returns
  have hts : ∀ w ∈ ALL, w.before _ s = true := fun w h => atoms_spec (ws := ws_X6_fails) B.pre w (List.mem_cons_of_mem _ h)
  have hown : s.vm.findClass RX6 = some m.cls := findClass_of_methodNamed B.named
  have hlocks := B.notSynchronized
  generalize hAe : inW [(km, .inr (6, [.int (iI (th)), .int (iI (((sh : Nat) : Int))), .int (iI (((it : Nat) : Int))), .int (iI (((dy : Nat) : Int))), .int (iI (lc)), .int (iI (sv)), .int (iI (lr)), .int (iI (sr)), .ref pL, .ref pP, .ref pC, .ref pI, .ref pM, .ref pS, .ref pV, .ref pN, .ref pE, .ref pA, .ref pO, .ref pT, .ref pD, .ref pG, .ref pW]))] = A at hD ⊢
  have hS : va_S A s.heap s.heap [] := va_S.rf
  have hl := lv_entry ([.ref km, .int (iI (cz))]) (n := 2) (Nat.le_of_ble_eq_true rfl)
  rw [lg_entry_eq]
  generalize (lg_sl ([.ref km, .int (iI (cz))]) ++ List.replicate (2 - (lg_sl ([.ref km, .int (iI (cz))])).length) Slot.unset).toArray = ls at hl ⊢
  have hl : lv_has ls 2 [(0, .ref km), (1, .int (iI (cz)))] := hl
  have hH := rfl (a := s.heap)
  refine lv_aload_n hx hb dX6_fails_0 rfl (lv_at hl 0 rfl) ?_
  refine lv_iload_n hx hb dX6_fails_1 rfl (lv_at hl 1 rfl) ?_
  refine my_put hx hb hts inAX6 tyX6_ok nmX6 hown hK hP hD hS 0 rfl rfl 0 (by decide) w_801 rfl rfl rfl (Nat.le_of_ble_eq_true rfl) dX6_fails_2 (fun H locs hP hD hS => ?_)
  have hP : va_P D vwCl [(km, .inr (6, [.int (iI (cz)), .int (iI (((sh : Nat) : Int))), .int (iI (((it : Nat) : Int))), .int (iI (((dy : Nat) : Int))), .int (iI (lc)), .int (iI (sv)), .int (iI (lr)), .int (iI (sr)), .ref pL, .ref pP, .ref pC, .ref pI, .ref pM, .ref pS, .ref pV, .ref pN, .ref pE, .ref pA, .ref pO, .ref pT, .ref pD, .ref pG, .ref pW]))] H := hP
  have hD : va_D A [(km, .inr (6, [.int (iI (cz)), .int (iI (((sh : Nat) : Int))), .int (iI (((it : Nat) : Int))), .int (iI (((dy : Nat) : Int))), .int (iI (lc)), .int (iI (sv)), .int (iI (lr)), .int (iI (sr)), .ref pL, .ref pP, .ref pC, .ref pI, .ref pM, .ref pS, .ref pV, .ref pN, .ref pE, .ref pA, .ref pO, .ref pT, .ref pD, .ref pG, .ref pW]))] := hD
  refine lv_iconst (v := iI (0)) hx hb dX6_fails_5 rfl ?_
  subst hAe
  have hres : iI (0) = iI (0) := congrArg iI (by
      first | rfl | omega)
  exact W.iret hx hb hr (fun t ht hW => ⟨⟨_, (), rfl, hres, by show va_P D vwCl _ t.heap; rw [ht]; exact hP⟩, hS.F ht⟩) hS.2.2 dX6_fails_6

abbrev ws_X6_in : List Cond := Cond.code yX6_in cX6_in 3 (some .boolean) :: ALL
set_option maxHeartbeats 4000000 in
set_option maxRecDepth 100000 in
theorem m_X6_in (l : Launch) (D : va_G) (cs : Nat → ClassId) (vz loz hiz : Int) (hvz : -2147483648 ≤ vz ∧ vz < 2147483648) (hloz : -2147483648 ≤ loz ∧ loz < 2147483648) (hhiz : -2147483648 ≤ hiz ∧ hiz < 2147483648) : Met l yX6_in ws_X6_in ({ frames := 0, cells := 0, slots := 0, locals := 0 }) (va_Pc [.int (iI (vz)), .int (iI (loz)), .int (iI (hiz))] (PC D cs [])) (va_Qi (fun r (_ : Unit) => r = iI (inI vz loz hiz)) (fun _ _ => True) noA) 0 0 noA := by
  refine Met.ofW (cc := cX6_in) (maxL := 3) (ret := (some .boolean)) (by decide +kernel) rfl ?_
  intro p e s m args below meth c s₁ B hml hv
  obtain ⟨rfl, hP, hK, hD, hN⟩ := hv
  have hx := B.exec
  have hb := B.bytes
  have hr := B.returns
  have hts : ∀ w ∈ ALL, w.before _ s = true := fun w h => atoms_spec (ws := ws_X6_in) B.pre w (List.mem_cons_of_mem _ h)
  have hown : s.vm.findClass RX6 = some m.cls := findClass_of_methodNamed B.named
  have hlocks := B.notSynchronized
  have hS : va_S noA s.heap s.heap [] := va_S.rf
  generalize inW [] = A at hD
  have hl := lv_entry ([.int (iI (vz)), .int (iI (loz)), .int (iI (hiz))]) (n := 3) (Nat.le_of_ble_eq_true rfl)
  rw [lg_entry_eq]
  generalize (lg_sl ([.int (iI (vz)), .int (iI (loz)), .int (iI (hiz))]) ++ List.replicate (3 - (lg_sl ([.int (iI (vz)), .int (iI (loz)), .int (iI (hiz))])).length) Slot.unset).toArray = ls at hl ⊢
  have hl : lv_has ls 3 [(0, .int (iI (vz))), (1, .int (iI (loz))), (2, .int (iI (hiz)))] := hl
  have hH := rfl (a := s.heap)
  refine lv_iload_n hx hb dX6_in_0 rfl (lv_at hl 0 rfl) ?_
  refine lv_iload_n hx hb dX6_in_1 rfl (lv_at hl 1 rfl) ?_
  refine my_icmp_lt (tgt := 14) hx hb (by omega) dX6_in_2 (by decide) (fun b1 => ?_) (fun b1 => ?_)
  · refine lv_iconst (v := iI (0)) hx hb dX6_in_14 rfl ?_
    have hres : iI (0) = iI (inI vz loz hiz) := congrArg iI (by
        unfold inI; split <;> omega)
    exact W.zret hx hb hr (by decide) (fun t ht hW => ⟨⟨_, (), rfl, hres, trivial⟩, hS.F ht⟩) hS.2.2 dX6_in_15
  · refine lv_iload_n hx hb dX6_in_5 rfl (lv_at hl 0 rfl) ?_
    refine lv_iload_n hx hb dX6_in_6 rfl (lv_at hl 2 rfl) ?_
    refine my_icmp_gt (tgt := 14) hx hb (by omega) dX6_in_7 (by decide) (fun b2 => ?_) (fun b2 => ?_)
    · refine lv_iconst (v := iI (0)) hx hb dX6_in_14 rfl ?_
      have hres : iI (0) = iI (inI vz loz hiz) := congrArg iI (by
          unfold inI; split <;> omega)
      exact W.zret hx hb hr (by decide) (fun t ht hW => ⟨⟨_, (), rfl, hres, trivial⟩, hS.F ht⟩) hS.2.2 dX6_in_15
    · refine lv_iconst (v := iI (1)) hx hb dX6_in_10 rfl ?_
      refine lv_goto (tgt := 15) hx hb dX6_in_11 (by decide) ?_
      have hres : iI (1) = iI (inI vz loz hiz) := congrArg iI (by
          unfold inI; split <;> omega)
      exact W.zret hx hb hr (by decide) (fun t ht hW => ⟨⟨_, (), rfl, hres, trivial⟩, hS.F ht⟩) hS.2.2 dX6_in_15

abbrev ws_X6_isShop : List Cond := Cond.code yX6_isShop cX6_isShop 2 (some .boolean) :: ALL
set_option maxHeartbeats 4000000 in
set_option maxRecDepth 100000 in
theorem m_X6_isShop (l : Launch) (D : va_G) (cs : Nat → ClassId) (km pL pP pC pI pM pS pV pN pE pA pO pT pD pG pW sh it : Nat) (th : Int) (dy : Nat) (lc sv lr sr : Int) (zz : Int) (hsh : sh ≤ 4) (hzz : -2147483648 ≤ zz ∧ zz < 2147483648) : Met l yX6_isShop ws_X6_isShop ({ frames := 1, cells := 0, slots := 0, locals := 22 }) (va_Pc [.ref km, .int (iI (zz))] (PC D cs [(km, .inr (6, [.int (iI (th)), .int (iI (((sh : Nat) : Int))), .int (iI (((it : Nat) : Int))), .int (iI (((dy : Nat) : Int))), .int (iI (lc)), .int (iI (sv)), .int (iI (lr)), .int (iI (sr)), .ref pL, .ref pP, .ref pC, .ref pI, .ref pM, .ref pS, .ref pV, .ref pN, .ref pE, .ref pA, .ref pO, .ref pT, .ref pD, .ref pG, .ref pW]))])) (va_Qi (fun r (_ : Unit) => r = iI (okI sh zz)) (fun _ _ => True) noA) 0 0 noA := by
  refine Met.ofW (cc := cX6_isShop) (maxL := 2) (ret := (some .boolean)) (by decide +kernel) rfl ?_
  intro p e s m args below meth c s₁ B hml hv
  obtain ⟨rfl, hP, hK, hD, hN⟩ := hv
  have hx := B.exec
  have hb := B.bytes
  have hr := B.returns
  have hts : ∀ w ∈ ALL, w.before _ s = true := fun w h => atoms_spec (ws := ws_X6_isShop) B.pre w (List.mem_cons_of_mem _ h)
  have hown : s.vm.findClass RX6 = some m.cls := findClass_of_methodNamed B.named
  have hlocks := B.notSynchronized
  have hS : va_S noA s.heap s.heap [] := va_S.rf
  generalize inW [(km, .inr (6, [.int (iI (th)), .int (iI (((sh : Nat) : Int))), .int (iI (((it : Nat) : Int))), .int (iI (((dy : Nat) : Int))), .int (iI (lc)), .int (iI (sv)), .int (iI (lr)), .int (iI (sr)), .ref pL, .ref pP, .ref pC, .ref pI, .ref pM, .ref pS, .ref pV, .ref pN, .ref pE, .ref pA, .ref pO, .ref pT, .ref pD, .ref pG, .ref pW]))] = A at hD
  have hl := lv_entry ([.ref km, .int (iI (zz))]) (n := 2) (Nat.le_of_ble_eq_true rfl)
  rw [lg_entry_eq]
  generalize (lg_sl ([.ref km, .int (iI (zz))]) ++ List.replicate (2 - (lg_sl ([.ref km, .int (iI (zz))])).length) Slot.unset).toArray = ls at hl ⊢
  have hl : lv_has ls 2 [(0, .ref km), (1, .int (iI (zz)))] := hl
  have hH := rfl (a := s.heap)
  refine lv_iload_n hx hb dX6_isShop_0 rfl (lv_at hl 1 rfl) ?_
  refine lv_iconst (v := iI (0)) hx hb dX6_isShop_1 rfl ?_
  refine lv_aload_n hx hb dX6_isShop_2 rfl (lv_at hl 0 rfl) ?_
  refine my_get hx hb hts inAX6 hown hK hP 0 rfl rfl 1 (by decide) w_802 rfl rfl dX6_isShop_3 ?_
  refine lv_iconst (v := iI (1)) hx hb dX6_isShop_6 rfl ?_
  refine my_isub (z := ((sh : Nat) : Int) - 1) hx hb dX6_isShop_7 (rfl) ?_
  have pk1 : picks [(km, .inr (6, [.int (iI (th)), .int (iI (((sh : Nat) : Int))), .int (iI (((it : Nat) : Int))), .int (iI (((dy : Nat) : Int))), .int (iI (lc)), .int (iI (sv)), .int (iI (lr)), .int (iI (sr)), .ref pL, .ref pP, .ref pC, .ref pI, .ref pM, .ref pS, .ref pV, .ref pN, .ref pE, .ref pA, .ref pO, .ref pT, .ref pD, .ref pG, .ref pW]))] [] [] := trivial
  refine va_calli (va_runS (As := [.int (iI (zz)), .int (iI (0)), .int (iI (((sh : Nat) : Int) - 1))]) (rest := []) ⟨hx, hb, hml, hown, hts⟩ (m_X6_in l D cs zz 0 (((sh : Nat) : Int) - 1) (by omega) (by omega) (by omega)) (va_cwS 3 hts (gS w_880 w_881 w_5 w_882) rfl rfl rfl (by decide +kernel) ⟨Nat.le_of_ble_eq_true rfl, Nat.le_of_ble_eq_true rfl⟩) (PC_S hK hN hP hD [] rfl pk1) rfl rfl hl.1 rfl (lv_room (Nat.le_of_ble_eq_true rfl)) dX6_isShop_8 ⟨Nat.le_of_ble_eq_true rfl, Nat.le_of_ble_eq_true rfl⟩) hS (fun _ _ h => False.elim h) (fun _ h => False.elim h) (fun r u t H locs ht hvm hw hB hz1 hk1 hS => ?_)
  subst hw
  have hP := P_kept hP hk1
  have hin := inI_s zz 0 (((sh : Nat) : Int) - 1)
  have hres : iI (inI zz 0 (((sh : Nat) : Int) - 1)) = iI (okI sh zz) := congrArg iI (by
      unfold inI okI; (repeat' split) <;> omega)
  exact W.zret hx hb hr ((by rcases inI_s zz 0 (((sh : Nat) : Int) - 1) with h | h <;> rw [h.1] <;> decide)) (fun t ht hW => ⟨⟨_, (), rfl, hres, trivial⟩, hS.F ht⟩) hS.2.2 dX6_isShop_11

abbrev ws_X6_isItem : List Cond := Cond.code yX6_isItem cX6_isItem 2 (some .boolean) :: ALL
set_option maxHeartbeats 4000000 in
set_option maxRecDepth 100000 in
theorem m_X6_isItem (l : Launch) (D : va_G) (cs : Nat → ClassId) (km pL pP pC pI pM pS pV pN pE pA pO pT pD pG pW sh it : Nat) (th : Int) (dy : Nat) (lc sv lr sr : Int) (zz : Int) (hsh : it ≤ 5) (hzz : -2147483648 ≤ zz ∧ zz < 2147483648) : Met l yX6_isItem ws_X6_isItem ({ frames := 1, cells := 0, slots := 0, locals := 22 }) (va_Pc [.ref km, .int (iI (zz))] (PC D cs [(km, .inr (6, [.int (iI (th)), .int (iI (((sh : Nat) : Int))), .int (iI (((it : Nat) : Int))), .int (iI (((dy : Nat) : Int))), .int (iI (lc)), .int (iI (sv)), .int (iI (lr)), .int (iI (sr)), .ref pL, .ref pP, .ref pC, .ref pI, .ref pM, .ref pS, .ref pV, .ref pN, .ref pE, .ref pA, .ref pO, .ref pT, .ref pD, .ref pG, .ref pW]))])) (va_Qi (fun r (_ : Unit) => r = iI (okI it zz)) (fun _ _ => True) noA) 0 0 noA := by
  refine Met.ofW (cc := cX6_isItem) (maxL := 2) (ret := (some .boolean)) (by decide +kernel) rfl ?_
  intro p e s m args below meth c s₁ B hml hv
  obtain ⟨rfl, hP, hK, hD, hN⟩ := hv
  have hx := B.exec
  have hb := B.bytes
  have hr := B.returns
  have hts : ∀ w ∈ ALL, w.before _ s = true := fun w h => atoms_spec (ws := ws_X6_isItem) B.pre w (List.mem_cons_of_mem _ h)
  have hown : s.vm.findClass RX6 = some m.cls := findClass_of_methodNamed B.named
  have hlocks := B.notSynchronized
  have hS : va_S noA s.heap s.heap [] := va_S.rf
  generalize inW [(km, .inr (6, [.int (iI (th)), .int (iI (((sh : Nat) : Int))), .int (iI (((it : Nat) : Int))), .int (iI (((dy : Nat) : Int))), .int (iI (lc)), .int (iI (sv)), .int (iI (lr)), .int (iI (sr)), .ref pL, .ref pP, .ref pC, .ref pI, .ref pM, .ref pS, .ref pV, .ref pN, .ref pE, .ref pA, .ref pO, .ref pT, .ref pD, .ref pG, .ref pW]))] = A at hD
  have hl := lv_entry ([.ref km, .int (iI (zz))]) (n := 2) (Nat.le_of_ble_eq_true rfl)
  rw [lg_entry_eq]
  generalize (lg_sl ([.ref km, .int (iI (zz))]) ++ List.replicate (2 - (lg_sl ([.ref km, .int (iI (zz))])).length) Slot.unset).toArray = ls at hl ⊢
  have hl : lv_has ls 2 [(0, .ref km), (1, .int (iI (zz)))] := hl
  have hH := rfl (a := s.heap)
  refine lv_iload_n hx hb dX6_isItem_0 rfl (lv_at hl 1 rfl) ?_
  refine lv_iconst (v := iI (0)) hx hb dX6_isItem_1 rfl ?_
  refine lv_aload_n hx hb dX6_isItem_2 rfl (lv_at hl 0 rfl) ?_
  refine my_get hx hb hts inAX6 hown hK hP 0 rfl rfl 2 (by decide) w_803 rfl rfl dX6_isItem_3 ?_
  refine lv_iconst (v := iI (1)) hx hb dX6_isItem_6 rfl ?_
  refine my_isub (z := ((it : Nat) : Int) - 1) hx hb dX6_isItem_7 (rfl) ?_
  have pk1 : picks [(km, .inr (6, [.int (iI (th)), .int (iI (((sh : Nat) : Int))), .int (iI (((it : Nat) : Int))), .int (iI (((dy : Nat) : Int))), .int (iI (lc)), .int (iI (sv)), .int (iI (lr)), .int (iI (sr)), .ref pL, .ref pP, .ref pC, .ref pI, .ref pM, .ref pS, .ref pV, .ref pN, .ref pE, .ref pA, .ref pO, .ref pT, .ref pD, .ref pG, .ref pW]))] [] [] := trivial
  refine va_calli (va_runS (As := [.int (iI (zz)), .int (iI (0)), .int (iI (((it : Nat) : Int) - 1))]) (rest := []) ⟨hx, hb, hml, hown, hts⟩ (m_X6_in l D cs zz 0 (((it : Nat) : Int) - 1) (by omega) (by omega) (by omega)) (va_cwS 3 hts (gS w_880 w_881 w_5 w_882) rfl rfl rfl (by decide +kernel) ⟨Nat.le_of_ble_eq_true rfl, Nat.le_of_ble_eq_true rfl⟩) (PC_S hK hN hP hD [] rfl pk1) rfl rfl hl.1 rfl (lv_room (Nat.le_of_ble_eq_true rfl)) dX6_isItem_8 ⟨Nat.le_of_ble_eq_true rfl, Nat.le_of_ble_eq_true rfl⟩) hS (fun _ _ h => False.elim h) (fun _ h => False.elim h) (fun r u t H locs ht hvm hw hB hz1 hk1 hS => ?_)
  subst hw
  have hP := P_kept hP hk1
  have hin := inI_s zz 0 (((it : Nat) : Int) - 1)
  have hres : iI (inI zz 0 (((it : Nat) : Int) - 1)) = iI (okI it zz) := congrArg iI (by
      unfold inI okI; (repeat' split) <;> omega)
  exact W.zret hx hb hr ((by rcases inI_s zz 0 (((it : Nat) : Int) - 1) with h | h <;> rw [h.1] <;> decide)) (fun t ht hW => ⟨⟨_, (), rfl, hres, trivial⟩, hS.F ht⟩) hS.2.2 dX6_isItem_11

abbrev ws_X6_isLine : List Cond := Cond.code yX6_isLine cX6_isLine 3 (some .boolean) :: ALL
set_option maxHeartbeats 4000000 in
set_option maxRecDepth 100000 in
theorem m_X6_isLine (l : Launch) (D : va_G) (cs : Nat → ClassId) (km pL pP pC pI pM pS pV pN pE pA pO pT pD pG pW sh it : Nat) (th : Int) (dy : Nat) (lc sv lr sr : Int) (mI : Nat → Int) (zs zi : Int) (hsh : sh ≤ 4) (hit : it ≤ 5) (hmI : ∀ j, 0 ≤ mI j ∧ mI j ≤ 1) (hzs : -2147483648 ≤ zs ∧ zs < 2147483648) (hzi : -2147483648 ≤ zi ∧ zi < 2147483648) : Met l yX6_isLine ws_X6_isLine ({ frames := 2, cells := 0, slots := 0, locals := 43 }) (va_Pc [.ref km, .int (iI (zs)), .int (iI (zi))] (PC D cs [(km, .inr (6, [.int (iI (th)), .int (iI (((sh : Nat) : Int))), .int (iI (((it : Nat) : Int))), .int (iI (((dy : Nat) : Int))), .int (iI (lc)), .int (iI (sv)), .int (iI (lr)), .int (iI (sr)), .ref pL, .ref pP, .ref pC, .ref pI, .ref pM, .ref pS, .ref pV, .ref pN, .ref pE, .ref pA, .ref pO, .ref pT, .ref pD, .ref pG, .ref pW])), (pI, arZ cs 20 mI)])) (va_Qi (fun r (_ : Unit) => r = iI (b01 (cdM sh it mI zs zi))) (fun _ t => va_P D vwCl [(km, .inr (6, [.int (iI (((cdM sh it mI zs zi : Nat) : Int))), .int (iI (((sh : Nat) : Int))), .int (iI (((it : Nat) : Int))), .int (iI (((dy : Nat) : Int))), .int (iI (lc)), .int (iI (sv)), .int (iI (lr)), .int (iI (sr)), .ref pL, .ref pP, .ref pC, .ref pI, .ref pM, .ref pS, .ref pV, .ref pN, .ref pE, .ref pA, .ref pO, .ref pT, .ref pD, .ref pG, .ref pW])), (pI, arZ cs 20 mI)] t.heap) (inW [(km, .inr (6, [.int (iI (th)), .int (iI (((sh : Nat) : Int))), .int (iI (((it : Nat) : Int))), .int (iI (((dy : Nat) : Int))), .int (iI (lc)), .int (iI (sv)), .int (iI (lr)), .int (iI (sr)), .ref pL, .ref pP, .ref pC, .ref pI, .ref pM, .ref pS, .ref pV, .ref pN, .ref pE, .ref pA, .ref pO, .ref pT, .ref pD, .ref pG, .ref pW])), (pI, arZ cs 20 mI)])) 0 0 (inW [(km, .inr (6, [.int (iI (th)), .int (iI (((sh : Nat) : Int))), .int (iI (((it : Nat) : Int))), .int (iI (((dy : Nat) : Int))), .int (iI (lc)), .int (iI (sv)), .int (iI (lr)), .int (iI (sr)), .ref pL, .ref pP, .ref pC, .ref pI, .ref pM, .ref pS, .ref pV, .ref pN, .ref pE, .ref pA, .ref pO, .ref pT, .ref pD, .ref pG, .ref pW])), (pI, arZ cs 20 mI)]) := by
  refine Met.ofW (cc := cX6_isLine) (maxL := 3) (ret := (some .boolean)) (by decide +kernel) rfl ?_
  intro p e s m args below meth c s₁ B hml hv
  obtain ⟨rfl, hP, hK, hD, hN⟩ := hv
  have hx := B.exec
  have hb := B.bytes
  have hr := B.returns
  have hts : ∀ w ∈ ALL, w.before _ s = true := fun w h => atoms_spec (ws := ws_X6_isLine) B.pre w (List.mem_cons_of_mem _ h)
  have hown : s.vm.findClass RX6 = some m.cls := findClass_of_methodNamed B.named
  have hlocks := B.notSynchronized
  generalize hAe : inW [(km, .inr (6, [.int (iI (th)), .int (iI (((sh : Nat) : Int))), .int (iI (((it : Nat) : Int))), .int (iI (((dy : Nat) : Int))), .int (iI (lc)), .int (iI (sv)), .int (iI (lr)), .int (iI (sr)), .ref pL, .ref pP, .ref pC, .ref pI, .ref pM, .ref pS, .ref pV, .ref pN, .ref pE, .ref pA, .ref pO, .ref pT, .ref pD, .ref pG, .ref pW])), (pI, arZ cs 20 mI)] = A at hD ⊢
  have hS : va_S A s.heap s.heap [] := va_S.rf
  have hl := lv_entry ([.ref km, .int (iI (zs)), .int (iI (zi))]) (n := 3) (Nat.le_of_ble_eq_true rfl)
  rw [lg_entry_eq]
  generalize (lg_sl ([.ref km, .int (iI (zs)), .int (iI (zi))]) ++ List.replicate (3 - (lg_sl ([.ref km, .int (iI (zs)), .int (iI (zi))])).length) Slot.unset).toArray = ls at hl ⊢
  have hl : lv_has ls 3 [(0, .ref km), (1, .int (iI (zs))), (2, .int (iI (zi)))] := hl
  have hH := rfl (a := s.heap)
  refine lv_aload_n hx hb dX6_isLine_0 rfl (lv_at hl 0 rfl) ?_
  refine lv_aload_n hx hb dX6_isLine_1 rfl (lv_at hl 0 rfl) ?_
  refine lv_iload_n hx hb dX6_isLine_2 rfl (lv_at hl 1 rfl) ?_
  have pk1 : picks [(km, .inr (6, [.int (iI (th)), .int (iI (((sh : Nat) : Int))), .int (iI (((it : Nat) : Int))), .int (iI (((dy : Nat) : Int))), .int (iI (lc)), .int (iI (sv)), .int (iI (lr)), .int (iI (sr)), .ref pL, .ref pP, .ref pC, .ref pI, .ref pM, .ref pS, .ref pV, .ref pN, .ref pE, .ref pA, .ref pO, .ref pT, .ref pD, .ref pG, .ref pW])), (pI, arZ cs 20 mI)] [0] [(km, .inr (6, [.int (iI (th)), .int (iI (((sh : Nat) : Int))), .int (iI (((it : Nat) : Int))), .int (iI (((dy : Nat) : Int))), .int (iI (lc)), .int (iI (sv)), .int (iI (lr)), .int (iI (sr)), .ref pL, .ref pP, .ref pC, .ref pI, .ref pM, .ref pS, .ref pV, .ref pN, .ref pE, .ref pA, .ref pO, .ref pT, .ref pD, .ref pG, .ref pW]))] := ⟨rfl, trivial⟩
  refine va_calli (va_runV (As := [.int (iI (zs))]) (rest := [.ref km]) ⟨hx, hb, hml, hown, hts⟩ (m_X6_isShop l D cs km pL pP pC pI pM pS pV pN pE pA pO pT pD pG pW sh it th dy lc sv lr sr zs (by assumption) (by omega)) (cwV 1 hts (gV w_895 w_897 w_p17 w_5 w_898) rfl rfl rfl (by decide +kernel) ⟨Nat.le_of_ble_eq_true rfl, Nat.le_of_ble_eq_true rfl⟩) (PC_V hK hN hP hD [0] rfl pk1 rfl rfl) rfl rfl hl.1 rfl (lv_room (Nat.le_of_ble_eq_true rfl)) dX6_isLine_3 ⟨Nat.le_of_ble_eq_true rfl, Nat.le_of_ble_eq_true rfl⟩) hS (fun _ _ h => False.elim h) (fun _ h => False.elim h) (fun r u t H locs ht hvm hw hB hz1 hk1 hS => ?_)
  subst hw
  have hP := P_kept hP hk1
  have hok := okI_s sh zs
  refine my_if_eq (tgt := 17) hx hb (by omega) dX6_isLine_6 (by decide) (fun b2 => ?_) (fun b2 => ?_)
  · refine lv_iconst (v := iI (1)) hx hb dX6_isLine_17 rfl ?_
    refine lv_goto (tgt := 39) hx hb dX6_isLine_18 (by decide) ?_
    refine my_put hx hb hts inAX6 tyX6_ok nmX6 hown hK hP hD hS 0 rfl rfl 0 (by decide) w_801 rfl rfl rfl (Nat.le_of_ble_eq_true rfl) dX6_isLine_39 (fun H locs hP hD hS => ?_)
    have hP : va_P D vwCl [(km, .inr (6, [.int (iI (1)), .int (iI (((sh : Nat) : Int))), .int (iI (((it : Nat) : Int))), .int (iI (((dy : Nat) : Int))), .int (iI (lc)), .int (iI (sv)), .int (iI (lr)), .int (iI (sr)), .ref pL, .ref pP, .ref pC, .ref pI, .ref pM, .ref pS, .ref pV, .ref pN, .ref pE, .ref pA, .ref pO, .ref pT, .ref pD, .ref pG, .ref pW])), (pI, arZ cs 20 mI)] H := hP
    have hD : va_D A [(km, .inr (6, [.int (iI (1)), .int (iI (((sh : Nat) : Int))), .int (iI (((it : Nat) : Int))), .int (iI (((dy : Nat) : Int))), .int (iI (lc)), .int (iI (sv)), .int (iI (lr)), .int (iI (sr)), .ref pL, .ref pP, .ref pC, .ref pI, .ref pM, .ref pS, .ref pV, .ref pN, .ref pE, .ref pA, .ref pO, .ref pT, .ref pD, .ref pG, .ref pW])), (pI, arZ cs 20 mI)] := hD
    refine lv_aload_n hx hb dX6_isLine_42 rfl (lv_at hl 0 rfl) ?_
    refine my_get hx hb hts inAX6 hown hK hP 0 rfl rfl 0 (by decide) w_801 rfl rfl dX6_isLine_43 ?_
    refine my_if_ne (tgt := 53) hx hb (by omega) dX6_isLine_46 (by decide) (fun b3 => ?_) (fun b3 => (by omega : False).elim)
    refine lv_iconst (v := iI (0)) hx hb dX6_isLine_53 rfl ?_
    have hWe : ([(km, .inr (6, [.int (iI (1)), .int (iI (((sh : Nat) : Int))), .int (iI (((it : Nat) : Int))), .int (iI (((dy : Nat) : Int))), .int (iI (lc)), .int (iI (sv)), .int (iI (lr)), .int (iI (sr)), .ref pL, .ref pP, .ref pC, .ref pI, .ref pM, .ref pS, .ref pV, .ref pN, .ref pE, .ref pA, .ref pO, .ref pT, .ref pD, .ref pG, .ref pW])), (pI, arZ cs 20 mI)] : va_W) = [(km, .inr (6, [.int (iI (((cdM sh it mI zs zi : Nat) : Int))), .int (iI (((sh : Nat) : Int))), .int (iI (((it : Nat) : Int))), .int (iI (((dy : Nat) : Int))), .int (iI (lc)), .int (iI (sv)), .int (iI (lr)), .int (iI (sr)), .ref pL, .ref pP, .ref pC, .ref pI, .ref pM, .ref pS, .ref pV, .ref pN, .ref pE, .ref pA, .ref pO, .ref pT, .ref pD, .ref pG, .ref pW])), (pI, arZ cs 20 mI)] := by
      have hcm := cdM_s sh it mI zs zi
      rw [show cdM sh it mI zs zi = 1 from by omega]
      rfl
    rw [hWe] at hP
    subst hAe
    have hres : iI (0) = iI (b01 (cdM sh it mI zs zi)) := congrArg iI (by
        have hcm := cdM_s sh it mI zs zi
        have hbb := b01_s (cdM sh it mI zs zi)
        omega)
    exact W.zret hx hb hr (by decide) (fun t ht hW => ⟨⟨_, (), rfl, hres, by show va_P D vwCl _ t.heap; rw [ht]; exact hP⟩, hS.F ht⟩) hS.2.2 dX6_isLine_54
  · refine lv_aload_n hx hb dX6_isLine_9 rfl (lv_at hl 0 rfl) ?_
    refine lv_iload_n hx hb dX6_isLine_10 rfl (lv_at hl 2 rfl) ?_
    have pk4 : picks [(km, .inr (6, [.int (iI (th)), .int (iI (((sh : Nat) : Int))), .int (iI (((it : Nat) : Int))), .int (iI (((dy : Nat) : Int))), .int (iI (lc)), .int (iI (sv)), .int (iI (lr)), .int (iI (sr)), .ref pL, .ref pP, .ref pC, .ref pI, .ref pM, .ref pS, .ref pV, .ref pN, .ref pE, .ref pA, .ref pO, .ref pT, .ref pD, .ref pG, .ref pW])), (pI, arZ cs 20 mI)] [0] [(km, .inr (6, [.int (iI (th)), .int (iI (((sh : Nat) : Int))), .int (iI (((it : Nat) : Int))), .int (iI (((dy : Nat) : Int))), .int (iI (lc)), .int (iI (sv)), .int (iI (lr)), .int (iI (sr)), .ref pL, .ref pP, .ref pC, .ref pI, .ref pM, .ref pS, .ref pV, .ref pN, .ref pE, .ref pA, .ref pO, .ref pT, .ref pD, .ref pG, .ref pW]))] := ⟨rfl, trivial⟩
    refine va_calli (va_runV (As := [.int (iI (zi))]) (rest := [.ref km]) ⟨hx, hb, hml, hown, hts⟩ (m_X6_isItem l D cs km pL pP pC pI pM pS pV pN pE pA pO pT pD pG pW sh it th dy lc sv lr sr zi (by assumption) (by omega)) (cwV 1 hts (gV w_899 w_901 w_p18 w_5 w_902) rfl rfl rfl (by decide +kernel) ⟨Nat.le_of_ble_eq_true rfl, Nat.le_of_ble_eq_true rfl⟩) (PC_V hK hN hP hD [0] rfl pk4 rfl rfl) rfl rfl hl.1 rfl (lv_room (Nat.le_of_ble_eq_true rfl)) dX6_isLine_11 ⟨Nat.le_of_ble_eq_true rfl, Nat.le_of_ble_eq_true rfl⟩) hS (fun _ _ h => False.elim h) (fun _ h => False.elim h) (fun r u t H locs ht hvm hw hB hz1 hk1 hS => ?_)
    subst hw
    have hP := P_kept hP hk1
    have hok := okI_s it zi
    refine my_if_ne (tgt := 21) hx hb (by omega) dX6_isLine_14 (by decide) (fun b5 => ?_) (fun b5 => ?_)
    · refine lv_aload_n hx hb dX6_isLine_21 rfl (lv_at hl 0 rfl) ?_
      refine my_get hx hb hts inAX6 hown hK hP 0 rfl rfl 11 (by decide) w_812 rfl rfl dX6_isLine_22 ?_
      refine lv_iconst (v := iI (5)) hx hb dX6_isLine_25 rfl ?_
      refine lv_iload_n hx hb dX6_isLine_26 rfl (lv_at hl 1 rfl) ?_
      refine my_imul (z := 5 * zs) hx hb dX6_isLine_27 (rfl) ?_
      refine lv_iload_n hx hb dX6_isLine_28 rfl (lv_at hl 2 rfl) ?_
      refine my_iadd (z := (5 * zs) + zi) hx hb dX6_isLine_29 (rfl) ?_
      have hmi := hmI (5 * zs + zi).toNat
      refine my_zald hx hb hK hP 1 rfl (by omega) (k := ((5 * zs) + zi).toNat) (rfl) dX6_isLine_30 ?_
      refine my_if_eq (tgt := 38) hx hb (by omega) dX6_isLine_31 (by decide) (fun b6 => ?_) (fun b6 => ?_)
      · refine lv_iconst (v := iI (2)) hx hb dX6_isLine_38 rfl ?_
        refine my_put hx hb hts inAX6 tyX6_ok nmX6 hown hK hP hD hS 0 rfl rfl 0 (by decide) w_801 rfl rfl rfl (Nat.le_of_ble_eq_true rfl) dX6_isLine_39 (fun H locs hP hD hS => ?_)
        have hP : va_P D vwCl [(km, .inr (6, [.int (iI (2)), .int (iI (((sh : Nat) : Int))), .int (iI (((it : Nat) : Int))), .int (iI (((dy : Nat) : Int))), .int (iI (lc)), .int (iI (sv)), .int (iI (lr)), .int (iI (sr)), .ref pL, .ref pP, .ref pC, .ref pI, .ref pM, .ref pS, .ref pV, .ref pN, .ref pE, .ref pA, .ref pO, .ref pT, .ref pD, .ref pG, .ref pW])), (pI, arZ cs 20 mI)] H := hP
        have hD : va_D A [(km, .inr (6, [.int (iI (2)), .int (iI (((sh : Nat) : Int))), .int (iI (((it : Nat) : Int))), .int (iI (((dy : Nat) : Int))), .int (iI (lc)), .int (iI (sv)), .int (iI (lr)), .int (iI (sr)), .ref pL, .ref pP, .ref pC, .ref pI, .ref pM, .ref pS, .ref pV, .ref pN, .ref pE, .ref pA, .ref pO, .ref pT, .ref pD, .ref pG, .ref pW])), (pI, arZ cs 20 mI)] := hD
        refine lv_aload_n hx hb dX6_isLine_42 rfl (lv_at hl 0 rfl) ?_
        refine my_get hx hb hts inAX6 hown hK hP 0 rfl rfl 0 (by decide) w_801 rfl rfl dX6_isLine_43 ?_
        refine my_if_ne (tgt := 53) hx hb (by omega) dX6_isLine_46 (by decide) (fun b7 => ?_) (fun b7 => (by omega : False).elim)
        refine lv_iconst (v := iI (0)) hx hb dX6_isLine_53 rfl ?_
        have hWe : ([(km, .inr (6, [.int (iI (2)), .int (iI (((sh : Nat) : Int))), .int (iI (((it : Nat) : Int))), .int (iI (((dy : Nat) : Int))), .int (iI (lc)), .int (iI (sv)), .int (iI (lr)), .int (iI (sr)), .ref pL, .ref pP, .ref pC, .ref pI, .ref pM, .ref pS, .ref pV, .ref pN, .ref pE, .ref pA, .ref pO, .ref pT, .ref pD, .ref pG, .ref pW])), (pI, arZ cs 20 mI)] : va_W) = [(km, .inr (6, [.int (iI (((cdM sh it mI zs zi : Nat) : Int))), .int (iI (((sh : Nat) : Int))), .int (iI (((it : Nat) : Int))), .int (iI (((dy : Nat) : Int))), .int (iI (lc)), .int (iI (sv)), .int (iI (lr)), .int (iI (sr)), .ref pL, .ref pP, .ref pC, .ref pI, .ref pM, .ref pS, .ref pV, .ref pN, .ref pE, .ref pA, .ref pO, .ref pT, .ref pD, .ref pG, .ref pW])), (pI, arZ cs 20 mI)] := by
          have hcm := cdM_s sh it mI zs zi
          rw [show cdM sh it mI zs zi = 2 from by omega]
          rfl
        rw [hWe] at hP
        subst hAe
        have hres : iI (0) = iI (b01 (cdM sh it mI zs zi)) := congrArg iI (by
            have hcm := cdM_s sh it mI zs zi
            have hbb := b01_s (cdM sh it mI zs zi)
            omega)
        exact W.zret hx hb hr (by decide) (fun t ht hW => ⟨⟨_, (), rfl, hres, by show va_P D vwCl _ t.heap; rw [ht]; exact hP⟩, hS.F ht⟩) hS.2.2 dX6_isLine_54
      · refine lv_iconst (v := iI (0)) hx hb dX6_isLine_34 rfl ?_
        refine lv_goto (tgt := 39) hx hb dX6_isLine_35 (by decide) ?_
        refine my_put hx hb hts inAX6 tyX6_ok nmX6 hown hK hP hD hS 0 rfl rfl 0 (by decide) w_801 rfl rfl rfl (Nat.le_of_ble_eq_true rfl) dX6_isLine_39 (fun H locs hP hD hS => ?_)
        have hP : va_P D vwCl [(km, .inr (6, [.int (iI (0)), .int (iI (((sh : Nat) : Int))), .int (iI (((it : Nat) : Int))), .int (iI (((dy : Nat) : Int))), .int (iI (lc)), .int (iI (sv)), .int (iI (lr)), .int (iI (sr)), .ref pL, .ref pP, .ref pC, .ref pI, .ref pM, .ref pS, .ref pV, .ref pN, .ref pE, .ref pA, .ref pO, .ref pT, .ref pD, .ref pG, .ref pW])), (pI, arZ cs 20 mI)] H := hP
        have hD : va_D A [(km, .inr (6, [.int (iI (0)), .int (iI (((sh : Nat) : Int))), .int (iI (((it : Nat) : Int))), .int (iI (((dy : Nat) : Int))), .int (iI (lc)), .int (iI (sv)), .int (iI (lr)), .int (iI (sr)), .ref pL, .ref pP, .ref pC, .ref pI, .ref pM, .ref pS, .ref pV, .ref pN, .ref pE, .ref pA, .ref pO, .ref pT, .ref pD, .ref pG, .ref pW])), (pI, arZ cs 20 mI)] := hD
        refine lv_aload_n hx hb dX6_isLine_42 rfl (lv_at hl 0 rfl) ?_
        refine my_get hx hb hts inAX6 hown hK hP 0 rfl rfl 0 (by decide) w_801 rfl rfl dX6_isLine_43 ?_
        refine my_if_ne (tgt := 53) hx hb (by omega) dX6_isLine_46 (by decide) (fun b8 => (by omega : False).elim) (fun b8 => ?_)
        refine lv_iconst (v := iI (1)) hx hb dX6_isLine_49 rfl ?_
        refine lv_goto (tgt := 54) hx hb dX6_isLine_50 (by decide) ?_
        have hWe : ([(km, .inr (6, [.int (iI (0)), .int (iI (((sh : Nat) : Int))), .int (iI (((it : Nat) : Int))), .int (iI (((dy : Nat) : Int))), .int (iI (lc)), .int (iI (sv)), .int (iI (lr)), .int (iI (sr)), .ref pL, .ref pP, .ref pC, .ref pI, .ref pM, .ref pS, .ref pV, .ref pN, .ref pE, .ref pA, .ref pO, .ref pT, .ref pD, .ref pG, .ref pW])), (pI, arZ cs 20 mI)] : va_W) = [(km, .inr (6, [.int (iI (((cdM sh it mI zs zi : Nat) : Int))), .int (iI (((sh : Nat) : Int))), .int (iI (((it : Nat) : Int))), .int (iI (((dy : Nat) : Int))), .int (iI (lc)), .int (iI (sv)), .int (iI (lr)), .int (iI (sr)), .ref pL, .ref pP, .ref pC, .ref pI, .ref pM, .ref pS, .ref pV, .ref pN, .ref pE, .ref pA, .ref pO, .ref pT, .ref pD, .ref pG, .ref pW])), (pI, arZ cs 20 mI)] := by
          have hcm := cdM_s sh it mI zs zi
          rw [show cdM sh it mI zs zi = 0 from by omega]
          rfl
        rw [hWe] at hP
        subst hAe
        have hres : iI (1) = iI (b01 (cdM sh it mI zs zi)) := congrArg iI (by
            have hcm := cdM_s sh it mI zs zi
            have hbb := b01_s (cdM sh it mI zs zi)
            omega)
        exact W.zret hx hb hr (by decide) (fun t ht hW => ⟨⟨_, (), rfl, hres, by show va_P D vwCl _ t.heap; rw [ht]; exact hP⟩, hS.F ht⟩) hS.2.2 dX6_isLine_54
    · refine lv_iconst (v := iI (1)) hx hb dX6_isLine_17 rfl ?_
      refine lv_goto (tgt := 39) hx hb dX6_isLine_18 (by decide) ?_
      refine my_put hx hb hts inAX6 tyX6_ok nmX6 hown hK hP hD hS 0 rfl rfl 0 (by decide) w_801 rfl rfl rfl (Nat.le_of_ble_eq_true rfl) dX6_isLine_39 (fun H locs hP hD hS => ?_)
      have hP : va_P D vwCl [(km, .inr (6, [.int (iI (1)), .int (iI (((sh : Nat) : Int))), .int (iI (((it : Nat) : Int))), .int (iI (((dy : Nat) : Int))), .int (iI (lc)), .int (iI (sv)), .int (iI (lr)), .int (iI (sr)), .ref pL, .ref pP, .ref pC, .ref pI, .ref pM, .ref pS, .ref pV, .ref pN, .ref pE, .ref pA, .ref pO, .ref pT, .ref pD, .ref pG, .ref pW])), (pI, arZ cs 20 mI)] H := hP
      have hD : va_D A [(km, .inr (6, [.int (iI (1)), .int (iI (((sh : Nat) : Int))), .int (iI (((it : Nat) : Int))), .int (iI (((dy : Nat) : Int))), .int (iI (lc)), .int (iI (sv)), .int (iI (lr)), .int (iI (sr)), .ref pL, .ref pP, .ref pC, .ref pI, .ref pM, .ref pS, .ref pV, .ref pN, .ref pE, .ref pA, .ref pO, .ref pT, .ref pD, .ref pG, .ref pW])), (pI, arZ cs 20 mI)] := hD
      refine lv_aload_n hx hb dX6_isLine_42 rfl (lv_at hl 0 rfl) ?_
      refine my_get hx hb hts inAX6 hown hK hP 0 rfl rfl 0 (by decide) w_801 rfl rfl dX6_isLine_43 ?_
      refine my_if_ne (tgt := 53) hx hb (by omega) dX6_isLine_46 (by decide) (fun b9 => ?_) (fun b9 => (by omega : False).elim)
      refine lv_iconst (v := iI (0)) hx hb dX6_isLine_53 rfl ?_
      have hWe : ([(km, .inr (6, [.int (iI (1)), .int (iI (((sh : Nat) : Int))), .int (iI (((it : Nat) : Int))), .int (iI (((dy : Nat) : Int))), .int (iI (lc)), .int (iI (sv)), .int (iI (lr)), .int (iI (sr)), .ref pL, .ref pP, .ref pC, .ref pI, .ref pM, .ref pS, .ref pV, .ref pN, .ref pE, .ref pA, .ref pO, .ref pT, .ref pD, .ref pG, .ref pW])), (pI, arZ cs 20 mI)] : va_W) = [(km, .inr (6, [.int (iI (((cdM sh it mI zs zi : Nat) : Int))), .int (iI (((sh : Nat) : Int))), .int (iI (((it : Nat) : Int))), .int (iI (((dy : Nat) : Int))), .int (iI (lc)), .int (iI (sv)), .int (iI (lr)), .int (iI (sr)), .ref pL, .ref pP, .ref pC, .ref pI, .ref pM, .ref pS, .ref pV, .ref pN, .ref pE, .ref pA, .ref pO, .ref pT, .ref pD, .ref pG, .ref pW])), (pI, arZ cs 20 mI)] := by
        have hcm := cdM_s sh it mI zs zi
        rw [show cdM sh it mI zs zi = 1 from by omega]
        rfl
      rw [hWe] at hP
      subst hAe
      have hres : iI (0) = iI (b01 (cdM sh it mI zs zi)) := congrArg iI (by
          have hcm := cdM_s sh it mI zs zi
          have hbb := b01_s (cdM sh it mI zs zi)
          omega)
      exact W.zret hx hb hr (by decide) (fun t ht hW => ⟨⟨_, (), rfl, hres, by show va_P D vwCl _ t.heap; rw [ht]; exact hP⟩, hS.F ht⟩) hS.2.2 dX6_isLine_54

abbrev ws_X6_down : List Cond := Cond.code yX6_down cX6_down 4 (some .long) :: ALL
set_option maxHeartbeats 4000000 in
set_option maxRecDepth 100000 in
theorem m_X6_down (l : Launch) (D : va_G) (cs : Nat → ClassId) (vz : Int) (hv : -1000000000000 ≤ vz ∧ vz ≤ 1000000000000) : Met l yX6_down ws_X6_down ({ frames := 0, cells := 0, slots := 0, locals := 0 }) (va_Pc [.long (lI (vz)), .long (lI (100))] (PC D cs [])) (va_Ql (fun r (_ : Unit) => r = lI (vz / 100)) (fun _ _ => True) noA) 0 0 noA := by
  refine Met.ofW (cc := cX6_down) (maxL := 4) (ret := (some .long)) (by decide +kernel) rfl ?_
  intro p e s m args below meth c s₁ B hml hv
  obtain ⟨rfl, hP, hK, hD, hN⟩ := hv
  have hx := B.exec
  have hb := B.bytes
  have hr := B.returns
  have hts : ∀ w ∈ ALL, w.before _ s = true := fun w h => atoms_spec (ws := ws_X6_down) B.pre w (List.mem_cons_of_mem _ h)
  have hown : s.vm.findClass RX6 = some m.cls := findClass_of_methodNamed B.named
  have hlocks := B.notSynchronized
  have hS : va_S noA s.heap s.heap [] := va_S.rf
  generalize inW [] = A at hD
  have hl := lv_entry ([.long (lI (vz)), .long (lI (100))]) (n := 4) (Nat.le_of_ble_eq_true rfl)
  rw [lg_entry_eq]
  generalize (lg_sl ([.long (lI (vz)), .long (lI (100))]) ++ List.replicate (4 - (lg_sl ([.long (lI (vz)), .long (lI (100))])).length) Slot.unset).toArray = ls at hl ⊢
  have hl : lv_has ls 4 [(0, .long (lI (vz))), (2, .long (lI (100)))] := hl
  have hH := rfl (a := s.heap)
  refine lv_lload_n hx hb dX6_down_0 rfl (lv_at hl 0 rfl) ?_
  refine lv_lconst (v := lI 0) hx hb dX6_down_1 (by decide) ?_
  refine my_lcmp_lt (tgt := 12) hx hb (by omega) dX6_down_2 dX6_down_3 (by decide) (fun b1 => ?_) (fun b1 => ?_)
  · refine lv_lload_n hx hb dX6_down_12 rfl (lv_at hl 0 rfl) ?_
    refine my_lneg hx hb dX6_down_13 rfl ?_
    refine lv_lload_n hx hb dX6_down_14 rfl (lv_at hl 1 rfl) ?_
    refine my_ladd (z := (-vz) + 100) hx hb dX6_down_15 (rfl) ?_
    refine lv_lconst (v := lI 1) hx hb dX6_down_16 (by decide) ?_
    refine my_lsub (z := ((-vz) + 100) - 1) hx hb dX6_down_17 (rfl) ?_
    refine lv_lload_n hx hb dX6_down_18 rfl (lv_at hl 1 rfl) ?_
    refine my_ldiv hx hb dX6_down_19 (by omega) rfl ?_
    refine my_lneg hx hb dX6_down_20 rfl ?_
    have hres : lI (-((((-vz) + 100) - 1) / 100)) = lI (vz / 100) := congrArg lI (by
        omega)
    exact W.lret hx hb hr (fun t ht hW => ⟨⟨_, (), rfl, hres, trivial⟩, hS.F ht⟩) hS.2.2 dX6_down_21
  · refine lv_lload_n hx hb dX6_down_6 rfl (lv_at hl 0 rfl) ?_
    refine lv_lload_n hx hb dX6_down_7 rfl (lv_at hl 1 rfl) ?_
    refine my_ldiv hx hb dX6_down_8 (by omega) rfl ?_
    refine lv_goto (tgt := 21) hx hb dX6_down_9 (by decide) ?_
    have hres : lI (vz / 100) = lI (vz / 100) := congrArg lI (by
        omega)
    exact W.lret hx hb hr (fun t ht hW => ⟨⟨_, (), rfl, hres, trivial⟩, hS.F ht⟩) hS.2.2 dX6_down_21

abbrev ws_X6_addShop : List Cond := Cond.code yX6_addShop cX6_addShop 2 (some .int) :: ALL
set_option maxHeartbeats 4000000 in
set_option maxRecDepth 100000 in
theorem m_X6_addShop (l : Launch) (D : va_G) (cs : Nat → ClassId) (km pL pP pC pI pM pS pV pN pE pA pO pT pD pG pW sh it : Nat) (th : Int) (dy : Nat) (lc sv lr sr : Int) (mL : Nat → Int) (lz : Int) (hsh : sh ≤ 4) (hlz : -2147483648 ≤ lz ∧ lz < 2147483648) : Met l yX6_addShop ws_X6_addShop ({ frames := 1, cells := 0, slots := 0, locals := 22 }) (va_Pc [.ref km, .int (iI (lz))] (PC D cs [(km, .inr (6, [.int (iI (th)), .int (iI (((sh : Nat) : Int))), .int (iI (((it : Nat) : Int))), .int (iI (((dy : Nat) : Int))), .int (iI (lc)), .int (iI (sv)), .int (iI (lr)), .int (iI (sr)), .ref pL, .ref pP, .ref pC, .ref pI, .ref pM, .ref pS, .ref pV, .ref pN, .ref pE, .ref pA, .ref pO, .ref pT, .ref pD, .ref pG, .ref pW])), (pL, arI cs 4 mL)])) (va_Qi (fun r (_ : Unit) => r = iI (if cd2 (1 ≤ lz ∧ lz ≤ 5) (sh ≠ 4) = 0 then ((sh : Nat) : Int) else 0)) (fun _ t => va_P D vwCl [(km, .inr (6, [.int (iI ((((cd2 (1 ≤ lz ∧ lz ≤ 5) (sh ≠ 4)) : Nat) : Int))), .int (iI ((((if cd2 (1 ≤ lz ∧ lz ≤ 5) (sh ≠ 4) = 0 then sh + 1 else sh) : Nat) : Int))), .int (iI (((it : Nat) : Int))), .int (iI (((dy : Nat) : Int))), .int (iI (lc)), .int (iI (sv)), .int (iI (lr)), .int (iI (sr)), .ref pL, .ref pP, .ref pC, .ref pI, .ref pM, .ref pS, .ref pV, .ref pN, .ref pE, .ref pA, .ref pO, .ref pT, .ref pD, .ref pG, .ref pW])), (pL, arI cs 4 (if cd2 (1 ≤ lz ∧ lz ≤ 5) (sh ≠ 4) = 0 then upI mL sh lz else mL))] t.heap) (inW [(km, .inr (6, [.int (iI (th)), .int (iI (((sh : Nat) : Int))), .int (iI (((it : Nat) : Int))), .int (iI (((dy : Nat) : Int))), .int (iI (lc)), .int (iI (sv)), .int (iI (lr)), .int (iI (sr)), .ref pL, .ref pP, .ref pC, .ref pI, .ref pM, .ref pS, .ref pV, .ref pN, .ref pE, .ref pA, .ref pO, .ref pT, .ref pD, .ref pG, .ref pW])), (pL, arI cs 4 mL)])) 0 0 (inW [(km, .inr (6, [.int (iI (th)), .int (iI (((sh : Nat) : Int))), .int (iI (((it : Nat) : Int))), .int (iI (((dy : Nat) : Int))), .int (iI (lc)), .int (iI (sv)), .int (iI (lr)), .int (iI (sr)), .ref pL, .ref pP, .ref pC, .ref pI, .ref pM, .ref pS, .ref pV, .ref pN, .ref pE, .ref pA, .ref pO, .ref pT, .ref pD, .ref pG, .ref pW])), (pL, arI cs 4 mL)]) := by
  refine Met.ofW (cc := cX6_addShop) (maxL := 2) (ret := (some .int)) (by decide +kernel) rfl ?_
  intro p e s m args below meth c s₁ B hml hv
  obtain ⟨rfl, hP, hK, hD, hN⟩ := hv
  have hx := B.exec
  have hb := B.bytes
  have hr := B.returns
  have hts : ∀ w ∈ ALL, w.before _ s = true := fun w h => atoms_spec (ws := ws_X6_addShop) B.pre w (List.mem_cons_of_mem _ h)
  have hown : s.vm.findClass RX6 = some m.cls := findClass_of_methodNamed B.named
  have hlocks := B.notSynchronized
  generalize hAe : inW [(km, .inr (6, [.int (iI (th)), .int (iI (((sh : Nat) : Int))), .int (iI (((it : Nat) : Int))), .int (iI (((dy : Nat) : Int))), .int (iI (lc)), .int (iI (sv)), .int (iI (lr)), .int (iI (sr)), .ref pL, .ref pP, .ref pC, .ref pI, .ref pM, .ref pS, .ref pV, .ref pN, .ref pE, .ref pA, .ref pO, .ref pT, .ref pD, .ref pG, .ref pW])), (pL, arI cs 4 mL)] = A at hD ⊢
  have hS : va_S A s.heap s.heap [] := va_S.rf
  have hl := lv_entry ([.ref km, .int (iI (lz))]) (n := 2) (Nat.le_of_ble_eq_true rfl)
  rw [lg_entry_eq]
  generalize (lg_sl ([.ref km, .int (iI (lz))]) ++ List.replicate (2 - (lg_sl ([.ref km, .int (iI (lz))])).length) Slot.unset).toArray = ls at hl ⊢
  have hl : lv_has ls 2 [(0, .ref km), (1, .int (iI (lz)))] := hl
  have hH := rfl (a := s.heap)
  refine lv_iload_n hx hb dX6_addShop_0 rfl (lv_at hl 1 rfl) ?_
  refine lv_iconst (v := iI (1)) hx hb dX6_addShop_1 rfl ?_
  refine lv_iconst (v := iI (5)) hx hb dX6_addShop_2 rfl ?_
  have pk1 : picks [(km, .inr (6, [.int (iI (th)), .int (iI (((sh : Nat) : Int))), .int (iI (((it : Nat) : Int))), .int (iI (((dy : Nat) : Int))), .int (iI (lc)), .int (iI (sv)), .int (iI (lr)), .int (iI (sr)), .ref pL, .ref pP, .ref pC, .ref pI, .ref pM, .ref pS, .ref pV, .ref pN, .ref pE, .ref pA, .ref pO, .ref pT, .ref pD, .ref pG, .ref pW])), (pL, arI cs 4 mL)] [] [] := trivial
  refine va_calli (va_runS (As := [.int (iI (lz)), .int (iI (1)), .int (iI (5))]) (rest := []) ⟨hx, hb, hml, hown, hts⟩ (m_X6_in l D cs lz 1 5 (by omega) (by omega) (by omega)) (va_cwS 3 hts (gS w_880 w_881 w_5 w_882) rfl rfl rfl (by decide +kernel) ⟨Nat.le_of_ble_eq_true rfl, Nat.le_of_ble_eq_true rfl⟩) (PC_S hK hN hP hD [] rfl pk1) rfl rfl hl.1 rfl (lv_room (Nat.le_of_ble_eq_true rfl)) dX6_addShop_3 ⟨Nat.le_of_ble_eq_true rfl, Nat.le_of_ble_eq_true rfl⟩) hS (fun _ _ h => False.elim h) (fun _ h => False.elim h) (fun r u t H locs ht hvm hw hB hz1 hk1 hS => ?_)
  subst hw
  have hP := P_kept hP hk1
  have hin := inI_s lz 1 5
  refine my_if_ne (tgt := 15) hx hb (by omega) dX6_addShop_6 (by decide) (fun b2 => ?_) (fun b2 => ?_)
  · refine lv_aload_n hx hb dX6_addShop_15 rfl (lv_at hl 0 rfl) ?_
    refine my_get hx hb hts inAX6 hown hK hP 0 rfl rfl 1 (by decide) w_802 rfl rfl dX6_addShop_16 ?_
    refine lv_iconst (v := iI (4)) hx hb dX6_addShop_19 rfl ?_
    refine my_icmp_ne (tgt := 29) hx hb (by omega) dX6_addShop_20 (by decide) (fun b3 => ?_) (fun b3 => ?_)
    · refine lv_aload_n hx hb dX6_addShop_29 rfl (lv_at hl 0 rfl) ?_
      refine lv_iconst (v := iI (0)) hx hb dX6_addShop_30 rfl ?_
      refine my_put hx hb hts inAX6 tyX6_ok nmX6 hown hK hP hD hS 0 rfl rfl 0 (by decide) w_801 rfl rfl rfl (Nat.le_of_ble_eq_true rfl) dX6_addShop_31 (fun H locs hP hD hS => ?_)
      have hP : va_P D vwCl [(km, .inr (6, [.int (iI (0)), .int (iI (((sh : Nat) : Int))), .int (iI (((it : Nat) : Int))), .int (iI (((dy : Nat) : Int))), .int (iI (lc)), .int (iI (sv)), .int (iI (lr)), .int (iI (sr)), .ref pL, .ref pP, .ref pC, .ref pI, .ref pM, .ref pS, .ref pV, .ref pN, .ref pE, .ref pA, .ref pO, .ref pT, .ref pD, .ref pG, .ref pW])), (pL, arI cs 4 mL)] H := hP
      have hD : va_D A [(km, .inr (6, [.int (iI (0)), .int (iI (((sh : Nat) : Int))), .int (iI (((it : Nat) : Int))), .int (iI (((dy : Nat) : Int))), .int (iI (lc)), .int (iI (sv)), .int (iI (lr)), .int (iI (sr)), .ref pL, .ref pP, .ref pC, .ref pI, .ref pM, .ref pS, .ref pV, .ref pN, .ref pE, .ref pA, .ref pO, .ref pT, .ref pD, .ref pG, .ref pW])), (pL, arI cs 4 mL)] := hD
      refine lv_aload_n hx hb dX6_addShop_34 rfl (lv_at hl 0 rfl) ?_
      refine my_get hx hb hts inAX6 hown hK hP 0 rfl rfl 8 (by decide) w_809 rfl rfl dX6_addShop_35 ?_
      refine lv_aload_n hx hb dX6_addShop_38 rfl (lv_at hl 0 rfl) ?_
      refine my_get hx hb hts inAX6 hown hK hP 0 rfl rfl 1 (by decide) w_802 rfl rfl dX6_addShop_39 ?_
      refine lv_iload_n hx hb dX6_addShop_42 rfl (lv_at hl 1 rfl) ?_
      refine my_iast hx hb hK hP hD hS 1 rfl (by omega) (k := sh) (Int.toNat_natCast _) dX6_addShop_43 (fun H locs hP hD hS => ?_)
      have hP : va_P D vwCl [(km, .inr (6, [.int (iI (0)), .int (iI (((sh : Nat) : Int))), .int (iI (((it : Nat) : Int))), .int (iI (((dy : Nat) : Int))), .int (iI (lc)), .int (iI (sv)), .int (iI (lr)), .int (iI (sr)), .ref pL, .ref pP, .ref pC, .ref pI, .ref pM, .ref pS, .ref pV, .ref pN, .ref pE, .ref pA, .ref pO, .ref pT, .ref pD, .ref pG, .ref pW])), (pL, arI cs 4 (upI mL sh lz))] H := hP
      have hD : va_D A [(km, .inr (6, [.int (iI (0)), .int (iI (((sh : Nat) : Int))), .int (iI (((it : Nat) : Int))), .int (iI (((dy : Nat) : Int))), .int (iI (lc)), .int (iI (sv)), .int (iI (lr)), .int (iI (sr)), .ref pL, .ref pP, .ref pC, .ref pI, .ref pM, .ref pS, .ref pV, .ref pN, .ref pE, .ref pA, .ref pO, .ref pT, .ref pD, .ref pG, .ref pW])), (pL, arI cs 4 (upI mL sh lz))] := hD
      refine lv_aload_n hx hb dX6_addShop_44 rfl (lv_at hl 0 rfl) ?_
      refine lv_dup hx hb dX6_addShop_45 rfl ?_
      refine my_get hx hb hts inAX6 hown hK hP 0 rfl rfl 1 (by decide) w_802 rfl rfl dX6_addShop_46 ?_
      refine lv_iconst (v := iI (1)) hx hb dX6_addShop_49 rfl ?_
      refine my_iadd (z := ((sh : Nat) : Int) + 1) hx hb dX6_addShop_50 (rfl) ?_
      refine my_put hx hb hts inAX6 tyX6_ok nmX6 hown hK hP hD hS 0 rfl rfl 1 (by decide) w_802 rfl rfl rfl (Nat.le_of_ble_eq_true rfl) dX6_addShop_51 (fun H locs hP hD hS => ?_)
      have hP : va_P D vwCl [(km, .inr (6, [.int (iI (0)), .int (iI (((sh : Nat) : Int) + 1)), .int (iI (((it : Nat) : Int))), .int (iI (((dy : Nat) : Int))), .int (iI (lc)), .int (iI (sv)), .int (iI (lr)), .int (iI (sr)), .ref pL, .ref pP, .ref pC, .ref pI, .ref pM, .ref pS, .ref pV, .ref pN, .ref pE, .ref pA, .ref pO, .ref pT, .ref pD, .ref pG, .ref pW])), (pL, arI cs 4 (upI mL sh lz))] H := hP
      have hD : va_D A [(km, .inr (6, [.int (iI (0)), .int (iI (((sh : Nat) : Int) + 1)), .int (iI (((it : Nat) : Int))), .int (iI (((dy : Nat) : Int))), .int (iI (lc)), .int (iI (sv)), .int (iI (lr)), .int (iI (sr)), .ref pL, .ref pP, .ref pC, .ref pI, .ref pM, .ref pS, .ref pV, .ref pN, .ref pE, .ref pA, .ref pO, .ref pT, .ref pD, .ref pG, .ref pW])), (pL, arI cs 4 (upI mL sh lz))] := hD
      refine lv_aload_n hx hb dX6_addShop_54 rfl (lv_at hl 0 rfl) ?_
      refine my_get hx hb hts inAX6 hown hK hP 0 rfl rfl 1 (by decide) w_802 rfl rfl dX6_addShop_55 ?_
      refine lv_iconst (v := iI (1)) hx hb dX6_addShop_58 rfl ?_
      refine my_isub (z := (((sh : Nat) : Int) + 1) - 1) hx hb dX6_addShop_59 (rfl) ?_
      have hWe : ([(km, .inr (6, [.int (iI (0)), .int (iI (((sh : Nat) : Int) + 1)), .int (iI (((it : Nat) : Int))), .int (iI (((dy : Nat) : Int))), .int (iI (lc)), .int (iI (sv)), .int (iI (lr)), .int (iI (sr)), .ref pL, .ref pP, .ref pC, .ref pI, .ref pM, .ref pS, .ref pV, .ref pN, .ref pE, .ref pA, .ref pO, .ref pT, .ref pD, .ref pG, .ref pW])), (pL, arI cs 4 (upI mL sh lz))] : va_W) = [(km, .inr (6, [.int (iI ((((cd2 (1 ≤ lz ∧ lz ≤ 5) (sh ≠ 4)) : Nat) : Int))), .int (iI ((((if cd2 (1 ≤ lz ∧ lz ≤ 5) (sh ≠ 4) = 0 then sh + 1 else sh) : Nat) : Int))), .int (iI (((it : Nat) : Int))), .int (iI (((dy : Nat) : Int))), .int (iI (lc)), .int (iI (sv)), .int (iI (lr)), .int (iI (sr)), .ref pL, .ref pP, .ref pC, .ref pI, .ref pM, .ref pS, .ref pV, .ref pN, .ref pE, .ref pA, .ref pO, .ref pT, .ref pD, .ref pG, .ref pW])), (pL, arI cs 4 (if cd2 (1 ≤ lz ∧ lz ≤ 5) (sh ≠ 4) = 0 then upI mL sh lz else mL))] := by
        have hcd : cd2 (1 ≤ lz ∧ lz ≤ 5) (sh ≠ 4) = 0 := by unfold cd2; (repeat' split) <;> omega
        rw [hcd]
        first | rfl | (simp; done)
      rw [hWe] at hP
      subst hAe
      have hres : iI ((((sh : Nat) : Int) + 1) - 1) = iI (if cd2 (1 ≤ lz ∧ lz ≤ 5) (sh ≠ 4) = 0 then ((sh : Nat) : Int) else 0) := congrArg iI (by
          have hcd : cd2 (1 ≤ lz ∧ lz ≤ 5) (sh ≠ 4) = 0 := by unfold cd2; (repeat' split) <;> omega
          rw [hcd]
          first | rfl | (simp; done))
      exact W.iret hx hb hr (fun t ht hW => ⟨⟨_, (), rfl, hres, by show va_P D vwCl _ t.heap; rw [ht]; exact hP⟩, hS.F ht⟩) hS.2.2 dX6_addShop_60
    · refine lv_aload_n hx hb dX6_addShop_23 rfl (lv_at hl 0 rfl) ?_
      refine lv_iconst (v := iI (2)) hx hb dX6_addShop_24 rfl ?_
      have pk4 : picks [(km, .inr (6, [.int (iI (th)), .int (iI (((sh : Nat) : Int))), .int (iI (((it : Nat) : Int))), .int (iI (((dy : Nat) : Int))), .int (iI (lc)), .int (iI (sv)), .int (iI (lr)), .int (iI (sr)), .ref pL, .ref pP, .ref pC, .ref pI, .ref pM, .ref pS, .ref pV, .ref pN, .ref pE, .ref pA, .ref pO, .ref pT, .ref pD, .ref pG, .ref pW])), (pL, arI cs 4 mL)] [0] [(km, .inr (6, [.int (iI (th)), .int (iI (((sh : Nat) : Int))), .int (iI (((it : Nat) : Int))), .int (iI (((dy : Nat) : Int))), .int (iI (lc)), .int (iI (sv)), .int (iI (lr)), .int (iI (sr)), .ref pL, .ref pP, .ref pC, .ref pI, .ref pM, .ref pS, .ref pV, .ref pN, .ref pE, .ref pA, .ref pO, .ref pT, .ref pD, .ref pG, .ref pW]))] := ⟨rfl, trivial⟩
      refine va_calli (va_runV (As := [.int (iI (2))]) (rest := []) ⟨hx, hb, hml, hown, hts⟩ (m_X6_fails l D cs km pL pP pC pI pM pS pV pN pE pA pO pT pD pG pW sh it th dy lc sv lr sr 2) (cwV 1 hts (gV w_883 w_885 w_p16 w_5 w_886) rfl rfl rfl (by decide +kernel) ⟨Nat.le_of_ble_eq_true rfl, Nat.le_of_ble_eq_true rfl⟩) (PC_V hK hN hP hD [0] rfl pk4 rfl rfl) rfl rfl hl.1 rfl (lv_room (Nat.le_of_ble_eq_true rfl)) dX6_addShop_25 ⟨Nat.le_of_ble_eq_true rfl, Nat.le_of_ble_eq_true rfl⟩) hS (fun q _ h => inW_sub hD [0] pk4 q h) (fun q h => inW_sub hD [0] pk4 q h) (fun r u t H locs ht hvm hw hB hz1 hk1 hS => ?_)
      subst hw
      rw [ht] at hB
      obtain ⟨hP, hD⟩ := my_join (W1 := [(km, .inr (6, [.int (iI (2)), .int (iI (((sh : Nat) : Int))), .int (iI (((it : Nat) : Int))), .int (iI (((dy : Nat) : Int))), .int (iI (lc)), .int (iI (sv)), .int (iI (lr)), .int (iI (sr)), .ref pL, .ref pP, .ref pC, .ref pI, .ref pM, .ref pS, .ref pV, .ref pN, .ref pE, .ref pA, .ref pO, .ref pT, .ref pD, .ref pG, .ref pW]))]) hP hD [0] rfl pk4 rfl hk1 hB
      have hP : va_P D vwCl [(km, .inr (6, [.int (iI (2)), .int (iI (((sh : Nat) : Int))), .int (iI (((it : Nat) : Int))), .int (iI (((dy : Nat) : Int))), .int (iI (lc)), .int (iI (sv)), .int (iI (lr)), .int (iI (sr)), .ref pL, .ref pP, .ref pC, .ref pI, .ref pM, .ref pS, .ref pV, .ref pN, .ref pE, .ref pA, .ref pO, .ref pT, .ref pD, .ref pG, .ref pW])), (pL, arI cs 4 mL)] H := hP
      have hD : va_D A [(km, .inr (6, [.int (iI (2)), .int (iI (((sh : Nat) : Int))), .int (iI (((it : Nat) : Int))), .int (iI (((dy : Nat) : Int))), .int (iI (lc)), .int (iI (sv)), .int (iI (lr)), .int (iI (sr)), .ref pL, .ref pP, .ref pC, .ref pI, .ref pM, .ref pS, .ref pV, .ref pN, .ref pE, .ref pA, .ref pO, .ref pT, .ref pD, .ref pG, .ref pW])), (pL, arI cs 4 mL)] := hD
      have hWe : ([(km, .inr (6, [.int (iI (2)), .int (iI (((sh : Nat) : Int))), .int (iI (((it : Nat) : Int))), .int (iI (((dy : Nat) : Int))), .int (iI (lc)), .int (iI (sv)), .int (iI (lr)), .int (iI (sr)), .ref pL, .ref pP, .ref pC, .ref pI, .ref pM, .ref pS, .ref pV, .ref pN, .ref pE, .ref pA, .ref pO, .ref pT, .ref pD, .ref pG, .ref pW])), (pL, arI cs 4 mL)] : va_W) = [(km, .inr (6, [.int (iI ((((cd2 (1 ≤ lz ∧ lz ≤ 5) (sh ≠ 4)) : Nat) : Int))), .int (iI ((((if cd2 (1 ≤ lz ∧ lz ≤ 5) (sh ≠ 4) = 0 then sh + 1 else sh) : Nat) : Int))), .int (iI (((it : Nat) : Int))), .int (iI (((dy : Nat) : Int))), .int (iI (lc)), .int (iI (sv)), .int (iI (lr)), .int (iI (sr)), .ref pL, .ref pP, .ref pC, .ref pI, .ref pM, .ref pS, .ref pV, .ref pN, .ref pE, .ref pA, .ref pO, .ref pT, .ref pD, .ref pG, .ref pW])), (pL, arI cs 4 (if cd2 (1 ≤ lz ∧ lz ≤ 5) (sh ≠ 4) = 0 then upI mL sh lz else mL))] := by
        have hcd : cd2 (1 ≤ lz ∧ lz ≤ 5) (sh ≠ 4) = 2 := by unfold cd2; (repeat' split) <;> omega
        rw [hcd]
        first | rfl | (simp; done)
      rw [hWe] at hP
      subst hAe
      have hres : iI (0) = iI (if cd2 (1 ≤ lz ∧ lz ≤ 5) (sh ≠ 4) = 0 then ((sh : Nat) : Int) else 0) := congrArg iI (by
          have hcd : cd2 (1 ≤ lz ∧ lz ≤ 5) (sh ≠ 4) = 2 := by unfold cd2; (repeat' split) <;> omega
          rw [hcd]
          first | rfl | (simp; done))
      exact W.iret hx hb hr (fun t ht hW => ⟨⟨_, (), rfl, hres, by show va_P D vwCl _ t.heap; rw [ht]; exact hP⟩, hS.F ht⟩) hS.2.2 dX6_addShop_28
  · refine lv_aload_n hx hb dX6_addShop_9 rfl (lv_at hl 0 rfl) ?_
    refine lv_iconst (v := iI (1)) hx hb dX6_addShop_10 rfl ?_
    have pk5 : picks [(km, .inr (6, [.int (iI (th)), .int (iI (((sh : Nat) : Int))), .int (iI (((it : Nat) : Int))), .int (iI (((dy : Nat) : Int))), .int (iI (lc)), .int (iI (sv)), .int (iI (lr)), .int (iI (sr)), .ref pL, .ref pP, .ref pC, .ref pI, .ref pM, .ref pS, .ref pV, .ref pN, .ref pE, .ref pA, .ref pO, .ref pT, .ref pD, .ref pG, .ref pW])), (pL, arI cs 4 mL)] [0] [(km, .inr (6, [.int (iI (th)), .int (iI (((sh : Nat) : Int))), .int (iI (((it : Nat) : Int))), .int (iI (((dy : Nat) : Int))), .int (iI (lc)), .int (iI (sv)), .int (iI (lr)), .int (iI (sr)), .ref pL, .ref pP, .ref pC, .ref pI, .ref pM, .ref pS, .ref pV, .ref pN, .ref pE, .ref pA, .ref pO, .ref pT, .ref pD, .ref pG, .ref pW]))] := ⟨rfl, trivial⟩
    refine va_calli (va_runV (As := [.int (iI (1))]) (rest := []) ⟨hx, hb, hml, hown, hts⟩ (m_X6_fails l D cs km pL pP pC pI pM pS pV pN pE pA pO pT pD pG pW sh it th dy lc sv lr sr 1) (cwV 1 hts (gV w_883 w_885 w_p16 w_5 w_886) rfl rfl rfl (by decide +kernel) ⟨Nat.le_of_ble_eq_true rfl, Nat.le_of_ble_eq_true rfl⟩) (PC_V hK hN hP hD [0] rfl pk5 rfl rfl) rfl rfl hl.1 rfl (lv_room (Nat.le_of_ble_eq_true rfl)) dX6_addShop_11 ⟨Nat.le_of_ble_eq_true rfl, Nat.le_of_ble_eq_true rfl⟩) hS (fun q _ h => inW_sub hD [0] pk5 q h) (fun q h => inW_sub hD [0] pk5 q h) (fun r u t H locs ht hvm hw hB hz1 hk1 hS => ?_)
    subst hw
    rw [ht] at hB
    obtain ⟨hP, hD⟩ := my_join (W1 := [(km, .inr (6, [.int (iI (1)), .int (iI (((sh : Nat) : Int))), .int (iI (((it : Nat) : Int))), .int (iI (((dy : Nat) : Int))), .int (iI (lc)), .int (iI (sv)), .int (iI (lr)), .int (iI (sr)), .ref pL, .ref pP, .ref pC, .ref pI, .ref pM, .ref pS, .ref pV, .ref pN, .ref pE, .ref pA, .ref pO, .ref pT, .ref pD, .ref pG, .ref pW]))]) hP hD [0] rfl pk5 rfl hk1 hB
    have hP : va_P D vwCl [(km, .inr (6, [.int (iI (1)), .int (iI (((sh : Nat) : Int))), .int (iI (((it : Nat) : Int))), .int (iI (((dy : Nat) : Int))), .int (iI (lc)), .int (iI (sv)), .int (iI (lr)), .int (iI (sr)), .ref pL, .ref pP, .ref pC, .ref pI, .ref pM, .ref pS, .ref pV, .ref pN, .ref pE, .ref pA, .ref pO, .ref pT, .ref pD, .ref pG, .ref pW])), (pL, arI cs 4 mL)] H := hP
    have hD : va_D A [(km, .inr (6, [.int (iI (1)), .int (iI (((sh : Nat) : Int))), .int (iI (((it : Nat) : Int))), .int (iI (((dy : Nat) : Int))), .int (iI (lc)), .int (iI (sv)), .int (iI (lr)), .int (iI (sr)), .ref pL, .ref pP, .ref pC, .ref pI, .ref pM, .ref pS, .ref pV, .ref pN, .ref pE, .ref pA, .ref pO, .ref pT, .ref pD, .ref pG, .ref pW])), (pL, arI cs 4 mL)] := hD
    have hWe : ([(km, .inr (6, [.int (iI (1)), .int (iI (((sh : Nat) : Int))), .int (iI (((it : Nat) : Int))), .int (iI (((dy : Nat) : Int))), .int (iI (lc)), .int (iI (sv)), .int (iI (lr)), .int (iI (sr)), .ref pL, .ref pP, .ref pC, .ref pI, .ref pM, .ref pS, .ref pV, .ref pN, .ref pE, .ref pA, .ref pO, .ref pT, .ref pD, .ref pG, .ref pW])), (pL, arI cs 4 mL)] : va_W) = [(km, .inr (6, [.int (iI ((((cd2 (1 ≤ lz ∧ lz ≤ 5) (sh ≠ 4)) : Nat) : Int))), .int (iI ((((if cd2 (1 ≤ lz ∧ lz ≤ 5) (sh ≠ 4) = 0 then sh + 1 else sh) : Nat) : Int))), .int (iI (((it : Nat) : Int))), .int (iI (((dy : Nat) : Int))), .int (iI (lc)), .int (iI (sv)), .int (iI (lr)), .int (iI (sr)), .ref pL, .ref pP, .ref pC, .ref pI, .ref pM, .ref pS, .ref pV, .ref pN, .ref pE, .ref pA, .ref pO, .ref pT, .ref pD, .ref pG, .ref pW])), (pL, arI cs 4 (if cd2 (1 ≤ lz ∧ lz ≤ 5) (sh ≠ 4) = 0 then upI mL sh lz else mL))] := by
      have hcd : cd2 (1 ≤ lz ∧ lz ≤ 5) (sh ≠ 4) = 1 := by unfold cd2; (repeat' split) <;> omega
      rw [hcd]
      first | rfl | (simp; done)
    rw [hWe] at hP
    subst hAe
    have hres : iI (0) = iI (if cd2 (1 ≤ lz ∧ lz ≤ 5) (sh ≠ 4) = 0 then ((sh : Nat) : Int) else 0) := congrArg iI (by
        have hcd : cd2 (1 ≤ lz ∧ lz ≤ 5) (sh ≠ 4) = 1 := by unfold cd2; (repeat' split) <;> omega
        rw [hcd]
        first | rfl | (simp; done))
    exact W.iret hx hb hr (fun t ht hW => ⟨⟨_, (), rfl, hres, by show va_P D vwCl _ t.heap; rw [ht]; exact hP⟩, hS.F ht⟩) hS.2.2 dX6_addShop_14
