abbrev ws_L_level : List Cond := Cond.codeWith yL_level cL_level 4 (some .int) [(0, 6, 7, 32), (0, 6, 11, 57)] :: ALL
set_option maxHeartbeats 4000000 in
set_option maxRecDepth 100000 in
theorem m_L_level_no_t (l : Launch) (hst : l.stackTraces = false) (D : va_G) (cs : Nat → ClassId) (kr la ia na b4 b6 b8 b10 sh it : Nat) (lc : Int) (dy : Nat) (pct lr sr : Int) (lf : Nat → Int) (itf : Nat → Option Nat) (lnf : Nat → Option Nat) (zs zi : Int) (hsh : sh ≤ 4) (hit : it ≤ 5) (hitf : ∀ j, j < it → itf j ≠ none) (hzs : -2147483648 ≤ zs ∧ zs < 2147483648) (hzi : -2147483648 ≤ zi ∧ zi < 2147483648) (hno : cdL sh it lnf zs zi ≠ 0) : Met l yL_level ws_L_level ({ frames := 9, cells := 3, slots := 18, locals := 149 }) (va_Pc [.ref kr, .int (iI (zs)), .int (iI (zi))] (PE D cs [(kr, .inr (5, [.ref la, .ref ia, .ref na, .ref b4, .ref b6, .ref b8, .ref b10, .int (iI (((sh : Nat) : Int))), .int (iI (((it : Nat) : Int))), .int (iI (lc)), .int (iI (((dy : Nat) : Int))), .int (iI (pct)), .int (iI (lr)), .int (iI (sr))])), (la, arI cs 4 lf), (ia, arQ cs 2 5 itf), (na, arQ cs 3 20 lnf)] noA)) (va_Qi (fun r (_ : Unit) => r = iI (exv (cdL sh it lnf zs zi))) (fun _ _ => True) noA) 3 18 noA := by
  refine va_MetW (cc := cL_level) (maxL := 4) (ret := some .int) (hh := [(0, 6, 7, 32), (0, 6, 11, 57)]) (by decide +kernel) rfl ?_
  intro p e s m args below meth c s₁ B hml hv
  obtain ⟨rfl, ⟨hP, hK, hD, hN⟩, hE⟩ := hv
  have hx := B.exec
  have hb := B.bytes
  have hr := B.returns
  have hts : ∀ w ∈ ALL, w.before _ s = true := fun w h => atoms_spec (ws := ws_L_level) B.pre w (List.mem_cons_of_mem _ h)
  have hown : s.vm.findClass RL = some m.cls := findClass_of_methodNamed B.named
  have hlocks := B.notSynchronized
  have htab : c.exceptionTable.toList = tableOf [(0, 6, 7, 32), (0, 6, 11, 57)] := vx_table (x := yL_level) B (atoms_spec (ws := ws_L_level) B.pre _ List.mem_cons_self)
  have hS : va_S noA s.heap s.heap [] := va_S.rf
  generalize inW [(kr, .inr (5, [.ref la, .ref ia, .ref na, .ref b4, .ref b6, .ref b8, .ref b10, .int (iI (((sh : Nat) : Int))), .int (iI (((it : Nat) : Int))), .int (iI (lc)), .int (iI (((dy : Nat) : Int))), .int (iI (pct)), .int (iI (lr)), .int (iI (sr))])), (la, arI cs 4 lf), (ia, arQ cs 2 5 itf), (na, arQ cs 3 20 lnf)] = A at hD
  have hl := lv_entry ([.ref kr, .int (iI (zs)), .int (iI (zi))]) (n := 4) (Nat.le_of_ble_eq_true rfl)
  rw [lg_entry_eq]
  generalize (lg_sl ([.ref kr, .int (iI (zs)), .int (iI (zi))]) ++ List.replicate (4 - (lg_sl ([.ref kr, .int (iI (zs)), .int (iI (zi))])).length) Slot.unset).toArray = ls at hl ⊢
  have hl : lv_has ls 4 [(0, .ref kr), (1, .int (iI (zs))), (2, .int (iI (zi)))] := hl
  have hH := rfl (a := s.heap)
  refine lv_aload_n hx hb dL_level_0 rfl (lv_at hl 0 rfl) ?_
  refine lv_iload_n hx hb dL_level_1 rfl (lv_at hl 1 rfl) ?_
  refine lv_iload_n hx hb dL_level_2 rfl (lv_at hl 2 rfl) ?_
  have pk1 : picks [(kr, .inr (5, [.ref la, .ref ia, .ref na, .ref b4, .ref b6, .ref b8, .ref b10, .int (iI (((sh : Nat) : Int))), .int (iI (((it : Nat) : Int))), .int (iI (lc)), .int (iI (((dy : Nat) : Int))), .int (iI (pct)), .int (iI (lr)), .int (iI (sr))])), (la, arI cs 4 lf), (ia, arQ cs 2 5 itf), (na, arQ cs 3 20 lnf)] [0, 1, 2, 3] [(kr, .inr (5, [.ref la, .ref ia, .ref na, .ref b4, .ref b6, .ref b8, .ref b10, .int (iI (((sh : Nat) : Int))), .int (iI (((it : Nat) : Int))), .int (iI (lc)), .int (iI (((dy : Nat) : Int))), .int (iI (pct)), .int (iI (lr)), .int (iI (sr))])), (la, arI cs 4 lf), (ia, arQ cs 2 5 itf), (na, arQ cs 3 20 lnf)] := ⟨rfl, rfl, rfl, rfl, trivial⟩
  refine vx_calli (vx_runV (As := [.int (iI (zs)), .int (iI (zi))]) (rest := []) ⟨hx, hb, hml, hown, hts⟩ (m_X5_level_no l hst D cs kr la ia na b4 b6 b8 b10 sh it lc dy pct lr sr lf itf lnf zs zi (hsh) (hit) (hitf) (hzs) (hzi) (hno)) (cwV 2 hts (gV w_630 w_631 w_632 w_1 w_633) rfl rfl rfl (by decide +kernel) ⟨Nat.le_of_ble_eq_true rfl, Nat.le_of_ble_eq_true rfl⟩) (PE_V hK hN hE hS (fun _ h => False.elim h) hP hD [0, 1, 2, 3] rfl pk1 rfl rfl) rfl rfl hl.1 rfl (lv_room (Nat.le_of_ble_eq_true rfl)) dL_level_3 ⟨Nat.le_of_ble_eq_true rfl, Nat.le_of_ble_eq_true rfl⟩) hS (fun _ _ h => False.elim h) (fun _ h => False.elim h) (fun _ _ h => False.elim h) (fun E ce q9 u t H1 locs1 ht hvm hpx hBX hz1 hk1 hS1 hce hcv hcl => ?_) (fun r u t H locs ht hvm hw hB hz1 hk1 hS => ?_)
  · have h9 : u = cdL sh it lnf zs zi := hpx.1
    have hS := hS1
    have hcd : cdL sh it lnf zs zi = 2 ∨ cdL sh it lnf zs zi = 1 := by
      revert hno
      (try unfold cdL); (try unfold cdS); (try unfold cdC)
      (repeat' split) <;> simp
    have hEu := hBX
    have hP := P_kept hP hk1
    rcases hcd with hc3 | hcd
    · have hE3 : E = "java/util/NoSuchElementException" := by have h8 : E = exN u := hEu; rw [h8, h9, hc3]; rfl
      subst hE3
      refine vx_catch (name := "java/util/NoSuchElementException") hown [⟨0, 6, 7, 32⟩] ⟨0, 6, 11, 57⟩ [] (htab.trans rfl) (fun z hz => by
          simp only [List.mem_cons, List.not_mem_nil, or_false] at hz
          rcases hz with rfl
          · exact Or.inr ⟨by decide, "java/lang/IndexOutOfBoundsException", hts _ w_272, hE.2.2.2.2.2 _ (List.mem_of_getElem? (i := 10) rfl)⟩) rfl (by decide) (hts _ w_460) (hE.use _ (List.mem_append_right _ (List.mem_map.mpr ⟨_, List.mem_of_getElem? (i := 1) rfl, rfl⟩))) hce hcv hcl ?_
      refine lv_astore_n (lv' := [(3, .ref q9), (0, .ref kr), (1, .int (iI (zs))), (2, .int (iI (zi)))]) hx hb dL_level_11 rfl hl (by decide) rfl (fun ls hl => ?_)
      refine lv_bipush (v := iI (-75)) hx hb dL_level_12 (by decide) ?_
      refine W.widen (k := 3) (n := 18) (by omega) (by omega) ?_
      have hres : iI (-75) = iI (exv (cdL sh it lnf zs zi)) := congrArg iI (by
          rw [hc3]; rfl)
      exact W.iret hx hb hr (fun t ht hW => ⟨⟨_, (), rfl, hres, trivial⟩, hS.F ht⟩) hS.2.2 dL_level_14
    have hc3 := hcd
    have hE3 : E = "java/lang/IndexOutOfBoundsException" := by have h8 : E = exN u := hEu; rw [h8, h9, hc3]; rfl
    subst hE3
    refine vx_catch (name := "java/lang/IndexOutOfBoundsException") hown [] ⟨0, 6, 7, 32⟩ [⟨0, 6, 11, 57⟩] (htab.trans rfl) (fun z hz => by cases hz) rfl (by decide) (hts _ w_272) (hE.use _ (List.mem_append_right _ (List.mem_map.mpr ⟨_, List.mem_of_getElem? (i := 0) rfl, rfl⟩))) hce hcv hcl ?_
    refine lv_astore_n (lv' := [(3, .ref q9), (0, .ref kr), (1, .int (iI (zs))), (2, .int (iI (zi)))]) hx hb dL_level_7 rfl hl (by decide) rfl (fun ls hl => ?_)
    refine lv_bipush (v := iI (-77)) hx hb dL_level_8 (by decide) ?_
    refine W.widen (k := 3) (n := 18) (by omega) (by omega) ?_
    have hres : iI (-77) = iI (exv (cdL sh it lnf zs zi)) := congrArg iI (by
        rw [hc3]; rfl)
    exact W.iret hx hb hr (fun t ht hW => ⟨⟨_, (), rfl, hres, trivial⟩, hS.F ht⟩) hS.2.2 dL_level_10
  obtain ⟨hc2, hw⟩ := hw
  subst hw
  have hP := P_kept hP hk1
  exact absurd hc2 hno

set_option maxHeartbeats 4000000 in
set_option maxRecDepth 100000 in
theorem m_L_level_ok_r (l : Launch) (hst : l.stackTraces = false) (D : va_G) (cs : Nat → ClassId) (kr la ia na b4 b6 b8 b10 sh it : Nat) (lc : Int) (dy : Nat) (pct lr sr : Int) (lf : Nat → Int) (itf : Nat → Option Nat) (lnf : Nat → Option Nat) (sn tn : Nat) (kn hi kl ke kd ks ka : Nat) (ld fd fk fv es sk so lo : Int) (us : Nat) (lev : Int) (se : Nat → Int) (hsh : sh ≤ 4) (hit : it ≤ 5) (hitf : ∀ j, j < it → itf j ≠ none) (hsn : sn < sh) (htn : tn < it) (hln : lnf (sn * 5 + tn) = some kn) : Met l yL_level ws_L_level ({ frames := 9, cells := 3, slots := 18, locals := 149 }) (va_Pc [.ref kr, .int (iI (((sn : Nat) : Int))), .int (iI (((tn : Nat) : Int)))] (PE D cs [(kr, .inr (5, [.ref la, .ref ia, .ref na, .ref b4, .ref b6, .ref b8, .ref b10, .int (iI (((sh : Nat) : Int))), .int (iI (((it : Nat) : Int))), .int (iI (lc)), .int (iI (((dy : Nat) : Int))), .int (iI (pct)), .int (iI (lr)), .int (iI (sr))])), (la, arI cs 4 lf), (ia, arQ cs 2 5 itf), (na, arQ cs 3 20 lnf), (kn, .inr (3, [.ref hi, .int (iI (ld)), .int (iI (fd)), .int (iI (fk)), .int (iI (fv)), .ref kl, .ref ke, .ref kd, .ref ks, .ref ka, .int (iI (es)), .int (iI (sk)), .int (iI (so)), .int (iI (lo))])), (kl, .inr (2, [.ref us, .int (iI (lev))])), (us, arI cs 7 se)] noA)) (va_Qi (fun r (_ : Unit) => r = iI (lev)) (fun _ _ => True) noA) 3 18 noA := by
  refine va_MetW (cc := cL_level) (maxL := 4) (ret := some .int) (hh := [(0, 6, 7, 32), (0, 6, 11, 57)]) (by decide +kernel) rfl ?_
  intro p e s m args below meth c s₁ B hml hv
  obtain ⟨rfl, ⟨hP, hK, hD, hN⟩, hE⟩ := hv
  have hx := B.exec
  have hb := B.bytes
  have hr := B.returns
  have hts : ∀ w ∈ ALL, w.before _ s = true := fun w h => atoms_spec (ws := ws_L_level) B.pre w (List.mem_cons_of_mem _ h)
  have hown : s.vm.findClass RL = some m.cls := findClass_of_methodNamed B.named
  have hlocks := B.notSynchronized
  have htab : c.exceptionTable.toList = tableOf [(0, 6, 7, 32), (0, 6, 11, 57)] := vx_table (x := yL_level) B (atoms_spec (ws := ws_L_level) B.pre _ List.mem_cons_self)
  have hS : va_S noA s.heap s.heap [] := va_S.rf
  generalize inW [(kr, .inr (5, [.ref la, .ref ia, .ref na, .ref b4, .ref b6, .ref b8, .ref b10, .int (iI (((sh : Nat) : Int))), .int (iI (((it : Nat) : Int))), .int (iI (lc)), .int (iI (((dy : Nat) : Int))), .int (iI (pct)), .int (iI (lr)), .int (iI (sr))])), (la, arI cs 4 lf), (ia, arQ cs 2 5 itf), (na, arQ cs 3 20 lnf), (kn, .inr (3, [.ref hi, .int (iI (ld)), .int (iI (fd)), .int (iI (fk)), .int (iI (fv)), .ref kl, .ref ke, .ref kd, .ref ks, .ref ka, .int (iI (es)), .int (iI (sk)), .int (iI (so)), .int (iI (lo))])), (kl, .inr (2, [.ref us, .int (iI (lev))])), (us, arI cs 7 se)] = A at hD
  have hl := lv_entry ([.ref kr, .int (iI (((sn : Nat) : Int))), .int (iI (((tn : Nat) : Int)))]) (n := 4) (Nat.le_of_ble_eq_true rfl)
  rw [lg_entry_eq]
  generalize (lg_sl ([.ref kr, .int (iI (((sn : Nat) : Int))), .int (iI (((tn : Nat) : Int)))]) ++ List.replicate (4 - (lg_sl ([.ref kr, .int (iI (((sn : Nat) : Int))), .int (iI (((tn : Nat) : Int)))])).length) Slot.unset).toArray = ls at hl ⊢
  have hl : lv_has ls 4 [(0, .ref kr), (1, .int (iI (((sn : Nat) : Int)))), (2, .int (iI (((tn : Nat) : Int))))] := hl
  have hH := rfl (a := s.heap)
  refine lv_aload_n hx hb dL_level_0 rfl (lv_at hl 0 rfl) ?_
  refine lv_iload_n hx hb dL_level_1 rfl (lv_at hl 1 rfl) ?_
  refine lv_iload_n hx hb dL_level_2 rfl (lv_at hl 2 rfl) ?_
  have pk1 : picks [(kr, .inr (5, [.ref la, .ref ia, .ref na, .ref b4, .ref b6, .ref b8, .ref b10, .int (iI (((sh : Nat) : Int))), .int (iI (((it : Nat) : Int))), .int (iI (lc)), .int (iI (((dy : Nat) : Int))), .int (iI (pct)), .int (iI (lr)), .int (iI (sr))])), (la, arI cs 4 lf), (ia, arQ cs 2 5 itf), (na, arQ cs 3 20 lnf), (kn, .inr (3, [.ref hi, .int (iI (ld)), .int (iI (fd)), .int (iI (fk)), .int (iI (fv)), .ref kl, .ref ke, .ref kd, .ref ks, .ref ka, .int (iI (es)), .int (iI (sk)), .int (iI (so)), .int (iI (lo))])), (kl, .inr (2, [.ref us, .int (iI (lev))])), (us, arI cs 7 se)] [0, 1, 2, 3, 4, 5, 6] [(kr, .inr (5, [.ref la, .ref ia, .ref na, .ref b4, .ref b6, .ref b8, .ref b10, .int (iI (((sh : Nat) : Int))), .int (iI (((it : Nat) : Int))), .int (iI (lc)), .int (iI (((dy : Nat) : Int))), .int (iI (pct)), .int (iI (lr)), .int (iI (sr))])), (la, arI cs 4 lf), (ia, arQ cs 2 5 itf), (na, arQ cs 3 20 lnf), (kn, .inr (3, [.ref hi, .int (iI (ld)), .int (iI (fd)), .int (iI (fk)), .int (iI (fv)), .ref kl, .ref ke, .ref kd, .ref ks, .ref ka, .int (iI (es)), .int (iI (sk)), .int (iI (so)), .int (iI (lo))])), (kl, .inr (2, [.ref us, .int (iI (lev))])), (us, arI cs 7 se)] := ⟨rfl, rfl, rfl, rfl, rfl, rfl, rfl, trivial⟩
  refine vx_calli (vx_runV (As := [.int (iI (((sn : Nat) : Int))), .int (iI (((tn : Nat) : Int)))]) (rest := []) ⟨hx, hb, hml, hown, hts⟩ (m_X5_level_ok l hst D cs kr la ia na b4 b6 b8 b10 sh it lc dy pct lr sr lf itf lnf sn tn kn hi kl ke kd ks ka ld fd fk fv es sk so lo us lev se (hsh) (hit) (hitf) (hsn) (htn) (hln)) (cwV 2 hts (gV w_630 w_631 w_632 w_1 w_633) rfl rfl rfl (by decide +kernel) ⟨Nat.le_of_ble_eq_true rfl, Nat.le_of_ble_eq_true rfl⟩) (PE_V hK hN hE hS (fun _ h => False.elim h) hP hD [0, 1, 2, 3, 4, 5, 6] rfl pk1 rfl rfl) rfl rfl hl.1 rfl (lv_room (Nat.le_of_ble_eq_true rfl)) dL_level_3 ⟨Nat.le_of_ble_eq_true rfl, Nat.le_of_ble_eq_true rfl⟩) hS (fun _ _ h => False.elim h) (fun _ h => False.elim h) (fun _ _ h => False.elim h) (fun E ce q9 u t H1 locs1 ht hvm hpx hBX hz1 hk1 hS1 hce hcv hcl => ?_) (fun r u t H locs ht hvm hw hB hz1 hk1 hS => ?_)
  · exact absurd (hpx.1) hpx.2
  obtain ⟨hc2, hw⟩ := hw
  subst hw
  have hP := P_kept hP hk1
  refine W.widen (k := 3) (n := 18) (by omega) (by omega) ?_
  have hres : iI (lev) = iI (lev) := congrArg iI (by
      rfl)
  exact W.iret hx hb hr (fun t ht hW => ⟨⟨_, (), rfl, hres, trivial⟩, hS.F ht⟩) hS.2.2 dL_level_6

abbrev ws_L_stock : List Cond := Cond.codeWith yL_stock cL_stock 4 (some .int) [(0, 6, 7, 32), (0, 6, 11, 57)] :: ALL
set_option maxHeartbeats 4000000 in
set_option maxRecDepth 100000 in
theorem m_L_stock_no_t (l : Launch) (hst : l.stackTraces = false) (D : va_G) (cs : Nat → ClassId) (kr la ia na b4 b6 b8 b10 sh it : Nat) (lc : Int) (dy : Nat) (pct lr sr : Int) (lf : Nat → Int) (itf : Nat → Option Nat) (lnf : Nat → Option Nat) (zs zi : Int) (hsh : sh ≤ 4) (hit : it ≤ 5) (hitf : ∀ j, j < it → itf j ≠ none) (hzs : -2147483648 ≤ zs ∧ zs < 2147483648) (hzi : -2147483648 ≤ zi ∧ zi < 2147483648) (hno : cdL sh it lnf zs zi ≠ 0) : Met l yL_stock ws_L_stock ({ frames := 9, cells := 3, slots := 18, locals := 149 }) (va_Pc [.ref kr, .int (iI (zs)), .int (iI (zi))] (PE D cs [(kr, .inr (5, [.ref la, .ref ia, .ref na, .ref b4, .ref b6, .ref b8, .ref b10, .int (iI (((sh : Nat) : Int))), .int (iI (((it : Nat) : Int))), .int (iI (lc)), .int (iI (((dy : Nat) : Int))), .int (iI (pct)), .int (iI (lr)), .int (iI (sr))])), (la, arI cs 4 lf), (ia, arQ cs 2 5 itf), (na, arQ cs 3 20 lnf)] noA)) (va_Qi (fun r (_ : Unit) => r = iI (exv (cdL sh it lnf zs zi))) (fun _ _ => True) noA) 3 18 noA := by
  refine va_MetW (cc := cL_stock) (maxL := 4) (ret := some .int) (hh := [(0, 6, 7, 32), (0, 6, 11, 57)]) (by decide +kernel) rfl ?_
  intro p e s m args below meth c s₁ B hml hv
  obtain ⟨rfl, ⟨hP, hK, hD, hN⟩, hE⟩ := hv
  have hx := B.exec
  have hb := B.bytes
  have hr := B.returns
  have hts : ∀ w ∈ ALL, w.before _ s = true := fun w h => atoms_spec (ws := ws_L_stock) B.pre w (List.mem_cons_of_mem _ h)
  have hown : s.vm.findClass RL = some m.cls := findClass_of_methodNamed B.named
  have hlocks := B.notSynchronized
  have htab : c.exceptionTable.toList = tableOf [(0, 6, 7, 32), (0, 6, 11, 57)] := vx_table (x := yL_stock) B (atoms_spec (ws := ws_L_stock) B.pre _ List.mem_cons_self)
  have hS : va_S noA s.heap s.heap [] := va_S.rf
  generalize inW [(kr, .inr (5, [.ref la, .ref ia, .ref na, .ref b4, .ref b6, .ref b8, .ref b10, .int (iI (((sh : Nat) : Int))), .int (iI (((it : Nat) : Int))), .int (iI (lc)), .int (iI (((dy : Nat) : Int))), .int (iI (pct)), .int (iI (lr)), .int (iI (sr))])), (la, arI cs 4 lf), (ia, arQ cs 2 5 itf), (na, arQ cs 3 20 lnf)] = A at hD
  have hl := lv_entry ([.ref kr, .int (iI (zs)), .int (iI (zi))]) (n := 4) (Nat.le_of_ble_eq_true rfl)
  rw [lg_entry_eq]
  generalize (lg_sl ([.ref kr, .int (iI (zs)), .int (iI (zi))]) ++ List.replicate (4 - (lg_sl ([.ref kr, .int (iI (zs)), .int (iI (zi))])).length) Slot.unset).toArray = ls at hl ⊢
  have hl : lv_has ls 4 [(0, .ref kr), (1, .int (iI (zs))), (2, .int (iI (zi)))] := hl
  have hH := rfl (a := s.heap)
  refine lv_aload_n hx hb dL_stock_0 rfl (lv_at hl 0 rfl) ?_
  refine lv_iload_n hx hb dL_stock_1 rfl (lv_at hl 1 rfl) ?_
  refine lv_iload_n hx hb dL_stock_2 rfl (lv_at hl 2 rfl) ?_
  have pk1 : picks [(kr, .inr (5, [.ref la, .ref ia, .ref na, .ref b4, .ref b6, .ref b8, .ref b10, .int (iI (((sh : Nat) : Int))), .int (iI (((it : Nat) : Int))), .int (iI (lc)), .int (iI (((dy : Nat) : Int))), .int (iI (pct)), .int (iI (lr)), .int (iI (sr))])), (la, arI cs 4 lf), (ia, arQ cs 2 5 itf), (na, arQ cs 3 20 lnf)] [0, 1, 2, 3] [(kr, .inr (5, [.ref la, .ref ia, .ref na, .ref b4, .ref b6, .ref b8, .ref b10, .int (iI (((sh : Nat) : Int))), .int (iI (((it : Nat) : Int))), .int (iI (lc)), .int (iI (((dy : Nat) : Int))), .int (iI (pct)), .int (iI (lr)), .int (iI (sr))])), (la, arI cs 4 lf), (ia, arQ cs 2 5 itf), (na, arQ cs 3 20 lnf)] := ⟨rfl, rfl, rfl, rfl, trivial⟩
  refine vx_calli (vx_runV (As := [.int (iI (zs)), .int (iI (zi))]) (rest := []) ⟨hx, hb, hml, hown, hts⟩ (m_X5_stock_no l hst D cs kr la ia na b4 b6 b8 b10 sh it lc dy pct lr sr lf itf lnf zs zi (hsh) (hit) (hitf) (hzs) (hzi) (hno)) (cwV 2 hts (gV w_646 w_647 w_648 w_1 w_649) rfl rfl rfl (by decide +kernel) ⟨Nat.le_of_ble_eq_true rfl, Nat.le_of_ble_eq_true rfl⟩) (PE_V hK hN hE hS (fun _ h => False.elim h) hP hD [0, 1, 2, 3] rfl pk1 rfl rfl) rfl rfl hl.1 rfl (lv_room (Nat.le_of_ble_eq_true rfl)) dL_stock_3 ⟨Nat.le_of_ble_eq_true rfl, Nat.le_of_ble_eq_true rfl⟩) hS (fun _ _ h => False.elim h) (fun _ h => False.elim h) (fun _ _ h => False.elim h) (fun E ce q9 u t H1 locs1 ht hvm hpx hBX hz1 hk1 hS1 hce hcv hcl => ?_) (fun r u t H locs ht hvm hw hB hz1 hk1 hS => ?_)
  · have h9 : u = cdL sh it lnf zs zi := hpx.1
    have hS := hS1
    have hcd : cdL sh it lnf zs zi = 2 ∨ cdL sh it lnf zs zi = 1 := by
      revert hno
      (try unfold cdL); (try unfold cdS); (try unfold cdC)
      (repeat' split) <;> simp
    have hEu := hBX
    have hP := P_kept hP hk1
    rcases hcd with hc3 | hcd
    · have hE3 : E = "java/util/NoSuchElementException" := by have h8 : E = exN u := hEu; rw [h8, h9, hc3]; rfl
      subst hE3
      refine vx_catch (name := "java/util/NoSuchElementException") hown [⟨0, 6, 7, 32⟩] ⟨0, 6, 11, 57⟩ [] (htab.trans rfl) (fun z hz => by
          simp only [List.mem_cons, List.not_mem_nil, or_false] at hz
          rcases hz with rfl
          · exact Or.inr ⟨by decide, "java/lang/IndexOutOfBoundsException", hts _ w_272, hE.2.2.2.2.2 _ (List.mem_of_getElem? (i := 10) rfl)⟩) rfl (by decide) (hts _ w_460) (hE.use _ (List.mem_append_right _ (List.mem_map.mpr ⟨_, List.mem_of_getElem? (i := 1) rfl, rfl⟩))) hce hcv hcl ?_
      refine lv_astore_n (lv' := [(3, .ref q9), (0, .ref kr), (1, .int (iI (zs))), (2, .int (iI (zi)))]) hx hb dL_stock_11 rfl hl (by decide) rfl (fun ls hl => ?_)
      refine lv_bipush (v := iI (-75)) hx hb dL_stock_12 (by decide) ?_
      refine W.widen (k := 3) (n := 18) (by omega) (by omega) ?_
      have hres : iI (-75) = iI (exv (cdL sh it lnf zs zi)) := congrArg iI (by
          rw [hc3]; rfl)
      exact W.iret hx hb hr (fun t ht hW => ⟨⟨_, (), rfl, hres, trivial⟩, hS.F ht⟩) hS.2.2 dL_stock_14
    have hc3 := hcd
    have hE3 : E = "java/lang/IndexOutOfBoundsException" := by have h8 : E = exN u := hEu; rw [h8, h9, hc3]; rfl
    subst hE3
    refine vx_catch (name := "java/lang/IndexOutOfBoundsException") hown [] ⟨0, 6, 7, 32⟩ [⟨0, 6, 11, 57⟩] (htab.trans rfl) (fun z hz => by cases hz) rfl (by decide) (hts _ w_272) (hE.use _ (List.mem_append_right _ (List.mem_map.mpr ⟨_, List.mem_of_getElem? (i := 0) rfl, rfl⟩))) hce hcv hcl ?_
    refine lv_astore_n (lv' := [(3, .ref q9), (0, .ref kr), (1, .int (iI (zs))), (2, .int (iI (zi)))]) hx hb dL_stock_7 rfl hl (by decide) rfl (fun ls hl => ?_)
    refine lv_bipush (v := iI (-77)) hx hb dL_stock_8 (by decide) ?_
    refine W.widen (k := 3) (n := 18) (by omega) (by omega) ?_
    have hres : iI (-77) = iI (exv (cdL sh it lnf zs zi)) := congrArg iI (by
        rw [hc3]; rfl)
    exact W.iret hx hb hr (fun t ht hW => ⟨⟨_, (), rfl, hres, trivial⟩, hS.F ht⟩) hS.2.2 dL_stock_10
  obtain ⟨hc2, hw⟩ := hw
  subst hw
  have hP := P_kept hP hk1
  exact absurd hc2 hno

set_option maxHeartbeats 4000000 in
set_option maxRecDepth 100000 in
theorem m_L_stock_ok_r (l : Launch) (hst : l.stackTraces = false) (D : va_G) (cs : Nat → ClassId) (kr la ia na b4 b6 b8 b10 sh it : Nat) (lc : Int) (dy : Nat) (pct lr sr : Int) (lf : Nat → Int) (itf : Nat → Option Nat) (lnf : Nat → Option Nat) (sn tn : Nat) (kn hi kl ke kd ks ka : Nat) (ld fd fk fv es sk so lo : Int) (hsh : sh ≤ 4) (hit : it ≤ 5) (hitf : ∀ j, j < it → itf j ≠ none) (hsn : sn < sh) (htn : tn < it) (hln : lnf (sn * 5 + tn) = some kn) : Met l yL_stock ws_L_stock ({ frames := 9, cells := 3, slots := 18, locals := 149 }) (va_Pc [.ref kr, .int (iI (((sn : Nat) : Int))), .int (iI (((tn : Nat) : Int)))] (PE D cs [(kr, .inr (5, [.ref la, .ref ia, .ref na, .ref b4, .ref b6, .ref b8, .ref b10, .int (iI (((sh : Nat) : Int))), .int (iI (((it : Nat) : Int))), .int (iI (lc)), .int (iI (((dy : Nat) : Int))), .int (iI (pct)), .int (iI (lr)), .int (iI (sr))])), (la, arI cs 4 lf), (ia, arQ cs 2 5 itf), (na, arQ cs 3 20 lnf), (kn, .inr (3, [.ref hi, .int (iI (ld)), .int (iI (fd)), .int (iI (fk)), .int (iI (fv)), .ref kl, .ref ke, .ref kd, .ref ks, .ref ka, .int (iI (es)), .int (iI (sk)), .int (iI (so)), .int (iI (lo))]))] noA)) (va_Qi (fun r (_ : Unit) => r = iI (sk)) (fun _ _ => True) noA) 3 18 noA := by
  refine va_MetW (cc := cL_stock) (maxL := 4) (ret := some .int) (hh := [(0, 6, 7, 32), (0, 6, 11, 57)]) (by decide +kernel) rfl ?_
  intro p e s m args below meth c s₁ B hml hv
  obtain ⟨rfl, ⟨hP, hK, hD, hN⟩, hE⟩ := hv
  have hx := B.exec
  have hb := B.bytes
  have hr := B.returns
  have hts : ∀ w ∈ ALL, w.before _ s = true := fun w h => atoms_spec (ws := ws_L_stock) B.pre w (List.mem_cons_of_mem _ h)
  have hown : s.vm.findClass RL = some m.cls := findClass_of_methodNamed B.named
  have hlocks := B.notSynchronized
  have htab : c.exceptionTable.toList = tableOf [(0, 6, 7, 32), (0, 6, 11, 57)] := vx_table (x := yL_stock) B (atoms_spec (ws := ws_L_stock) B.pre _ List.mem_cons_self)
  have hS : va_S noA s.heap s.heap [] := va_S.rf
  generalize inW [(kr, .inr (5, [.ref la, .ref ia, .ref na, .ref b4, .ref b6, .ref b8, .ref b10, .int (iI (((sh : Nat) : Int))), .int (iI (((it : Nat) : Int))), .int (iI (lc)), .int (iI (((dy : Nat) : Int))), .int (iI (pct)), .int (iI (lr)), .int (iI (sr))])), (la, arI cs 4 lf), (ia, arQ cs 2 5 itf), (na, arQ cs 3 20 lnf), (kn, .inr (3, [.ref hi, .int (iI (ld)), .int (iI (fd)), .int (iI (fk)), .int (iI (fv)), .ref kl, .ref ke, .ref kd, .ref ks, .ref ka, .int (iI (es)), .int (iI (sk)), .int (iI (so)), .int (iI (lo))]))] = A at hD
  have hl := lv_entry ([.ref kr, .int (iI (((sn : Nat) : Int))), .int (iI (((tn : Nat) : Int)))]) (n := 4) (Nat.le_of_ble_eq_true rfl)
  rw [lg_entry_eq]
  generalize (lg_sl ([.ref kr, .int (iI (((sn : Nat) : Int))), .int (iI (((tn : Nat) : Int)))]) ++ List.replicate (4 - (lg_sl ([.ref kr, .int (iI (((sn : Nat) : Int))), .int (iI (((tn : Nat) : Int)))])).length) Slot.unset).toArray = ls at hl ⊢
  have hl : lv_has ls 4 [(0, .ref kr), (1, .int (iI (((sn : Nat) : Int)))), (2, .int (iI (((tn : Nat) : Int))))] := hl
  have hH := rfl (a := s.heap)
  refine lv_aload_n hx hb dL_stock_0 rfl (lv_at hl 0 rfl) ?_
  refine lv_iload_n hx hb dL_stock_1 rfl (lv_at hl 1 rfl) ?_
  refine lv_iload_n hx hb dL_stock_2 rfl (lv_at hl 2 rfl) ?_
  have pk1 : picks [(kr, .inr (5, [.ref la, .ref ia, .ref na, .ref b4, .ref b6, .ref b8, .ref b10, .int (iI (((sh : Nat) : Int))), .int (iI (((it : Nat) : Int))), .int (iI (lc)), .int (iI (((dy : Nat) : Int))), .int (iI (pct)), .int (iI (lr)), .int (iI (sr))])), (la, arI cs 4 lf), (ia, arQ cs 2 5 itf), (na, arQ cs 3 20 lnf), (kn, .inr (3, [.ref hi, .int (iI (ld)), .int (iI (fd)), .int (iI (fk)), .int (iI (fv)), .ref kl, .ref ke, .ref kd, .ref ks, .ref ka, .int (iI (es)), .int (iI (sk)), .int (iI (so)), .int (iI (lo))]))] [0, 1, 2, 3, 4] [(kr, .inr (5, [.ref la, .ref ia, .ref na, .ref b4, .ref b6, .ref b8, .ref b10, .int (iI (((sh : Nat) : Int))), .int (iI (((it : Nat) : Int))), .int (iI (lc)), .int (iI (((dy : Nat) : Int))), .int (iI (pct)), .int (iI (lr)), .int (iI (sr))])), (la, arI cs 4 lf), (ia, arQ cs 2 5 itf), (na, arQ cs 3 20 lnf), (kn, .inr (3, [.ref hi, .int (iI (ld)), .int (iI (fd)), .int (iI (fk)), .int (iI (fv)), .ref kl, .ref ke, .ref kd, .ref ks, .ref ka, .int (iI (es)), .int (iI (sk)), .int (iI (so)), .int (iI (lo))]))] := ⟨rfl, rfl, rfl, rfl, rfl, trivial⟩
  refine vx_calli (vx_runV (As := [.int (iI (((sn : Nat) : Int))), .int (iI (((tn : Nat) : Int)))]) (rest := []) ⟨hx, hb, hml, hown, hts⟩ (m_X5_stock_ok l hst D cs kr la ia na b4 b6 b8 b10 sh it lc dy pct lr sr lf itf lnf sn tn kn hi kl ke kd ks ka ld fd fk fv es sk so lo (hsh) (hit) (hitf) (hsn) (htn) (hln)) (cwV 2 hts (gV w_646 w_647 w_648 w_1 w_649) rfl rfl rfl (by decide +kernel) ⟨Nat.le_of_ble_eq_true rfl, Nat.le_of_ble_eq_true rfl⟩) (PE_V hK hN hE hS (fun _ h => False.elim h) hP hD [0, 1, 2, 3, 4] rfl pk1 rfl rfl) rfl rfl hl.1 rfl (lv_room (Nat.le_of_ble_eq_true rfl)) dL_stock_3 ⟨Nat.le_of_ble_eq_true rfl, Nat.le_of_ble_eq_true rfl⟩) hS (fun _ _ h => False.elim h) (fun _ h => False.elim h) (fun _ _ h => False.elim h) (fun E ce q9 u t H1 locs1 ht hvm hpx hBX hz1 hk1 hS1 hce hcv hcl => ?_) (fun r u t H locs ht hvm hw hB hz1 hk1 hS => ?_)
  · exact absurd (hpx.1) hpx.2
  obtain ⟨hc2, hw⟩ := hw
  subst hw
  have hP := P_kept hP hk1
  refine W.widen (k := 3) (n := 18) (by omega) (by omega) ?_
  have hres : iI (sk) = iI (sk) := congrArg iI (by
      rfl)
  exact W.iret hx hb hr (fun t ht hW => ⟨⟨_, (), rfl, hres, trivial⟩, hS.F ht⟩) hS.2.2 dL_stock_6

abbrev ws_L_lost : List Cond := Cond.codeWith yL_lost cL_lost 4 (some .int) [(0, 6, 7, 32), (0, 6, 11, 57)] :: ALL
set_option maxHeartbeats 4000000 in
set_option maxRecDepth 100000 in
theorem m_L_lost_no_t (l : Launch) (hst : l.stackTraces = false) (D : va_G) (cs : Nat → ClassId) (kr la ia na b4 b6 b8 b10 sh it : Nat) (lc : Int) (dy : Nat) (pct lr sr : Int) (lf : Nat → Int) (itf : Nat → Option Nat) (lnf : Nat → Option Nat) (zs zi : Int) (hsh : sh ≤ 4) (hit : it ≤ 5) (hitf : ∀ j, j < it → itf j ≠ none) (hzs : -2147483648 ≤ zs ∧ zs < 2147483648) (hzi : -2147483648 ≤ zi ∧ zi < 2147483648) (hno : cdL sh it lnf zs zi ≠ 0) : Met l yL_lost ws_L_lost ({ frames := 9, cells := 3, slots := 18, locals := 149 }) (va_Pc [.ref kr, .int (iI (zs)), .int (iI (zi))] (PE D cs [(kr, .inr (5, [.ref la, .ref ia, .ref na, .ref b4, .ref b6, .ref b8, .ref b10, .int (iI (((sh : Nat) : Int))), .int (iI (((it : Nat) : Int))), .int (iI (lc)), .int (iI (((dy : Nat) : Int))), .int (iI (pct)), .int (iI (lr)), .int (iI (sr))])), (la, arI cs 4 lf), (ia, arQ cs 2 5 itf), (na, arQ cs 3 20 lnf)] noA)) (va_Qi (fun r (_ : Unit) => r = iI (exv (cdL sh it lnf zs zi))) (fun _ _ => True) noA) 3 18 noA := by
  refine va_MetW (cc := cL_lost) (maxL := 4) (ret := some .int) (hh := [(0, 6, 7, 32), (0, 6, 11, 57)]) (by decide +kernel) rfl ?_
  intro p e s m args below meth c s₁ B hml hv
  obtain ⟨rfl, ⟨hP, hK, hD, hN⟩, hE⟩ := hv
  have hx := B.exec
  have hb := B.bytes
  have hr := B.returns
  have hts : ∀ w ∈ ALL, w.before _ s = true := fun w h => atoms_spec (ws := ws_L_lost) B.pre w (List.mem_cons_of_mem _ h)
  have hown : s.vm.findClass RL = some m.cls := findClass_of_methodNamed B.named
  have hlocks := B.notSynchronized
  have htab : c.exceptionTable.toList = tableOf [(0, 6, 7, 32), (0, 6, 11, 57)] := vx_table (x := yL_lost) B (atoms_spec (ws := ws_L_lost) B.pre _ List.mem_cons_self)
  have hS : va_S noA s.heap s.heap [] := va_S.rf
  generalize inW [(kr, .inr (5, [.ref la, .ref ia, .ref na, .ref b4, .ref b6, .ref b8, .ref b10, .int (iI (((sh : Nat) : Int))), .int (iI (((it : Nat) : Int))), .int (iI (lc)), .int (iI (((dy : Nat) : Int))), .int (iI (pct)), .int (iI (lr)), .int (iI (sr))])), (la, arI cs 4 lf), (ia, arQ cs 2 5 itf), (na, arQ cs 3 20 lnf)] = A at hD
  have hl := lv_entry ([.ref kr, .int (iI (zs)), .int (iI (zi))]) (n := 4) (Nat.le_of_ble_eq_true rfl)
  rw [lg_entry_eq]
  generalize (lg_sl ([.ref kr, .int (iI (zs)), .int (iI (zi))]) ++ List.replicate (4 - (lg_sl ([.ref kr, .int (iI (zs)), .int (iI (zi))])).length) Slot.unset).toArray = ls at hl ⊢
  have hl : lv_has ls 4 [(0, .ref kr), (1, .int (iI (zs))), (2, .int (iI (zi)))] := hl
  have hH := rfl (a := s.heap)
  refine lv_aload_n hx hb dL_lost_0 rfl (lv_at hl 0 rfl) ?_
  refine lv_iload_n hx hb dL_lost_1 rfl (lv_at hl 1 rfl) ?_
  refine lv_iload_n hx hb dL_lost_2 rfl (lv_at hl 2 rfl) ?_
  have pk1 : picks [(kr, .inr (5, [.ref la, .ref ia, .ref na, .ref b4, .ref b6, .ref b8, .ref b10, .int (iI (((sh : Nat) : Int))), .int (iI (((it : Nat) : Int))), .int (iI (lc)), .int (iI (((dy : Nat) : Int))), .int (iI (pct)), .int (iI (lr)), .int (iI (sr))])), (la, arI cs 4 lf), (ia, arQ cs 2 5 itf), (na, arQ cs 3 20 lnf)] [0, 1, 2, 3] [(kr, .inr (5, [.ref la, .ref ia, .ref na, .ref b4, .ref b6, .ref b8, .ref b10, .int (iI (((sh : Nat) : Int))), .int (iI (((it : Nat) : Int))), .int (iI (lc)), .int (iI (((dy : Nat) : Int))), .int (iI (pct)), .int (iI (lr)), .int (iI (sr))])), (la, arI cs 4 lf), (ia, arQ cs 2 5 itf), (na, arQ cs 3 20 lnf)] := ⟨rfl, rfl, rfl, rfl, trivial⟩
  refine vx_calli (vx_runV (As := [.int (iI (zs)), .int (iI (zi))]) (rest := []) ⟨hx, hb, hml, hown, hts⟩ (m_X5_lost_no l hst D cs kr la ia na b4 b6 b8 b10 sh it lc dy pct lr sr lf itf lnf zs zi (hsh) (hit) (hitf) (hzs) (hzi) (hno)) (cwV 2 hts (gV w_660 w_661 w_662 w_1 w_663) rfl rfl rfl (by decide +kernel) ⟨Nat.le_of_ble_eq_true rfl, Nat.le_of_ble_eq_true rfl⟩) (PE_V hK hN hE hS (fun _ h => False.elim h) hP hD [0, 1, 2, 3] rfl pk1 rfl rfl) rfl rfl hl.1 rfl (lv_room (Nat.le_of_ble_eq_true rfl)) dL_lost_3 ⟨Nat.le_of_ble_eq_true rfl, Nat.le_of_ble_eq_true rfl⟩) hS (fun _ _ h => False.elim h) (fun _ h => False.elim h) (fun _ _ h => False.elim h) (fun E ce q9 u t H1 locs1 ht hvm hpx hBX hz1 hk1 hS1 hce hcv hcl => ?_) (fun r u t H locs ht hvm hw hB hz1 hk1 hS => ?_)
  · have h9 : u = cdL sh it lnf zs zi := hpx.1
    have hS := hS1
    have hcd : cdL sh it lnf zs zi = 2 ∨ cdL sh it lnf zs zi = 1 := by
      revert hno
      (try unfold cdL); (try unfold cdS); (try unfold cdC)
      (repeat' split) <;> simp
    have hEu := hBX
    have hP := P_kept hP hk1
    rcases hcd with hc3 | hcd
    · have hE3 : E = "java/util/NoSuchElementException" := by have h8 : E = exN u := hEu; rw [h8, h9, hc3]; rfl
      subst hE3
      refine vx_catch (name := "java/util/NoSuchElementException") hown [⟨0, 6, 7, 32⟩] ⟨0, 6, 11, 57⟩ [] (htab.trans rfl) (fun z hz => by
          simp only [List.mem_cons, List.not_mem_nil, or_false] at hz
          rcases hz with rfl
          · exact Or.inr ⟨by decide, "java/lang/IndexOutOfBoundsException", hts _ w_272, hE.2.2.2.2.2 _ (List.mem_of_getElem? (i := 10) rfl)⟩) rfl (by decide) (hts _ w_460) (hE.use _ (List.mem_append_right _ (List.mem_map.mpr ⟨_, List.mem_of_getElem? (i := 1) rfl, rfl⟩))) hce hcv hcl ?_
      refine lv_astore_n (lv' := [(3, .ref q9), (0, .ref kr), (1, .int (iI (zs))), (2, .int (iI (zi)))]) hx hb dL_lost_11 rfl hl (by decide) rfl (fun ls hl => ?_)
      refine lv_bipush (v := iI (-75)) hx hb dL_lost_12 (by decide) ?_
      refine W.widen (k := 3) (n := 18) (by omega) (by omega) ?_
      have hres : iI (-75) = iI (exv (cdL sh it lnf zs zi)) := congrArg iI (by
          rw [hc3]; rfl)
      exact W.iret hx hb hr (fun t ht hW => ⟨⟨_, (), rfl, hres, trivial⟩, hS.F ht⟩) hS.2.2 dL_lost_14
    have hc3 := hcd
    have hE3 : E = "java/lang/IndexOutOfBoundsException" := by have h8 : E = exN u := hEu; rw [h8, h9, hc3]; rfl
    subst hE3
    refine vx_catch (name := "java/lang/IndexOutOfBoundsException") hown [] ⟨0, 6, 7, 32⟩ [⟨0, 6, 11, 57⟩] (htab.trans rfl) (fun z hz => by cases hz) rfl (by decide) (hts _ w_272) (hE.use _ (List.mem_append_right _ (List.mem_map.mpr ⟨_, List.mem_of_getElem? (i := 0) rfl, rfl⟩))) hce hcv hcl ?_
    refine lv_astore_n (lv' := [(3, .ref q9), (0, .ref kr), (1, .int (iI (zs))), (2, .int (iI (zi)))]) hx hb dL_lost_7 rfl hl (by decide) rfl (fun ls hl => ?_)
    refine lv_bipush (v := iI (-77)) hx hb dL_lost_8 (by decide) ?_
    refine W.widen (k := 3) (n := 18) (by omega) (by omega) ?_
    have hres : iI (-77) = iI (exv (cdL sh it lnf zs zi)) := congrArg iI (by
        rw [hc3]; rfl)
    exact W.iret hx hb hr (fun t ht hW => ⟨⟨_, (), rfl, hres, trivial⟩, hS.F ht⟩) hS.2.2 dL_lost_10
  obtain ⟨hc2, hw⟩ := hw
  subst hw
  have hP := P_kept hP hk1
  exact absurd hc2 hno

set_option maxHeartbeats 4000000 in
set_option maxRecDepth 100000 in
theorem m_L_lost_ok_r (l : Launch) (hst : l.stackTraces = false) (D : va_G) (cs : Nat → ClassId) (kr la ia na b4 b6 b8 b10 sh it : Nat) (lc : Int) (dy : Nat) (pct lr sr : Int) (lf : Nat → Int) (itf : Nat → Option Nat) (lnf : Nat → Option Nat) (sn tn : Nat) (kn hi kl ke kd ks ka : Nat) (ld fd fk fv es sk so lo : Int) (hsh : sh ≤ 4) (hit : it ≤ 5) (hitf : ∀ j, j < it → itf j ≠ none) (hsn : sn < sh) (htn : tn < it) (hln : lnf (sn * 5 + tn) = some kn) : Met l yL_lost ws_L_lost ({ frames := 9, cells := 3, slots := 18, locals := 149 }) (va_Pc [.ref kr, .int (iI (((sn : Nat) : Int))), .int (iI (((tn : Nat) : Int)))] (PE D cs [(kr, .inr (5, [.ref la, .ref ia, .ref na, .ref b4, .ref b6, .ref b8, .ref b10, .int (iI (((sh : Nat) : Int))), .int (iI (((it : Nat) : Int))), .int (iI (lc)), .int (iI (((dy : Nat) : Int))), .int (iI (pct)), .int (iI (lr)), .int (iI (sr))])), (la, arI cs 4 lf), (ia, arQ cs 2 5 itf), (na, arQ cs 3 20 lnf), (kn, .inr (3, [.ref hi, .int (iI (ld)), .int (iI (fd)), .int (iI (fk)), .int (iI (fv)), .ref kl, .ref ke, .ref kd, .ref ks, .ref ka, .int (iI (es)), .int (iI (sk)), .int (iI (so)), .int (iI (lo))]))] noA)) (va_Qi (fun r (_ : Unit) => r = iI (lo)) (fun _ _ => True) noA) 3 18 noA := by
  refine va_MetW (cc := cL_lost) (maxL := 4) (ret := some .int) (hh := [(0, 6, 7, 32), (0, 6, 11, 57)]) (by decide +kernel) rfl ?_
  intro p e s m args below meth c s₁ B hml hv
  obtain ⟨rfl, ⟨hP, hK, hD, hN⟩, hE⟩ := hv
  have hx := B.exec
  have hb := B.bytes
  have hr := B.returns
  have hts : ∀ w ∈ ALL, w.before _ s = true := fun w h => atoms_spec (ws := ws_L_lost) B.pre w (List.mem_cons_of_mem _ h)
  have hown : s.vm.findClass RL = some m.cls := findClass_of_methodNamed B.named
  have hlocks := B.notSynchronized
  have htab : c.exceptionTable.toList = tableOf [(0, 6, 7, 32), (0, 6, 11, 57)] := vx_table (x := yL_lost) B (atoms_spec (ws := ws_L_lost) B.pre _ List.mem_cons_self)
  have hS : va_S noA s.heap s.heap [] := va_S.rf
  generalize inW [(kr, .inr (5, [.ref la, .ref ia, .ref na, .ref b4, .ref b6, .ref b8, .ref b10, .int (iI (((sh : Nat) : Int))), .int (iI (((it : Nat) : Int))), .int (iI (lc)), .int (iI (((dy : Nat) : Int))), .int (iI (pct)), .int (iI (lr)), .int (iI (sr))])), (la, arI cs 4 lf), (ia, arQ cs 2 5 itf), (na, arQ cs 3 20 lnf), (kn, .inr (3, [.ref hi, .int (iI (ld)), .int (iI (fd)), .int (iI (fk)), .int (iI (fv)), .ref kl, .ref ke, .ref kd, .ref ks, .ref ka, .int (iI (es)), .int (iI (sk)), .int (iI (so)), .int (iI (lo))]))] = A at hD
  have hl := lv_entry ([.ref kr, .int (iI (((sn : Nat) : Int))), .int (iI (((tn : Nat) : Int)))]) (n := 4) (Nat.le_of_ble_eq_true rfl)
  rw [lg_entry_eq]
  generalize (lg_sl ([.ref kr, .int (iI (((sn : Nat) : Int))), .int (iI (((tn : Nat) : Int)))]) ++ List.replicate (4 - (lg_sl ([.ref kr, .int (iI (((sn : Nat) : Int))), .int (iI (((tn : Nat) : Int)))])).length) Slot.unset).toArray = ls at hl ⊢
  have hl : lv_has ls 4 [(0, .ref kr), (1, .int (iI (((sn : Nat) : Int)))), (2, .int (iI (((tn : Nat) : Int))))] := hl
  have hH := rfl (a := s.heap)
  refine lv_aload_n hx hb dL_lost_0 rfl (lv_at hl 0 rfl) ?_
  refine lv_iload_n hx hb dL_lost_1 rfl (lv_at hl 1 rfl) ?_
  refine lv_iload_n hx hb dL_lost_2 rfl (lv_at hl 2 rfl) ?_
  have pk1 : picks [(kr, .inr (5, [.ref la, .ref ia, .ref na, .ref b4, .ref b6, .ref b8, .ref b10, .int (iI (((sh : Nat) : Int))), .int (iI (((it : Nat) : Int))), .int (iI (lc)), .int (iI (((dy : Nat) : Int))), .int (iI (pct)), .int (iI (lr)), .int (iI (sr))])), (la, arI cs 4 lf), (ia, arQ cs 2 5 itf), (na, arQ cs 3 20 lnf), (kn, .inr (3, [.ref hi, .int (iI (ld)), .int (iI (fd)), .int (iI (fk)), .int (iI (fv)), .ref kl, .ref ke, .ref kd, .ref ks, .ref ka, .int (iI (es)), .int (iI (sk)), .int (iI (so)), .int (iI (lo))]))] [0, 1, 2, 3, 4] [(kr, .inr (5, [.ref la, .ref ia, .ref na, .ref b4, .ref b6, .ref b8, .ref b10, .int (iI (((sh : Nat) : Int))), .int (iI (((it : Nat) : Int))), .int (iI (lc)), .int (iI (((dy : Nat) : Int))), .int (iI (pct)), .int (iI (lr)), .int (iI (sr))])), (la, arI cs 4 lf), (ia, arQ cs 2 5 itf), (na, arQ cs 3 20 lnf), (kn, .inr (3, [.ref hi, .int (iI (ld)), .int (iI (fd)), .int (iI (fk)), .int (iI (fv)), .ref kl, .ref ke, .ref kd, .ref ks, .ref ka, .int (iI (es)), .int (iI (sk)), .int (iI (so)), .int (iI (lo))]))] := ⟨rfl, rfl, rfl, rfl, rfl, trivial⟩
  refine vx_calli (vx_runV (As := [.int (iI (((sn : Nat) : Int))), .int (iI (((tn : Nat) : Int)))]) (rest := []) ⟨hx, hb, hml, hown, hts⟩ (m_X5_lost_ok l hst D cs kr la ia na b4 b6 b8 b10 sh it lc dy pct lr sr lf itf lnf sn tn kn hi kl ke kd ks ka ld fd fk fv es sk so lo (hsh) (hit) (hitf) (hsn) (htn) (hln)) (cwV 2 hts (gV w_660 w_661 w_662 w_1 w_663) rfl rfl rfl (by decide +kernel) ⟨Nat.le_of_ble_eq_true rfl, Nat.le_of_ble_eq_true rfl⟩) (PE_V hK hN hE hS (fun _ h => False.elim h) hP hD [0, 1, 2, 3, 4] rfl pk1 rfl rfl) rfl rfl hl.1 rfl (lv_room (Nat.le_of_ble_eq_true rfl)) dL_lost_3 ⟨Nat.le_of_ble_eq_true rfl, Nat.le_of_ble_eq_true rfl⟩) hS (fun _ _ h => False.elim h) (fun _ h => False.elim h) (fun _ _ h => False.elim h) (fun E ce q9 u t H1 locs1 ht hvm hpx hBX hz1 hk1 hS1 hce hcv hcl => ?_) (fun r u t H locs ht hvm hw hB hz1 hk1 hS => ?_)
  · exact absurd (hpx.1) hpx.2
  obtain ⟨hc2, hw⟩ := hw
  subst hw
  have hP := P_kept hP hk1
  refine W.widen (k := 3) (n := 18) (by omega) (by omega) ?_
  have hres : iI (lo) = iI (lo) := congrArg iI (by
      rfl)
  exact W.iret hx hb hr (fun t ht hW => ⟨⟨_, (), rfl, hres, trivial⟩, hS.F ht⟩) hS.2.2 dL_lost_6

abbrev ws_L_demandToday : List Cond := Cond.codeWith yL_demandToday cL_demandToday 4 (some .int) [(0, 6, 7, 32), (0, 6, 11, 57)] :: ALL
set_option maxHeartbeats 4000000 in
set_option maxRecDepth 100000 in
theorem m_L_demandToday_no_t (l : Launch) (hst : l.stackTraces = false) (D : va_G) (cs : Nat → ClassId) (kr la ia na b4 b6 b8 b10 sh it : Nat) (lc : Int) (dy : Nat) (pct lr sr : Int) (lf : Nat → Int) (itf : Nat → Option Nat) (lnf : Nat → Option Nat) (zs zi : Int) (hsh : sh ≤ 4) (hit : it ≤ 5) (hitf : ∀ j, j < it → itf j ≠ none) (hzs : -2147483648 ≤ zs ∧ zs < 2147483648) (hzi : -2147483648 ≤ zi ∧ zi < 2147483648) (hno : cdL sh it lnf zs zi ≠ 0) : Met l yL_demandToday ws_L_demandToday ({ frames := 9, cells := 3, slots := 18, locals := 149 }) (va_Pc [.ref kr, .int (iI (zs)), .int (iI (zi))] (PE D cs [(kr, .inr (5, [.ref la, .ref ia, .ref na, .ref b4, .ref b6, .ref b8, .ref b10, .int (iI (((sh : Nat) : Int))), .int (iI (((it : Nat) : Int))), .int (iI (lc)), .int (iI (((dy : Nat) : Int))), .int (iI (pct)), .int (iI (lr)), .int (iI (sr))])), (la, arI cs 4 lf), (ia, arQ cs 2 5 itf), (na, arQ cs 3 20 lnf)] noA)) (va_Qi (fun r (_ : Unit) => r = iI (exv (cdL sh it lnf zs zi))) (fun _ _ => True) noA) 3 18 noA := by
  refine va_MetW (cc := cL_demandToday) (maxL := 4) (ret := some .int) (hh := [(0, 6, 7, 32), (0, 6, 11, 57)]) (by decide +kernel) rfl ?_
  intro p e s m args below meth c s₁ B hml hv
  obtain ⟨rfl, ⟨hP, hK, hD, hN⟩, hE⟩ := hv
  have hx := B.exec
  have hb := B.bytes
  have hr := B.returns
  have hts : ∀ w ∈ ALL, w.before _ s = true := fun w h => atoms_spec (ws := ws_L_demandToday) B.pre w (List.mem_cons_of_mem _ h)
  have hown : s.vm.findClass RL = some m.cls := findClass_of_methodNamed B.named
  have hlocks := B.notSynchronized
  have htab : c.exceptionTable.toList = tableOf [(0, 6, 7, 32), (0, 6, 11, 57)] := vx_table (x := yL_demandToday) B (atoms_spec (ws := ws_L_demandToday) B.pre _ List.mem_cons_self)
  have hS : va_S noA s.heap s.heap [] := va_S.rf
  generalize inW [(kr, .inr (5, [.ref la, .ref ia, .ref na, .ref b4, .ref b6, .ref b8, .ref b10, .int (iI (((sh : Nat) : Int))), .int (iI (((it : Nat) : Int))), .int (iI (lc)), .int (iI (((dy : Nat) : Int))), .int (iI (pct)), .int (iI (lr)), .int (iI (sr))])), (la, arI cs 4 lf), (ia, arQ cs 2 5 itf), (na, arQ cs 3 20 lnf)] = A at hD
  have hl := lv_entry ([.ref kr, .int (iI (zs)), .int (iI (zi))]) (n := 4) (Nat.le_of_ble_eq_true rfl)
  rw [lg_entry_eq]
  generalize (lg_sl ([.ref kr, .int (iI (zs)), .int (iI (zi))]) ++ List.replicate (4 - (lg_sl ([.ref kr, .int (iI (zs)), .int (iI (zi))])).length) Slot.unset).toArray = ls at hl ⊢
  have hl : lv_has ls 4 [(0, .ref kr), (1, .int (iI (zs))), (2, .int (iI (zi)))] := hl
  have hH := rfl (a := s.heap)
  refine lv_aload_n hx hb dL_demandToday_0 rfl (lv_at hl 0 rfl) ?_
  refine lv_iload_n hx hb dL_demandToday_1 rfl (lv_at hl 1 rfl) ?_
  refine lv_iload_n hx hb dL_demandToday_2 rfl (lv_at hl 2 rfl) ?_
  have pk1 : picks [(kr, .inr (5, [.ref la, .ref ia, .ref na, .ref b4, .ref b6, .ref b8, .ref b10, .int (iI (((sh : Nat) : Int))), .int (iI (((it : Nat) : Int))), .int (iI (lc)), .int (iI (((dy : Nat) : Int))), .int (iI (pct)), .int (iI (lr)), .int (iI (sr))])), (la, arI cs 4 lf), (ia, arQ cs 2 5 itf), (na, arQ cs 3 20 lnf)] [0, 1, 2, 3] [(kr, .inr (5, [.ref la, .ref ia, .ref na, .ref b4, .ref b6, .ref b8, .ref b10, .int (iI (((sh : Nat) : Int))), .int (iI (((it : Nat) : Int))), .int (iI (lc)), .int (iI (((dy : Nat) : Int))), .int (iI (pct)), .int (iI (lr)), .int (iI (sr))])), (la, arI cs 4 lf), (ia, arQ cs 2 5 itf), (na, arQ cs 3 20 lnf)] := ⟨rfl, rfl, rfl, rfl, trivial⟩
  refine vx_calli (vx_runV (As := [.int (iI (zs)), .int (iI (zi))]) (rest := []) ⟨hx, hb, hml, hown, hts⟩ (m_X5_demandToday_no l hst D cs kr la ia na b4 b6 b8 b10 sh it lc dy pct lr sr lf itf lnf zs zi (hsh) (hit) (hitf) (hzs) (hzi) (hno)) (cwV 2 hts (gV w_623 w_624 w_625 w_1 w_626) rfl rfl rfl (by decide +kernel) ⟨Nat.le_of_ble_eq_true rfl, Nat.le_of_ble_eq_true rfl⟩) (PE_V hK hN hE hS (fun _ h => False.elim h) hP hD [0, 1, 2, 3] rfl pk1 rfl rfl) rfl rfl hl.1 rfl (lv_room (Nat.le_of_ble_eq_true rfl)) dL_demandToday_3 ⟨Nat.le_of_ble_eq_true rfl, Nat.le_of_ble_eq_true rfl⟩) hS (fun _ _ h => False.elim h) (fun _ h => False.elim h) (fun _ _ h => False.elim h) (fun E ce q9 u t H1 locs1 ht hvm hpx hBX hz1 hk1 hS1 hce hcv hcl => ?_) (fun r u t H locs ht hvm hw hB hz1 hk1 hS => ?_)
  · have h9 : u = cdL sh it lnf zs zi := hpx.1
    have hS := hS1
    have hcd : cdL sh it lnf zs zi = 2 ∨ cdL sh it lnf zs zi = 1 := by
      revert hno
      (try unfold cdL); (try unfold cdS); (try unfold cdC)
      (repeat' split) <;> simp
    have hEu := hBX
    have hP := P_kept hP hk1
    rcases hcd with hc3 | hcd
    · have hE3 : E = "java/util/NoSuchElementException" := by have h8 : E = exN u := hEu; rw [h8, h9, hc3]; rfl
      subst hE3
      refine vx_catch (name := "java/util/NoSuchElementException") hown [⟨0, 6, 7, 32⟩] ⟨0, 6, 11, 57⟩ [] (htab.trans rfl) (fun z hz => by
          simp only [List.mem_cons, List.not_mem_nil, or_false] at hz
          rcases hz with rfl
          · exact Or.inr ⟨by decide, "java/lang/IndexOutOfBoundsException", hts _ w_272, hE.2.2.2.2.2 _ (List.mem_of_getElem? (i := 10) rfl)⟩) rfl (by decide) (hts _ w_460) (hE.use _ (List.mem_append_right _ (List.mem_map.mpr ⟨_, List.mem_of_getElem? (i := 1) rfl, rfl⟩))) hce hcv hcl ?_
      refine lv_astore_n (lv' := [(3, .ref q9), (0, .ref kr), (1, .int (iI (zs))), (2, .int (iI (zi)))]) hx hb dL_demandToday_11 rfl hl (by decide) rfl (fun ls hl => ?_)
      refine lv_bipush (v := iI (-75)) hx hb dL_demandToday_12 (by decide) ?_
      refine W.widen (k := 3) (n := 18) (by omega) (by omega) ?_
      have hres : iI (-75) = iI (exv (cdL sh it lnf zs zi)) := congrArg iI (by
          rw [hc3]; rfl)
      exact W.iret hx hb hr (fun t ht hW => ⟨⟨_, (), rfl, hres, trivial⟩, hS.F ht⟩) hS.2.2 dL_demandToday_14
    have hc3 := hcd
    have hE3 : E = "java/lang/IndexOutOfBoundsException" := by have h8 : E = exN u := hEu; rw [h8, h9, hc3]; rfl
    subst hE3
    refine vx_catch (name := "java/lang/IndexOutOfBoundsException") hown [] ⟨0, 6, 7, 32⟩ [⟨0, 6, 11, 57⟩] (htab.trans rfl) (fun z hz => by cases hz) rfl (by decide) (hts _ w_272) (hE.use _ (List.mem_append_right _ (List.mem_map.mpr ⟨_, List.mem_of_getElem? (i := 0) rfl, rfl⟩))) hce hcv hcl ?_
    refine lv_astore_n (lv' := [(3, .ref q9), (0, .ref kr), (1, .int (iI (zs))), (2, .int (iI (zi)))]) hx hb dL_demandToday_7 rfl hl (by decide) rfl (fun ls hl => ?_)
    refine lv_bipush (v := iI (-77)) hx hb dL_demandToday_8 (by decide) ?_
    refine W.widen (k := 3) (n := 18) (by omega) (by omega) ?_
    have hres : iI (-77) = iI (exv (cdL sh it lnf zs zi)) := congrArg iI (by
        rw [hc3]; rfl)
    exact W.iret hx hb hr (fun t ht hW => ⟨⟨_, (), rfl, hres, trivial⟩, hS.F ht⟩) hS.2.2 dL_demandToday_10
  obtain ⟨hc2, hw⟩ := hw
  subst hw
  have hP := P_kept hP hk1
  exact absurd hc2 hno

set_option maxHeartbeats 4000000 in
set_option maxRecDepth 100000 in
theorem m_L_demandToday_ok_r (l : Launch) (hst : l.stackTraces = false) (D : va_G) (cs : Nat → ClassId) (kr la ia na b4 b6 b8 b10 sh it : Nat) (lc : Int) (dy : Nat) (pct lr sr : Int) (lf : Nat → Int) (itf : Nat → Option Nat) (lnf : Nat → Option Nat) (sn tn : Nat) (kn hi kl ke kd ks ka : Nat) (ld fd fk fv es sk so lo : Int) (ud : Nat) (dm : Nat → Int) (hsh : sh ≤ 4) (hit : it ≤ 5) (hitf : ∀ j, j < it → itf j ≠ none) (hsn : sn < sh) (htn : tn < it) (hln : lnf (sn * 5 + tn) = some kn) (hd : dy < 1000) : Met l yL_demandToday ws_L_demandToday ({ frames := 9, cells := 3, slots := 18, locals := 149 }) (va_Pc [.ref kr, .int (iI (((sn : Nat) : Int))), .int (iI (((tn : Nat) : Int)))] (PE D cs [(kr, .inr (5, [.ref la, .ref ia, .ref na, .ref b4, .ref b6, .ref b8, .ref b10, .int (iI (((sh : Nat) : Int))), .int (iI (((it : Nat) : Int))), .int (iI (lc)), .int (iI (((dy : Nat) : Int))), .int (iI (pct)), .int (iI (lr)), .int (iI (sr))])), (la, arI cs 4 lf), (ia, arQ cs 2 5 itf), (na, arQ cs 3 20 lnf), (kn, .inr (3, [.ref hi, .int (iI (ld)), .int (iI (fd)), .int (iI (fk)), .int (iI (fv)), .ref kl, .ref ke, .ref kd, .ref ks, .ref ka, .int (iI (es)), .int (iI (sk)), .int (iI (so)), .int (iI (lo))])), (kd, .inr (0, [.ref ud])), (ud, arI cs 1005 dm)] noA)) (va_Qi (fun r (_ : Unit) => r = iI (dm dy)) (fun _ _ => True) noA) 3 18 noA := by
  refine va_MetW (cc := cL_demandToday) (maxL := 4) (ret := some .int) (hh := [(0, 6, 7, 32), (0, 6, 11, 57)]) (by decide +kernel) rfl ?_
  intro p e s m args below meth c s₁ B hml hv
  obtain ⟨rfl, ⟨hP, hK, hD, hN⟩, hE⟩ := hv
  have hx := B.exec
  have hb := B.bytes
  have hr := B.returns
  have hts : ∀ w ∈ ALL, w.before _ s = true := fun w h => atoms_spec (ws := ws_L_demandToday) B.pre w (List.mem_cons_of_mem _ h)
  have hown : s.vm.findClass RL = some m.cls := findClass_of_methodNamed B.named
  have hlocks := B.notSynchronized
  have htab : c.exceptionTable.toList = tableOf [(0, 6, 7, 32), (0, 6, 11, 57)] := vx_table (x := yL_demandToday) B (atoms_spec (ws := ws_L_demandToday) B.pre _ List.mem_cons_self)
  have hS : va_S noA s.heap s.heap [] := va_S.rf
  generalize inW [(kr, .inr (5, [.ref la, .ref ia, .ref na, .ref b4, .ref b6, .ref b8, .ref b10, .int (iI (((sh : Nat) : Int))), .int (iI (((it : Nat) : Int))), .int (iI (lc)), .int (iI (((dy : Nat) : Int))), .int (iI (pct)), .int (iI (lr)), .int (iI (sr))])), (la, arI cs 4 lf), (ia, arQ cs 2 5 itf), (na, arQ cs 3 20 lnf), (kn, .inr (3, [.ref hi, .int (iI (ld)), .int (iI (fd)), .int (iI (fk)), .int (iI (fv)), .ref kl, .ref ke, .ref kd, .ref ks, .ref ka, .int (iI (es)), .int (iI (sk)), .int (iI (so)), .int (iI (lo))])), (kd, .inr (0, [.ref ud])), (ud, arI cs 1005 dm)] = A at hD
  have hl := lv_entry ([.ref kr, .int (iI (((sn : Nat) : Int))), .int (iI (((tn : Nat) : Int)))]) (n := 4) (Nat.le_of_ble_eq_true rfl)
  rw [lg_entry_eq]
  generalize (lg_sl ([.ref kr, .int (iI (((sn : Nat) : Int))), .int (iI (((tn : Nat) : Int)))]) ++ List.replicate (4 - (lg_sl ([.ref kr, .int (iI (((sn : Nat) : Int))), .int (iI (((tn : Nat) : Int)))])).length) Slot.unset).toArray = ls at hl ⊢
  have hl : lv_has ls 4 [(0, .ref kr), (1, .int (iI (((sn : Nat) : Int)))), (2, .int (iI (((tn : Nat) : Int))))] := hl
  have hH := rfl (a := s.heap)
  refine lv_aload_n hx hb dL_demandToday_0 rfl (lv_at hl 0 rfl) ?_
  refine lv_iload_n hx hb dL_demandToday_1 rfl (lv_at hl 1 rfl) ?_
  refine lv_iload_n hx hb dL_demandToday_2 rfl (lv_at hl 2 rfl) ?_
  have pk1 : picks [(kr, .inr (5, [.ref la, .ref ia, .ref na, .ref b4, .ref b6, .ref b8, .ref b10, .int (iI (((sh : Nat) : Int))), .int (iI (((it : Nat) : Int))), .int (iI (lc)), .int (iI (((dy : Nat) : Int))), .int (iI (pct)), .int (iI (lr)), .int (iI (sr))])), (la, arI cs 4 lf), (ia, arQ cs 2 5 itf), (na, arQ cs 3 20 lnf), (kn, .inr (3, [.ref hi, .int (iI (ld)), .int (iI (fd)), .int (iI (fk)), .int (iI (fv)), .ref kl, .ref ke, .ref kd, .ref ks, .ref ka, .int (iI (es)), .int (iI (sk)), .int (iI (so)), .int (iI (lo))])), (kd, .inr (0, [.ref ud])), (ud, arI cs 1005 dm)] [0, 1, 2, 3, 4, 5, 6] [(kr, .inr (5, [.ref la, .ref ia, .ref na, .ref b4, .ref b6, .ref b8, .ref b10, .int (iI (((sh : Nat) : Int))), .int (iI (((it : Nat) : Int))), .int (iI (lc)), .int (iI (((dy : Nat) : Int))), .int (iI (pct)), .int (iI (lr)), .int (iI (sr))])), (la, arI cs 4 lf), (ia, arQ cs 2 5 itf), (na, arQ cs 3 20 lnf), (kn, .inr (3, [.ref hi, .int (iI (ld)), .int (iI (fd)), .int (iI (fk)), .int (iI (fv)), .ref kl, .ref ke, .ref kd, .ref ks, .ref ka, .int (iI (es)), .int (iI (sk)), .int (iI (so)), .int (iI (lo))])), (kd, .inr (0, [.ref ud])), (ud, arI cs 1005 dm)] := ⟨rfl, rfl, rfl, rfl, rfl, rfl, rfl, trivial⟩
  refine vx_calli (vx_runV (As := [.int (iI (((sn : Nat) : Int))), .int (iI (((tn : Nat) : Int)))]) (rest := []) ⟨hx, hb, hml, hown, hts⟩ (m_X5_demandToday_ok l hst D cs kr la ia na b4 b6 b8 b10 sh it lc dy pct lr sr lf itf lnf sn tn kn hi kl ke kd ks ka ld fd fk fv es sk so lo ud dm (hsh) (hit) (hitf) (hsn) (htn) (hln) (hd)) (cwV 2 hts (gV w_623 w_624 w_625 w_1 w_626) rfl rfl rfl (by decide +kernel) ⟨Nat.le_of_ble_eq_true rfl, Nat.le_of_ble_eq_true rfl⟩) (PE_V hK hN hE hS (fun _ h => False.elim h) hP hD [0, 1, 2, 3, 4, 5, 6] rfl pk1 rfl rfl) rfl rfl hl.1 rfl (lv_room (Nat.le_of_ble_eq_true rfl)) dL_demandToday_3 ⟨Nat.le_of_ble_eq_true rfl, Nat.le_of_ble_eq_true rfl⟩) hS (fun _ _ h => False.elim h) (fun _ h => False.elim h) (fun _ _ h => False.elim h) (fun E ce q9 u t H1 locs1 ht hvm hpx hBX hz1 hk1 hS1 hce hcv hcl => ?_) (fun r u t H locs ht hvm hw hB hz1 hk1 hS => ?_)
  · exact absurd (hpx.1) hpx.2
  obtain ⟨hc2, hw⟩ := hw
  subst hw
  have hP := P_kept hP hk1
  refine W.widen (k := 3) (n := 18) (by omega) (by omega) ?_
  have hres : iI (dm dy) = iI (dm dy) := congrArg iI (by
      rfl)
  exact W.iret hx hb hr (fun t ht hW => ⟨⟨_, (), rfl, hres, trivial⟩, hS.F ht⟩) hS.2.2 dL_demandToday_6

abbrev ws_L_onWay : List Cond := Cond.codeWith yL_onWay cL_onWay 4 (some .int) [(0, 6, 7, 32), (0, 6, 11, 57)] :: ALL
set_option maxHeartbeats 4000000 in
set_option maxRecDepth 100000 in
theorem m_L_onWay_no_t (l : Launch) (hst : l.stackTraces = false) (D : va_G) (cs : Nat → ClassId) (kr la ia na b4 b6 b8 b10 sh it : Nat) (lc : Int) (dy : Nat) (pct lr sr : Int) (lf : Nat → Int) (itf : Nat → Option Nat) (lnf : Nat → Option Nat) (zs zi : Int) (hsh : sh ≤ 4) (hit : it ≤ 5) (hitf : ∀ j, j < it → itf j ≠ none) (hzs : -2147483648 ≤ zs ∧ zs < 2147483648) (hzi : -2147483648 ≤ zi ∧ zi < 2147483648) (hno : cdL sh it lnf zs zi ≠ 0) : Met l yL_onWay ws_L_onWay ({ frames := 9, cells := 3, slots := 18, locals := 149 }) (va_Pc [.ref kr, .int (iI (zs)), .int (iI (zi))] (PE D cs [(kr, .inr (5, [.ref la, .ref ia, .ref na, .ref b4, .ref b6, .ref b8, .ref b10, .int (iI (((sh : Nat) : Int))), .int (iI (((it : Nat) : Int))), .int (iI (lc)), .int (iI (((dy : Nat) : Int))), .int (iI (pct)), .int (iI (lr)), .int (iI (sr))])), (la, arI cs 4 lf), (ia, arQ cs 2 5 itf), (na, arQ cs 3 20 lnf)] noA)) (va_Qi (fun r (_ : Unit) => r = iI (exv (cdL sh it lnf zs zi))) (fun _ _ => True) noA) 3 18 noA := by
  refine va_MetW (cc := cL_onWay) (maxL := 4) (ret := some .int) (hh := [(0, 6, 7, 32), (0, 6, 11, 57)]) (by decide +kernel) rfl ?_
  intro p e s m args below meth c s₁ B hml hv
  obtain ⟨rfl, ⟨hP, hK, hD, hN⟩, hE⟩ := hv
  have hx := B.exec
  have hb := B.bytes
  have hr := B.returns
  have hts : ∀ w ∈ ALL, w.before _ s = true := fun w h => atoms_spec (ws := ws_L_onWay) B.pre w (List.mem_cons_of_mem _ h)
  have hown : s.vm.findClass RL = some m.cls := findClass_of_methodNamed B.named
  have hlocks := B.notSynchronized
  have htab : c.exceptionTable.toList = tableOf [(0, 6, 7, 32), (0, 6, 11, 57)] := vx_table (x := yL_onWay) B (atoms_spec (ws := ws_L_onWay) B.pre _ List.mem_cons_self)
  have hS : va_S noA s.heap s.heap [] := va_S.rf
  generalize inW [(kr, .inr (5, [.ref la, .ref ia, .ref na, .ref b4, .ref b6, .ref b8, .ref b10, .int (iI (((sh : Nat) : Int))), .int (iI (((it : Nat) : Int))), .int (iI (lc)), .int (iI (((dy : Nat) : Int))), .int (iI (pct)), .int (iI (lr)), .int (iI (sr))])), (la, arI cs 4 lf), (ia, arQ cs 2 5 itf), (na, arQ cs 3 20 lnf)] = A at hD
  have hl := lv_entry ([.ref kr, .int (iI (zs)), .int (iI (zi))]) (n := 4) (Nat.le_of_ble_eq_true rfl)
  rw [lg_entry_eq]
  generalize (lg_sl ([.ref kr, .int (iI (zs)), .int (iI (zi))]) ++ List.replicate (4 - (lg_sl ([.ref kr, .int (iI (zs)), .int (iI (zi))])).length) Slot.unset).toArray = ls at hl ⊢
  have hl : lv_has ls 4 [(0, .ref kr), (1, .int (iI (zs))), (2, .int (iI (zi)))] := hl
  have hH := rfl (a := s.heap)
  refine lv_aload_n hx hb dL_onWay_0 rfl (lv_at hl 0 rfl) ?_
  refine lv_iload_n hx hb dL_onWay_1 rfl (lv_at hl 1 rfl) ?_
  refine lv_iload_n hx hb dL_onWay_2 rfl (lv_at hl 2 rfl) ?_
  have pk1 : picks [(kr, .inr (5, [.ref la, .ref ia, .ref na, .ref b4, .ref b6, .ref b8, .ref b10, .int (iI (((sh : Nat) : Int))), .int (iI (((it : Nat) : Int))), .int (iI (lc)), .int (iI (((dy : Nat) : Int))), .int (iI (pct)), .int (iI (lr)), .int (iI (sr))])), (la, arI cs 4 lf), (ia, arQ cs 2 5 itf), (na, arQ cs 3 20 lnf)] [0, 1, 2, 3] [(kr, .inr (5, [.ref la, .ref ia, .ref na, .ref b4, .ref b6, .ref b8, .ref b10, .int (iI (((sh : Nat) : Int))), .int (iI (((it : Nat) : Int))), .int (iI (lc)), .int (iI (((dy : Nat) : Int))), .int (iI (pct)), .int (iI (lr)), .int (iI (sr))])), (la, arI cs 4 lf), (ia, arQ cs 2 5 itf), (na, arQ cs 3 20 lnf)] := ⟨rfl, rfl, rfl, rfl, trivial⟩
  refine vx_calli (vx_runV (As := [.int (iI (zs)), .int (iI (zi))]) (rest := []) ⟨hx, hb, hml, hown, hts⟩ (m_X5_onWay_no l hst D cs kr la ia na b4 b6 b8 b10 sh it lc dy pct lr sr lf itf lnf zs zi (hsh) (hit) (hitf) (hzs) (hzi) (hno)) (cwV 2 hts (gV w_690 w_691 w_692 w_1 w_693) rfl rfl rfl (by decide +kernel) ⟨Nat.le_of_ble_eq_true rfl, Nat.le_of_ble_eq_true rfl⟩) (PE_V hK hN hE hS (fun _ h => False.elim h) hP hD [0, 1, 2, 3] rfl pk1 rfl rfl) rfl rfl hl.1 rfl (lv_room (Nat.le_of_ble_eq_true rfl)) dL_onWay_3 ⟨Nat.le_of_ble_eq_true rfl, Nat.le_of_ble_eq_true rfl⟩) hS (fun _ _ h => False.elim h) (fun _ h => False.elim h) (fun _ _ h => False.elim h) (fun E ce q9 u t H1 locs1 ht hvm hpx hBX hz1 hk1 hS1 hce hcv hcl => ?_) (fun r u t H locs ht hvm hw hB hz1 hk1 hS => ?_)
  · have h9 : u = cdL sh it lnf zs zi := hpx.1
    have hS := hS1
    have hcd : cdL sh it lnf zs zi = 2 ∨ cdL sh it lnf zs zi = 1 := by
      revert hno
      (try unfold cdL); (try unfold cdS); (try unfold cdC)
      (repeat' split) <;> simp
    have hEu := hBX
    have hP := P_kept hP hk1
    rcases hcd with hc3 | hcd
    · have hE3 : E = "java/util/NoSuchElementException" := by have h8 : E = exN u := hEu; rw [h8, h9, hc3]; rfl
      subst hE3
      refine vx_catch (name := "java/util/NoSuchElementException") hown [⟨0, 6, 7, 32⟩] ⟨0, 6, 11, 57⟩ [] (htab.trans rfl) (fun z hz => by
          simp only [List.mem_cons, List.not_mem_nil, or_false] at hz
          rcases hz with rfl
          · exact Or.inr ⟨by decide, "java/lang/IndexOutOfBoundsException", hts _ w_272, hE.2.2.2.2.2 _ (List.mem_of_getElem? (i := 10) rfl)⟩) rfl (by decide) (hts _ w_460) (hE.use _ (List.mem_append_right _ (List.mem_map.mpr ⟨_, List.mem_of_getElem? (i := 1) rfl, rfl⟩))) hce hcv hcl ?_
      refine lv_astore_n (lv' := [(3, .ref q9), (0, .ref kr), (1, .int (iI (zs))), (2, .int (iI (zi)))]) hx hb dL_onWay_11 rfl hl (by decide) rfl (fun ls hl => ?_)
      refine lv_bipush (v := iI (-75)) hx hb dL_onWay_12 (by decide) ?_
      refine W.widen (k := 3) (n := 18) (by omega) (by omega) ?_
      have hres : iI (-75) = iI (exv (cdL sh it lnf zs zi)) := congrArg iI (by
          rw [hc3]; rfl)
      exact W.iret hx hb hr (fun t ht hW => ⟨⟨_, (), rfl, hres, trivial⟩, hS.F ht⟩) hS.2.2 dL_onWay_14
    have hc3 := hcd
    have hE3 : E = "java/lang/IndexOutOfBoundsException" := by have h8 : E = exN u := hEu; rw [h8, h9, hc3]; rfl
    subst hE3
    refine vx_catch (name := "java/lang/IndexOutOfBoundsException") hown [] ⟨0, 6, 7, 32⟩ [⟨0, 6, 11, 57⟩] (htab.trans rfl) (fun z hz => by cases hz) rfl (by decide) (hts _ w_272) (hE.use _ (List.mem_append_right _ (List.mem_map.mpr ⟨_, List.mem_of_getElem? (i := 0) rfl, rfl⟩))) hce hcv hcl ?_
    refine lv_astore_n (lv' := [(3, .ref q9), (0, .ref kr), (1, .int (iI (zs))), (2, .int (iI (zi)))]) hx hb dL_onWay_7 rfl hl (by decide) rfl (fun ls hl => ?_)
    refine lv_bipush (v := iI (-77)) hx hb dL_onWay_8 (by decide) ?_
    refine W.widen (k := 3) (n := 18) (by omega) (by omega) ?_
    have hres : iI (-77) = iI (exv (cdL sh it lnf zs zi)) := congrArg iI (by
        rw [hc3]; rfl)
    exact W.iret hx hb hr (fun t ht hW => ⟨⟨_, (), rfl, hres, trivial⟩, hS.F ht⟩) hS.2.2 dL_onWay_10
  obtain ⟨hc2, hw⟩ := hw
  subst hw
  have hP := P_kept hP hk1
  exact absurd hc2 hno

set_option maxHeartbeats 4000000 in
set_option maxRecDepth 100000 in
theorem m_L_onWay_ok_r (l : Launch) (hst : l.stackTraces = false) (D : va_G) (cs : Nat → ClassId) (kr la ia na b4 b6 b8 b10 sh it : Nat) (lc : Int) (dy : Nat) (pct lr sr : Int) (lf : Nat → Int) (itf : Nat → Option Nat) (lnf : Nat → Option Nat) (sn tn : Nat) (kn hi kl ke kd ks ka : Nat) (ld fd fk fv es sk so lo : Int) (ua : Nat) (ar : Nat → Int) (hsh : sh ≤ 4) (hit : it ≤ 5) (hitf : ∀ j, j < it → itf j ≠ none) (hsn : sn < sh) (htn : tn < it) (hln : lnf (sn * 5 + tn) = some kn) (hd : dy < 1000) : Met l yL_onWay ws_L_onWay ({ frames := 9, cells := 3, slots := 18, locals := 149 }) (va_Pc [.ref kr, .int (iI (((sn : Nat) : Int))), .int (iI (((tn : Nat) : Int)))] (PE D cs [(kr, .inr (5, [.ref la, .ref ia, .ref na, .ref b4, .ref b6, .ref b8, .ref b10, .int (iI (((sh : Nat) : Int))), .int (iI (((it : Nat) : Int))), .int (iI (lc)), .int (iI (((dy : Nat) : Int))), .int (iI (pct)), .int (iI (lr)), .int (iI (sr))])), (la, arI cs 4 lf), (ia, arQ cs 2 5 itf), (na, arQ cs 3 20 lnf), (kn, .inr (3, [.ref hi, .int (iI (ld)), .int (iI (fd)), .int (iI (fk)), .int (iI (fv)), .ref kl, .ref ke, .ref kd, .ref ks, .ref ka, .int (iI (es)), .int (iI (sk)), .int (iI (so)), .int (iI (lo))])), (ka, .inr (0, [.ref ua])), (ua, arI cs 1005 ar)] noA)) (va_Qi (fun r (_ : Unit) => r = iI (duI ar dy)) (fun _ _ => True) noA) 3 18 noA := by
  refine va_MetW (cc := cL_onWay) (maxL := 4) (ret := some .int) (hh := [(0, 6, 7, 32), (0, 6, 11, 57)]) (by decide +kernel) rfl ?_
  intro p e s m args below meth c s₁ B hml hv
  obtain ⟨rfl, ⟨hP, hK, hD, hN⟩, hE⟩ := hv
  have hx := B.exec
  have hb := B.bytes
  have hr := B.returns
  have hts : ∀ w ∈ ALL, w.before _ s = true := fun w h => atoms_spec (ws := ws_L_onWay) B.pre w (List.mem_cons_of_mem _ h)
  have hown : s.vm.findClass RL = some m.cls := findClass_of_methodNamed B.named
  have hlocks := B.notSynchronized
  have htab : c.exceptionTable.toList = tableOf [(0, 6, 7, 32), (0, 6, 11, 57)] := vx_table (x := yL_onWay) B (atoms_spec (ws := ws_L_onWay) B.pre _ List.mem_cons_self)
  have hS : va_S noA s.heap s.heap [] := va_S.rf
  generalize inW [(kr, .inr (5, [.ref la, .ref ia, .ref na, .ref b4, .ref b6, .ref b8, .ref b10, .int (iI (((sh : Nat) : Int))), .int (iI (((it : Nat) : Int))), .int (iI (lc)), .int (iI (((dy : Nat) : Int))), .int (iI (pct)), .int (iI (lr)), .int (iI (sr))])), (la, arI cs 4 lf), (ia, arQ cs 2 5 itf), (na, arQ cs 3 20 lnf), (kn, .inr (3, [.ref hi, .int (iI (ld)), .int (iI (fd)), .int (iI (fk)), .int (iI (fv)), .ref kl, .ref ke, .ref kd, .ref ks, .ref ka, .int (iI (es)), .int (iI (sk)), .int (iI (so)), .int (iI (lo))])), (ka, .inr (0, [.ref ua])), (ua, arI cs 1005 ar)] = A at hD
  have hl := lv_entry ([.ref kr, .int (iI (((sn : Nat) : Int))), .int (iI (((tn : Nat) : Int)))]) (n := 4) (Nat.le_of_ble_eq_true rfl)
  rw [lg_entry_eq]
  generalize (lg_sl ([.ref kr, .int (iI (((sn : Nat) : Int))), .int (iI (((tn : Nat) : Int)))]) ++ List.replicate (4 - (lg_sl ([.ref kr, .int (iI (((sn : Nat) : Int))), .int (iI (((tn : Nat) : Int)))])).length) Slot.unset).toArray = ls at hl ⊢
  have hl : lv_has ls 4 [(0, .ref kr), (1, .int (iI (((sn : Nat) : Int)))), (2, .int (iI (((tn : Nat) : Int))))] := hl
  have hH := rfl (a := s.heap)
  refine lv_aload_n hx hb dL_onWay_0 rfl (lv_at hl 0 rfl) ?_
  refine lv_iload_n hx hb dL_onWay_1 rfl (lv_at hl 1 rfl) ?_
  refine lv_iload_n hx hb dL_onWay_2 rfl (lv_at hl 2 rfl) ?_
  have pk1 : picks [(kr, .inr (5, [.ref la, .ref ia, .ref na, .ref b4, .ref b6, .ref b8, .ref b10, .int (iI (((sh : Nat) : Int))), .int (iI (((it : Nat) : Int))), .int (iI (lc)), .int (iI (((dy : Nat) : Int))), .int (iI (pct)), .int (iI (lr)), .int (iI (sr))])), (la, arI cs 4 lf), (ia, arQ cs 2 5 itf), (na, arQ cs 3 20 lnf), (kn, .inr (3, [.ref hi, .int (iI (ld)), .int (iI (fd)), .int (iI (fk)), .int (iI (fv)), .ref kl, .ref ke, .ref kd, .ref ks, .ref ka, .int (iI (es)), .int (iI (sk)), .int (iI (so)), .int (iI (lo))])), (ka, .inr (0, [.ref ua])), (ua, arI cs 1005 ar)] [0, 1, 2, 3, 4, 5, 6] [(kr, .inr (5, [.ref la, .ref ia, .ref na, .ref b4, .ref b6, .ref b8, .ref b10, .int (iI (((sh : Nat) : Int))), .int (iI (((it : Nat) : Int))), .int (iI (lc)), .int (iI (((dy : Nat) : Int))), .int (iI (pct)), .int (iI (lr)), .int (iI (sr))])), (la, arI cs 4 lf), (ia, arQ cs 2 5 itf), (na, arQ cs 3 20 lnf), (kn, .inr (3, [.ref hi, .int (iI (ld)), .int (iI (fd)), .int (iI (fk)), .int (iI (fv)), .ref kl, .ref ke, .ref kd, .ref ks, .ref ka, .int (iI (es)), .int (iI (sk)), .int (iI (so)), .int (iI (lo))])), (ka, .inr (0, [.ref ua])), (ua, arI cs 1005 ar)] := ⟨rfl, rfl, rfl, rfl, rfl, rfl, rfl, trivial⟩
  refine vx_calli (vx_runV (As := [.int (iI (((sn : Nat) : Int))), .int (iI (((tn : Nat) : Int)))]) (rest := []) ⟨hx, hb, hml, hown, hts⟩ (m_X5_onWay_ok l hst D cs kr la ia na b4 b6 b8 b10 sh it lc dy pct lr sr lf itf lnf sn tn kn hi kl ke kd ks ka ld fd fk fv es sk so lo ua ar (hsh) (hit) (hitf) (hsn) (htn) (hln) (hd)) (cwV 2 hts (gV w_690 w_691 w_692 w_1 w_693) rfl rfl rfl (by decide +kernel) ⟨Nat.le_of_ble_eq_true rfl, Nat.le_of_ble_eq_true rfl⟩) (PE_V hK hN hE hS (fun _ h => False.elim h) hP hD [0, 1, 2, 3, 4, 5, 6] rfl pk1 rfl rfl) rfl rfl hl.1 rfl (lv_room (Nat.le_of_ble_eq_true rfl)) dL_onWay_3 ⟨Nat.le_of_ble_eq_true rfl, Nat.le_of_ble_eq_true rfl⟩) hS (fun _ _ h => False.elim h) (fun _ h => False.elim h) (fun _ _ h => False.elim h) (fun E ce q9 u t H1 locs1 ht hvm hpx hBX hz1 hk1 hS1 hce hcv hcl => ?_) (fun r u t H locs ht hvm hw hB hz1 hk1 hS => ?_)
  · exact absurd (hpx.1) hpx.2
  obtain ⟨hc2, hw⟩ := hw
  subst hw
  have hP := P_kept hP hk1
  refine W.widen (k := 3) (n := 18) (by omega) (by omega) ?_
  have hres : iI (duI ar dy) = iI (duI ar dy) := congrArg iI (by
      rfl)
  exact W.iret hx hb hr (fun t ht hW => ⟨⟨_, (), rfl, hres, trivial⟩, hS.F ht⟩) hS.2.2 dL_onWay_6

abbrev ws_L_need : List Cond := Cond.codeWith yL_need cL_need 4 (some .int) [(0, 6, 7, 32), (0, 6, 11, 57)] :: ALL
set_option maxHeartbeats 4000000 in
set_option maxRecDepth 100000 in
theorem m_L_need_no_t (l : Launch) (hst : l.stackTraces = false) (D : va_G) (cs : Nat → ClassId) (kr la ia na b4 b6 b8 b10 sh it : Nat) (lc : Int) (dy : Nat) (pct lr sr : Int) (lf : Nat → Int) (itf : Nat → Option Nat) (lnf : Nat → Option Nat) (zs zi : Int) (hsh : sh ≤ 4) (hit : it ≤ 5) (hitf : ∀ j, j < it → itf j ≠ none) (hzs : -2147483648 ≤ zs ∧ zs < 2147483648) (hzi : -2147483648 ≤ zi ∧ zi < 2147483648) (hno : cdL sh it lnf zs zi ≠ 0) : Met l yL_need ws_L_need ({ frames := 9, cells := 3, slots := 18, locals := 149 }) (va_Pc [.ref kr, .int (iI (zs)), .int (iI (zi))] (PE D cs [(kr, .inr (5, [.ref la, .ref ia, .ref na, .ref b4, .ref b6, .ref b8, .ref b10, .int (iI (((sh : Nat) : Int))), .int (iI (((it : Nat) : Int))), .int (iI (lc)), .int (iI (((dy : Nat) : Int))), .int (iI (pct)), .int (iI (lr)), .int (iI (sr))])), (la, arI cs 4 lf), (ia, arQ cs 2 5 itf), (na, arQ cs 3 20 lnf)] noA)) (va_Qi (fun r (_ : Unit) => r = iI (exv (cdL sh it lnf zs zi))) (fun _ _ => True) noA) 3 18 noA := by
  refine va_MetW (cc := cL_need) (maxL := 4) (ret := some .int) (hh := [(0, 6, 7, 32), (0, 6, 11, 57)]) (by decide +kernel) rfl ?_
  intro p e s m args below meth c s₁ B hml hv
  obtain ⟨rfl, ⟨hP, hK, hD, hN⟩, hE⟩ := hv
  have hx := B.exec
  have hb := B.bytes
  have hr := B.returns
  have hts : ∀ w ∈ ALL, w.before _ s = true := fun w h => atoms_spec (ws := ws_L_need) B.pre w (List.mem_cons_of_mem _ h)
  have hown : s.vm.findClass RL = some m.cls := findClass_of_methodNamed B.named
  have hlocks := B.notSynchronized
  have htab : c.exceptionTable.toList = tableOf [(0, 6, 7, 32), (0, 6, 11, 57)] := vx_table (x := yL_need) B (atoms_spec (ws := ws_L_need) B.pre _ List.mem_cons_self)
  have hS : va_S noA s.heap s.heap [] := va_S.rf
  generalize inW [(kr, .inr (5, [.ref la, .ref ia, .ref na, .ref b4, .ref b6, .ref b8, .ref b10, .int (iI (((sh : Nat) : Int))), .int (iI (((it : Nat) : Int))), .int (iI (lc)), .int (iI (((dy : Nat) : Int))), .int (iI (pct)), .int (iI (lr)), .int (iI (sr))])), (la, arI cs 4 lf), (ia, arQ cs 2 5 itf), (na, arQ cs 3 20 lnf)] = A at hD
  have hl := lv_entry ([.ref kr, .int (iI (zs)), .int (iI (zi))]) (n := 4) (Nat.le_of_ble_eq_true rfl)
  rw [lg_entry_eq]
  generalize (lg_sl ([.ref kr, .int (iI (zs)), .int (iI (zi))]) ++ List.replicate (4 - (lg_sl ([.ref kr, .int (iI (zs)), .int (iI (zi))])).length) Slot.unset).toArray = ls at hl ⊢
  have hl : lv_has ls 4 [(0, .ref kr), (1, .int (iI (zs))), (2, .int (iI (zi)))] := hl
  have hH := rfl (a := s.heap)
  refine lv_aload_n hx hb dL_need_0 rfl (lv_at hl 0 rfl) ?_
  refine lv_iload_n hx hb dL_need_1 rfl (lv_at hl 1 rfl) ?_
  refine lv_iload_n hx hb dL_need_2 rfl (lv_at hl 2 rfl) ?_
  have pk1 : picks [(kr, .inr (5, [.ref la, .ref ia, .ref na, .ref b4, .ref b6, .ref b8, .ref b10, .int (iI (((sh : Nat) : Int))), .int (iI (((it : Nat) : Int))), .int (iI (lc)), .int (iI (((dy : Nat) : Int))), .int (iI (pct)), .int (iI (lr)), .int (iI (sr))])), (la, arI cs 4 lf), (ia, arQ cs 2 5 itf), (na, arQ cs 3 20 lnf)] [0, 1, 2, 3] [(kr, .inr (5, [.ref la, .ref ia, .ref na, .ref b4, .ref b6, .ref b8, .ref b10, .int (iI (((sh : Nat) : Int))), .int (iI (((it : Nat) : Int))), .int (iI (lc)), .int (iI (((dy : Nat) : Int))), .int (iI (pct)), .int (iI (lr)), .int (iI (sr))])), (la, arI cs 4 lf), (ia, arQ cs 2 5 itf), (na, arQ cs 3 20 lnf)] := ⟨rfl, rfl, rfl, rfl, trivial⟩
  refine vx_calli (vx_runV (As := [.int (iI (zs)), .int (iI (zi))]) (rest := []) ⟨hx, hb, hml, hown, hts⟩ (m_X5_need_no l hst D cs kr la ia na b4 b6 b8 b10 sh it lc dy pct lr sr lf itf lnf zs zi (hsh) (hit) (hitf) (hzs) (hzi) (hno)) (cwV 2 hts (gV w_681 w_682 w_683 w_1 w_684) rfl rfl rfl (by decide +kernel) ⟨Nat.le_of_ble_eq_true rfl, Nat.le_of_ble_eq_true rfl⟩) (PE_V hK hN hE hS (fun _ h => False.elim h) hP hD [0, 1, 2, 3] rfl pk1 rfl rfl) rfl rfl hl.1 rfl (lv_room (Nat.le_of_ble_eq_true rfl)) dL_need_3 ⟨Nat.le_of_ble_eq_true rfl, Nat.le_of_ble_eq_true rfl⟩) hS (fun _ _ h => False.elim h) (fun _ h => False.elim h) (fun _ _ h => False.elim h) (fun E ce q9 u t H1 locs1 ht hvm hpx hBX hz1 hk1 hS1 hce hcv hcl => ?_) (fun r u t H locs ht hvm hw hB hz1 hk1 hS => ?_)
  · have h9 : u = cdL sh it lnf zs zi := hpx.1
    have hS := hS1
    have hcd : cdL sh it lnf zs zi = 2 ∨ cdL sh it lnf zs zi = 1 := by
      revert hno
      (try unfold cdL); (try unfold cdS); (try unfold cdC)
      (repeat' split) <;> simp
    have hEu := hBX
    have hP := P_kept hP hk1
    rcases hcd with hc3 | hcd
    · have hE3 : E = "java/util/NoSuchElementException" := by have h8 : E = exN u := hEu; rw [h8, h9, hc3]; rfl
      subst hE3
      refine vx_catch (name := "java/util/NoSuchElementException") hown [⟨0, 6, 7, 32⟩] ⟨0, 6, 11, 57⟩ [] (htab.trans rfl) (fun z hz => by
          simp only [List.mem_cons, List.not_mem_nil, or_false] at hz
          rcases hz with rfl
          · exact Or.inr ⟨by decide, "java/lang/IndexOutOfBoundsException", hts _ w_272, hE.2.2.2.2.2 _ (List.mem_of_getElem? (i := 10) rfl)⟩) rfl (by decide) (hts _ w_460) (hE.use _ (List.mem_append_right _ (List.mem_map.mpr ⟨_, List.mem_of_getElem? (i := 1) rfl, rfl⟩))) hce hcv hcl ?_
      refine lv_astore_n (lv' := [(3, .ref q9), (0, .ref kr), (1, .int (iI (zs))), (2, .int (iI (zi)))]) hx hb dL_need_11 rfl hl (by decide) rfl (fun ls hl => ?_)
      refine lv_bipush (v := iI (-75)) hx hb dL_need_12 (by decide) ?_
      refine W.widen (k := 3) (n := 18) (by omega) (by omega) ?_
      have hres : iI (-75) = iI (exv (cdL sh it lnf zs zi)) := congrArg iI (by
          rw [hc3]; rfl)
      exact W.iret hx hb hr (fun t ht hW => ⟨⟨_, (), rfl, hres, trivial⟩, hS.F ht⟩) hS.2.2 dL_need_14
    have hc3 := hcd
    have hE3 : E = "java/lang/IndexOutOfBoundsException" := by have h8 : E = exN u := hEu; rw [h8, h9, hc3]; rfl
    subst hE3
    refine vx_catch (name := "java/lang/IndexOutOfBoundsException") hown [] ⟨0, 6, 7, 32⟩ [⟨0, 6, 11, 57⟩] (htab.trans rfl) (fun z hz => by cases hz) rfl (by decide) (hts _ w_272) (hE.use _ (List.mem_append_right _ (List.mem_map.mpr ⟨_, List.mem_of_getElem? (i := 0) rfl, rfl⟩))) hce hcv hcl ?_
    refine lv_astore_n (lv' := [(3, .ref q9), (0, .ref kr), (1, .int (iI (zs))), (2, .int (iI (zi)))]) hx hb dL_need_7 rfl hl (by decide) rfl (fun ls hl => ?_)
    refine lv_bipush (v := iI (-77)) hx hb dL_need_8 (by decide) ?_
    refine W.widen (k := 3) (n := 18) (by omega) (by omega) ?_
    have hres : iI (-77) = iI (exv (cdL sh it lnf zs zi)) := congrArg iI (by
        rw [hc3]; rfl)
    exact W.iret hx hb hr (fun t ht hW => ⟨⟨_, (), rfl, hres, trivial⟩, hS.F ht⟩) hS.2.2 dL_need_10
  obtain ⟨hc2, hw⟩ := hw
  subst hw
  have hP := P_kept hP hk1
  exact absurd hc2 hno

set_option maxHeartbeats 4000000 in
set_option maxRecDepth 100000 in
theorem m_L_need_ok_r (l : Launch) (hst : l.stackTraces = false) (D : va_G) (cs : Nat → ClassId) (kr la ia na b4 b6 b8 b10 sh it : Nat) (lc : Int) (dy : Nat) (pct lr sr : Int) (lf : Nat → Int) (itf : Nat → Option Nat) (lnf : Nat → Option Nat) (sn tn : Nat) (kn hi kl ke kd ks ka : Nat) (fd fk fv es sk so lo : Int) (ldn us ua : Nat) (lev : Int) (se ef ar : Nat → Int) (hsh : sh ≤ 4) (hit : it ≤ 5) (hitf : ∀ j, j < it → itf j ≠ none) (hsn : sn < sh) (htn : tn < it) (hln : lnf (sn * 5 + tn) = some kn) (hlev : 0 ≤ lev ∧ lev ≤ 9990000) (hse : ∀ w, 100 ≤ se w ∧ se w ≤ 5000) (hef : ∀ j, 0 ≤ ef j ∧ ef j ≤ 1000) (hes : 0 ≤ es ∧ es ≤ 1000) (hpc : 1 ≤ pct ∧ pct ≤ 100) (hd : dy < 1000) (hld : ldn ≤ 5) (hsk : 0 ≤ sk ∧ sk ≤ 100000000) (hdu : 0 ≤ duI ar dy ∧ duI ar dy ≤ 100000000) : Met l yL_need ws_L_need ({ frames := 9, cells := 3, slots := 18, locals := 149 }) (va_Pc [.ref kr, .int (iI (((sn : Nat) : Int))), .int (iI (((tn : Nat) : Int)))] (PE D cs [(kr, .inr (5, [.ref la, .ref ia, .ref na, .ref b4, .ref b6, .ref b8, .ref b10, .int (iI (((sh : Nat) : Int))), .int (iI (((it : Nat) : Int))), .int (iI (lc)), .int (iI (((dy : Nat) : Int))), .int (iI (pct)), .int (iI (lr)), .int (iI (sr))])), (la, arI cs 4 lf), (ia, arQ cs 2 5 itf), (na, arQ cs 3 20 lnf), (kn, .inr (3, [.ref hi, .int (iI (((ldn : Nat) : Int))), .int (iI (fd)), .int (iI (fk)), .int (iI (fv)), .ref kl, .ref ke, .ref kd, .ref ks, .ref ka, .int (iI (es)), .int (iI (sk)), .int (iI (so)), .int (iI (lo))])), (kl, .inr (2, [.ref us, .int (iI (lev))])), (us, arI cs 7 se), (ke, arI cs 21 ef), (ka, .inr (0, [.ref ua])), (ua, arI cs 1005 ar)] noA)) (va_Qi (fun r (_ : Unit) => r = iI (ndI lev se ef es pct sk ar dy ldn)) (fun _ _ => True) noA) 3 18 noA := by
  refine va_MetW (cc := cL_need) (maxL := 4) (ret := some .int) (hh := [(0, 6, 7, 32), (0, 6, 11, 57)]) (by decide +kernel) rfl ?_
  intro p e s m args below meth c s₁ B hml hv
  obtain ⟨rfl, ⟨hP, hK, hD, hN⟩, hE⟩ := hv
  have hx := B.exec
  have hb := B.bytes
  have hr := B.returns
  have hts : ∀ w ∈ ALL, w.before _ s = true := fun w h => atoms_spec (ws := ws_L_need) B.pre w (List.mem_cons_of_mem _ h)
  have hown : s.vm.findClass RL = some m.cls := findClass_of_methodNamed B.named
  have hlocks := B.notSynchronized
  have htab : c.exceptionTable.toList = tableOf [(0, 6, 7, 32), (0, 6, 11, 57)] := vx_table (x := yL_need) B (atoms_spec (ws := ws_L_need) B.pre _ List.mem_cons_self)
  have hS : va_S noA s.heap s.heap [] := va_S.rf
  generalize inW [(kr, .inr (5, [.ref la, .ref ia, .ref na, .ref b4, .ref b6, .ref b8, .ref b10, .int (iI (((sh : Nat) : Int))), .int (iI (((it : Nat) : Int))), .int (iI (lc)), .int (iI (((dy : Nat) : Int))), .int (iI (pct)), .int (iI (lr)), .int (iI (sr))])), (la, arI cs 4 lf), (ia, arQ cs 2 5 itf), (na, arQ cs 3 20 lnf), (kn, .inr (3, [.ref hi, .int (iI (((ldn : Nat) : Int))), .int (iI (fd)), .int (iI (fk)), .int (iI (fv)), .ref kl, .ref ke, .ref kd, .ref ks, .ref ka, .int (iI (es)), .int (iI (sk)), .int (iI (so)), .int (iI (lo))])), (kl, .inr (2, [.ref us, .int (iI (lev))])), (us, arI cs 7 se), (ke, arI cs 21 ef), (ka, .inr (0, [.ref ua])), (ua, arI cs 1005 ar)] = A at hD
  have hl := lv_entry ([.ref kr, .int (iI (((sn : Nat) : Int))), .int (iI (((tn : Nat) : Int)))]) (n := 4) (Nat.le_of_ble_eq_true rfl)
  rw [lg_entry_eq]
  generalize (lg_sl ([.ref kr, .int (iI (((sn : Nat) : Int))), .int (iI (((tn : Nat) : Int)))]) ++ List.replicate (4 - (lg_sl ([.ref kr, .int (iI (((sn : Nat) : Int))), .int (iI (((tn : Nat) : Int)))])).length) Slot.unset).toArray = ls at hl ⊢
  have hl : lv_has ls 4 [(0, .ref kr), (1, .int (iI (((sn : Nat) : Int)))), (2, .int (iI (((tn : Nat) : Int))))] := hl
  have hH := rfl (a := s.heap)
  refine lv_aload_n hx hb dL_need_0 rfl (lv_at hl 0 rfl) ?_
  refine lv_iload_n hx hb dL_need_1 rfl (lv_at hl 1 rfl) ?_
  refine lv_iload_n hx hb dL_need_2 rfl (lv_at hl 2 rfl) ?_
  have pk1 : picks [(kr, .inr (5, [.ref la, .ref ia, .ref na, .ref b4, .ref b6, .ref b8, .ref b10, .int (iI (((sh : Nat) : Int))), .int (iI (((it : Nat) : Int))), .int (iI (lc)), .int (iI (((dy : Nat) : Int))), .int (iI (pct)), .int (iI (lr)), .int (iI (sr))])), (la, arI cs 4 lf), (ia, arQ cs 2 5 itf), (na, arQ cs 3 20 lnf), (kn, .inr (3, [.ref hi, .int (iI (((ldn : Nat) : Int))), .int (iI (fd)), .int (iI (fk)), .int (iI (fv)), .ref kl, .ref ke, .ref kd, .ref ks, .ref ka, .int (iI (es)), .int (iI (sk)), .int (iI (so)), .int (iI (lo))])), (kl, .inr (2, [.ref us, .int (iI (lev))])), (us, arI cs 7 se), (ke, arI cs 21 ef), (ka, .inr (0, [.ref ua])), (ua, arI cs 1005 ar)] [0, 1, 2, 3, 4, 5, 6, 7, 8, 9] [(kr, .inr (5, [.ref la, .ref ia, .ref na, .ref b4, .ref b6, .ref b8, .ref b10, .int (iI (((sh : Nat) : Int))), .int (iI (((it : Nat) : Int))), .int (iI (lc)), .int (iI (((dy : Nat) : Int))), .int (iI (pct)), .int (iI (lr)), .int (iI (sr))])), (la, arI cs 4 lf), (ia, arQ cs 2 5 itf), (na, arQ cs 3 20 lnf), (kn, .inr (3, [.ref hi, .int (iI (((ldn : Nat) : Int))), .int (iI (fd)), .int (iI (fk)), .int (iI (fv)), .ref kl, .ref ke, .ref kd, .ref ks, .ref ka, .int (iI (es)), .int (iI (sk)), .int (iI (so)), .int (iI (lo))])), (kl, .inr (2, [.ref us, .int (iI (lev))])), (us, arI cs 7 se), (ke, arI cs 21 ef), (ka, .inr (0, [.ref ua])), (ua, arI cs 1005 ar)] := ⟨rfl, rfl, rfl, rfl, rfl, rfl, rfl, rfl, rfl, rfl, trivial⟩
  refine vx_calli (vx_runV (As := [.int (iI (((sn : Nat) : Int))), .int (iI (((tn : Nat) : Int)))]) (rest := []) ⟨hx, hb, hml, hown, hts⟩ (m_X5_need_ok l hst D cs kr la ia na b4 b6 b8 b10 sh it lc dy pct lr sr lf itf lnf sn tn kn hi kl ke kd ks ka fd fk fv es sk so lo ldn us ua lev se ef ar (hsh) (hit) (hitf) (hsn) (htn) (hln) (hlev) (hse) (hef) (hes) (hpc) (hd) (hld) (hsk) (hdu)) (cwV 2 hts (gV w_681 w_682 w_683 w_1 w_684) rfl rfl rfl (by decide +kernel) ⟨Nat.le_of_ble_eq_true rfl, Nat.le_of_ble_eq_true rfl⟩) (PE_V hK hN hE hS (fun _ h => False.elim h) hP hD [0, 1, 2, 3, 4, 5, 6, 7, 8, 9] rfl pk1 rfl rfl) rfl rfl hl.1 rfl (lv_room (Nat.le_of_ble_eq_true rfl)) dL_need_3 ⟨Nat.le_of_ble_eq_true rfl, Nat.le_of_ble_eq_true rfl⟩) hS (fun _ _ h => False.elim h) (fun _ h => False.elim h) (fun _ _ h => False.elim h) (fun E ce q9 u t H1 locs1 ht hvm hpx hBX hz1 hk1 hS1 hce hcv hcl => ?_) (fun r u t H locs ht hvm hw hB hz1 hk1 hS => ?_)
  · exact absurd (hpx.1) hpx.2
  obtain ⟨hc2, hw⟩ := hw
  subst hw
  have hP := P_kept hP hk1
  refine W.widen (k := 3) (n := 18) (by omega) (by omega) ?_
  have hres : iI (ndI lev se ef es pct sk ar dy ldn) = iI (ndI lev se ef es pct sk ar dy ldn) := congrArg iI (by
      rfl)
  exact W.iret hx hb hr (fun t ht hW => ⟨⟨_, (), rfl, hres, trivial⟩, hS.F ht⟩) hS.2.2 dL_need_6

abbrev ws_L_request : List Cond := Cond.codeWith yL_request cL_request 4 (some .int) [(0, 6, 7, 32), (0, 6, 11, 57)] :: ALL
set_option maxHeartbeats 4000000 in
set_option maxRecDepth 100000 in
theorem m_L_request_no_t (l : Launch) (hst : l.stackTraces = false) (D : va_G) (cs : Nat → ClassId) (kr la ia na b4 b6 b8 b10 sh it : Nat) (lc : Int) (dy : Nat) (pct lr sr : Int) (lf : Nat → Int) (itf : Nat → Option Nat) (lnf : Nat → Option Nat) (zs zi : Int) (hsh : sh ≤ 4) (hit : it ≤ 5) (hitf : ∀ j, j < it → itf j ≠ none) (hzs : -2147483648 ≤ zs ∧ zs < 2147483648) (hzi : -2147483648 ≤ zi ∧ zi < 2147483648) (hno : cdL sh it lnf zs zi ≠ 0) : Met l yL_request ws_L_request ({ frames := 9, cells := 3, slots := 18, locals := 149 }) (va_Pc [.ref kr, .int (iI (zs)), .int (iI (zi))] (PE D cs [(kr, .inr (5, [.ref la, .ref ia, .ref na, .ref b4, .ref b6, .ref b8, .ref b10, .int (iI (((sh : Nat) : Int))), .int (iI (((it : Nat) : Int))), .int (iI (lc)), .int (iI (((dy : Nat) : Int))), .int (iI (pct)), .int (iI (lr)), .int (iI (sr))])), (la, arI cs 4 lf), (ia, arQ cs 2 5 itf), (na, arQ cs 3 20 lnf)] noA)) (va_Qi (fun r (_ : Unit) => r = iI (exv (cdL sh it lnf zs zi))) (fun _ _ => True) noA) 3 18 noA := by
  refine va_MetW (cc := cL_request) (maxL := 4) (ret := some .int) (hh := [(0, 6, 7, 32), (0, 6, 11, 57)]) (by decide +kernel) rfl ?_
  intro p e s m args below meth c s₁ B hml hv
  obtain ⟨rfl, ⟨hP, hK, hD, hN⟩, hE⟩ := hv
  have hx := B.exec
  have hb := B.bytes
  have hr := B.returns
  have hts : ∀ w ∈ ALL, w.before _ s = true := fun w h => atoms_spec (ws := ws_L_request) B.pre w (List.mem_cons_of_mem _ h)
  have hown : s.vm.findClass RL = some m.cls := findClass_of_methodNamed B.named
  have hlocks := B.notSynchronized
  have htab : c.exceptionTable.toList = tableOf [(0, 6, 7, 32), (0, 6, 11, 57)] := vx_table (x := yL_request) B (atoms_spec (ws := ws_L_request) B.pre _ List.mem_cons_self)
  have hS : va_S noA s.heap s.heap [] := va_S.rf
  generalize inW [(kr, .inr (5, [.ref la, .ref ia, .ref na, .ref b4, .ref b6, .ref b8, .ref b10, .int (iI (((sh : Nat) : Int))), .int (iI (((it : Nat) : Int))), .int (iI (lc)), .int (iI (((dy : Nat) : Int))), .int (iI (pct)), .int (iI (lr)), .int (iI (sr))])), (la, arI cs 4 lf), (ia, arQ cs 2 5 itf), (na, arQ cs 3 20 lnf)] = A at hD
  have hl := lv_entry ([.ref kr, .int (iI (zs)), .int (iI (zi))]) (n := 4) (Nat.le_of_ble_eq_true rfl)
  rw [lg_entry_eq]
  generalize (lg_sl ([.ref kr, .int (iI (zs)), .int (iI (zi))]) ++ List.replicate (4 - (lg_sl ([.ref kr, .int (iI (zs)), .int (iI (zi))])).length) Slot.unset).toArray = ls at hl ⊢
  have hl : lv_has ls 4 [(0, .ref kr), (1, .int (iI (zs))), (2, .int (iI (zi)))] := hl
  have hH := rfl (a := s.heap)
  refine lv_aload_n hx hb dL_request_0 rfl (lv_at hl 0 rfl) ?_
  refine lv_iload_n hx hb dL_request_1 rfl (lv_at hl 1 rfl) ?_
  refine lv_iload_n hx hb dL_request_2 rfl (lv_at hl 2 rfl) ?_
  have pk1 : picks [(kr, .inr (5, [.ref la, .ref ia, .ref na, .ref b4, .ref b6, .ref b8, .ref b10, .int (iI (((sh : Nat) : Int))), .int (iI (((it : Nat) : Int))), .int (iI (lc)), .int (iI (((dy : Nat) : Int))), .int (iI (pct)), .int (iI (lr)), .int (iI (sr))])), (la, arI cs 4 lf), (ia, arQ cs 2 5 itf), (na, arQ cs 3 20 lnf)] [0, 1, 2, 3] [(kr, .inr (5, [.ref la, .ref ia, .ref na, .ref b4, .ref b6, .ref b8, .ref b10, .int (iI (((sh : Nat) : Int))), .int (iI (((it : Nat) : Int))), .int (iI (lc)), .int (iI (((dy : Nat) : Int))), .int (iI (pct)), .int (iI (lr)), .int (iI (sr))])), (la, arI cs 4 lf), (ia, arQ cs 2 5 itf), (na, arQ cs 3 20 lnf)] := ⟨rfl, rfl, rfl, rfl, trivial⟩
  refine vx_calli (vx_runV (As := [.int (iI (zs)), .int (iI (zi))]) (rest := []) ⟨hx, hb, hml, hown, hts⟩ (m_X5_request_no l hst D cs kr la ia na b4 b6 b8 b10 sh it lc dy pct lr sr lf itf lnf zs zi (hsh) (hit) (hitf) (hzs) (hzi) (hno)) (cwV 2 hts (gV w_715 w_716 w_717 w_1 w_718) rfl rfl rfl (by decide +kernel) ⟨Nat.le_of_ble_eq_true rfl, Nat.le_of_ble_eq_true rfl⟩) (PE_V hK hN hE hS (fun _ h => False.elim h) hP hD [0, 1, 2, 3] rfl pk1 rfl rfl) rfl rfl hl.1 rfl (lv_room (Nat.le_of_ble_eq_true rfl)) dL_request_3 ⟨Nat.le_of_ble_eq_true rfl, Nat.le_of_ble_eq_true rfl⟩) hS (fun _ _ h => False.elim h) (fun _ h => False.elim h) (fun _ _ h => False.elim h) (fun E ce q9 u t H1 locs1 ht hvm hpx hBX hz1 hk1 hS1 hce hcv hcl => ?_) (fun r u t H locs ht hvm hw hB hz1 hk1 hS => ?_)
  · have h9 : u = cdL sh it lnf zs zi := hpx.1
    have hS := hS1
    have hcd : cdL sh it lnf zs zi = 2 ∨ cdL sh it lnf zs zi = 1 := by
      revert hno
      (try unfold cdL); (try unfold cdS); (try unfold cdC)
      (repeat' split) <;> simp
    have hEu := hBX
    have hP := P_kept hP hk1
    rcases hcd with hc3 | hcd
    · have hE3 : E = "java/util/NoSuchElementException" := by have h8 : E = exN u := hEu; rw [h8, h9, hc3]; rfl
      subst hE3
      refine vx_catch (name := "java/util/NoSuchElementException") hown [⟨0, 6, 7, 32⟩] ⟨0, 6, 11, 57⟩ [] (htab.trans rfl) (fun z hz => by
          simp only [List.mem_cons, List.not_mem_nil, or_false] at hz
          rcases hz with rfl
          · exact Or.inr ⟨by decide, "java/lang/IndexOutOfBoundsException", hts _ w_272, hE.2.2.2.2.2 _ (List.mem_of_getElem? (i := 10) rfl)⟩) rfl (by decide) (hts _ w_460) (hE.use _ (List.mem_append_right _ (List.mem_map.mpr ⟨_, List.mem_of_getElem? (i := 1) rfl, rfl⟩))) hce hcv hcl ?_
      refine lv_astore_n (lv' := [(3, .ref q9), (0, .ref kr), (1, .int (iI (zs))), (2, .int (iI (zi)))]) hx hb dL_request_11 rfl hl (by decide) rfl (fun ls hl => ?_)
      refine lv_bipush (v := iI (-75)) hx hb dL_request_12 (by decide) ?_
      refine W.widen (k := 3) (n := 18) (by omega) (by omega) ?_
      have hres : iI (-75) = iI (exv (cdL sh it lnf zs zi)) := congrArg iI (by
          rw [hc3]; rfl)
      exact W.iret hx hb hr (fun t ht hW => ⟨⟨_, (), rfl, hres, trivial⟩, hS.F ht⟩) hS.2.2 dL_request_14
    have hc3 := hcd
    have hE3 : E = "java/lang/IndexOutOfBoundsException" := by have h8 : E = exN u := hEu; rw [h8, h9, hc3]; rfl
    subst hE3
    refine vx_catch (name := "java/lang/IndexOutOfBoundsException") hown [] ⟨0, 6, 7, 32⟩ [⟨0, 6, 11, 57⟩] (htab.trans rfl) (fun z hz => by cases hz) rfl (by decide) (hts _ w_272) (hE.use _ (List.mem_append_right _ (List.mem_map.mpr ⟨_, List.mem_of_getElem? (i := 0) rfl, rfl⟩))) hce hcv hcl ?_
    refine lv_astore_n (lv' := [(3, .ref q9), (0, .ref kr), (1, .int (iI (zs))), (2, .int (iI (zi)))]) hx hb dL_request_7 rfl hl (by decide) rfl (fun ls hl => ?_)
    refine lv_bipush (v := iI (-77)) hx hb dL_request_8 (by decide) ?_
    refine W.widen (k := 3) (n := 18) (by omega) (by omega) ?_
    have hres : iI (-77) = iI (exv (cdL sh it lnf zs zi)) := congrArg iI (by
        rw [hc3]; rfl)
    exact W.iret hx hb hr (fun t ht hW => ⟨⟨_, (), rfl, hres, trivial⟩, hS.F ht⟩) hS.2.2 dL_request_10
  obtain ⟨hc2, hw⟩ := hw
  subst hw
  have hP := P_kept hP hk1
  exact absurd hc2 hno

set_option maxHeartbeats 4000000 in
set_option maxRecDepth 100000 in
theorem m_L_request_ok_r (l : Launch) (hst : l.stackTraces = false) (D : va_G) (cs : Nat → ClassId) (kr la ia na b4 b6 b8 b10 sh it : Nat) (lc : Int) (dy : Nat) (pct lr sr : Int) (lf : Nat → Int) (itf : Nat → Option Nat) (lnf : Nat → Option Nat) (sn tn : Nat) (kn hi kl ke kd ks ka : Nat) (fd fk fv es sk so lo : Int) (ldn us ua : Nat) (lev : Int) (se ef ar : Nat → Int) (ti go pr : Nat) (pk fs st : Int) (hsh : sh ≤ 4) (hit : it ≤ 5) (hitf : ∀ j, j < it → itf j ≠ none) (hsn : sn < sh) (htn : tn < it) (hln : lnf (sn * 5 + tn) = some kn) (hlev : 0 ≤ lev ∧ lev ≤ 9990000) (hse : ∀ w, 100 ≤ se w ∧ se w ≤ 5000) (hef : ∀ j, 0 ≤ ef j ∧ ef j ≤ 1000) (hes : 0 ≤ es ∧ es ≤ 1000) (hpc : 1 ≤ pct ∧ pct ≤ 100) (hd : dy < 1000) (hld : ldn ≤ 5) (hsk : 0 ≤ sk ∧ sk ≤ 100000000) (hdu : 0 ≤ duI ar dy ∧ duI ar dy ≤ 100000000) (hp : 0 < pk ∧ pk ≤ 50) : Met l yL_request ws_L_request ({ frames := 9, cells := 3, slots := 18, locals := 149 }) (va_Pc [.ref kr, .int (iI (((sn : Nat) : Int))), .int (iI (((tn : Nat) : Int)))] (PE D cs [(kr, .inr (5, [.ref la, .ref ia, .ref na, .ref b4, .ref b6, .ref b8, .ref b10, .int (iI (((sh : Nat) : Int))), .int (iI (((it : Nat) : Int))), .int (iI (lc)), .int (iI (((dy : Nat) : Int))), .int (iI (pct)), .int (iI (lr)), .int (iI (sr))])), (la, arI cs 4 lf), (ia, arQ cs 2 5 itf), (na, arQ cs 3 20 lnf), (kn, .inr (3, [.ref hi, .int (iI (((ldn : Nat) : Int))), .int (iI (fd)), .int (iI (fk)), .int (iI (fv)), .ref kl, .ref ke, .ref kd, .ref ks, .ref ka, .int (iI (es)), .int (iI (sk)), .int (iI (so)), .int (iI (lo))])), (kl, .inr (2, [.ref us, .int (iI (lev))])), (us, arI cs 7 se), (ke, arI cs 21 ef), (ka, .inr (0, [.ref ua])), (ua, arI cs 1005 ar), (hi, .inr (1, [.int (iI (pk)), .int (iI (fs)), .ref ti, .ref go, .ref pr, .int (iI (st))]))] noA)) (va_Qi (fun r (_ : Unit) => r = iI (rqI (ndI lev se ef es pct sk ar dy ldn) pk)) (fun _ _ => True) noA) 3 18 noA := by
  refine va_MetW (cc := cL_request) (maxL := 4) (ret := some .int) (hh := [(0, 6, 7, 32), (0, 6, 11, 57)]) (by decide +kernel) rfl ?_
  intro p e s m args below meth c s₁ B hml hv
  obtain ⟨rfl, ⟨hP, hK, hD, hN⟩, hE⟩ := hv
  have hx := B.exec
  have hb := B.bytes
  have hr := B.returns
  have hts : ∀ w ∈ ALL, w.before _ s = true := fun w h => atoms_spec (ws := ws_L_request) B.pre w (List.mem_cons_of_mem _ h)
  have hown : s.vm.findClass RL = some m.cls := findClass_of_methodNamed B.named
  have hlocks := B.notSynchronized
  have htab : c.exceptionTable.toList = tableOf [(0, 6, 7, 32), (0, 6, 11, 57)] := vx_table (x := yL_request) B (atoms_spec (ws := ws_L_request) B.pre _ List.mem_cons_self)
  have hS : va_S noA s.heap s.heap [] := va_S.rf
  generalize inW [(kr, .inr (5, [.ref la, .ref ia, .ref na, .ref b4, .ref b6, .ref b8, .ref b10, .int (iI (((sh : Nat) : Int))), .int (iI (((it : Nat) : Int))), .int (iI (lc)), .int (iI (((dy : Nat) : Int))), .int (iI (pct)), .int (iI (lr)), .int (iI (sr))])), (la, arI cs 4 lf), (ia, arQ cs 2 5 itf), (na, arQ cs 3 20 lnf), (kn, .inr (3, [.ref hi, .int (iI (((ldn : Nat) : Int))), .int (iI (fd)), .int (iI (fk)), .int (iI (fv)), .ref kl, .ref ke, .ref kd, .ref ks, .ref ka, .int (iI (es)), .int (iI (sk)), .int (iI (so)), .int (iI (lo))])), (kl, .inr (2, [.ref us, .int (iI (lev))])), (us, arI cs 7 se), (ke, arI cs 21 ef), (ka, .inr (0, [.ref ua])), (ua, arI cs 1005 ar), (hi, .inr (1, [.int (iI (pk)), .int (iI (fs)), .ref ti, .ref go, .ref pr, .int (iI (st))]))] = A at hD
  have hl := lv_entry ([.ref kr, .int (iI (((sn : Nat) : Int))), .int (iI (((tn : Nat) : Int)))]) (n := 4) (Nat.le_of_ble_eq_true rfl)
  rw [lg_entry_eq]
  generalize (lg_sl ([.ref kr, .int (iI (((sn : Nat) : Int))), .int (iI (((tn : Nat) : Int)))]) ++ List.replicate (4 - (lg_sl ([.ref kr, .int (iI (((sn : Nat) : Int))), .int (iI (((tn : Nat) : Int)))])).length) Slot.unset).toArray = ls at hl ⊢
  have hl : lv_has ls 4 [(0, .ref kr), (1, .int (iI (((sn : Nat) : Int)))), (2, .int (iI (((tn : Nat) : Int))))] := hl
  have hH := rfl (a := s.heap)
  refine lv_aload_n hx hb dL_request_0 rfl (lv_at hl 0 rfl) ?_
  refine lv_iload_n hx hb dL_request_1 rfl (lv_at hl 1 rfl) ?_
  refine lv_iload_n hx hb dL_request_2 rfl (lv_at hl 2 rfl) ?_
  have pk1 : picks [(kr, .inr (5, [.ref la, .ref ia, .ref na, .ref b4, .ref b6, .ref b8, .ref b10, .int (iI (((sh : Nat) : Int))), .int (iI (((it : Nat) : Int))), .int (iI (lc)), .int (iI (((dy : Nat) : Int))), .int (iI (pct)), .int (iI (lr)), .int (iI (sr))])), (la, arI cs 4 lf), (ia, arQ cs 2 5 itf), (na, arQ cs 3 20 lnf), (kn, .inr (3, [.ref hi, .int (iI (((ldn : Nat) : Int))), .int (iI (fd)), .int (iI (fk)), .int (iI (fv)), .ref kl, .ref ke, .ref kd, .ref ks, .ref ka, .int (iI (es)), .int (iI (sk)), .int (iI (so)), .int (iI (lo))])), (kl, .inr (2, [.ref us, .int (iI (lev))])), (us, arI cs 7 se), (ke, arI cs 21 ef), (ka, .inr (0, [.ref ua])), (ua, arI cs 1005 ar), (hi, .inr (1, [.int (iI (pk)), .int (iI (fs)), .ref ti, .ref go, .ref pr, .int (iI (st))]))] [0, 1, 2, 3, 4, 5, 6, 7, 8, 9, 10] [(kr, .inr (5, [.ref la, .ref ia, .ref na, .ref b4, .ref b6, .ref b8, .ref b10, .int (iI (((sh : Nat) : Int))), .int (iI (((it : Nat) : Int))), .int (iI (lc)), .int (iI (((dy : Nat) : Int))), .int (iI (pct)), .int (iI (lr)), .int (iI (sr))])), (la, arI cs 4 lf), (ia, arQ cs 2 5 itf), (na, arQ cs 3 20 lnf), (kn, .inr (3, [.ref hi, .int (iI (((ldn : Nat) : Int))), .int (iI (fd)), .int (iI (fk)), .int (iI (fv)), .ref kl, .ref ke, .ref kd, .ref ks, .ref ka, .int (iI (es)), .int (iI (sk)), .int (iI (so)), .int (iI (lo))])), (kl, .inr (2, [.ref us, .int (iI (lev))])), (us, arI cs 7 se), (ke, arI cs 21 ef), (ka, .inr (0, [.ref ua])), (ua, arI cs 1005 ar), (hi, .inr (1, [.int (iI (pk)), .int (iI (fs)), .ref ti, .ref go, .ref pr, .int (iI (st))]))] := ⟨rfl, rfl, rfl, rfl, rfl, rfl, rfl, rfl, rfl, rfl, rfl, trivial⟩
  refine vx_calli (vx_runV (As := [.int (iI (((sn : Nat) : Int))), .int (iI (((tn : Nat) : Int)))]) (rest := []) ⟨hx, hb, hml, hown, hts⟩ (m_X5_request_ok l hst D cs kr la ia na b4 b6 b8 b10 sh it lc dy pct lr sr lf itf lnf sn tn kn hi kl ke kd ks ka fd fk fv es sk so lo ldn us ua lev se ef ar ti go pr pk fs st (hsh) (hit) (hitf) (hsn) (htn) (hln) (hlev) (hse) (hef) (hes) (hpc) (hd) (hld) (hsk) (hdu) (hp)) (cwV 2 hts (gV w_715 w_716 w_717 w_1 w_718) rfl rfl rfl (by decide +kernel) ⟨Nat.le_of_ble_eq_true rfl, Nat.le_of_ble_eq_true rfl⟩) (PE_V hK hN hE hS (fun _ h => False.elim h) hP hD [0, 1, 2, 3, 4, 5, 6, 7, 8, 9, 10] rfl pk1 rfl rfl) rfl rfl hl.1 rfl (lv_room (Nat.le_of_ble_eq_true rfl)) dL_request_3 ⟨Nat.le_of_ble_eq_true rfl, Nat.le_of_ble_eq_true rfl⟩) hS (fun _ _ h => False.elim h) (fun _ h => False.elim h) (fun _ _ h => False.elim h) (fun E ce q9 u t H1 locs1 ht hvm hpx hBX hz1 hk1 hS1 hce hcv hcl => ?_) (fun r u t H locs ht hvm hw hB hz1 hk1 hS => ?_)
  · exact absurd (hpx.1) hpx.2
  obtain ⟨hc2, hw⟩ := hw
  subst hw
  have hP := P_kept hP hk1
  refine W.widen (k := 3) (n := 18) (by omega) (by omega) ?_
  have hres : iI (rqI (ndI lev se ef es pct sk ar dy ldn) pk) = iI (rqI (ndI lev se ef es pct sk ar dy ldn) pk) := congrArg iI (by
      rfl)
  exact W.iret hx hb hr (fun t ht hW => ⟨⟨_, (), rfl, hres, trivial⟩, hS.F ht⟩) hS.2.2 dL_request_6

abbrev ws_L_share : List Cond := Cond.codeWith yL_share cL_share 4 (some .int) [(0, 6, 7, 32), (0, 6, 11, 57)] :: ALL
set_option maxHeartbeats 4000000 in
set_option maxRecDepth 100000 in
theorem m_L_share_no_t (l : Launch) (hst : l.stackTraces = false) (D : va_G) (cs : Nat → ClassId) (kr la ia na b4 b6 b8 b10 sh it : Nat) (lc : Int) (dy : Nat) (pct lr sr : Int) (lf : Nat → Int) (itf : Nat → Option Nat) (lnf : Nat → Option Nat) (zs zi : Int) (hsh : sh ≤ 4) (hit : it ≤ 5) (hitf : ∀ j, j < it → itf j ≠ none) (hzs : -2147483648 ≤ zs ∧ zs < 2147483648) (hzi : -2147483648 ≤ zi ∧ zi < 2147483648) (hno : cdL sh it lnf zs zi ≠ 0) : Met l yL_share ws_L_share ({ frames := 9, cells := 3, slots := 18, locals := 149 }) (va_Pc [.ref kr, .int (iI (zs)), .int (iI (zi))] (PE D cs [(kr, .inr (5, [.ref la, .ref ia, .ref na, .ref b4, .ref b6, .ref b8, .ref b10, .int (iI (((sh : Nat) : Int))), .int (iI (((it : Nat) : Int))), .int (iI (lc)), .int (iI (((dy : Nat) : Int))), .int (iI (pct)), .int (iI (lr)), .int (iI (sr))])), (la, arI cs 4 lf), (ia, arQ cs 2 5 itf), (na, arQ cs 3 20 lnf)] noA)) (va_Qi (fun r (_ : Unit) => r = iI (exv (cdL sh it lnf zs zi))) (fun _ _ => True) noA) 3 18 noA := by
  refine va_MetW (cc := cL_share) (maxL := 4) (ret := some .int) (hh := [(0, 6, 7, 32), (0, 6, 11, 57)]) (by decide +kernel) rfl ?_
  intro p e s m args below meth c s₁ B hml hv
  obtain ⟨rfl, ⟨hP, hK, hD, hN⟩, hE⟩ := hv
  have hx := B.exec
  have hb := B.bytes
  have hr := B.returns
  have hts : ∀ w ∈ ALL, w.before _ s = true := fun w h => atoms_spec (ws := ws_L_share) B.pre w (List.mem_cons_of_mem _ h)
  have hown : s.vm.findClass RL = some m.cls := findClass_of_methodNamed B.named
  have hlocks := B.notSynchronized
  have htab : c.exceptionTable.toList = tableOf [(0, 6, 7, 32), (0, 6, 11, 57)] := vx_table (x := yL_share) B (atoms_spec (ws := ws_L_share) B.pre _ List.mem_cons_self)
  have hS : va_S noA s.heap s.heap [] := va_S.rf
  generalize inW [(kr, .inr (5, [.ref la, .ref ia, .ref na, .ref b4, .ref b6, .ref b8, .ref b10, .int (iI (((sh : Nat) : Int))), .int (iI (((it : Nat) : Int))), .int (iI (lc)), .int (iI (((dy : Nat) : Int))), .int (iI (pct)), .int (iI (lr)), .int (iI (sr))])), (la, arI cs 4 lf), (ia, arQ cs 2 5 itf), (na, arQ cs 3 20 lnf)] = A at hD
  have hl := lv_entry ([.ref kr, .int (iI (zs)), .int (iI (zi))]) (n := 4) (Nat.le_of_ble_eq_true rfl)
  rw [lg_entry_eq]
  generalize (lg_sl ([.ref kr, .int (iI (zs)), .int (iI (zi))]) ++ List.replicate (4 - (lg_sl ([.ref kr, .int (iI (zs)), .int (iI (zi))])).length) Slot.unset).toArray = ls at hl ⊢
  have hl : lv_has ls 4 [(0, .ref kr), (1, .int (iI (zs))), (2, .int (iI (zi)))] := hl
  have hH := rfl (a := s.heap)
  refine lv_aload_n hx hb dL_share_0 rfl (lv_at hl 0 rfl) ?_
  refine lv_iload_n hx hb dL_share_1 rfl (lv_at hl 1 rfl) ?_
  refine lv_iload_n hx hb dL_share_2 rfl (lv_at hl 2 rfl) ?_
  have pk1 : picks [(kr, .inr (5, [.ref la, .ref ia, .ref na, .ref b4, .ref b6, .ref b8, .ref b10, .int (iI (((sh : Nat) : Int))), .int (iI (((it : Nat) : Int))), .int (iI (lc)), .int (iI (((dy : Nat) : Int))), .int (iI (pct)), .int (iI (lr)), .int (iI (sr))])), (la, arI cs 4 lf), (ia, arQ cs 2 5 itf), (na, arQ cs 3 20 lnf)] [0, 1, 2, 3] [(kr, .inr (5, [.ref la, .ref ia, .ref na, .ref b4, .ref b6, .ref b8, .ref b10, .int (iI (((sh : Nat) : Int))), .int (iI (((it : Nat) : Int))), .int (iI (lc)), .int (iI (((dy : Nat) : Int))), .int (iI (pct)), .int (iI (lr)), .int (iI (sr))])), (la, arI cs 4 lf), (ia, arQ cs 2 5 itf), (na, arQ cs 3 20 lnf)] := ⟨rfl, rfl, rfl, rfl, trivial⟩
  refine vx_calli (vx_runV (As := [.int (iI (zs)), .int (iI (zi))]) (rest := []) ⟨hx, hb, hml, hown, hts⟩ (m_X5_share_no l hst D cs kr la ia na b4 b6 b8 b10 sh it lc dy pct lr sr lf itf lnf zs zi (hsh) (hit) (hitf) (hzs) (hzi) (hno)) (cwV 2 hts (gV w_673 w_674 w_675 w_1 w_676) rfl rfl rfl (by decide +kernel) ⟨Nat.le_of_ble_eq_true rfl, Nat.le_of_ble_eq_true rfl⟩) (PE_V hK hN hE hS (fun _ h => False.elim h) hP hD [0, 1, 2, 3] rfl pk1 rfl rfl) rfl rfl hl.1 rfl (lv_room (Nat.le_of_ble_eq_true rfl)) dL_share_3 ⟨Nat.le_of_ble_eq_true rfl, Nat.le_of_ble_eq_true rfl⟩) hS (fun _ _ h => False.elim h) (fun _ h => False.elim h) (fun _ _ h => False.elim h) (fun E ce q9 u t H1 locs1 ht hvm hpx hBX hz1 hk1 hS1 hce hcv hcl => ?_) (fun r u t H locs ht hvm hw hB hz1 hk1 hS => ?_)
  · have h9 : u = cdL sh it lnf zs zi := hpx.1
    have hS := hS1
    have hcd : cdL sh it lnf zs zi = 2 ∨ cdL sh it lnf zs zi = 1 := by
      revert hno
      (try unfold cdL); (try unfold cdS); (try unfold cdC)
      (repeat' split) <;> simp
    have hEu := hBX
    have hP := P_kept hP hk1
    rcases hcd with hc3 | hcd
    · have hE3 : E = "java/util/NoSuchElementException" := by have h8 : E = exN u := hEu; rw [h8, h9, hc3]; rfl
      subst hE3
      refine vx_catch (name := "java/util/NoSuchElementException") hown [⟨0, 6, 7, 32⟩] ⟨0, 6, 11, 57⟩ [] (htab.trans rfl) (fun z hz => by
          simp only [List.mem_cons, List.not_mem_nil, or_false] at hz
          rcases hz with rfl
          · exact Or.inr ⟨by decide, "java/lang/IndexOutOfBoundsException", hts _ w_272, hE.2.2.2.2.2 _ (List.mem_of_getElem? (i := 10) rfl)⟩) rfl (by decide) (hts _ w_460) (hE.use _ (List.mem_append_right _ (List.mem_map.mpr ⟨_, List.mem_of_getElem? (i := 1) rfl, rfl⟩))) hce hcv hcl ?_
      refine lv_astore_n (lv' := [(3, .ref q9), (0, .ref kr), (1, .int (iI (zs))), (2, .int (iI (zi)))]) hx hb dL_share_11 rfl hl (by decide) rfl (fun ls hl => ?_)
      refine lv_bipush (v := iI (-75)) hx hb dL_share_12 (by decide) ?_
      refine W.widen (k := 3) (n := 18) (by omega) (by omega) ?_
      have hres : iI (-75) = iI (exv (cdL sh it lnf zs zi)) := congrArg iI (by
          rw [hc3]; rfl)
      exact W.iret hx hb hr (fun t ht hW => ⟨⟨_, (), rfl, hres, trivial⟩, hS.F ht⟩) hS.2.2 dL_share_14
    have hc3 := hcd
    have hE3 : E = "java/lang/IndexOutOfBoundsException" := by have h8 : E = exN u := hEu; rw [h8, h9, hc3]; rfl
    subst hE3
    refine vx_catch (name := "java/lang/IndexOutOfBoundsException") hown [] ⟨0, 6, 7, 32⟩ [⟨0, 6, 11, 57⟩] (htab.trans rfl) (fun z hz => by cases hz) rfl (by decide) (hts _ w_272) (hE.use _ (List.mem_append_right _ (List.mem_map.mpr ⟨_, List.mem_of_getElem? (i := 0) rfl, rfl⟩))) hce hcv hcl ?_
    refine lv_astore_n (lv' := [(3, .ref q9), (0, .ref kr), (1, .int (iI (zs))), (2, .int (iI (zi)))]) hx hb dL_share_7 rfl hl (by decide) rfl (fun ls hl => ?_)
    refine lv_bipush (v := iI (-77)) hx hb dL_share_8 (by decide) ?_
    refine W.widen (k := 3) (n := 18) (by omega) (by omega) ?_
    have hres : iI (-77) = iI (exv (cdL sh it lnf zs zi)) := congrArg iI (by
        rw [hc3]; rfl)
    exact W.iret hx hb hr (fun t ht hW => ⟨⟨_, (), rfl, hres, trivial⟩, hS.F ht⟩) hS.2.2 dL_share_10
  obtain ⟨hc2, hw⟩ := hw
  subst hw
  have hP := P_kept hP hk1
  exact absurd hc2 hno

set_option maxHeartbeats 4000000 in
set_option maxRecDepth 100000 in
theorem m_L_share_ok_r (l : Launch) (hst : l.stackTraces = false) (D : va_G) (cs : Nat → ClassId) (kr la ia na b4 b6 b8 b10 sh it : Nat) (lc : Int) (dy : Nat) (pct lr sr : Int) (ulr usr ur uq ug : Nat) (lf lrf srf rse rq gv : Nat → Int) (rv pn : Int) (IA LA : Nat → Nat → Nat) (cr : Nat → Bool) (IR : Nat → IT) (LR : Nat → LT) (sn tn : Nat) (hsh : sh ≤ 4) (hit : it ≤ 5) (hsn : sn < sh) (htn : tn < it) (hcr : cr (sn * 5 + tn) = true) (hd : dy < 1000) (hpc : 1 ≤ pct ∧ pct ≤ 100) (hlk : ∀ s, lOK dy (LR (s * 5 + tn))) (hik : iOK (IR tn)) : Met l yL_share ws_L_share ({ frames := 9, cells := 3, slots := 18, locals := 149 }) (va_Pc [.ref kr, .int (iI (((sn : Nat) : Int))), .int (iI (((tn : Nat) : Int)))] (PE D cs ([(kr, .inr (5, [.ref la, .ref ia, .ref na, .ref b4, .ref b6, .ref b8, .ref b10, .int (iI (((sh : Nat) : Int))), .int (iI (((it : Nat) : Int))), .int (iI (lc)), .int (iI (((dy : Nat) : Int))), .int (iI (pct)), .int (iI (lr)), .int (iI (sr))])), (la, arI cs 4 lf), (ia, arQ cs 2 5 (itq it IA)), (na, arQ cs 3 20 (lnq cr LA)), (b4, .inr (0, [.ref ulr])), (ulr, arI cs 1005 lrf), (b6, .inr (0, [.ref usr])), (usr, arI cs 1005 srf), (b8, .inr (2, [.ref ur, .int (iI (rv))])), (ur, arI cs 7 rse), (b10, .inr (4, [.ref uq, .ref ug, .int (iI (pn))])), (uq, arI cs 4 rq), (ug, arI cs 4 gv)] ++ (aW cs IA LA it cr IR LR)) (inW ([(kr, .inr (5, [.ref la, .ref ia, .ref na, .ref b4, .ref b6, .ref b8, .ref b10, .int (iI (((sh : Nat) : Int))), .int (iI (((it : Nat) : Int))), .int (iI (lc)), .int (iI (((dy : Nat) : Int))), .int (iI (pct)), .int (iI (lr)), .int (iI (sr))])), (la, arI cs 4 lf), (ia, arQ cs 2 5 (itq it IA)), (na, arQ cs 3 20 (lnq cr LA)), (b4, .inr (0, [.ref ulr])), (ulr, arI cs 1005 lrf), (b6, .inr (0, [.ref usr])), (usr, arI cs 1005 srf), (b8, .inr (2, [.ref ur, .int (iI (rv))])), (ur, arI cs 7 rse), (b10, .inr (4, [.ref uq, .ref ug, .int (iI (pn))])), (uq, arI cs 4 rq), (ug, arI cs 4 gv)] ++ (aW cs IA LA it cr IR LR))))) (va_Qi (fun r (_ : Unit) => r = iI (ctI (rqA dy pct cr IR LR tn sh) (ist (IR tn) / ipk (IR tn)) sn 32 0 (rqA dy pct cr IR LR tn sh sn))) (fun _ t => va_P D vwCl ([(kr, .inr (5, [.ref la, .ref ia, .ref na, .ref b4, .ref b6, .ref b8, .ref b10, .int (iI (((sh : Nat) : Int))), .int (iI (((it : Nat) : Int))), .int (iI (lc)), .int (iI (((dy : Nat) : Int))), .int (iI (pct)), .int (iI (lr)), .int (iI (sr))])), (la, arI cs 4 lf), (ia, arQ cs 2 5 (itq it IA)), (na, arQ cs 3 20 (lnq cr LA)), (b4, .inr (0, [.ref ulr])), (ulr, arI cs 1005 lrf), (b6, .inr (0, [.ref usr])), (usr, arI cs 1005 srf), (b8, .inr (2, [.ref ur, .int (iI (rv))])), (ur, arI cs 7 rse), (b10, .inr (4, [.ref uq, .ref ug, .int (iI (ist (IR tn) / ipk (IR tn)))])), (uq, arI cs 4 (rqA dy pct cr IR LR tn sh)), (ug, arI cs 4 gv)] ++ (aW cs IA LA it cr IR LR)) t.heap) (inW ([(kr, .inr (5, [.ref la, .ref ia, .ref na, .ref b4, .ref b6, .ref b8, .ref b10, .int (iI (((sh : Nat) : Int))), .int (iI (((it : Nat) : Int))), .int (iI (lc)), .int (iI (((dy : Nat) : Int))), .int (iI (pct)), .int (iI (lr)), .int (iI (sr))])), (la, arI cs 4 lf), (ia, arQ cs 2 5 (itq it IA)), (na, arQ cs 3 20 (lnq cr LA)), (b4, .inr (0, [.ref ulr])), (ulr, arI cs 1005 lrf), (b6, .inr (0, [.ref usr])), (usr, arI cs 1005 srf), (b8, .inr (2, [.ref ur, .int (iI (rv))])), (ur, arI cs 7 rse), (b10, .inr (4, [.ref uq, .ref ug, .int (iI (pn))])), (uq, arI cs 4 rq), (ug, arI cs 4 gv)] ++ (aW cs IA LA it cr IR LR)))) 3 18 (inW ([(kr, .inr (5, [.ref la, .ref ia, .ref na, .ref b4, .ref b6, .ref b8, .ref b10, .int (iI (((sh : Nat) : Int))), .int (iI (((it : Nat) : Int))), .int (iI (lc)), .int (iI (((dy : Nat) : Int))), .int (iI (pct)), .int (iI (lr)), .int (iI (sr))])), (la, arI cs 4 lf), (ia, arQ cs 2 5 (itq it IA)), (na, arQ cs 3 20 (lnq cr LA)), (b4, .inr (0, [.ref ulr])), (ulr, arI cs 1005 lrf), (b6, .inr (0, [.ref usr])), (usr, arI cs 1005 srf), (b8, .inr (2, [.ref ur, .int (iI (rv))])), (ur, arI cs 7 rse), (b10, .inr (4, [.ref uq, .ref ug, .int (iI (pn))])), (uq, arI cs 4 rq), (ug, arI cs 4 gv)] ++ (aW cs IA LA it cr IR LR))) := by
  refine va_MetW (cc := cL_share) (maxL := 4) (ret := some .int) (hh := [(0, 6, 7, 32), (0, 6, 11, 57)]) (by decide +kernel) rfl ?_
  intro p e s m args below meth c s₁ B hml hv
  obtain ⟨rfl, ⟨hP, hK, hD, hN⟩, hE⟩ := hv
  have hx := B.exec
  have hb := B.bytes
  have hr := B.returns
  have hts : ∀ w ∈ ALL, w.before _ s = true := fun w h => atoms_spec (ws := ws_L_share) B.pre w (List.mem_cons_of_mem _ h)
  have hown : s.vm.findClass RL = some m.cls := findClass_of_methodNamed B.named
  have hlocks := B.notSynchronized
  have htab : c.exceptionTable.toList = tableOf [(0, 6, 7, 32), (0, 6, 11, 57)] := vx_table (x := yL_share) B (atoms_spec (ws := ws_L_share) B.pre _ List.mem_cons_self)
  generalize hAe : inW ([(kr, .inr (5, [.ref la, .ref ia, .ref na, .ref b4, .ref b6, .ref b8, .ref b10, .int (iI (((sh : Nat) : Int))), .int (iI (((it : Nat) : Int))), .int (iI (lc)), .int (iI (((dy : Nat) : Int))), .int (iI (pct)), .int (iI (lr)), .int (iI (sr))])), (la, arI cs 4 lf), (ia, arQ cs 2 5 (itq it IA)), (na, arQ cs 3 20 (lnq cr LA)), (b4, .inr (0, [.ref ulr])), (ulr, arI cs 1005 lrf), (b6, .inr (0, [.ref usr])), (usr, arI cs 1005 srf), (b8, .inr (2, [.ref ur, .int (iI (rv))])), (ur, arI cs 7 rse), (b10, .inr (4, [.ref uq, .ref ug, .int (iI (pn))])), (uq, arI cs 4 rq), (ug, arI cs 4 gv)] ++ (aW cs IA LA it cr IR LR)) = A at hD hE ⊢
  have hS : va_S A s.heap s.heap [] := va_S.rf
  have hl := lv_entry ([.ref kr, .int (iI (((sn : Nat) : Int))), .int (iI (((tn : Nat) : Int)))]) (n := 4) (Nat.le_of_ble_eq_true rfl)
  rw [lg_entry_eq]
  generalize (lg_sl ([.ref kr, .int (iI (((sn : Nat) : Int))), .int (iI (((tn : Nat) : Int)))]) ++ List.replicate (4 - (lg_sl ([.ref kr, .int (iI (((sn : Nat) : Int))), .int (iI (((tn : Nat) : Int)))])).length) Slot.unset).toArray = ls at hl ⊢
  have hl : lv_has ls 4 [(0, .ref kr), (1, .int (iI (((sn : Nat) : Int)))), (2, .int (iI (((tn : Nat) : Int))))] := hl
  have hH := rfl (a := s.heap)
  refine lv_aload_n hx hb dL_share_0 rfl (lv_at hl 0 rfl) ?_
  refine lv_iload_n hx hb dL_share_1 rfl (lv_at hl 1 rfl) ?_
  refine lv_iload_n hx hb dL_share_2 rfl (lv_at hl 2 rfl) ?_
  refine vx_calli (vx_runV (As := [.int (iI (((sn : Nat) : Int))), .int (iI (((tn : Nat) : Int)))]) (rest := []) ⟨hx, hb, hml, hown, hts⟩ (m_X5_share_ok l hst D cs kr la ia na b4 b6 b8 b10 sh it lc dy pct lr sr ulr usr ur uq ug lf lrf srf rse rq gv rv pn IA LA cr IR LR sn tn (hsh) (hit) (hsn) (htn) (hcr) (hd) (hpc) (hlk) (hik)) (cwV 2 hts (gV w_673 w_674 w_675 w_1 w_676) rfl rfl rfl (by decide +kernel) ⟨Nat.le_of_ble_eq_true rfl, Nat.le_of_ble_eq_true rfl⟩) (PE_Va hK hN hE hS (fun q h => inW_suba hD q h) hP hD rfl rfl) rfl rfl hl.1 rfl (lv_room (Nat.le_of_ble_eq_true rfl)) dL_share_3 ⟨Nat.le_of_ble_eq_true rfl, Nat.le_of_ble_eq_true rfl⟩) hS (fun q _ h => inW_suba hD q h) (fun q h => inW_suba hD q h) (fun q _ h => inW_suba hD q h) (fun E ce q9 u t H1 locs1 ht hvm hpx hBX hz1 hk1 hS1 hce hcv hcl => ?_) (fun r u t H locs ht hvm hw hB hz1 hk1 hS => ?_)
  · exact absurd (hpx.1) hpx.2
  obtain ⟨hc2, hw⟩ := hw
  subst hw
  rw [ht] at hB
  have hP : va_P D vwCl ([(kr, .inr (5, [.ref la, .ref ia, .ref na, .ref b4, .ref b6, .ref b8, .ref b10, .int (iI (((sh : Nat) : Int))), .int (iI (((it : Nat) : Int))), .int (iI (lc)), .int (iI (((dy : Nat) : Int))), .int (iI (pct)), .int (iI (lr)), .int (iI (sr))])), (la, arI cs 4 lf), (ia, arQ cs 2 5 (itq it IA)), (na, arQ cs 3 20 (lnq cr LA)), (b4, .inr (0, [.ref ulr])), (ulr, arI cs 1005 lrf), (b6, .inr (0, [.ref usr])), (usr, arI cs 1005 srf), (b8, .inr (2, [.ref ur, .int (iI (rv))])), (ur, arI cs 7 rse), (b10, .inr (4, [.ref uq, .ref ug, .int (iI (ist (IR tn) / ipk (IR tn)))])), (uq, arI cs 4 (rqA dy pct cr IR LR tn sh)), (ug, arI cs 4 gv)] ++ (aW cs IA LA it cr IR LR)) H := hB
  have hD : va_D A ([(kr, .inr (5, [.ref la, .ref ia, .ref na, .ref b4, .ref b6, .ref b8, .ref b10, .int (iI (((sh : Nat) : Int))), .int (iI (((it : Nat) : Int))), .int (iI (lc)), .int (iI (((dy : Nat) : Int))), .int (iI (pct)), .int (iI (lr)), .int (iI (sr))])), (la, arI cs 4 lf), (ia, arQ cs 2 5 (itq it IA)), (na, arQ cs 3 20 (lnq cr LA)), (b4, .inr (0, [.ref ulr])), (ulr, arI cs 1005 lrf), (b6, .inr (0, [.ref usr])), (usr, arI cs 1005 srf), (b8, .inr (2, [.ref ur, .int (iI (rv))])), (ur, arI cs 7 rse), (b10, .inr (4, [.ref uq, .ref ug, .int (iI (ist (IR tn) / ipk (IR tn)))])), (uq, arI cs 4 (rqA dy pct cr IR LR tn sh)), (ug, arI cs 4 gv)] ++ (aW cs IA LA it cr IR LR)) := D_fst hD (fst_ap rfl aW_fst)
  subst hAe
  refine W.widen (k := 3) (n := 18) (by omega) (by omega) ?_
  have hres : iI (ctI (rqA dy pct cr IR LR tn sh) (ist (IR tn) / ipk (IR tn)) sn 32 0 (rqA dy pct cr IR LR tn sh sn)) = iI (ctI (rqA dy pct cr IR LR tn sh) (ist (IR tn) / ipk (IR tn)) sn 32 0 (rqA dy pct cr IR LR tn sh sn)) := congrArg iI (by
      rfl)
  exact W.iret hx hb hr (fun t ht hW => ⟨⟨_, (), rfl, hres, by show va_P D vwCl _ t.heap; rw [ht]; exact hP⟩, hS.F ht⟩) hS.2.2 dL_share_6

abbrev ws_L_safety : List Cond := Cond.codeWith yL_safety cL_safety 4 (some .int) [(0, 6, 7, 32), (0, 6, 11, 57)] :: ALL
set_option maxHeartbeats 4000000 in
set_option maxRecDepth 100000 in
theorem m_L_safety_ok_r (l : Launch) (hst : l.stackTraces = false) (D : va_G) (cs : Nat → ClassId) (kr la ia na b4 b6 b8 b10 sh it : Nat) (lc : Int) (dy : Nat) (pct lr sr : Int) (lf : Nat → Int) (itf : Nat → Option Nat) (lnf : Nat → Option Nat) (sn tn : Nat) (kn hi kl ke kd ks ka : Nat) (ld fd fk fv es sk so lo : Int) (ef : Nat → Int) (hsh : sh ≤ 4) (hit : it ≤ 5) (hitf : ∀ j, j < it → itf j ≠ none) (hsn : sn < sh) (htn : tn < it) (hln : lnf (sn * 5 + tn) = some kn) (hef : ∀ j, 0 ≤ ef j ∧ ef j ≤ 1000) (hes : 0 ≤ es ∧ es ≤ 1000) (hpc : 1 ≤ pct ∧ pct ≤ 100) : Met l yL_safety ws_L_safety ({ frames := 9, cells := 3, slots := 18, locals := 149 }) (va_Pc [.ref kr, .int (iI (((sn : Nat) : Int))), .int (iI (((tn : Nat) : Int)))] (PE D cs [(kr, .inr (5, [.ref la, .ref ia, .ref na, .ref b4, .ref b6, .ref b8, .ref b10, .int (iI (((sh : Nat) : Int))), .int (iI (((it : Nat) : Int))), .int (iI (lc)), .int (iI (((dy : Nat) : Int))), .int (iI (pct)), .int (iI (lr)), .int (iI (sr))])), (la, arI cs 4 lf), (ia, arQ cs 2 5 itf), (na, arQ cs 3 20 lnf), (kn, .inr (3, [.ref hi, .int (iI (ld)), .int (iI (fd)), .int (iI (fk)), .int (iI (fv)), .ref kl, .ref ke, .ref kd, .ref ks, .ref ka, .int (iI (es)), .int (iI (sk)), .int (iI (so)), .int (iI (lo))])), (ke, arI cs 21 ef)] noA)) (va_Qi (fun r (_ : Unit) => r = iI (sfI ef es pct 0 21)) (fun _ _ => True) noA) 3 18 noA := by
  refine va_MetW (cc := cL_safety) (maxL := 4) (ret := some .int) (hh := [(0, 6, 7, 32), (0, 6, 11, 57)]) (by decide +kernel) rfl ?_
  intro p e s m args below meth c s₁ B hml hv
  obtain ⟨rfl, ⟨hP, hK, hD, hN⟩, hE⟩ := hv
  have hx := B.exec
  have hb := B.bytes
  have hr := B.returns
  have hts : ∀ w ∈ ALL, w.before _ s = true := fun w h => atoms_spec (ws := ws_L_safety) B.pre w (List.mem_cons_of_mem _ h)
  have hown : s.vm.findClass RL = some m.cls := findClass_of_methodNamed B.named
  have hlocks := B.notSynchronized
  have htab : c.exceptionTable.toList = tableOf [(0, 6, 7, 32), (0, 6, 11, 57)] := vx_table (x := yL_safety) B (atoms_spec (ws := ws_L_safety) B.pre _ List.mem_cons_self)
  have hS : va_S noA s.heap s.heap [] := va_S.rf
  generalize inW [(kr, .inr (5, [.ref la, .ref ia, .ref na, .ref b4, .ref b6, .ref b8, .ref b10, .int (iI (((sh : Nat) : Int))), .int (iI (((it : Nat) : Int))), .int (iI (lc)), .int (iI (((dy : Nat) : Int))), .int (iI (pct)), .int (iI (lr)), .int (iI (sr))])), (la, arI cs 4 lf), (ia, arQ cs 2 5 itf), (na, arQ cs 3 20 lnf), (kn, .inr (3, [.ref hi, .int (iI (ld)), .int (iI (fd)), .int (iI (fk)), .int (iI (fv)), .ref kl, .ref ke, .ref kd, .ref ks, .ref ka, .int (iI (es)), .int (iI (sk)), .int (iI (so)), .int (iI (lo))])), (ke, arI cs 21 ef)] = A at hD
  have hl := lv_entry ([.ref kr, .int (iI (((sn : Nat) : Int))), .int (iI (((tn : Nat) : Int)))]) (n := 4) (Nat.le_of_ble_eq_true rfl)
  rw [lg_entry_eq]
  generalize (lg_sl ([.ref kr, .int (iI (((sn : Nat) : Int))), .int (iI (((tn : Nat) : Int)))]) ++ List.replicate (4 - (lg_sl ([.ref kr, .int (iI (((sn : Nat) : Int))), .int (iI (((tn : Nat) : Int)))])).length) Slot.unset).toArray = ls at hl ⊢
  have hl : lv_has ls 4 [(0, .ref kr), (1, .int (iI (((sn : Nat) : Int)))), (2, .int (iI (((tn : Nat) : Int))))] := hl
  have hH := rfl (a := s.heap)
  refine lv_aload_n hx hb dL_safety_0 rfl (lv_at hl 0 rfl) ?_
  refine lv_iload_n hx hb dL_safety_1 rfl (lv_at hl 1 rfl) ?_
  refine lv_iload_n hx hb dL_safety_2 rfl (lv_at hl 2 rfl) ?_
  have pk1 : picks [(kr, .inr (5, [.ref la, .ref ia, .ref na, .ref b4, .ref b6, .ref b8, .ref b10, .int (iI (((sh : Nat) : Int))), .int (iI (((it : Nat) : Int))), .int (iI (lc)), .int (iI (((dy : Nat) : Int))), .int (iI (pct)), .int (iI (lr)), .int (iI (sr))])), (la, arI cs 4 lf), (ia, arQ cs 2 5 itf), (na, arQ cs 3 20 lnf), (kn, .inr (3, [.ref hi, .int (iI (ld)), .int (iI (fd)), .int (iI (fk)), .int (iI (fv)), .ref kl, .ref ke, .ref kd, .ref ks, .ref ka, .int (iI (es)), .int (iI (sk)), .int (iI (so)), .int (iI (lo))])), (ke, arI cs 21 ef)] [0, 1, 2, 3, 4, 5] [(kr, .inr (5, [.ref la, .ref ia, .ref na, .ref b4, .ref b6, .ref b8, .ref b10, .int (iI (((sh : Nat) : Int))), .int (iI (((it : Nat) : Int))), .int (iI (lc)), .int (iI (((dy : Nat) : Int))), .int (iI (pct)), .int (iI (lr)), .int (iI (sr))])), (la, arI cs 4 lf), (ia, arQ cs 2 5 itf), (na, arQ cs 3 20 lnf), (kn, .inr (3, [.ref hi, .int (iI (ld)), .int (iI (fd)), .int (iI (fk)), .int (iI (fv)), .ref kl, .ref ke, .ref kd, .ref ks, .ref ka, .int (iI (es)), .int (iI (sk)), .int (iI (so)), .int (iI (lo))])), (ke, arI cs 21 ef)] := ⟨rfl, rfl, rfl, rfl, rfl, rfl, trivial⟩
  refine vx_calli (vx_runV (As := [.int (iI (((sn : Nat) : Int))), .int (iI (((tn : Nat) : Int)))]) (rest := []) ⟨hx, hb, hml, hown, hts⟩ (m_X5_safety_ok l hst D cs kr la ia na b4 b6 b8 b10 sh it lc dy pct lr sr lf itf lnf sn tn kn hi kl ke kd ks ka ld fd fk fv es sk so lo ef (hsh) (hit) (hitf) (hsn) (htn) (hln) (hef) (hes) (hpc)) (cwV 2 hts (gV w_740 w_741 w_742 w_1 w_743) rfl rfl rfl (by decide +kernel) ⟨Nat.le_of_ble_eq_true rfl, Nat.le_of_ble_eq_true rfl⟩) (PE_V hK hN hE hS (fun _ h => False.elim h) hP hD [0, 1, 2, 3, 4, 5] rfl pk1 rfl rfl) rfl rfl hl.1 rfl (lv_room (Nat.le_of_ble_eq_true rfl)) dL_safety_3 ⟨Nat.le_of_ble_eq_true rfl, Nat.le_of_ble_eq_true rfl⟩) hS (fun _ _ h => False.elim h) (fun _ h => False.elim h) (fun _ _ h => False.elim h) (fun E ce q9 u t H1 locs1 ht hvm hpx hBX hz1 hk1 hS1 hce hcv hcl => ?_) (fun r u t H locs ht hvm hw hB hz1 hk1 hS => ?_)
  · exact absurd (hpx.1) hpx.2
  obtain ⟨hc2, hw⟩ := hw
  subst hw
  have hP := P_kept hP hk1
  refine W.widen (k := 3) (n := 18) (by omega) (by omega) ?_
  have hres : iI (sfI ef es pct 0 21) = iI (sfI ef es pct 0 21) := congrArg iI (by
      rfl)
  exact W.iret hx hb hr (fun t ht hW => ⟨⟨_, (), rfl, hres, trivial⟩, hS.F ht⟩) hS.2.2 dL_safety_6

abbrev ws_L_stockByJournal : List Cond := Cond.codeWith yL_stockByJournal cL_stockByJournal 4 (some .int) [(0, 6, 7, 32), (0, 6, 11, 57)] :: ALL
set_option maxHeartbeats 4000000 in
set_option maxRecDepth 100000 in
theorem m_L_stockByJournal_ok_r (l : Launch) (hst : l.stackTraces = false) (D : va_G) (cs : Nat → ClassId) (kr la ia na b4 b6 b8 b10 sh it : Nat) (lc : Int) (dy : Nat) (pct lr sr : Int) (lf : Nat → Int) (itf : Nat → Option Nat) (lnf : Nat → Option Nat) (sn tn : Nat) (kn hi kl ke kd ks ka : Nat) (ld fd fk fv es sk so lo : Int) (ua uls : Nat) (ar sl : Nat → Int) (hsh : sh ≤ 4) (hit : it ≤ 5) (hitf : ∀ j, j < it → itf j ≠ none) (hsn : sn < sh) (htn : tn < it) (hln : lnf (sn * 5 + tn) = some kn) (hd : dy < 1000) : Met l yL_stockByJournal ws_L_stockByJournal ({ frames := 9, cells := 3, slots := 18, locals := 149 }) (va_Pc [.ref kr, .int (iI (((sn : Nat) : Int))), .int (iI (((tn : Nat) : Int)))] (PE D cs [(kr, .inr (5, [.ref la, .ref ia, .ref na, .ref b4, .ref b6, .ref b8, .ref b10, .int (iI (((sh : Nat) : Int))), .int (iI (((it : Nat) : Int))), .int (iI (lc)), .int (iI (((dy : Nat) : Int))), .int (iI (pct)), .int (iI (lr)), .int (iI (sr))])), (la, arI cs 4 lf), (ia, arQ cs 2 5 itf), (na, arQ cs 3 20 lnf), (kn, .inr (3, [.ref hi, .int (iI (ld)), .int (iI (fd)), .int (iI (fk)), .int (iI (fv)), .ref kl, .ref ke, .ref kd, .ref ks, .ref ka, .int (iI (es)), .int (iI (sk)), .int (iI (so)), .int (iI (lo))])), (ka, .inr (0, [.ref ua])), (ua, arI cs 1005 ar), (ks, .inr (0, [.ref uls])), (uls, arI cs 1005 sl)] noA)) (va_Qi (fun r (_ : Unit) => r = iI (fk + smI ar (dy + 1) - smI sl (dy + 1))) (fun _ _ => True) noA) 3 18 noA := by
  refine va_MetW (cc := cL_stockByJournal) (maxL := 4) (ret := some .int) (hh := [(0, 6, 7, 32), (0, 6, 11, 57)]) (by decide +kernel) rfl ?_
  intro p e s m args below meth c s₁ B hml hv
  obtain ⟨rfl, ⟨hP, hK, hD, hN⟩, hE⟩ := hv
  have hx := B.exec
  have hb := B.bytes
  have hr := B.returns
  have hts : ∀ w ∈ ALL, w.before _ s = true := fun w h => atoms_spec (ws := ws_L_stockByJournal) B.pre w (List.mem_cons_of_mem _ h)
  have hown : s.vm.findClass RL = some m.cls := findClass_of_methodNamed B.named
  have hlocks := B.notSynchronized
  have htab : c.exceptionTable.toList = tableOf [(0, 6, 7, 32), (0, 6, 11, 57)] := vx_table (x := yL_stockByJournal) B (atoms_spec (ws := ws_L_stockByJournal) B.pre _ List.mem_cons_self)
  have hS : va_S noA s.heap s.heap [] := va_S.rf
  generalize inW [(kr, .inr (5, [.ref la, .ref ia, .ref na, .ref b4, .ref b6, .ref b8, .ref b10, .int (iI (((sh : Nat) : Int))), .int (iI (((it : Nat) : Int))), .int (iI (lc)), .int (iI (((dy : Nat) : Int))), .int (iI (pct)), .int (iI (lr)), .int (iI (sr))])), (la, arI cs 4 lf), (ia, arQ cs 2 5 itf), (na, arQ cs 3 20 lnf), (kn, .inr (3, [.ref hi, .int (iI (ld)), .int (iI (fd)), .int (iI (fk)), .int (iI (fv)), .ref kl, .ref ke, .ref kd, .ref ks, .ref ka, .int (iI (es)), .int (iI (sk)), .int (iI (so)), .int (iI (lo))])), (ka, .inr (0, [.ref ua])), (ua, arI cs 1005 ar), (ks, .inr (0, [.ref uls])), (uls, arI cs 1005 sl)] = A at hD
  have hl := lv_entry ([.ref kr, .int (iI (((sn : Nat) : Int))), .int (iI (((tn : Nat) : Int)))]) (n := 4) (Nat.le_of_ble_eq_true rfl)
  rw [lg_entry_eq]
  generalize (lg_sl ([.ref kr, .int (iI (((sn : Nat) : Int))), .int (iI (((tn : Nat) : Int)))]) ++ List.replicate (4 - (lg_sl ([.ref kr, .int (iI (((sn : Nat) : Int))), .int (iI (((tn : Nat) : Int)))])).length) Slot.unset).toArray = ls at hl ⊢
  have hl : lv_has ls 4 [(0, .ref kr), (1, .int (iI (((sn : Nat) : Int)))), (2, .int (iI (((tn : Nat) : Int))))] := hl
  have hH := rfl (a := s.heap)
  refine lv_aload_n hx hb dL_stockByJournal_0 rfl (lv_at hl 0 rfl) ?_
  refine lv_iload_n hx hb dL_stockByJournal_1 rfl (lv_at hl 1 rfl) ?_
  refine lv_iload_n hx hb dL_stockByJournal_2 rfl (lv_at hl 2 rfl) ?_
  have pk1 : picks [(kr, .inr (5, [.ref la, .ref ia, .ref na, .ref b4, .ref b6, .ref b8, .ref b10, .int (iI (((sh : Nat) : Int))), .int (iI (((it : Nat) : Int))), .int (iI (lc)), .int (iI (((dy : Nat) : Int))), .int (iI (pct)), .int (iI (lr)), .int (iI (sr))])), (la, arI cs 4 lf), (ia, arQ cs 2 5 itf), (na, arQ cs 3 20 lnf), (kn, .inr (3, [.ref hi, .int (iI (ld)), .int (iI (fd)), .int (iI (fk)), .int (iI (fv)), .ref kl, .ref ke, .ref kd, .ref ks, .ref ka, .int (iI (es)), .int (iI (sk)), .int (iI (so)), .int (iI (lo))])), (ka, .inr (0, [.ref ua])), (ua, arI cs 1005 ar), (ks, .inr (0, [.ref uls])), (uls, arI cs 1005 sl)] [0, 1, 2, 3, 4, 5, 6, 7, 8] [(kr, .inr (5, [.ref la, .ref ia, .ref na, .ref b4, .ref b6, .ref b8, .ref b10, .int (iI (((sh : Nat) : Int))), .int (iI (((it : Nat) : Int))), .int (iI (lc)), .int (iI (((dy : Nat) : Int))), .int (iI (pct)), .int (iI (lr)), .int (iI (sr))])), (la, arI cs 4 lf), (ia, arQ cs 2 5 itf), (na, arQ cs 3 20 lnf), (kn, .inr (3, [.ref hi, .int (iI (ld)), .int (iI (fd)), .int (iI (fk)), .int (iI (fv)), .ref kl, .ref ke, .ref kd, .ref ks, .ref ka, .int (iI (es)), .int (iI (sk)), .int (iI (so)), .int (iI (lo))])), (ka, .inr (0, [.ref ua])), (ua, arI cs 1005 ar), (ks, .inr (0, [.ref uls])), (uls, arI cs 1005 sl)] := ⟨rfl, rfl, rfl, rfl, rfl, rfl, rfl, rfl, rfl, trivial⟩
  refine vx_calli (vx_runV (As := [.int (iI (((sn : Nat) : Int))), .int (iI (((tn : Nat) : Int)))]) (rest := []) ⟨hx, hb, hml, hown, hts⟩ (m_X5_stockByJournal_ok l hst D cs kr la ia na b4 b6 b8 b10 sh it lc dy pct lr sr lf itf lnf sn tn kn hi kl ke kd ks ka ld fd fk fv es sk so lo ua uls ar sl (hsh) (hit) (hitf) (hsn) (htn) (hln) (hd)) (cwV 2 hts (gV w_748 w_749 w_750 w_1 w_751) rfl rfl rfl (by decide +kernel) ⟨Nat.le_of_ble_eq_true rfl, Nat.le_of_ble_eq_true rfl⟩) (PE_V hK hN hE hS (fun _ h => False.elim h) hP hD [0, 1, 2, 3, 4, 5, 6, 7, 8] rfl pk1 rfl rfl) rfl rfl hl.1 rfl (lv_room (Nat.le_of_ble_eq_true rfl)) dL_stockByJournal_3 ⟨Nat.le_of_ble_eq_true rfl, Nat.le_of_ble_eq_true rfl⟩) hS (fun _ _ h => False.elim h) (fun _ h => False.elim h) (fun _ _ h => False.elim h) (fun E ce q9 u t H1 locs1 ht hvm hpx hBX hz1 hk1 hS1 hce hcv hcl => ?_) (fun r u t H locs ht hvm hw hB hz1 hk1 hS => ?_)
  · exact absurd (hpx.1) hpx.2
  obtain ⟨hc2, hw⟩ := hw
  subst hw
  have hP := P_kept hP hk1
  refine W.widen (k := 3) (n := 18) (by omega) (by omega) ?_
  have hres : iI (fk + smI ar (dy + 1) - smI sl (dy + 1)) = iI (fk + smI ar (dy + 1) - smI sl (dy + 1)) := congrArg iI (by
      rfl)
  exact W.iret hx hb hr (fun t ht hW => ⟨⟨_, (), rfl, hres, trivial⟩, hS.F ht⟩) hS.2.2 dL_stockByJournal_6

abbrev ws_L_levelByDays : List Cond := Cond.codeWith yL_levelByDays cL_levelByDays 4 (some .int) [(0, 6, 7, 32), (0, 6, 11, 57)] :: ALL
set_option maxHeartbeats 4000000 in
set_option maxRecDepth 100000 in
theorem m_L_levelByDays_ok_r (l : Launch) (hst : l.stackTraces = false) (D : va_G) (cs : Nat → ClassId) (kr la ia na b4 b6 b8 b10 sh it : Nat) (lc : Int) (dy : Nat) (pct lr sr : Int) (lf : Nat → Int) (itf : Nat → Option Nat) (lnf : Nat → Option Nat) (sn tn : Nat) (kn hi kl ke kd ks ka : Nat) (ld fk fv es sk so lo : Int) (ti go pr : Nat) (pk fs st : Int) (fdn upr ud ur ulr usr : Nat) (rv : Int) (fpr dm rse lrf srf : Nat → Int) (hsh : sh ≤ 4) (hit : it ≤ 5) (hitf : ∀ j, j < it → itf j ≠ none) (hsn : sn < sh) (htn : tn < it) (hln : lnf (sn * 5 + tn) = some kn) (hd : dy < 1000) (hfp : ∀ j, 0 ≤ fpr j ∧ fpr j ≤ 1) (hfv : 0 ≤ fv ∧ fv ≤ 9990000) (hfd : fdn ≤ dy) (hdm : ∀ j, 0 ≤ dm j ∧ dm j ≤ 999) (hlrf : ∀ j, 0 ≤ lrf j ∧ lrf j ≤ 100) (hsrf : ∀ j, 0 ≤ srf j ∧ srf j ≤ 100) : Met l yL_levelByDays ws_L_levelByDays ({ frames := 9, cells := 3, slots := 18, locals := 151 }) (va_Pc [.ref kr, .int (iI (((sn : Nat) : Int))), .int (iI (((tn : Nat) : Int)))] (PE D cs [(kr, .inr (5, [.ref la, .ref ia, .ref na, .ref b4, .ref b6, .ref b8, .ref b10, .int (iI (((sh : Nat) : Int))), .int (iI (((it : Nat) : Int))), .int (iI (lc)), .int (iI (((dy : Nat) : Int))), .int (iI (pct)), .int (iI (lr)), .int (iI (sr))])), (la, arI cs 4 lf), (ia, arQ cs 2 5 itf), (na, arQ cs 3 20 lnf), (kn, .inr (3, [.ref hi, .int (iI (ld)), .int (iI (((fdn : Nat) : Int))), .int (iI (fk)), .int (iI (fv)), .ref kl, .ref ke, .ref kd, .ref ks, .ref ka, .int (iI (es)), .int (iI (sk)), .int (iI (so)), .int (iI (lo))])), (hi, .inr (1, [.int (iI (pk)), .int (iI (fs)), .ref ti, .ref go, .ref pr, .int (iI (st))])), (pr, .inr (0, [.ref upr])), (upr, arI cs 1005 fpr), (kd, .inr (0, [.ref ud])), (ud, arI cs 1005 dm), (b8, .inr (2, [.ref ur, .int (iI (rv))])), (ur, arI cs 7 rse), (b4, .inr (0, [.ref ulr])), (ulr, arI cs 1005 lrf), (b6, .inr (0, [.ref usr])), (usr, arI cs 1005 srf)] (inW [(kr, .inr (5, [.ref la, .ref ia, .ref na, .ref b4, .ref b6, .ref b8, .ref b10, .int (iI (((sh : Nat) : Int))), .int (iI (((it : Nat) : Int))), .int (iI (lc)), .int (iI (((dy : Nat) : Int))), .int (iI (pct)), .int (iI (lr)), .int (iI (sr))])), (la, arI cs 4 lf), (ia, arQ cs 2 5 itf), (na, arQ cs 3 20 lnf), (kn, .inr (3, [.ref hi, .int (iI (ld)), .int (iI (((fdn : Nat) : Int))), .int (iI (fk)), .int (iI (fv)), .ref kl, .ref ke, .ref kd, .ref ks, .ref ka, .int (iI (es)), .int (iI (sk)), .int (iI (so)), .int (iI (lo))])), (hi, .inr (1, [.int (iI (pk)), .int (iI (fs)), .ref ti, .ref go, .ref pr, .int (iI (st))])), (pr, .inr (0, [.ref upr])), (upr, arI cs 1005 fpr), (kd, .inr (0, [.ref ud])), (ud, arI cs 1005 dm), (b8, .inr (2, [.ref ur, .int (iI (rv))])), (ur, arI cs 7 rse), (b4, .inr (0, [.ref ulr])), (ulr, arI cs 1005 lrf), (b6, .inr (0, [.ref usr])), (usr, arI cs 1005 srf)]))) (va_Qi (fun r (_ : Unit) => r = iI ((rpS fv fpr dm lrf srf fdn (dy - fdn)).1)) (fun _ t => va_P D vwCl [(kr, .inr (5, [.ref la, .ref ia, .ref na, .ref b4, .ref b6, .ref b8, .ref b10, .int (iI (((sh : Nat) : Int))), .int (iI (((it : Nat) : Int))), .int (iI (lc)), .int (iI (((dy : Nat) : Int))), .int (iI (pct)), .int (iI (lr)), .int (iI (sr))])), (la, arI cs 4 lf), (ia, arQ cs 2 5 itf), (na, arQ cs 3 20 lnf), (kn, .inr (3, [.ref hi, .int (iI (ld)), .int (iI (((fdn : Nat) : Int))), .int (iI (fk)), .int (iI (fv)), .ref kl, .ref ke, .ref kd, .ref ks, .ref ka, .int (iI (es)), .int (iI (sk)), .int (iI (so)), .int (iI (lo))])), (hi, .inr (1, [.int (iI (pk)), .int (iI (fs)), .ref ti, .ref go, .ref pr, .int (iI (st))])), (pr, .inr (0, [.ref upr])), (upr, arI cs 1005 fpr), (kd, .inr (0, [.ref ud])), (ud, arI cs 1005 dm), (b8, .inr (2, [.ref ur, .int (iI ((rpS fv fpr dm lrf srf fdn (dy - fdn)).1))])), (ur, arI cs 7 ((rpS fv fpr dm lrf srf fdn (dy - fdn)).2)), (b4, .inr (0, [.ref ulr])), (ulr, arI cs 1005 lrf), (b6, .inr (0, [.ref usr])), (usr, arI cs 1005 srf)] t.heap) (inW [(kr, .inr (5, [.ref la, .ref ia, .ref na, .ref b4, .ref b6, .ref b8, .ref b10, .int (iI (((sh : Nat) : Int))), .int (iI (((it : Nat) : Int))), .int (iI (lc)), .int (iI (((dy : Nat) : Int))), .int (iI (pct)), .int (iI (lr)), .int (iI (sr))])), (la, arI cs 4 lf), (ia, arQ cs 2 5 itf), (na, arQ cs 3 20 lnf), (kn, .inr (3, [.ref hi, .int (iI (ld)), .int (iI (((fdn : Nat) : Int))), .int (iI (fk)), .int (iI (fv)), .ref kl, .ref ke, .ref kd, .ref ks, .ref ka, .int (iI (es)), .int (iI (sk)), .int (iI (so)), .int (iI (lo))])), (hi, .inr (1, [.int (iI (pk)), .int (iI (fs)), .ref ti, .ref go, .ref pr, .int (iI (st))])), (pr, .inr (0, [.ref upr])), (upr, arI cs 1005 fpr), (kd, .inr (0, [.ref ud])), (ud, arI cs 1005 dm), (b8, .inr (2, [.ref ur, .int (iI (rv))])), (ur, arI cs 7 rse), (b4, .inr (0, [.ref ulr])), (ulr, arI cs 1005 lrf), (b6, .inr (0, [.ref usr])), (usr, arI cs 1005 srf)])) 3 18 (inW [(kr, .inr (5, [.ref la, .ref ia, .ref na, .ref b4, .ref b6, .ref b8, .ref b10, .int (iI (((sh : Nat) : Int))), .int (iI (((it : Nat) : Int))), .int (iI (lc)), .int (iI (((dy : Nat) : Int))), .int (iI (pct)), .int (iI (lr)), .int (iI (sr))])), (la, arI cs 4 lf), (ia, arQ cs 2 5 itf), (na, arQ cs 3 20 lnf), (kn, .inr (3, [.ref hi, .int (iI (ld)), .int (iI (((fdn : Nat) : Int))), .int (iI (fk)), .int (iI (fv)), .ref kl, .ref ke, .ref kd, .ref ks, .ref ka, .int (iI (es)), .int (iI (sk)), .int (iI (so)), .int (iI (lo))])), (hi, .inr (1, [.int (iI (pk)), .int (iI (fs)), .ref ti, .ref go, .ref pr, .int (iI (st))])), (pr, .inr (0, [.ref upr])), (upr, arI cs 1005 fpr), (kd, .inr (0, [.ref ud])), (ud, arI cs 1005 dm), (b8, .inr (2, [.ref ur, .int (iI (rv))])), (ur, arI cs 7 rse), (b4, .inr (0, [.ref ulr])), (ulr, arI cs 1005 lrf), (b6, .inr (0, [.ref usr])), (usr, arI cs 1005 srf)]) := by
  refine va_MetW (cc := cL_levelByDays) (maxL := 4) (ret := some .int) (hh := [(0, 6, 7, 32), (0, 6, 11, 57)]) (by decide +kernel) rfl ?_
  intro p e s m args below meth c s₁ B hml hv
  obtain ⟨rfl, ⟨hP, hK, hD, hN⟩, hE⟩ := hv
  have hx := B.exec
  have hb := B.bytes
  have hr := B.returns
  have hts : ∀ w ∈ ALL, w.before _ s = true := fun w h => atoms_spec (ws := ws_L_levelByDays) B.pre w (List.mem_cons_of_mem _ h)
  have hown : s.vm.findClass RL = some m.cls := findClass_of_methodNamed B.named
  have hlocks := B.notSynchronized
  have htab : c.exceptionTable.toList = tableOf [(0, 6, 7, 32), (0, 6, 11, 57)] := vx_table (x := yL_levelByDays) B (atoms_spec (ws := ws_L_levelByDays) B.pre _ List.mem_cons_self)
  generalize hAe : inW [(kr, .inr (5, [.ref la, .ref ia, .ref na, .ref b4, .ref b6, .ref b8, .ref b10, .int (iI (((sh : Nat) : Int))), .int (iI (((it : Nat) : Int))), .int (iI (lc)), .int (iI (((dy : Nat) : Int))), .int (iI (pct)), .int (iI (lr)), .int (iI (sr))])), (la, arI cs 4 lf), (ia, arQ cs 2 5 itf), (na, arQ cs 3 20 lnf), (kn, .inr (3, [.ref hi, .int (iI (ld)), .int (iI (((fdn : Nat) : Int))), .int (iI (fk)), .int (iI (fv)), .ref kl, .ref ke, .ref kd, .ref ks, .ref ka, .int (iI (es)), .int (iI (sk)), .int (iI (so)), .int (iI (lo))])), (hi, .inr (1, [.int (iI (pk)), .int (iI (fs)), .ref ti, .ref go, .ref pr, .int (iI (st))])), (pr, .inr (0, [.ref upr])), (upr, arI cs 1005 fpr), (kd, .inr (0, [.ref ud])), (ud, arI cs 1005 dm), (b8, .inr (2, [.ref ur, .int (iI (rv))])), (ur, arI cs 7 rse), (b4, .inr (0, [.ref ulr])), (ulr, arI cs 1005 lrf), (b6, .inr (0, [.ref usr])), (usr, arI cs 1005 srf)] = A at hD hE ⊢
  have hS : va_S A s.heap s.heap [] := va_S.rf
  have hl := lv_entry ([.ref kr, .int (iI (((sn : Nat) : Int))), .int (iI (((tn : Nat) : Int)))]) (n := 4) (Nat.le_of_ble_eq_true rfl)
  rw [lg_entry_eq]
  generalize (lg_sl ([.ref kr, .int (iI (((sn : Nat) : Int))), .int (iI (((tn : Nat) : Int)))]) ++ List.replicate (4 - (lg_sl ([.ref kr, .int (iI (((sn : Nat) : Int))), .int (iI (((tn : Nat) : Int)))])).length) Slot.unset).toArray = ls at hl ⊢
  have hl : lv_has ls 4 [(0, .ref kr), (1, .int (iI (((sn : Nat) : Int)))), (2, .int (iI (((tn : Nat) : Int))))] := hl
  have hH := rfl (a := s.heap)
  refine lv_aload_n hx hb dL_levelByDays_0 rfl (lv_at hl 0 rfl) ?_
  refine lv_iload_n hx hb dL_levelByDays_1 rfl (lv_at hl 1 rfl) ?_
  refine lv_iload_n hx hb dL_levelByDays_2 rfl (lv_at hl 2 rfl) ?_
  have pk1 : picks [(kr, .inr (5, [.ref la, .ref ia, .ref na, .ref b4, .ref b6, .ref b8, .ref b10, .int (iI (((sh : Nat) : Int))), .int (iI (((it : Nat) : Int))), .int (iI (lc)), .int (iI (((dy : Nat) : Int))), .int (iI (pct)), .int (iI (lr)), .int (iI (sr))])), (la, arI cs 4 lf), (ia, arQ cs 2 5 itf), (na, arQ cs 3 20 lnf), (kn, .inr (3, [.ref hi, .int (iI (ld)), .int (iI (((fdn : Nat) : Int))), .int (iI (fk)), .int (iI (fv)), .ref kl, .ref ke, .ref kd, .ref ks, .ref ka, .int (iI (es)), .int (iI (sk)), .int (iI (so)), .int (iI (lo))])), (hi, .inr (1, [.int (iI (pk)), .int (iI (fs)), .ref ti, .ref go, .ref pr, .int (iI (st))])), (pr, .inr (0, [.ref upr])), (upr, arI cs 1005 fpr), (kd, .inr (0, [.ref ud])), (ud, arI cs 1005 dm), (b8, .inr (2, [.ref ur, .int (iI (rv))])), (ur, arI cs 7 rse), (b4, .inr (0, [.ref ulr])), (ulr, arI cs 1005 lrf), (b6, .inr (0, [.ref usr])), (usr, arI cs 1005 srf)] [0, 1, 2, 3, 4, 5, 6, 7, 8, 9, 10, 11, 12, 13, 14, 15] [(kr, .inr (5, [.ref la, .ref ia, .ref na, .ref b4, .ref b6, .ref b8, .ref b10, .int (iI (((sh : Nat) : Int))), .int (iI (((it : Nat) : Int))), .int (iI (lc)), .int (iI (((dy : Nat) : Int))), .int (iI (pct)), .int (iI (lr)), .int (iI (sr))])), (la, arI cs 4 lf), (ia, arQ cs 2 5 itf), (na, arQ cs 3 20 lnf), (kn, .inr (3, [.ref hi, .int (iI (ld)), .int (iI (((fdn : Nat) : Int))), .int (iI (fk)), .int (iI (fv)), .ref kl, .ref ke, .ref kd, .ref ks, .ref ka, .int (iI (es)), .int (iI (sk)), .int (iI (so)), .int (iI (lo))])), (hi, .inr (1, [.int (iI (pk)), .int (iI (fs)), .ref ti, .ref go, .ref pr, .int (iI (st))])), (pr, .inr (0, [.ref upr])), (upr, arI cs 1005 fpr), (kd, .inr (0, [.ref ud])), (ud, arI cs 1005 dm), (b8, .inr (2, [.ref ur, .int (iI (rv))])), (ur, arI cs 7 rse), (b4, .inr (0, [.ref ulr])), (ulr, arI cs 1005 lrf), (b6, .inr (0, [.ref usr])), (usr, arI cs 1005 srf)] := ⟨rfl, rfl, rfl, rfl, rfl, rfl, rfl, rfl, rfl, rfl, rfl, rfl, rfl, rfl, rfl, rfl, trivial⟩
  refine vx_calli (vx_runV (As := [.int (iI (((sn : Nat) : Int))), .int (iI (((tn : Nat) : Int)))]) (rest := []) ⟨hx, hb, hml, hown, hts⟩ (m_X5_levelByDays_ok l hst D cs kr la ia na b4 b6 b8 b10 sh it lc dy pct lr sr lf itf lnf sn tn kn hi kl ke kd ks ka ld fk fv es sk so lo ti go pr pk fs st fdn upr ud ur ulr usr rv fpr dm rse lrf srf (hsh) (hit) (hitf) (hsn) (htn) (hln) (hd) (hfp) (hfv) (hfd) (hdm) (hlrf) (hsrf)) (cwV 2 hts (gV w_763 w_764 w_765 w_1 w_766) rfl rfl rfl (by decide +kernel) ⟨Nat.le_of_ble_eq_true rfl, Nat.le_of_ble_eq_true rfl⟩) (PE_V hK hN hE hS (fun q h => inW_sub hD [0, 1, 2, 3, 4, 5, 6, 7, 8, 9, 10, 11, 12, 13, 14, 15] pk1 q h) hP hD [0, 1, 2, 3, 4, 5, 6, 7, 8, 9, 10, 11, 12, 13, 14, 15] rfl pk1 rfl rfl) rfl rfl hl.1 rfl (lv_room (Nat.le_of_ble_eq_true rfl)) dL_levelByDays_3 ⟨Nat.le_of_ble_eq_true rfl, Nat.le_of_ble_eq_true rfl⟩) hS (fun q _ h => inW_sub hD [0, 1, 2, 3, 4, 5, 6, 7, 8, 9, 10, 11, 12, 13, 14, 15] pk1 q h) (fun q h => inW_sub hD [0, 1, 2, 3, 4, 5, 6, 7, 8, 9, 10, 11, 12, 13, 14, 15] pk1 q h) (fun q _ h => inW_sub hD [0, 1, 2, 3, 4, 5, 6, 7, 8, 9, 10, 11, 12, 13, 14, 15] pk1 q h) (fun E ce q9 u t H1 locs1 ht hvm hpx hBX hz1 hk1 hS1 hce hcv hcl => ?_) (fun r u t H locs ht hvm hw hB hz1 hk1 hS => ?_)
  · exact absurd (hpx.1) hpx.2
  obtain ⟨hc2, hw⟩ := hw
  subst hw
  rw [ht] at hB
  obtain ⟨hP, hD⟩ := my_join (W1 := [(kr, .inr (5, [.ref la, .ref ia, .ref na, .ref b4, .ref b6, .ref b8, .ref b10, .int (iI (((sh : Nat) : Int))), .int (iI (((it : Nat) : Int))), .int (iI (lc)), .int (iI (((dy : Nat) : Int))), .int (iI (pct)), .int (iI (lr)), .int (iI (sr))])), (la, arI cs 4 lf), (ia, arQ cs 2 5 itf), (na, arQ cs 3 20 lnf), (kn, .inr (3, [.ref hi, .int (iI (ld)), .int (iI (((fdn : Nat) : Int))), .int (iI (fk)), .int (iI (fv)), .ref kl, .ref ke, .ref kd, .ref ks, .ref ka, .int (iI (es)), .int (iI (sk)), .int (iI (so)), .int (iI (lo))])), (hi, .inr (1, [.int (iI (pk)), .int (iI (fs)), .ref ti, .ref go, .ref pr, .int (iI (st))])), (pr, .inr (0, [.ref upr])), (upr, arI cs 1005 fpr), (kd, .inr (0, [.ref ud])), (ud, arI cs 1005 dm), (b8, .inr (2, [.ref ur, .int (iI ((rpS fv fpr dm lrf srf fdn (dy - fdn)).1))])), (ur, arI cs 7 ((rpS fv fpr dm lrf srf fdn (dy - fdn)).2)), (b4, .inr (0, [.ref ulr])), (ulr, arI cs 1005 lrf), (b6, .inr (0, [.ref usr])), (usr, arI cs 1005 srf)]) hP hD [0, 1, 2, 3, 4, 5, 6, 7, 8, 9, 10, 11, 12, 13, 14, 15] rfl pk1 rfl hk1 hB
  have hP : va_P D vwCl [(kr, .inr (5, [.ref la, .ref ia, .ref na, .ref b4, .ref b6, .ref b8, .ref b10, .int (iI (((sh : Nat) : Int))), .int (iI (((it : Nat) : Int))), .int (iI (lc)), .int (iI (((dy : Nat) : Int))), .int (iI (pct)), .int (iI (lr)), .int (iI (sr))])), (la, arI cs 4 lf), (ia, arQ cs 2 5 itf), (na, arQ cs 3 20 lnf), (kn, .inr (3, [.ref hi, .int (iI (ld)), .int (iI (((fdn : Nat) : Int))), .int (iI (fk)), .int (iI (fv)), .ref kl, .ref ke, .ref kd, .ref ks, .ref ka, .int (iI (es)), .int (iI (sk)), .int (iI (so)), .int (iI (lo))])), (hi, .inr (1, [.int (iI (pk)), .int (iI (fs)), .ref ti, .ref go, .ref pr, .int (iI (st))])), (pr, .inr (0, [.ref upr])), (upr, arI cs 1005 fpr), (kd, .inr (0, [.ref ud])), (ud, arI cs 1005 dm), (b8, .inr (2, [.ref ur, .int (iI ((rpS fv fpr dm lrf srf fdn (dy - fdn)).1))])), (ur, arI cs 7 ((rpS fv fpr dm lrf srf fdn (dy - fdn)).2)), (b4, .inr (0, [.ref ulr])), (ulr, arI cs 1005 lrf), (b6, .inr (0, [.ref usr])), (usr, arI cs 1005 srf)] H := hP
  have hD : va_D A [(kr, .inr (5, [.ref la, .ref ia, .ref na, .ref b4, .ref b6, .ref b8, .ref b10, .int (iI (((sh : Nat) : Int))), .int (iI (((it : Nat) : Int))), .int (iI (lc)), .int (iI (((dy : Nat) : Int))), .int (iI (pct)), .int (iI (lr)), .int (iI (sr))])), (la, arI cs 4 lf), (ia, arQ cs 2 5 itf), (na, arQ cs 3 20 lnf), (kn, .inr (3, [.ref hi, .int (iI (ld)), .int (iI (((fdn : Nat) : Int))), .int (iI (fk)), .int (iI (fv)), .ref kl, .ref ke, .ref kd, .ref ks, .ref ka, .int (iI (es)), .int (iI (sk)), .int (iI (so)), .int (iI (lo))])), (hi, .inr (1, [.int (iI (pk)), .int (iI (fs)), .ref ti, .ref go, .ref pr, .int (iI (st))])), (pr, .inr (0, [.ref upr])), (upr, arI cs 1005 fpr), (kd, .inr (0, [.ref ud])), (ud, arI cs 1005 dm), (b8, .inr (2, [.ref ur, .int (iI ((rpS fv fpr dm lrf srf fdn (dy - fdn)).1))])), (ur, arI cs 7 ((rpS fv fpr dm lrf srf fdn (dy - fdn)).2)), (b4, .inr (0, [.ref ulr])), (ulr, arI cs 1005 lrf), (b6, .inr (0, [.ref usr])), (usr, arI cs 1005 srf)] := hD
  subst hAe
  refine W.widen (k := 3) (n := 18) (by omega) (by omega) ?_
  have hres : iI ((rpS fv fpr dm lrf srf fdn (dy - fdn)).1) = iI ((rpS fv fpr dm lrf srf fdn (dy - fdn)).1) := congrArg iI (by
      rfl)
  exact W.iret hx hb hr (fun t ht hW => ⟨⟨_, (), rfl, hres, by show va_P D vwCl _ t.heap; rw [ht]; exact hP⟩, hS.F ht⟩) hS.2.2 dL_levelByDays_6

abbrev ws_L_shareByPacks : List Cond := Cond.codeWith yL_shareByPacks cL_shareByPacks 4 (some .int) [(0, 6, 7, 32), (0, 6, 11, 57)] :: ALL
set_option maxHeartbeats 4000000 in
set_option maxRecDepth 100000 in
theorem m_L_shareByPacks_ok_r (l : Launch) (hst : l.stackTraces = false) (D : va_G) (cs : Nat → ClassId) (kr la ia na b4 b6 b8 b10 sh it : Nat) (lc : Int) (dy : Nat) (pct lr sr : Int) (ulr usr ur uq ug : Nat) (lf lrf srf rse rq gv : Nat → Int) (rv pn : Int) (IA LA : Nat → Nat → Nat) (cr : Nat → Bool) (IR : Nat → IT) (LR : Nat → LT) (sn tn : Nat) (hsh : sh ≤ 4) (hit : it ≤ 5) (hsn : sn < sh) (htn : tn < it) (hcr : cr (sn * 5 + tn) = true) (hd : dy < 1000) (hpc : 1 ≤ pct ∧ pct ≤ 100) (hlk : ∀ s, lOK dy (LR (s * 5 + tn))) (hik : iOK (IR tn)) : Met l yL_shareByPacks ws_L_shareByPacks ({ frames := 9, cells := 3, slots := 18, locals := 149 }) (va_Pc [.ref kr, .int (iI (((sn : Nat) : Int))), .int (iI (((tn : Nat) : Int)))] (PE D cs ([(kr, .inr (5, [.ref la, .ref ia, .ref na, .ref b4, .ref b6, .ref b8, .ref b10, .int (iI (((sh : Nat) : Int))), .int (iI (((it : Nat) : Int))), .int (iI (lc)), .int (iI (((dy : Nat) : Int))), .int (iI (pct)), .int (iI (lr)), .int (iI (sr))])), (la, arI cs 4 lf), (ia, arQ cs 2 5 (itq it IA)), (na, arQ cs 3 20 (lnq cr LA)), (b4, .inr (0, [.ref ulr])), (ulr, arI cs 1005 lrf), (b6, .inr (0, [.ref usr])), (usr, arI cs 1005 srf), (b8, .inr (2, [.ref ur, .int (iI (rv))])), (ur, arI cs 7 rse), (b10, .inr (4, [.ref uq, .ref ug, .int (iI (pn))])), (uq, arI cs 4 rq), (ug, arI cs 4 gv)] ++ (aW cs IA LA it cr IR LR)) (inW ([(kr, .inr (5, [.ref la, .ref ia, .ref na, .ref b4, .ref b6, .ref b8, .ref b10, .int (iI (((sh : Nat) : Int))), .int (iI (((it : Nat) : Int))), .int (iI (lc)), .int (iI (((dy : Nat) : Int))), .int (iI (pct)), .int (iI (lr)), .int (iI (sr))])), (la, arI cs 4 lf), (ia, arQ cs 2 5 (itq it IA)), (na, arQ cs 3 20 (lnq cr LA)), (b4, .inr (0, [.ref ulr])), (ulr, arI cs 1005 lrf), (b6, .inr (0, [.ref usr])), (usr, arI cs 1005 srf), (b8, .inr (2, [.ref ur, .int (iI (rv))])), (ur, arI cs 7 rse), (b10, .inr (4, [.ref uq, .ref ug, .int (iI (pn))])), (uq, arI cs 4 rq), (ug, arI cs 4 gv)] ++ (aW cs IA LA it cr IR LR))))) (va_Qi (fun r (_ : Unit) => r = iI (grI (rqA dy pct cr IR LR tn sh) (ist (IR tn) / ipk (IR tn)).toNat sn)) (fun _ t => va_P D vwCl ([(kr, .inr (5, [.ref la, .ref ia, .ref na, .ref b4, .ref b6, .ref b8, .ref b10, .int (iI (((sh : Nat) : Int))), .int (iI (((it : Nat) : Int))), .int (iI (lc)), .int (iI (((dy : Nat) : Int))), .int (iI (pct)), .int (iI (lr)), .int (iI (sr))])), (la, arI cs 4 lf), (ia, arQ cs 2 5 (itq it IA)), (na, arQ cs 3 20 (lnq cr LA)), (b4, .inr (0, [.ref ulr])), (ulr, arI cs 1005 lrf), (b6, .inr (0, [.ref usr])), (usr, arI cs 1005 srf), (b8, .inr (2, [.ref ur, .int (iI (rv))])), (ur, arI cs 7 rse), (b10, .inr (4, [.ref uq, .ref ug, .int (iI (ist (IR tn) / ipk (IR tn)))])), (uq, arI cs 4 (rqA dy pct cr IR LR tn sh)), (ug, arI cs 4 (grI (rqA dy pct cr IR LR tn sh) (ist (IR tn) / ipk (IR tn)).toNat))] ++ (aW cs IA LA it cr IR LR)) t.heap) (inW ([(kr, .inr (5, [.ref la, .ref ia, .ref na, .ref b4, .ref b6, .ref b8, .ref b10, .int (iI (((sh : Nat) : Int))), .int (iI (((it : Nat) : Int))), .int (iI (lc)), .int (iI (((dy : Nat) : Int))), .int (iI (pct)), .int (iI (lr)), .int (iI (sr))])), (la, arI cs 4 lf), (ia, arQ cs 2 5 (itq it IA)), (na, arQ cs 3 20 (lnq cr LA)), (b4, .inr (0, [.ref ulr])), (ulr, arI cs 1005 lrf), (b6, .inr (0, [.ref usr])), (usr, arI cs 1005 srf), (b8, .inr (2, [.ref ur, .int (iI (rv))])), (ur, arI cs 7 rse), (b10, .inr (4, [.ref uq, .ref ug, .int (iI (pn))])), (uq, arI cs 4 rq), (ug, arI cs 4 gv)] ++ (aW cs IA LA it cr IR LR)))) 3 18 (inW ([(kr, .inr (5, [.ref la, .ref ia, .ref na, .ref b4, .ref b6, .ref b8, .ref b10, .int (iI (((sh : Nat) : Int))), .int (iI (((it : Nat) : Int))), .int (iI (lc)), .int (iI (((dy : Nat) : Int))), .int (iI (pct)), .int (iI (lr)), .int (iI (sr))])), (la, arI cs 4 lf), (ia, arQ cs 2 5 (itq it IA)), (na, arQ cs 3 20 (lnq cr LA)), (b4, .inr (0, [.ref ulr])), (ulr, arI cs 1005 lrf), (b6, .inr (0, [.ref usr])), (usr, arI cs 1005 srf), (b8, .inr (2, [.ref ur, .int (iI (rv))])), (ur, arI cs 7 rse), (b10, .inr (4, [.ref uq, .ref ug, .int (iI (pn))])), (uq, arI cs 4 rq), (ug, arI cs 4 gv)] ++ (aW cs IA LA it cr IR LR))) := by
  refine va_MetW (cc := cL_shareByPacks) (maxL := 4) (ret := some .int) (hh := [(0, 6, 7, 32), (0, 6, 11, 57)]) (by decide +kernel) rfl ?_
  intro p e s m args below meth c s₁ B hml hv
  obtain ⟨rfl, ⟨hP, hK, hD, hN⟩, hE⟩ := hv
  have hx := B.exec
  have hb := B.bytes
  have hr := B.returns
  have hts : ∀ w ∈ ALL, w.before _ s = true := fun w h => atoms_spec (ws := ws_L_shareByPacks) B.pre w (List.mem_cons_of_mem _ h)
  have hown : s.vm.findClass RL = some m.cls := findClass_of_methodNamed B.named
  have hlocks := B.notSynchronized
  have htab : c.exceptionTable.toList = tableOf [(0, 6, 7, 32), (0, 6, 11, 57)] := vx_table (x := yL_shareByPacks) B (atoms_spec (ws := ws_L_shareByPacks) B.pre _ List.mem_cons_self)
  generalize hAe : inW ([(kr, .inr (5, [.ref la, .ref ia, .ref na, .ref b4, .ref b6, .ref b8, .ref b10, .int (iI (((sh : Nat) : Int))), .int (iI (((it : Nat) : Int))), .int (iI (lc)), .int (iI (((dy : Nat) : Int))), .int (iI (pct)), .int (iI (lr)), .int (iI (sr))])), (la, arI cs 4 lf), (ia, arQ cs 2 5 (itq it IA)), (na, arQ cs 3 20 (lnq cr LA)), (b4, .inr (0, [.ref ulr])), (ulr, arI cs 1005 lrf), (b6, .inr (0, [.ref usr])), (usr, arI cs 1005 srf), (b8, .inr (2, [.ref ur, .int (iI (rv))])), (ur, arI cs 7 rse), (b10, .inr (4, [.ref uq, .ref ug, .int (iI (pn))])), (uq, arI cs 4 rq), (ug, arI cs 4 gv)] ++ (aW cs IA LA it cr IR LR)) = A at hD hE ⊢
  have hS : va_S A s.heap s.heap [] := va_S.rf
  have hl := lv_entry ([.ref kr, .int (iI (((sn : Nat) : Int))), .int (iI (((tn : Nat) : Int)))]) (n := 4) (Nat.le_of_ble_eq_true rfl)
  rw [lg_entry_eq]
  generalize (lg_sl ([.ref kr, .int (iI (((sn : Nat) : Int))), .int (iI (((tn : Nat) : Int)))]) ++ List.replicate (4 - (lg_sl ([.ref kr, .int (iI (((sn : Nat) : Int))), .int (iI (((tn : Nat) : Int)))])).length) Slot.unset).toArray = ls at hl ⊢
  have hl : lv_has ls 4 [(0, .ref kr), (1, .int (iI (((sn : Nat) : Int)))), (2, .int (iI (((tn : Nat) : Int))))] := hl
  have hH := rfl (a := s.heap)
  refine lv_aload_n hx hb dL_shareByPacks_0 rfl (lv_at hl 0 rfl) ?_
  refine lv_iload_n hx hb dL_shareByPacks_1 rfl (lv_at hl 1 rfl) ?_
  refine lv_iload_n hx hb dL_shareByPacks_2 rfl (lv_at hl 2 rfl) ?_
  refine vx_calli (vx_runV (As := [.int (iI (((sn : Nat) : Int))), .int (iI (((tn : Nat) : Int)))]) (rest := []) ⟨hx, hb, hml, hown, hts⟩ (m_X5_shareByPacks_ok l hst D cs kr la ia na b4 b6 b8 b10 sh it lc dy pct lr sr ulr usr ur uq ug lf lrf srf rse rq gv rv pn IA LA cr IR LR sn tn (hsh) (hit) (hsn) (htn) (hcr) (hd) (hpc) (hlk) (hik)) (cwV 2 hts (gV w_722 w_723 w_724 w_1 w_725) rfl rfl rfl (by decide +kernel) ⟨Nat.le_of_ble_eq_true rfl, Nat.le_of_ble_eq_true rfl⟩) (PE_Va hK hN hE hS (fun q h => inW_suba hD q h) hP hD rfl rfl) rfl rfl hl.1 rfl (lv_room (Nat.le_of_ble_eq_true rfl)) dL_shareByPacks_3 ⟨Nat.le_of_ble_eq_true rfl, Nat.le_of_ble_eq_true rfl⟩) hS (fun q _ h => inW_suba hD q h) (fun q h => inW_suba hD q h) (fun q _ h => inW_suba hD q h) (fun E ce q9 u t H1 locs1 ht hvm hpx hBX hz1 hk1 hS1 hce hcv hcl => ?_) (fun r u t H locs ht hvm hw hB hz1 hk1 hS => ?_)
  · exact absurd (hpx.1) hpx.2
  obtain ⟨hc2, hw⟩ := hw
  subst hw
  rw [ht] at hB
  have hP : va_P D vwCl ([(kr, .inr (5, [.ref la, .ref ia, .ref na, .ref b4, .ref b6, .ref b8, .ref b10, .int (iI (((sh : Nat) : Int))), .int (iI (((it : Nat) : Int))), .int (iI (lc)), .int (iI (((dy : Nat) : Int))), .int (iI (pct)), .int (iI (lr)), .int (iI (sr))])), (la, arI cs 4 lf), (ia, arQ cs 2 5 (itq it IA)), (na, arQ cs 3 20 (lnq cr LA)), (b4, .inr (0, [.ref ulr])), (ulr, arI cs 1005 lrf), (b6, .inr (0, [.ref usr])), (usr, arI cs 1005 srf), (b8, .inr (2, [.ref ur, .int (iI (rv))])), (ur, arI cs 7 rse), (b10, .inr (4, [.ref uq, .ref ug, .int (iI (ist (IR tn) / ipk (IR tn)))])), (uq, arI cs 4 (rqA dy pct cr IR LR tn sh)), (ug, arI cs 4 (grI (rqA dy pct cr IR LR tn sh) (ist (IR tn) / ipk (IR tn)).toNat))] ++ (aW cs IA LA it cr IR LR)) H := hB
  have hD : va_D A ([(kr, .inr (5, [.ref la, .ref ia, .ref na, .ref b4, .ref b6, .ref b8, .ref b10, .int (iI (((sh : Nat) : Int))), .int (iI (((it : Nat) : Int))), .int (iI (lc)), .int (iI (((dy : Nat) : Int))), .int (iI (pct)), .int (iI (lr)), .int (iI (sr))])), (la, arI cs 4 lf), (ia, arQ cs 2 5 (itq it IA)), (na, arQ cs 3 20 (lnq cr LA)), (b4, .inr (0, [.ref ulr])), (ulr, arI cs 1005 lrf), (b6, .inr (0, [.ref usr])), (usr, arI cs 1005 srf), (b8, .inr (2, [.ref ur, .int (iI (rv))])), (ur, arI cs 7 rse), (b10, .inr (4, [.ref uq, .ref ug, .int (iI (ist (IR tn) / ipk (IR tn)))])), (uq, arI cs 4 (rqA dy pct cr IR LR tn sh)), (ug, arI cs 4 (grI (rqA dy pct cr IR LR tn sh) (ist (IR tn) / ipk (IR tn)).toNat))] ++ (aW cs IA LA it cr IR LR)) := D_fst hD (fst_ap rfl aW_fst)
  subst hAe
  refine W.widen (k := 3) (n := 18) (by omega) (by omega) ?_
  have hres : iI (grI (rqA dy pct cr IR LR tn sh) (ist (IR tn) / ipk (IR tn)).toNat sn) = iI (grI (rqA dy pct cr IR LR tn sh) (ist (IR tn) / ipk (IR tn)).toNat sn) := congrArg iI (by
      rfl)
  exact W.iret hx hb hr (fun t ht hW => ⟨⟨_, (), rfl, hres, by show va_P D vwCl _ t.heap; rw [ht]; exact hP⟩, hS.F ht⟩) hS.2.2 dL_shareByPacks_6

abbrev ws_L_season : List Cond := Cond.codeWith yL_season cL_season 5 (some .int) [(0, 7, 8, 32), (0, 7, 13, 57), (0, 7, 18, 20)] :: ALL
set_option maxHeartbeats 4000000 in
set_option maxRecDepth 100000 in
theorem m_L_season_ok_r (l : Launch) (hst : l.stackTraces = false) (D : va_G) (cs : Nat → ClassId) (kr la ia na b4 b6 b8 b10 sh it : Nat) (lc : Int) (dy : Nat) (pct lr sr : Int) (lf : Nat → Int) (itf : Nat → Option Nat) (lnf : Nat → Option Nat) (sn tn : Nat) (kn hi kl ke kd ks ka : Nat) (ld fd fk fv es sk so lo : Int) (us : Nat) (lev : Int) (se : Nat → Int) (wz : Int) (hsh : sh ≤ 4) (hit : it ≤ 5) (hitf : ∀ j, j < it → itf j ≠ none) (hsn : sn < sh) (htn : tn < it) (hln : lnf (sn * 5 + tn) = some kn) (hwz : -2147483648 ≤ wz ∧ wz < 2147483648) (hz : (if 0 ≤ wz ∧ wz < 7 then 0 else 3) = 0) : Met l yL_season ws_L_season ({ frames := 9, cells := 4, slots := 24, locals := 151 }) (va_Pc [.ref kr, .int (iI (((sn : Nat) : Int))), .int (iI (((tn : Nat) : Int))), .int (iI (wz))] (PE D cs [(kr, .inr (5, [.ref la, .ref ia, .ref na, .ref b4, .ref b6, .ref b8, .ref b10, .int (iI (((sh : Nat) : Int))), .int (iI (((it : Nat) : Int))), .int (iI (lc)), .int (iI (((dy : Nat) : Int))), .int (iI (pct)), .int (iI (lr)), .int (iI (sr))])), (la, arI cs 4 lf), (ia, arQ cs 2 5 itf), (na, arQ cs 3 20 lnf), (kn, .inr (3, [.ref hi, .int (iI (ld)), .int (iI (fd)), .int (iI (fk)), .int (iI (fv)), .ref kl, .ref ke, .ref kd, .ref ks, .ref ka, .int (iI (es)), .int (iI (sk)), .int (iI (so)), .int (iI (lo))])), (kl, .inr (2, [.ref us, .int (iI (lev))])), (us, arI cs 7 se)] noA)) (va_Qi (fun r (_ : Unit) => r = iI (se wz.toNat)) (fun _ _ => True) noA) 4 24 noA := by
  refine va_MetW (cc := cL_season) (maxL := 5) (ret := some .int) (hh := [(0, 7, 8, 32), (0, 7, 13, 57), (0, 7, 18, 20)]) (by decide +kernel) rfl ?_
  intro p e s m args below meth c s₁ B hml hv
  obtain ⟨rfl, ⟨hP, hK, hD, hN⟩, hE⟩ := hv
  have hx := B.exec
  have hb := B.bytes
  have hr := B.returns
  have hts : ∀ w ∈ ALL, w.before _ s = true := fun w h => atoms_spec (ws := ws_L_season) B.pre w (List.mem_cons_of_mem _ h)
  have hown : s.vm.findClass RL = some m.cls := findClass_of_methodNamed B.named
  have hlocks := B.notSynchronized
  have htab : c.exceptionTable.toList = tableOf [(0, 7, 8, 32), (0, 7, 13, 57), (0, 7, 18, 20)] := vx_table (x := yL_season) B (atoms_spec (ws := ws_L_season) B.pre _ List.mem_cons_self)
  have hS : va_S noA s.heap s.heap [] := va_S.rf
  generalize inW [(kr, .inr (5, [.ref la, .ref ia, .ref na, .ref b4, .ref b6, .ref b8, .ref b10, .int (iI (((sh : Nat) : Int))), .int (iI (((it : Nat) : Int))), .int (iI (lc)), .int (iI (((dy : Nat) : Int))), .int (iI (pct)), .int (iI (lr)), .int (iI (sr))])), (la, arI cs 4 lf), (ia, arQ cs 2 5 itf), (na, arQ cs 3 20 lnf), (kn, .inr (3, [.ref hi, .int (iI (ld)), .int (iI (fd)), .int (iI (fk)), .int (iI (fv)), .ref kl, .ref ke, .ref kd, .ref ks, .ref ka, .int (iI (es)), .int (iI (sk)), .int (iI (so)), .int (iI (lo))])), (kl, .inr (2, [.ref us, .int (iI (lev))])), (us, arI cs 7 se)] = A at hD
  have hl := lv_entry ([.ref kr, .int (iI (((sn : Nat) : Int))), .int (iI (((tn : Nat) : Int))), .int (iI (wz))]) (n := 5) (Nat.le_of_ble_eq_true rfl)
  rw [lg_entry_eq]
  generalize (lg_sl ([.ref kr, .int (iI (((sn : Nat) : Int))), .int (iI (((tn : Nat) : Int))), .int (iI (wz))]) ++ List.replicate (5 - (lg_sl ([.ref kr, .int (iI (((sn : Nat) : Int))), .int (iI (((tn : Nat) : Int))), .int (iI (wz))])).length) Slot.unset).toArray = ls at hl ⊢
  have hl : lv_has ls 5 [(0, .ref kr), (1, .int (iI (((sn : Nat) : Int)))), (2, .int (iI (((tn : Nat) : Int)))), (3, .int (iI (wz)))] := hl
  have hH := rfl (a := s.heap)
  refine lv_aload_n hx hb dL_season_0 rfl (lv_at hl 0 rfl) ?_
  refine lv_iload_n hx hb dL_season_1 rfl (lv_at hl 1 rfl) ?_
  refine lv_iload_n hx hb dL_season_2 rfl (lv_at hl 2 rfl) ?_
  refine lv_iload_n hx hb dL_season_3 rfl (lv_at hl 3 rfl) ?_
  have pk1 : picks [(kr, .inr (5, [.ref la, .ref ia, .ref na, .ref b4, .ref b6, .ref b8, .ref b10, .int (iI (((sh : Nat) : Int))), .int (iI (((it : Nat) : Int))), .int (iI (lc)), .int (iI (((dy : Nat) : Int))), .int (iI (pct)), .int (iI (lr)), .int (iI (sr))])), (la, arI cs 4 lf), (ia, arQ cs 2 5 itf), (na, arQ cs 3 20 lnf), (kn, .inr (3, [.ref hi, .int (iI (ld)), .int (iI (fd)), .int (iI (fk)), .int (iI (fv)), .ref kl, .ref ke, .ref kd, .ref ks, .ref ka, .int (iI (es)), .int (iI (sk)), .int (iI (so)), .int (iI (lo))])), (kl, .inr (2, [.ref us, .int (iI (lev))])), (us, arI cs 7 se)] [0, 1, 2, 3, 4, 5, 6] [(kr, .inr (5, [.ref la, .ref ia, .ref na, .ref b4, .ref b6, .ref b8, .ref b10, .int (iI (((sh : Nat) : Int))), .int (iI (((it : Nat) : Int))), .int (iI (lc)), .int (iI (((dy : Nat) : Int))), .int (iI (pct)), .int (iI (lr)), .int (iI (sr))])), (la, arI cs 4 lf), (ia, arQ cs 2 5 itf), (na, arQ cs 3 20 lnf), (kn, .inr (3, [.ref hi, .int (iI (ld)), .int (iI (fd)), .int (iI (fk)), .int (iI (fv)), .ref kl, .ref ke, .ref kd, .ref ks, .ref ka, .int (iI (es)), .int (iI (sk)), .int (iI (so)), .int (iI (lo))])), (kl, .inr (2, [.ref us, .int (iI (lev))])), (us, arI cs 7 se)] := ⟨rfl, rfl, rfl, rfl, rfl, rfl, rfl, trivial⟩
  refine vx_calli (vx_runV (As := [.int (iI (((sn : Nat) : Int))), .int (iI (((tn : Nat) : Int))), .int (iI (wz))]) (rest := []) ⟨hx, hb, hml, hown, hts⟩ (m_X5_season_ok l hst D cs kr la ia na b4 b6 b8 b10 sh it lc dy pct lr sr lf itf lnf sn tn kn hi kl ke kd ks ka ld fd fk fv es sk so lo us lev se wz (hsh) (hit) (hitf) (hsn) (htn) (hln) (hwz)) (cwV 3 hts (gV w_637 w_638 w_639 w_1 w_640) rfl rfl rfl (by decide +kernel) ⟨Nat.le_of_ble_eq_true rfl, Nat.le_of_ble_eq_true rfl⟩) (PE_V hK hN hE hS (fun _ h => False.elim h) hP hD [0, 1, 2, 3, 4, 5, 6] rfl pk1 rfl rfl) rfl rfl hl.1 rfl (lv_room (Nat.le_of_ble_eq_true rfl)) dL_season_4 ⟨Nat.le_of_ble_eq_true rfl, Nat.le_of_ble_eq_true rfl⟩) hS (fun _ _ h => False.elim h) (fun _ h => False.elim h) (fun _ _ h => False.elim h) (fun E ce q9 u t H1 locs1 ht hvm hpx hBX hz1 hk1 hS1 hce hcv hcl => ?_) (fun r u t H locs ht hvm hw hB hz1 hk1 hS => ?_)
  · exact absurd (hpx.1.trans hz) hpx.2
  obtain ⟨hc2, hw⟩ := hw
  subst hw
  have hP := P_kept hP hk1
  refine W.widen (k := 4) (n := 24) (by omega) (by omega) ?_
  have hres : iI (se wz.toNat) = iI (se wz.toNat) := congrArg iI (by
      rfl)
  exact W.iret hx hb hr (fun t ht hW => ⟨⟨_, (), rfl, hres, trivial⟩, hS.F ht⟩) hS.2.2 dL_season_7

abbrev ws_L_forecast : List Cond := Cond.codeWith yL_forecast cL_forecast 5 (some .int) [(0, 7, 8, 32), (0, 7, 13, 57), (0, 7, 18, 20)] :: ALL
set_option maxHeartbeats 4000000 in
set_option maxRecDepth 100000 in
theorem m_L_forecast_ok_r (l : Launch) (hst : l.stackTraces = false) (D : va_G) (cs : Nat → ClassId) (kr la ia na b4 b6 b8 b10 sh it : Nat) (lc : Int) (dy : Nat) (pct lr sr : Int) (lf : Nat → Int) (itf : Nat → Option Nat) (lnf : Nat → Option Nat) (sn tn : Nat) (kn hi kl ke kd ks ka : Nat) (ld fd fk fv es sk so lo : Int) (us : Nat) (lev : Int) (se : Nat → Int) (wz : Int) (hsh : sh ≤ 4) (hit : it ≤ 5) (hitf : ∀ j, j < it → itf j ≠ none) (hsn : sn < sh) (htn : tn < it) (hln : lnf (sn * 5 + tn) = some kn) (hlev : 0 ≤ lev ∧ lev ≤ 9990000) (hse : ∀ w, 100 ≤ se w ∧ se w ≤ 5000) (hd : dy < 1000) (hwz : -2147483648 ≤ wz ∧ wz < 2147483648) (hz : (if (dy : Int) ≤ wz ∧ wz ≤ 1099 then 0 else 3) = 0) : Met l yL_forecast ws_L_forecast ({ frames := 9, cells := 4, slots := 24, locals := 151 }) (va_Pc [.ref kr, .int (iI (((sn : Nat) : Int))), .int (iI (((tn : Nat) : Int))), .int (iI (wz))] (PE D cs [(kr, .inr (5, [.ref la, .ref ia, .ref na, .ref b4, .ref b6, .ref b8, .ref b10, .int (iI (((sh : Nat) : Int))), .int (iI (((it : Nat) : Int))), .int (iI (lc)), .int (iI (((dy : Nat) : Int))), .int (iI (pct)), .int (iI (lr)), .int (iI (sr))])), (la, arI cs 4 lf), (ia, arQ cs 2 5 itf), (na, arQ cs 3 20 lnf), (kn, .inr (3, [.ref hi, .int (iI (ld)), .int (iI (fd)), .int (iI (fk)), .int (iI (fv)), .ref kl, .ref ke, .ref kd, .ref ks, .ref ka, .int (iI (es)), .int (iI (sk)), .int (iI (so)), .int (iI (lo))])), (kl, .inr (2, [.ref us, .int (iI (lev))])), (us, arI cs 7 se)] noA)) (va_Qi (fun r (_ : Unit) => r = iI (thI lev se wz.toNat)) (fun _ _ => True) noA) 4 24 noA := by
  refine va_MetW (cc := cL_forecast) (maxL := 5) (ret := some .int) (hh := [(0, 7, 8, 32), (0, 7, 13, 57), (0, 7, 18, 20)]) (by decide +kernel) rfl ?_
  intro p e s m args below meth c s₁ B hml hv
  obtain ⟨rfl, ⟨hP, hK, hD, hN⟩, hE⟩ := hv
  have hx := B.exec
  have hb := B.bytes
  have hr := B.returns
  have hts : ∀ w ∈ ALL, w.before _ s = true := fun w h => atoms_spec (ws := ws_L_forecast) B.pre w (List.mem_cons_of_mem _ h)
  have hown : s.vm.findClass RL = some m.cls := findClass_of_methodNamed B.named
  have hlocks := B.notSynchronized
  have htab : c.exceptionTable.toList = tableOf [(0, 7, 8, 32), (0, 7, 13, 57), (0, 7, 18, 20)] := vx_table (x := yL_forecast) B (atoms_spec (ws := ws_L_forecast) B.pre _ List.mem_cons_self)
  have hS : va_S noA s.heap s.heap [] := va_S.rf
  generalize inW [(kr, .inr (5, [.ref la, .ref ia, .ref na, .ref b4, .ref b6, .ref b8, .ref b10, .int (iI (((sh : Nat) : Int))), .int (iI (((it : Nat) : Int))), .int (iI (lc)), .int (iI (((dy : Nat) : Int))), .int (iI (pct)), .int (iI (lr)), .int (iI (sr))])), (la, arI cs 4 lf), (ia, arQ cs 2 5 itf), (na, arQ cs 3 20 lnf), (kn, .inr (3, [.ref hi, .int (iI (ld)), .int (iI (fd)), .int (iI (fk)), .int (iI (fv)), .ref kl, .ref ke, .ref kd, .ref ks, .ref ka, .int (iI (es)), .int (iI (sk)), .int (iI (so)), .int (iI (lo))])), (kl, .inr (2, [.ref us, .int (iI (lev))])), (us, arI cs 7 se)] = A at hD
  have hl := lv_entry ([.ref kr, .int (iI (((sn : Nat) : Int))), .int (iI (((tn : Nat) : Int))), .int (iI (wz))]) (n := 5) (Nat.le_of_ble_eq_true rfl)
  rw [lg_entry_eq]
  generalize (lg_sl ([.ref kr, .int (iI (((sn : Nat) : Int))), .int (iI (((tn : Nat) : Int))), .int (iI (wz))]) ++ List.replicate (5 - (lg_sl ([.ref kr, .int (iI (((sn : Nat) : Int))), .int (iI (((tn : Nat) : Int))), .int (iI (wz))])).length) Slot.unset).toArray = ls at hl ⊢
  have hl : lv_has ls 5 [(0, .ref kr), (1, .int (iI (((sn : Nat) : Int)))), (2, .int (iI (((tn : Nat) : Int)))), (3, .int (iI (wz)))] := hl
  have hH := rfl (a := s.heap)
  refine lv_aload_n hx hb dL_forecast_0 rfl (lv_at hl 0 rfl) ?_
  refine lv_iload_n hx hb dL_forecast_1 rfl (lv_at hl 1 rfl) ?_
  refine lv_iload_n hx hb dL_forecast_2 rfl (lv_at hl 2 rfl) ?_
  refine lv_iload_n hx hb dL_forecast_3 rfl (lv_at hl 3 rfl) ?_
  have pk1 : picks [(kr, .inr (5, [.ref la, .ref ia, .ref na, .ref b4, .ref b6, .ref b8, .ref b10, .int (iI (((sh : Nat) : Int))), .int (iI (((it : Nat) : Int))), .int (iI (lc)), .int (iI (((dy : Nat) : Int))), .int (iI (pct)), .int (iI (lr)), .int (iI (sr))])), (la, arI cs 4 lf), (ia, arQ cs 2 5 itf), (na, arQ cs 3 20 lnf), (kn, .inr (3, [.ref hi, .int (iI (ld)), .int (iI (fd)), .int (iI (fk)), .int (iI (fv)), .ref kl, .ref ke, .ref kd, .ref ks, .ref ka, .int (iI (es)), .int (iI (sk)), .int (iI (so)), .int (iI (lo))])), (kl, .inr (2, [.ref us, .int (iI (lev))])), (us, arI cs 7 se)] [0, 1, 2, 3, 4, 5, 6] [(kr, .inr (5, [.ref la, .ref ia, .ref na, .ref b4, .ref b6, .ref b8, .ref b10, .int (iI (((sh : Nat) : Int))), .int (iI (((it : Nat) : Int))), .int (iI (lc)), .int (iI (((dy : Nat) : Int))), .int (iI (pct)), .int (iI (lr)), .int (iI (sr))])), (la, arI cs 4 lf), (ia, arQ cs 2 5 itf), (na, arQ cs 3 20 lnf), (kn, .inr (3, [.ref hi, .int (iI (ld)), .int (iI (fd)), .int (iI (fk)), .int (iI (fv)), .ref kl, .ref ke, .ref kd, .ref ks, .ref ka, .int (iI (es)), .int (iI (sk)), .int (iI (so)), .int (iI (lo))])), (kl, .inr (2, [.ref us, .int (iI (lev))])), (us, arI cs 7 se)] := ⟨rfl, rfl, rfl, rfl, rfl, rfl, rfl, trivial⟩
  refine vx_calli (vx_runV (As := [.int (iI (((sn : Nat) : Int))), .int (iI (((tn : Nat) : Int))), .int (iI (wz))]) (rest := []) ⟨hx, hb, hml, hown, hts⟩ (m_X5_forecast_ok l hst D cs kr la ia na b4 b6 b8 b10 sh it lc dy pct lr sr lf itf lnf sn tn kn hi kl ke kd ks ka ld fd fk fv es sk so lo us lev se wz (hsh) (hit) (hitf) (hsn) (htn) (hln) (hlev) (hse) (hd) (hwz)) (cwV 3 hts (gV w_784 w_785 w_786 w_1 w_787) rfl rfl rfl (by decide +kernel) ⟨Nat.le_of_ble_eq_true rfl, Nat.le_of_ble_eq_true rfl⟩) (PE_V hK hN hE hS (fun _ h => False.elim h) hP hD [0, 1, 2, 3, 4, 5, 6] rfl pk1 rfl rfl) rfl rfl hl.1 rfl (lv_room (Nat.le_of_ble_eq_true rfl)) dL_forecast_4 ⟨Nat.le_of_ble_eq_true rfl, Nat.le_of_ble_eq_true rfl⟩) hS (fun _ _ h => False.elim h) (fun _ h => False.elim h) (fun _ _ h => False.elim h) (fun E ce q9 u t H1 locs1 ht hvm hpx hBX hz1 hk1 hS1 hce hcv hcl => ?_) (fun r u t H locs ht hvm hw hB hz1 hk1 hS => ?_)
  · exact absurd (hpx.1.trans hz) hpx.2
  obtain ⟨hc2, hw⟩ := hw
  subst hw
  have hP := P_kept hP hk1
  refine W.widen (k := 4) (n := 24) (by omega) (by omega) ?_
  have hres : iI (thI lev se wz.toNat) = iI (thI lev se wz.toNat) := congrArg iI (by
      rfl)
  exact W.iret hx hb hr (fun t ht hW => ⟨⟨_, (), rfl, hres, trivial⟩, hS.F ht⟩) hS.2.2 dL_forecast_7

abbrev ws_L_errors : List Cond := Cond.codeWith yL_errors cL_errors 5 (some .int) [(0, 7, 8, 32), (0, 7, 13, 57), (0, 7, 18, 20)] :: ALL
set_option maxHeartbeats 4000000 in
set_option maxRecDepth 100000 in
theorem m_L_errors_ok_r (l : Launch) (hst : l.stackTraces = false) (D : va_G) (cs : Nat → ClassId) (kr la ia na b4 b6 b8 b10 sh it : Nat) (lc : Int) (dy : Nat) (pct lr sr : Int) (lf : Nat → Int) (itf : Nat → Option Nat) (lnf : Nat → Option Nat) (sn tn : Nat) (kn hi kl ke kd ks ka : Nat) (ld fd fk fv es sk so lo : Int) (ef : Nat → Int) (wz : Int) (hsh : sh ≤ 4) (hit : it ≤ 5) (hitf : ∀ j, j < it → itf j ≠ none) (hsn : sn < sh) (htn : tn < it) (hln : lnf (sn * 5 + tn) = some kn) (hwz : -2147483648 ≤ wz ∧ wz < 2147483648) (hz : (if 0 ≤ wz ∧ wz ≤ 20 then 0 else 3) = 0) : Met l yL_errors ws_L_errors ({ frames := 9, cells := 4, slots := 24, locals := 151 }) (va_Pc [.ref kr, .int (iI (((sn : Nat) : Int))), .int (iI (((tn : Nat) : Int))), .int (iI (wz))] (PE D cs [(kr, .inr (5, [.ref la, .ref ia, .ref na, .ref b4, .ref b6, .ref b8, .ref b10, .int (iI (((sh : Nat) : Int))), .int (iI (((it : Nat) : Int))), .int (iI (lc)), .int (iI (((dy : Nat) : Int))), .int (iI (pct)), .int (iI (lr)), .int (iI (sr))])), (la, arI cs 4 lf), (ia, arQ cs 2 5 itf), (na, arQ cs 3 20 lnf), (kn, .inr (3, [.ref hi, .int (iI (ld)), .int (iI (fd)), .int (iI (fk)), .int (iI (fv)), .ref kl, .ref ke, .ref kd, .ref ks, .ref ka, .int (iI (es)), .int (iI (sk)), .int (iI (so)), .int (iI (lo))])), (ke, arI cs 21 ef)] noA)) (va_Qi (fun r (_ : Unit) => r = iI (ef wz.toNat)) (fun _ _ => True) noA) 4 24 noA := by
  refine va_MetW (cc := cL_errors) (maxL := 5) (ret := some .int) (hh := [(0, 7, 8, 32), (0, 7, 13, 57), (0, 7, 18, 20)]) (by decide +kernel) rfl ?_
  intro p e s m args below meth c s₁ B hml hv
  obtain ⟨rfl, ⟨hP, hK, hD, hN⟩, hE⟩ := hv
  have hx := B.exec
  have hb := B.bytes
  have hr := B.returns
  have hts : ∀ w ∈ ALL, w.before _ s = true := fun w h => atoms_spec (ws := ws_L_errors) B.pre w (List.mem_cons_of_mem _ h)
  have hown : s.vm.findClass RL = some m.cls := findClass_of_methodNamed B.named
  have hlocks := B.notSynchronized
  have htab : c.exceptionTable.toList = tableOf [(0, 7, 8, 32), (0, 7, 13, 57), (0, 7, 18, 20)] := vx_table (x := yL_errors) B (atoms_spec (ws := ws_L_errors) B.pre _ List.mem_cons_self)
  have hS : va_S noA s.heap s.heap [] := va_S.rf
  generalize inW [(kr, .inr (5, [.ref la, .ref ia, .ref na, .ref b4, .ref b6, .ref b8, .ref b10, .int (iI (((sh : Nat) : Int))), .int (iI (((it : Nat) : Int))), .int (iI (lc)), .int (iI (((dy : Nat) : Int))), .int (iI (pct)), .int (iI (lr)), .int (iI (sr))])), (la, arI cs 4 lf), (ia, arQ cs 2 5 itf), (na, arQ cs 3 20 lnf), (kn, .inr (3, [.ref hi, .int (iI (ld)), .int (iI (fd)), .int (iI (fk)), .int (iI (fv)), .ref kl, .ref ke, .ref kd, .ref ks, .ref ka, .int (iI (es)), .int (iI (sk)), .int (iI (so)), .int (iI (lo))])), (ke, arI cs 21 ef)] = A at hD
  have hl := lv_entry ([.ref kr, .int (iI (((sn : Nat) : Int))), .int (iI (((tn : Nat) : Int))), .int (iI (wz))]) (n := 5) (Nat.le_of_ble_eq_true rfl)
  rw [lg_entry_eq]
  generalize (lg_sl ([.ref kr, .int (iI (((sn : Nat) : Int))), .int (iI (((tn : Nat) : Int))), .int (iI (wz))]) ++ List.replicate (5 - (lg_sl ([.ref kr, .int (iI (((sn : Nat) : Int))), .int (iI (((tn : Nat) : Int))), .int (iI (wz))])).length) Slot.unset).toArray = ls at hl ⊢
  have hl : lv_has ls 5 [(0, .ref kr), (1, .int (iI (((sn : Nat) : Int)))), (2, .int (iI (((tn : Nat) : Int)))), (3, .int (iI (wz)))] := hl
  have hH := rfl (a := s.heap)
  refine lv_aload_n hx hb dL_errors_0 rfl (lv_at hl 0 rfl) ?_
  refine lv_iload_n hx hb dL_errors_1 rfl (lv_at hl 1 rfl) ?_
  refine lv_iload_n hx hb dL_errors_2 rfl (lv_at hl 2 rfl) ?_
  refine lv_iload_n hx hb dL_errors_3 rfl (lv_at hl 3 rfl) ?_
  have pk1 : picks [(kr, .inr (5, [.ref la, .ref ia, .ref na, .ref b4, .ref b6, .ref b8, .ref b10, .int (iI (((sh : Nat) : Int))), .int (iI (((it : Nat) : Int))), .int (iI (lc)), .int (iI (((dy : Nat) : Int))), .int (iI (pct)), .int (iI (lr)), .int (iI (sr))])), (la, arI cs 4 lf), (ia, arQ cs 2 5 itf), (na, arQ cs 3 20 lnf), (kn, .inr (3, [.ref hi, .int (iI (ld)), .int (iI (fd)), .int (iI (fk)), .int (iI (fv)), .ref kl, .ref ke, .ref kd, .ref ks, .ref ka, .int (iI (es)), .int (iI (sk)), .int (iI (so)), .int (iI (lo))])), (ke, arI cs 21 ef)] [0, 1, 2, 3, 4, 5] [(kr, .inr (5, [.ref la, .ref ia, .ref na, .ref b4, .ref b6, .ref b8, .ref b10, .int (iI (((sh : Nat) : Int))), .int (iI (((it : Nat) : Int))), .int (iI (lc)), .int (iI (((dy : Nat) : Int))), .int (iI (pct)), .int (iI (lr)), .int (iI (sr))])), (la, arI cs 4 lf), (ia, arQ cs 2 5 itf), (na, arQ cs 3 20 lnf), (kn, .inr (3, [.ref hi, .int (iI (ld)), .int (iI (fd)), .int (iI (fk)), .int (iI (fv)), .ref kl, .ref ke, .ref kd, .ref ks, .ref ka, .int (iI (es)), .int (iI (sk)), .int (iI (so)), .int (iI (lo))])), (ke, arI cs 21 ef)] := ⟨rfl, rfl, rfl, rfl, rfl, rfl, trivial⟩
  refine vx_calli (vx_runV (As := [.int (iI (((sn : Nat) : Int))), .int (iI (((tn : Nat) : Int))), .int (iI (wz))]) (rest := []) ⟨hx, hb, hml, hown, hts⟩ (m_X5_errors_ok l hst D cs kr la ia na b4 b6 b8 b10 sh it lc dy pct lr sr lf itf lnf sn tn kn hi kl ke kd ks ka ld fd fk fv es sk so lo ef wz (hsh) (hit) (hitf) (hsn) (htn) (hln) (hwz)) (cwV 3 hts (gV w_772 w_773 w_774 w_1 w_775) rfl rfl rfl (by decide +kernel) ⟨Nat.le_of_ble_eq_true rfl, Nat.le_of_ble_eq_true rfl⟩) (PE_V hK hN hE hS (fun _ h => False.elim h) hP hD [0, 1, 2, 3, 4, 5] rfl pk1 rfl rfl) rfl rfl hl.1 rfl (lv_room (Nat.le_of_ble_eq_true rfl)) dL_errors_4 ⟨Nat.le_of_ble_eq_true rfl, Nat.le_of_ble_eq_true rfl⟩) hS (fun _ _ h => False.elim h) (fun _ h => False.elim h) (fun _ _ h => False.elim h) (fun E ce q9 u t H1 locs1 ht hvm hpx hBX hz1 hk1 hS1 hce hcv hcl => ?_) (fun r u t H locs ht hvm hw hB hz1 hk1 hS => ?_)
  · exact absurd (hpx.1.trans hz) hpx.2
  obtain ⟨hc2, hw⟩ := hw
  subst hw
  have hP := P_kept hP hk1
  refine W.widen (k := 4) (n := 24) (by omega) (by omega) ?_
  have hres : iI (ef wz.toNat) = iI (ef wz.toNat) := congrArg iI (by
      rfl)
  exact W.iret hx hb hr (fun t ht hW => ⟨⟨_, (), rfl, hres, trivial⟩, hS.F ht⟩) hS.2.2 dL_errors_7

abbrev ws_L_nextArrival : List Cond := Cond.codeWith yL_nextArrival cL_nextArrival 4 (some .int) [(0, 6, 7, 32), (0, 6, 11, 57)] :: ALL
set_option maxHeartbeats 4000000 in
set_option maxRecDepth 100000 in
theorem m_L_nextArrival_no_t (l : Launch) (hst : l.stackTraces = false) (D : va_G) (cs : Nat → ClassId) (kr la ia na b4 b6 b8 b10 sh it : Nat) (lc : Int) (dy : Nat) (pct lr sr : Int) (lf : Nat → Int) (itf : Nat → Option Nat) (lnf : Nat → Option Nat) (zs zi : Int) (hsh : sh ≤ 4) (hit : it ≤ 5) (hitf : ∀ j, j < it → itf j ≠ none) (hzs : -2147483648 ≤ zs ∧ zs < 2147483648) (hzi : -2147483648 ≤ zi ∧ zi < 2147483648) (hno : cdL sh it lnf zs zi ≠ 0) : Met l yL_nextArrival ws_L_nextArrival ({ frames := 9, cells := 4, slots := 24, locals := 150 }) (va_Pc [.ref kr, .int (iI (zs)), .int (iI (zi))] (PE D cs [(kr, .inr (5, [.ref la, .ref ia, .ref na, .ref b4, .ref b6, .ref b8, .ref b10, .int (iI (((sh : Nat) : Int))), .int (iI (((it : Nat) : Int))), .int (iI (lc)), .int (iI (((dy : Nat) : Int))), .int (iI (pct)), .int (iI (lr)), .int (iI (sr))])), (la, arI cs 4 lf), (ia, arQ cs 2 5 itf), (na, arQ cs 3 20 lnf)] noA)) (va_Qi (fun r (_ : Unit) => r = iI (exv (cdL sh it lnf zs zi))) (fun _ _ => True) noA) 4 24 noA := by
  refine va_MetW (cc := cL_nextArrival) (maxL := 4) (ret := some .int) (hh := [(0, 6, 7, 32), (0, 6, 11, 57)]) (by decide +kernel) rfl ?_
  intro p e s m args below meth c s₁ B hml hv
  obtain ⟨rfl, ⟨hP, hK, hD, hN⟩, hE⟩ := hv
  have hx := B.exec
  have hb := B.bytes
  have hr := B.returns
  have hts : ∀ w ∈ ALL, w.before _ s = true := fun w h => atoms_spec (ws := ws_L_nextArrival) B.pre w (List.mem_cons_of_mem _ h)
  have hown : s.vm.findClass RL = some m.cls := findClass_of_methodNamed B.named
  have hlocks := B.notSynchronized
  have htab : c.exceptionTable.toList = tableOf [(0, 6, 7, 32), (0, 6, 11, 57)] := vx_table (x := yL_nextArrival) B (atoms_spec (ws := ws_L_nextArrival) B.pre _ List.mem_cons_self)
  have hS : va_S noA s.heap s.heap [] := va_S.rf
  generalize inW [(kr, .inr (5, [.ref la, .ref ia, .ref na, .ref b4, .ref b6, .ref b8, .ref b10, .int (iI (((sh : Nat) : Int))), .int (iI (((it : Nat) : Int))), .int (iI (lc)), .int (iI (((dy : Nat) : Int))), .int (iI (pct)), .int (iI (lr)), .int (iI (sr))])), (la, arI cs 4 lf), (ia, arQ cs 2 5 itf), (na, arQ cs 3 20 lnf)] = A at hD
  have hl := lv_entry ([.ref kr, .int (iI (zs)), .int (iI (zi))]) (n := 4) (Nat.le_of_ble_eq_true rfl)
  rw [lg_entry_eq]
  generalize (lg_sl ([.ref kr, .int (iI (zs)), .int (iI (zi))]) ++ List.replicate (4 - (lg_sl ([.ref kr, .int (iI (zs)), .int (iI (zi))])).length) Slot.unset).toArray = ls at hl ⊢
  have hl : lv_has ls 4 [(0, .ref kr), (1, .int (iI (zs))), (2, .int (iI (zi)))] := hl
  have hH := rfl (a := s.heap)
  refine lv_aload_n hx hb dL_nextArrival_0 rfl (lv_at hl 0 rfl) ?_
  refine lv_iload_n hx hb dL_nextArrival_1 rfl (lv_at hl 1 rfl) ?_
  refine lv_iload_n hx hb dL_nextArrival_2 rfl (lv_at hl 2 rfl) ?_
  have pk1 : picks [(kr, .inr (5, [.ref la, .ref ia, .ref na, .ref b4, .ref b6, .ref b8, .ref b10, .int (iI (((sh : Nat) : Int))), .int (iI (((it : Nat) : Int))), .int (iI (lc)), .int (iI (((dy : Nat) : Int))), .int (iI (pct)), .int (iI (lr)), .int (iI (sr))])), (la, arI cs 4 lf), (ia, arQ cs 2 5 itf), (na, arQ cs 3 20 lnf)] [0, 1, 2, 3] [(kr, .inr (5, [.ref la, .ref ia, .ref na, .ref b4, .ref b6, .ref b8, .ref b10, .int (iI (((sh : Nat) : Int))), .int (iI (((it : Nat) : Int))), .int (iI (lc)), .int (iI (((dy : Nat) : Int))), .int (iI (pct)), .int (iI (lr)), .int (iI (sr))])), (la, arI cs 4 lf), (ia, arQ cs 2 5 itf), (na, arQ cs 3 20 lnf)] := ⟨rfl, rfl, rfl, rfl, trivial⟩
  refine vx_calli (vx_runV (As := [.int (iI (zs)), .int (iI (zi))]) (rest := []) ⟨hx, hb, hml, hown, hts⟩ (m_X5_nextArrival_no l hst D cs kr la ia na b4 b6 b8 b10 sh it lc dy pct lr sr lf itf lnf zs zi (hsh) (hit) (hitf) (hzs) (hzi) (hno)) (cwV 2 hts (gV w_700 w_701 w_702 w_1 w_703) rfl rfl rfl (by decide +kernel) ⟨Nat.le_of_ble_eq_true rfl, Nat.le_of_ble_eq_true rfl⟩) (PE_V hK hN hE hS (fun _ h => False.elim h) hP hD [0, 1, 2, 3] rfl pk1 rfl rfl) rfl rfl hl.1 rfl (lv_room (Nat.le_of_ble_eq_true rfl)) dL_nextArrival_3 ⟨Nat.le_of_ble_eq_true rfl, Nat.le_of_ble_eq_true rfl⟩) hS (fun _ _ h => False.elim h) (fun _ h => False.elim h) (fun _ _ h => False.elim h) (fun E ce q9 u t H1 locs1 ht hvm hpx hBX hz1 hk1 hS1 hce hcv hcl => ?_) (fun r u t H locs ht hvm hw hB hz1 hk1 hS => ?_)
  · have h9 : u = cdL sh it lnf zs zi := hpx.1
    have hS := hS1
    have hcd : cdL sh it lnf zs zi = 2 ∨ cdL sh it lnf zs zi = 1 := by
      revert hno
      (try unfold cdL); (try unfold cdS); (try unfold cdC)
      (repeat' split) <;> simp
    have hEu := hBX
    have hP := P_kept hP hk1
    rcases hcd with hc3 | hcd
    · have hE3 : E = "java/util/NoSuchElementException" := by have h8 : E = exN u := hEu; rw [h8, h9, hc3]; rfl
      subst hE3
      refine vx_catch (name := "java/util/NoSuchElementException") hown [⟨0, 6, 7, 32⟩] ⟨0, 6, 11, 57⟩ [] (htab.trans rfl) (fun z hz => by
          simp only [List.mem_cons, List.not_mem_nil, or_false] at hz
          rcases hz with rfl
          · exact Or.inr ⟨by decide, "java/lang/IndexOutOfBoundsException", hts _ w_272, hE.2.2.2.2.2 _ (List.mem_of_getElem? (i := 10) rfl)⟩) rfl (by decide) (hts _ w_460) (hE.use _ (List.mem_append_right _ (List.mem_map.mpr ⟨_, List.mem_of_getElem? (i := 1) rfl, rfl⟩))) hce hcv hcl ?_
      refine lv_astore_n (lv' := [(3, .ref q9), (0, .ref kr), (1, .int (iI (zs))), (2, .int (iI (zi)))]) hx hb dL_nextArrival_11 rfl hl (by decide) rfl (fun ls hl => ?_)
      refine lv_bipush (v := iI (-75)) hx hb dL_nextArrival_12 (by decide) ?_
      refine W.widen (k := 4) (n := 24) (by omega) (by omega) ?_
      have hres : iI (-75) = iI (exv (cdL sh it lnf zs zi)) := congrArg iI (by
          rw [hc3]; rfl)
      exact W.iret hx hb hr (fun t ht hW => ⟨⟨_, (), rfl, hres, trivial⟩, hS.F ht⟩) hS.2.2 dL_nextArrival_14
    have hc3 := hcd
    have hE3 : E = "java/lang/IndexOutOfBoundsException" := by have h8 : E = exN u := hEu; rw [h8, h9, hc3]; rfl
    subst hE3
    refine vx_catch (name := "java/lang/IndexOutOfBoundsException") hown [] ⟨0, 6, 7, 32⟩ [⟨0, 6, 11, 57⟩] (htab.trans rfl) (fun z hz => by cases hz) rfl (by decide) (hts _ w_272) (hE.use _ (List.mem_append_right _ (List.mem_map.mpr ⟨_, List.mem_of_getElem? (i := 0) rfl, rfl⟩))) hce hcv hcl ?_
    refine lv_astore_n (lv' := [(3, .ref q9), (0, .ref kr), (1, .int (iI (zs))), (2, .int (iI (zi)))]) hx hb dL_nextArrival_7 rfl hl (by decide) rfl (fun ls hl => ?_)
    refine lv_bipush (v := iI (-77)) hx hb dL_nextArrival_8 (by decide) ?_
    refine W.widen (k := 4) (n := 24) (by omega) (by omega) ?_
    have hres : iI (-77) = iI (exv (cdL sh it lnf zs zi)) := congrArg iI (by
        rw [hc3]; rfl)
    exact W.iret hx hb hr (fun t ht hW => ⟨⟨_, (), rfl, hres, trivial⟩, hS.F ht⟩) hS.2.2 dL_nextArrival_10
  obtain ⟨hc2, hw⟩ := hw
  subst hw
  have hP := P_kept hP hk1
  exact absurd hc2 hno

set_option maxHeartbeats 4000000 in
set_option maxRecDepth 100000 in
theorem m_L_nextArrival_ok_r (l : Launch) (hst : l.stackTraces = false) (D : va_G) (cs : Nat → ClassId) (kr la ia na b4 b6 b8 b10 sh it : Nat) (lc : Int) (dy : Nat) (pct lr sr : Int) (lf : Nat → Int) (itf : Nat → Option Nat) (lnf : Nat → Option Nat) (sn tn : Nat) (kn hi kl ke kd ks ka : Nat) (ld fd fk fv es sk so lo : Int) (ua : Nat) (ar : Nat → Int) (hsh : sh ≤ 4) (hit : it ≤ 5) (hitf : ∀ j, j < it → itf j ≠ none) (hsn : sn < sh) (htn : tn < it) (hln : lnf (sn * 5 + tn) = some kn) (hd : dy < 1000) (har : ∀ j, 0 ≤ ar j ∧ ar j < 2147483648) (hz : (if fdI ar dy 1 5 < 0 then 2 else 0) = 0) : Met l yL_nextArrival ws_L_nextArrival ({ frames := 9, cells := 4, slots := 24, locals := 150 }) (va_Pc [.ref kr, .int (iI (((sn : Nat) : Int))), .int (iI (((tn : Nat) : Int)))] (PE D cs [(kr, .inr (5, [.ref la, .ref ia, .ref na, .ref b4, .ref b6, .ref b8, .ref b10, .int (iI (((sh : Nat) : Int))), .int (iI (((it : Nat) : Int))), .int (iI (lc)), .int (iI (((dy : Nat) : Int))), .int (iI (pct)), .int (iI (lr)), .int (iI (sr))])), (la, arI cs 4 lf), (ia, arQ cs 2 5 itf), (na, arQ cs 3 20 lnf), (kn, .inr (3, [.ref hi, .int (iI (ld)), .int (iI (fd)), .int (iI (fk)), .int (iI (fv)), .ref kl, .ref ke, .ref kd, .ref ks, .ref ka, .int (iI (es)), .int (iI (sk)), .int (iI (so)), .int (iI (lo))])), (ka, .inr (0, [.ref ua])), (ua, arI cs 1005 ar)] noA)) (va_Qi (fun r (_ : Unit) => r = iI (fdI ar dy 1 5)) (fun _ _ => True) noA) 4 24 noA := by
  refine va_MetW (cc := cL_nextArrival) (maxL := 4) (ret := some .int) (hh := [(0, 6, 7, 32), (0, 6, 11, 57)]) (by decide +kernel) rfl ?_
  intro p e s m args below meth c s₁ B hml hv
  obtain ⟨rfl, ⟨hP, hK, hD, hN⟩, hE⟩ := hv
  have hx := B.exec
  have hb := B.bytes
  have hr := B.returns
  have hts : ∀ w ∈ ALL, w.before _ s = true := fun w h => atoms_spec (ws := ws_L_nextArrival) B.pre w (List.mem_cons_of_mem _ h)
  have hown : s.vm.findClass RL = some m.cls := findClass_of_methodNamed B.named
  have hlocks := B.notSynchronized
  have htab : c.exceptionTable.toList = tableOf [(0, 6, 7, 32), (0, 6, 11, 57)] := vx_table (x := yL_nextArrival) B (atoms_spec (ws := ws_L_nextArrival) B.pre _ List.mem_cons_self)
  have hS : va_S noA s.heap s.heap [] := va_S.rf
  generalize inW [(kr, .inr (5, [.ref la, .ref ia, .ref na, .ref b4, .ref b6, .ref b8, .ref b10, .int (iI (((sh : Nat) : Int))), .int (iI (((it : Nat) : Int))), .int (iI (lc)), .int (iI (((dy : Nat) : Int))), .int (iI (pct)), .int (iI (lr)), .int (iI (sr))])), (la, arI cs 4 lf), (ia, arQ cs 2 5 itf), (na, arQ cs 3 20 lnf), (kn, .inr (3, [.ref hi, .int (iI (ld)), .int (iI (fd)), .int (iI (fk)), .int (iI (fv)), .ref kl, .ref ke, .ref kd, .ref ks, .ref ka, .int (iI (es)), .int (iI (sk)), .int (iI (so)), .int (iI (lo))])), (ka, .inr (0, [.ref ua])), (ua, arI cs 1005 ar)] = A at hD
  have hl := lv_entry ([.ref kr, .int (iI (((sn : Nat) : Int))), .int (iI (((tn : Nat) : Int)))]) (n := 4) (Nat.le_of_ble_eq_true rfl)
  rw [lg_entry_eq]
  generalize (lg_sl ([.ref kr, .int (iI (((sn : Nat) : Int))), .int (iI (((tn : Nat) : Int)))]) ++ List.replicate (4 - (lg_sl ([.ref kr, .int (iI (((sn : Nat) : Int))), .int (iI (((tn : Nat) : Int)))])).length) Slot.unset).toArray = ls at hl ⊢
  have hl : lv_has ls 4 [(0, .ref kr), (1, .int (iI (((sn : Nat) : Int)))), (2, .int (iI (((tn : Nat) : Int))))] := hl
  have hH := rfl (a := s.heap)
  refine lv_aload_n hx hb dL_nextArrival_0 rfl (lv_at hl 0 rfl) ?_
  refine lv_iload_n hx hb dL_nextArrival_1 rfl (lv_at hl 1 rfl) ?_
  refine lv_iload_n hx hb dL_nextArrival_2 rfl (lv_at hl 2 rfl) ?_
  have pk1 : picks [(kr, .inr (5, [.ref la, .ref ia, .ref na, .ref b4, .ref b6, .ref b8, .ref b10, .int (iI (((sh : Nat) : Int))), .int (iI (((it : Nat) : Int))), .int (iI (lc)), .int (iI (((dy : Nat) : Int))), .int (iI (pct)), .int (iI (lr)), .int (iI (sr))])), (la, arI cs 4 lf), (ia, arQ cs 2 5 itf), (na, arQ cs 3 20 lnf), (kn, .inr (3, [.ref hi, .int (iI (ld)), .int (iI (fd)), .int (iI (fk)), .int (iI (fv)), .ref kl, .ref ke, .ref kd, .ref ks, .ref ka, .int (iI (es)), .int (iI (sk)), .int (iI (so)), .int (iI (lo))])), (ka, .inr (0, [.ref ua])), (ua, arI cs 1005 ar)] [0, 1, 2, 3, 4, 5, 6] [(kr, .inr (5, [.ref la, .ref ia, .ref na, .ref b4, .ref b6, .ref b8, .ref b10, .int (iI (((sh : Nat) : Int))), .int (iI (((it : Nat) : Int))), .int (iI (lc)), .int (iI (((dy : Nat) : Int))), .int (iI (pct)), .int (iI (lr)), .int (iI (sr))])), (la, arI cs 4 lf), (ia, arQ cs 2 5 itf), (na, arQ cs 3 20 lnf), (kn, .inr (3, [.ref hi, .int (iI (ld)), .int (iI (fd)), .int (iI (fk)), .int (iI (fv)), .ref kl, .ref ke, .ref kd, .ref ks, .ref ka, .int (iI (es)), .int (iI (sk)), .int (iI (so)), .int (iI (lo))])), (ka, .inr (0, [.ref ua])), (ua, arI cs 1005 ar)] := ⟨rfl, rfl, rfl, rfl, rfl, rfl, rfl, trivial⟩
  refine vx_calli (vx_runV (As := [.int (iI (((sn : Nat) : Int))), .int (iI (((tn : Nat) : Int)))]) (rest := []) ⟨hx, hb, hml, hown, hts⟩ (m_X5_nextArrival_ok l hst D cs kr la ia na b4 b6 b8 b10 sh it lc dy pct lr sr lf itf lnf sn tn kn hi kl ke kd ks ka ld fd fk fv es sk so lo ua ar (hsh) (hit) (hitf) (hsn) (htn) (hln) (hd) (har)) (cwV 2 hts (gV w_700 w_701 w_702 w_1 w_703) rfl rfl rfl (by decide +kernel) ⟨Nat.le_of_ble_eq_true rfl, Nat.le_of_ble_eq_true rfl⟩) (PE_V hK hN hE hS (fun _ h => False.elim h) hP hD [0, 1, 2, 3, 4, 5, 6] rfl pk1 rfl rfl) rfl rfl hl.1 rfl (lv_room (Nat.le_of_ble_eq_true rfl)) dL_nextArrival_3 ⟨Nat.le_of_ble_eq_true rfl, Nat.le_of_ble_eq_true rfl⟩) hS (fun _ _ h => False.elim h) (fun _ h => False.elim h) (fun _ _ h => False.elim h) (fun E ce q9 u t H1 locs1 ht hvm hpx hBX hz1 hk1 hS1 hce hcv hcl => ?_) (fun r u t H locs ht hvm hw hB hz1 hk1 hS => ?_)
  · exact absurd (hpx.1.trans hz) hpx.2
  obtain ⟨hc2, hw⟩ := hw
  subst hw
  have hP := P_kept hP hk1
  refine W.widen (k := 4) (n := 24) (by omega) (by omega) ?_
  have hres : iI (fdI ar dy 1 5) = iI (fdI ar dy 1 5) := congrArg iI (by
      rfl)
  exact W.iret hx hb hr (fun t ht hW => ⟨⟨_, (), rfl, hres, trivial⟩, hS.F ht⟩) hS.2.2 dL_nextArrival_6

set_option maxHeartbeats 4000000 in
set_option maxRecDepth 100000 in
theorem m_L_nextArrival_ok_t (l : Launch) (hst : l.stackTraces = false) (D : va_G) (cs : Nat → ClassId) (kr la ia na b4 b6 b8 b10 sh it : Nat) (lc : Int) (dy : Nat) (pct lr sr : Int) (lf : Nat → Int) (itf : Nat → Option Nat) (lnf : Nat → Option Nat) (sn tn : Nat) (kn hi kl ke kd ks ka : Nat) (ld fd fk fv es sk so lo : Int) (ua : Nat) (ar : Nat → Int) (hsh : sh ≤ 4) (hit : it ≤ 5) (hitf : ∀ j, j < it → itf j ≠ none) (hsn : sn < sh) (htn : tn < it) (hln : lnf (sn * 5 + tn) = some kn) (hd : dy < 1000) (har : ∀ j, 0 ≤ ar j ∧ ar j < 2147483648) (hne : (if fdI ar dy 1 5 < 0 then 2 else 0) ≠ 0) : Met l yL_nextArrival ws_L_nextArrival ({ frames := 9, cells := 4, slots := 24, locals := 150 }) (va_Pc [.ref kr, .int (iI (((sn : Nat) : Int))), .int (iI (((tn : Nat) : Int)))] (PE D cs [(kr, .inr (5, [.ref la, .ref ia, .ref na, .ref b4, .ref b6, .ref b8, .ref b10, .int (iI (((sh : Nat) : Int))), .int (iI (((it : Nat) : Int))), .int (iI (lc)), .int (iI (((dy : Nat) : Int))), .int (iI (pct)), .int (iI (lr)), .int (iI (sr))])), (la, arI cs 4 lf), (ia, arQ cs 2 5 itf), (na, arQ cs 3 20 lnf), (kn, .inr (3, [.ref hi, .int (iI (ld)), .int (iI (fd)), .int (iI (fk)), .int (iI (fv)), .ref kl, .ref ke, .ref kd, .ref ks, .ref ka, .int (iI (es)), .int (iI (sk)), .int (iI (so)), .int (iI (lo))])), (ka, .inr (0, [.ref ua])), (ua, arI cs 1005 ar)] noA)) (va_Qi (fun r (_ : Unit) => r = iI (exv (if fdI ar dy 1 5 < 0 then 2 else 0))) (fun _ _ => True) noA) 4 24 noA := by
  refine va_MetW (cc := cL_nextArrival) (maxL := 4) (ret := some .int) (hh := [(0, 6, 7, 32), (0, 6, 11, 57)]) (by decide +kernel) rfl ?_
  intro p e s m args below meth c s₁ B hml hv
  obtain ⟨rfl, ⟨hP, hK, hD, hN⟩, hE⟩ := hv
  have hx := B.exec
  have hb := B.bytes
  have hr := B.returns
  have hts : ∀ w ∈ ALL, w.before _ s = true := fun w h => atoms_spec (ws := ws_L_nextArrival) B.pre w (List.mem_cons_of_mem _ h)
  have hown : s.vm.findClass RL = some m.cls := findClass_of_methodNamed B.named
  have hlocks := B.notSynchronized
  have htab : c.exceptionTable.toList = tableOf [(0, 6, 7, 32), (0, 6, 11, 57)] := vx_table (x := yL_nextArrival) B (atoms_spec (ws := ws_L_nextArrival) B.pre _ List.mem_cons_self)
  have hS : va_S noA s.heap s.heap [] := va_S.rf
  generalize inW [(kr, .inr (5, [.ref la, .ref ia, .ref na, .ref b4, .ref b6, .ref b8, .ref b10, .int (iI (((sh : Nat) : Int))), .int (iI (((it : Nat) : Int))), .int (iI (lc)), .int (iI (((dy : Nat) : Int))), .int (iI (pct)), .int (iI (lr)), .int (iI (sr))])), (la, arI cs 4 lf), (ia, arQ cs 2 5 itf), (na, arQ cs 3 20 lnf), (kn, .inr (3, [.ref hi, .int (iI (ld)), .int (iI (fd)), .int (iI (fk)), .int (iI (fv)), .ref kl, .ref ke, .ref kd, .ref ks, .ref ka, .int (iI (es)), .int (iI (sk)), .int (iI (so)), .int (iI (lo))])), (ka, .inr (0, [.ref ua])), (ua, arI cs 1005 ar)] = A at hD
  have hl := lv_entry ([.ref kr, .int (iI (((sn : Nat) : Int))), .int (iI (((tn : Nat) : Int)))]) (n := 4) (Nat.le_of_ble_eq_true rfl)
  rw [lg_entry_eq]
  generalize (lg_sl ([.ref kr, .int (iI (((sn : Nat) : Int))), .int (iI (((tn : Nat) : Int)))]) ++ List.replicate (4 - (lg_sl ([.ref kr, .int (iI (((sn : Nat) : Int))), .int (iI (((tn : Nat) : Int)))])).length) Slot.unset).toArray = ls at hl ⊢
  have hl : lv_has ls 4 [(0, .ref kr), (1, .int (iI (((sn : Nat) : Int)))), (2, .int (iI (((tn : Nat) : Int))))] := hl
  have hH := rfl (a := s.heap)
  refine lv_aload_n hx hb dL_nextArrival_0 rfl (lv_at hl 0 rfl) ?_
  refine lv_iload_n hx hb dL_nextArrival_1 rfl (lv_at hl 1 rfl) ?_
  refine lv_iload_n hx hb dL_nextArrival_2 rfl (lv_at hl 2 rfl) ?_
  have pk1 : picks [(kr, .inr (5, [.ref la, .ref ia, .ref na, .ref b4, .ref b6, .ref b8, .ref b10, .int (iI (((sh : Nat) : Int))), .int (iI (((it : Nat) : Int))), .int (iI (lc)), .int (iI (((dy : Nat) : Int))), .int (iI (pct)), .int (iI (lr)), .int (iI (sr))])), (la, arI cs 4 lf), (ia, arQ cs 2 5 itf), (na, arQ cs 3 20 lnf), (kn, .inr (3, [.ref hi, .int (iI (ld)), .int (iI (fd)), .int (iI (fk)), .int (iI (fv)), .ref kl, .ref ke, .ref kd, .ref ks, .ref ka, .int (iI (es)), .int (iI (sk)), .int (iI (so)), .int (iI (lo))])), (ka, .inr (0, [.ref ua])), (ua, arI cs 1005 ar)] [0, 1, 2, 3, 4, 5, 6] [(kr, .inr (5, [.ref la, .ref ia, .ref na, .ref b4, .ref b6, .ref b8, .ref b10, .int (iI (((sh : Nat) : Int))), .int (iI (((it : Nat) : Int))), .int (iI (lc)), .int (iI (((dy : Nat) : Int))), .int (iI (pct)), .int (iI (lr)), .int (iI (sr))])), (la, arI cs 4 lf), (ia, arQ cs 2 5 itf), (na, arQ cs 3 20 lnf), (kn, .inr (3, [.ref hi, .int (iI (ld)), .int (iI (fd)), .int (iI (fk)), .int (iI (fv)), .ref kl, .ref ke, .ref kd, .ref ks, .ref ka, .int (iI (es)), .int (iI (sk)), .int (iI (so)), .int (iI (lo))])), (ka, .inr (0, [.ref ua])), (ua, arI cs 1005 ar)] := ⟨rfl, rfl, rfl, rfl, rfl, rfl, rfl, trivial⟩
  refine vx_calli (vx_runV (As := [.int (iI (((sn : Nat) : Int))), .int (iI (((tn : Nat) : Int)))]) (rest := []) ⟨hx, hb, hml, hown, hts⟩ (m_X5_nextArrival_ok l hst D cs kr la ia na b4 b6 b8 b10 sh it lc dy pct lr sr lf itf lnf sn tn kn hi kl ke kd ks ka ld fd fk fv es sk so lo ua ar (hsh) (hit) (hitf) (hsn) (htn) (hln) (hd) (har)) (cwV 2 hts (gV w_700 w_701 w_702 w_1 w_703) rfl rfl rfl (by decide +kernel) ⟨Nat.le_of_ble_eq_true rfl, Nat.le_of_ble_eq_true rfl⟩) (PE_V hK hN hE hS (fun _ h => False.elim h) hP hD [0, 1, 2, 3, 4, 5, 6] rfl pk1 rfl rfl) rfl rfl hl.1 rfl (lv_room (Nat.le_of_ble_eq_true rfl)) dL_nextArrival_3 ⟨Nat.le_of_ble_eq_true rfl, Nat.le_of_ble_eq_true rfl⟩) hS (fun _ _ h => False.elim h) (fun _ h => False.elim h) (fun _ _ h => False.elim h) (fun E ce q9 u t H1 locs1 ht hvm hpx hBX hz1 hk1 hS1 hce hcv hcl => ?_) (fun r u t H locs ht hvm hw hB hz1 hk1 hS => ?_)
  · have h9 : u = (if fdI ar dy 1 5 < 0 then 2 else 0) := hpx.1
    have hS := hS1
    have hcd : (if fdI ar dy 1 5 < 0 then 2 else 0) = 2 := by
      revert hne
      (try unfold cdL); (try unfold cdS); (try unfold cdC)
      (repeat' split) <;> simp
    have hEu := hBX
    have hP := P_kept hP hk1
    have hc3 := hcd
    have hE3 : E = "java/util/NoSuchElementException" := by have h8 : E = exN u := hEu; rw [h8, h9, hc3]; rfl
    subst hE3
    refine vx_catch (name := "java/util/NoSuchElementException") hown [⟨0, 6, 7, 32⟩] ⟨0, 6, 11, 57⟩ [] (htab.trans rfl) (fun z hz => by
        simp only [List.mem_cons, List.not_mem_nil, or_false] at hz
        rcases hz with rfl
        · exact Or.inr ⟨by decide, "java/lang/IndexOutOfBoundsException", hts _ w_272, hE.2.2.2.2.2 _ (List.mem_of_getElem? (i := 10) rfl)⟩) rfl (by decide) (hts _ w_460) (hE.use _ (List.mem_append_right _ (List.mem_map.mpr ⟨_, List.mem_of_getElem? (i := 1) rfl, rfl⟩))) hce hcv hcl ?_
    refine lv_astore_n (lv' := [(3, .ref q9), (0, .ref kr), (1, .int (iI (((sn : Nat) : Int)))), (2, .int (iI (((tn : Nat) : Int))))]) hx hb dL_nextArrival_11 rfl hl (by decide) rfl (fun ls hl => ?_)
    refine lv_bipush (v := iI (-75)) hx hb dL_nextArrival_12 (by decide) ?_
    refine W.widen (k := 4) (n := 24) (by omega) (by omega) ?_
    have hres : iI (-75) = iI (exv (if fdI ar dy 1 5 < 0 then 2 else 0)) := congrArg iI (by
        rw [hc3]; rfl)
    exact W.iret hx hb hr (fun t ht hW => ⟨⟨_, (), rfl, hres, trivial⟩, hS.F ht⟩) hS.2.2 dL_nextArrival_14
  obtain ⟨hc2, hw⟩ := hw
  subst hw
  have hP := P_kept hP hk1
  exact absurd hc2 hne

abbrev ws_L_demand : List Cond := Cond.codeWith yL_demand cL_demand 5 (some .int) [(0, 7, 8, 32), (0, 7, 13, 57), (0, 7, 18, 20), (0, 7, 23, 59)] :: ALL
set_option maxHeartbeats 4000000 in
set_option maxRecDepth 100000 in
theorem m_L_demand_no_t (l : Launch) (hst : l.stackTraces = false) (D : va_G) (cs : Nat → ClassId) (kr la ia na b4 b6 b8 b10 sh it : Nat) (lc : Int) (dy : Nat) (pct lr sr : Int) (lf : Nat → Int) (itf : Nat → Option Nat) (lnf : Nat → Option Nat) (zs zi : Int) (z0 : Int) (hsh : sh ≤ 4) (hit : it ≤ 5) (hitf : ∀ j, j < it → itf j ≠ none) (hzs : -2147483648 ≤ zs ∧ zs < 2147483648) (hzi : -2147483648 ≤ zi ∧ zi < 2147483648) (hno : cdL sh it lnf zs zi ≠ 0) : Met l yL_demand ws_L_demand ({ frames := 9, cells := 4, slots := 24, locals := 151 }) (va_Pc [.ref kr, .int (iI (zs)), .int (iI (zi)), .int (iI (z0))] (PE D cs [(kr, .inr (5, [.ref la, .ref ia, .ref na, .ref b4, .ref b6, .ref b8, .ref b10, .int (iI (((sh : Nat) : Int))), .int (iI (((it : Nat) : Int))), .int (iI (lc)), .int (iI (((dy : Nat) : Int))), .int (iI (pct)), .int (iI (lr)), .int (iI (sr))])), (la, arI cs 4 lf), (ia, arQ cs 2 5 itf), (na, arQ cs 3 20 lnf)] noA)) (va_Qi (fun r (_ : Unit) => r = iI (exv (cdL sh it lnf zs zi))) (fun _ _ => True) noA) 4 24 noA := by
  refine va_MetW (cc := cL_demand) (maxL := 5) (ret := some .int) (hh := [(0, 7, 8, 32), (0, 7, 13, 57), (0, 7, 18, 20), (0, 7, 23, 59)]) (by decide +kernel) rfl ?_
  intro p e s m args below meth c s₁ B hml hv
  obtain ⟨rfl, ⟨hP, hK, hD, hN⟩, hE⟩ := hv
  have hx := B.exec
  have hb := B.bytes
  have hr := B.returns
  have hts : ∀ w ∈ ALL, w.before _ s = true := fun w h => atoms_spec (ws := ws_L_demand) B.pre w (List.mem_cons_of_mem _ h)
  have hown : s.vm.findClass RL = some m.cls := findClass_of_methodNamed B.named
  have hlocks := B.notSynchronized
  have htab : c.exceptionTable.toList = tableOf [(0, 7, 8, 32), (0, 7, 13, 57), (0, 7, 18, 20), (0, 7, 23, 59)] := vx_table (x := yL_demand) B (atoms_spec (ws := ws_L_demand) B.pre _ List.mem_cons_self)
  have hS : va_S noA s.heap s.heap [] := va_S.rf
  generalize inW [(kr, .inr (5, [.ref la, .ref ia, .ref na, .ref b4, .ref b6, .ref b8, .ref b10, .int (iI (((sh : Nat) : Int))), .int (iI (((it : Nat) : Int))), .int (iI (lc)), .int (iI (((dy : Nat) : Int))), .int (iI (pct)), .int (iI (lr)), .int (iI (sr))])), (la, arI cs 4 lf), (ia, arQ cs 2 5 itf), (na, arQ cs 3 20 lnf)] = A at hD
  have hl := lv_entry ([.ref kr, .int (iI (zs)), .int (iI (zi)), .int (iI (z0))]) (n := 5) (Nat.le_of_ble_eq_true rfl)
  rw [lg_entry_eq]
  generalize (lg_sl ([.ref kr, .int (iI (zs)), .int (iI (zi)), .int (iI (z0))]) ++ List.replicate (5 - (lg_sl ([.ref kr, .int (iI (zs)), .int (iI (zi)), .int (iI (z0))])).length) Slot.unset).toArray = ls at hl ⊢
  have hl : lv_has ls 5 [(0, .ref kr), (1, .int (iI (zs))), (2, .int (iI (zi))), (3, .int (iI (z0)))] := hl
  have hH := rfl (a := s.heap)
  refine lv_aload_n hx hb dL_demand_0 rfl (lv_at hl 0 rfl) ?_
  refine lv_iload_n hx hb dL_demand_1 rfl (lv_at hl 1 rfl) ?_
  refine lv_iload_n hx hb dL_demand_2 rfl (lv_at hl 2 rfl) ?_
  refine lv_iload_n hx hb dL_demand_3 rfl (lv_at hl 3 rfl) ?_
  have pk1 : picks [(kr, .inr (5, [.ref la, .ref ia, .ref na, .ref b4, .ref b6, .ref b8, .ref b10, .int (iI (((sh : Nat) : Int))), .int (iI (((it : Nat) : Int))), .int (iI (lc)), .int (iI (((dy : Nat) : Int))), .int (iI (pct)), .int (iI (lr)), .int (iI (sr))])), (la, arI cs 4 lf), (ia, arQ cs 2 5 itf), (na, arQ cs 3 20 lnf)] [0, 1, 2, 3] [(kr, .inr (5, [.ref la, .ref ia, .ref na, .ref b4, .ref b6, .ref b8, .ref b10, .int (iI (((sh : Nat) : Int))), .int (iI (((it : Nat) : Int))), .int (iI (lc)), .int (iI (((dy : Nat) : Int))), .int (iI (pct)), .int (iI (lr)), .int (iI (sr))])), (la, arI cs 4 lf), (ia, arQ cs 2 5 itf), (na, arQ cs 3 20 lnf)] := ⟨rfl, rfl, rfl, rfl, trivial⟩
  refine vx_calli (vx_runV (As := [.int (iI (zs)), .int (iI (zi)), .int (iI (z0))]) (rest := []) ⟨hx, hb, hml, hown, hts⟩ (m_X5_demand_no l hst D cs kr la ia na b4 b6 b8 b10 sh it lc dy pct lr sr lf itf lnf zs zi z0 (hsh) (hit) (hitf) (hzs) (hzi) (hno)) (cwV 3 hts (gV w_462 w_463 w_464 w_1 w_465) rfl rfl rfl (by decide +kernel) ⟨Nat.le_of_ble_eq_true rfl, Nat.le_of_ble_eq_true rfl⟩) (PE_V hK hN hE hS (fun _ h => False.elim h) hP hD [0, 1, 2, 3] rfl pk1 rfl rfl) rfl rfl hl.1 rfl (lv_room (Nat.le_of_ble_eq_true rfl)) dL_demand_4 ⟨Nat.le_of_ble_eq_true rfl, Nat.le_of_ble_eq_true rfl⟩) hS (fun _ _ h => False.elim h) (fun _ h => False.elim h) (fun _ _ h => False.elim h) (fun E ce q9 u t H1 locs1 ht hvm hpx hBX hz1 hk1 hS1 hce hcv hcl => ?_) (fun r u t H locs ht hvm hw hB hz1 hk1 hS => ?_)
  · have h9 : u = cdL sh it lnf zs zi := hpx.1
    have hS := hS1
    have hcd : cdL sh it lnf zs zi = 2 ∨ cdL sh it lnf zs zi = 1 := by
      revert hno
      (try unfold cdL); (try unfold cdS); (try unfold cdC)
      (repeat' split) <;> simp
    have hEu := hBX
    have hP := P_kept hP hk1
    rcases hcd with hc3 | hcd
    · have hE3 : E = "java/util/NoSuchElementException" := by have h8 : E = exN u := hEu; rw [h8, h9, hc3]; rfl
      subst hE3
      refine vx_catch (name := "java/util/NoSuchElementException") hown [⟨0, 7, 8, 32⟩] ⟨0, 7, 13, 57⟩ [⟨0, 7, 18, 20⟩, ⟨0, 7, 23, 59⟩] (htab.trans rfl) (fun z hz => by
          simp only [List.mem_cons, List.not_mem_nil, or_false] at hz
          rcases hz with rfl
          · exact Or.inr ⟨by decide, "java/lang/IndexOutOfBoundsException", hts _ w_272, hE.2.2.2.2.2 _ (List.mem_of_getElem? (i := 10) rfl)⟩) rfl (by decide) (hts _ w_460) (hE.use _ (List.mem_append_right _ (List.mem_map.mpr ⟨_, List.mem_of_getElem? (i := 1) rfl, rfl⟩))) hce hcv hcl ?_
      refine lv_astore (lv' := [(4, .ref q9), (0, .ref kr), (1, .int (iI (zs))), (2, .int (iI (zi))), (3, .int (iI (z0)))]) hx hb dL_demand_13 hl (by decide) rfl (fun ls hl => ?_)
      refine lv_bipush (v := iI (-75)) hx hb dL_demand_15 (by decide) ?_
      refine W.widen (k := 4) (n := 24) (by omega) (by omega) ?_
      have hres : iI (-75) = iI (exv (cdL sh it lnf zs zi)) := congrArg iI (by
          rw [hc3]; rfl)
      exact W.iret hx hb hr (fun t ht hW => ⟨⟨_, (), rfl, hres, trivial⟩, hS.F ht⟩) hS.2.2 dL_demand_17
    have hc3 := hcd
    have hE3 : E = "java/lang/IndexOutOfBoundsException" := by have h8 : E = exN u := hEu; rw [h8, h9, hc3]; rfl
    subst hE3
    refine vx_catch (name := "java/lang/IndexOutOfBoundsException") hown [] ⟨0, 7, 8, 32⟩ [⟨0, 7, 13, 57⟩, ⟨0, 7, 18, 20⟩, ⟨0, 7, 23, 59⟩] (htab.trans rfl) (fun z hz => by cases hz) rfl (by decide) (hts _ w_272) (hE.use _ (List.mem_append_right _ (List.mem_map.mpr ⟨_, List.mem_of_getElem? (i := 0) rfl, rfl⟩))) hce hcv hcl ?_
    refine lv_astore (lv' := [(4, .ref q9), (0, .ref kr), (1, .int (iI (zs))), (2, .int (iI (zi))), (3, .int (iI (z0)))]) hx hb dL_demand_8 hl (by decide) rfl (fun ls hl => ?_)
    refine lv_bipush (v := iI (-77)) hx hb dL_demand_10 (by decide) ?_
    refine W.widen (k := 4) (n := 24) (by omega) (by omega) ?_
    have hres : iI (-77) = iI (exv (cdL sh it lnf zs zi)) := congrArg iI (by
        rw [hc3]; rfl)
    exact W.iret hx hb hr (fun t ht hW => ⟨⟨_, (), rfl, hres, trivial⟩, hS.F ht⟩) hS.2.2 dL_demand_12
  obtain ⟨hc2, hw⟩ := hw
  subst hw
  have hP := P_kept hP hk1
  exact absurd hc2 hno

set_option maxHeartbeats 4000000 in
set_option maxRecDepth 100000 in
theorem m_L_demand_ok_r (l : Launch) (hst : l.stackTraces = false) (D : va_G) (cs : Nat → ClassId) (kr la ia na b4 b6 b8 b10 sh it : Nat) (lc : Int) (dy : Nat) (pct lr sr : Int) (lf : Nat → Int) (itf : Nat → Option Nat) (lnf : Nat → Option Nat) (sn tn : Nat) (kn hi kl ke kd ks ka : Nat) (ld fd fk fv es sk so lo : Int) (ud uls : Nat) (dm sl : Nat → Int) (un : Int) (hsh : sh ≤ 4) (hit : it ≤ 5) (hitf : ∀ j, j < it → itf j ≠ none) (hsn : sn < sh) (htn : tn < it) (hln : lnf (sn * 5 + tn) = some kn) (hd : dy < 1000) (hdm : 0 ≤ dm dy ∧ dm dy ≤ 999) (hsk : 0 ≤ sk ∧ sk < 2147483648) (hun : -2147483648 ≤ un ∧ un < 2147483648) (hz : (if un < 1 ∨ 99 < un then 3 else if 999 < dm dy + un then 5 else 0) = 0) : Met l yL_demand ws_L_demand ({ frames := 9, cells := 4, slots := 24, locals := 151 }) (va_Pc [.ref kr, .int (iI (((sn : Nat) : Int))), .int (iI (((tn : Nat) : Int))), .int (iI (un))] (PE D cs [(kr, .inr (5, [.ref la, .ref ia, .ref na, .ref b4, .ref b6, .ref b8, .ref b10, .int (iI (((sh : Nat) : Int))), .int (iI (((it : Nat) : Int))), .int (iI (lc)), .int (iI (((dy : Nat) : Int))), .int (iI (pct)), .int (iI (lr)), .int (iI (sr))])), (la, arI cs 4 lf), (ia, arQ cs 2 5 itf), (na, arQ cs 3 20 lnf), (kn, .inr (3, [.ref hi, .int (iI (ld)), .int (iI (fd)), .int (iI (fk)), .int (iI (fv)), .ref kl, .ref ke, .ref kd, .ref ks, .ref ka, .int (iI (es)), .int (iI (sk)), .int (iI (so)), .int (iI (lo))])), (kd, .inr (0, [.ref ud])), (ud, arI cs 1005 dm), (ks, .inr (0, [.ref uls])), (uls, arI cs 1005 sl)] (inW [(kr, .inr (5, [.ref la, .ref ia, .ref na, .ref b4, .ref b6, .ref b8, .ref b10, .int (iI (((sh : Nat) : Int))), .int (iI (((it : Nat) : Int))), .int (iI (lc)), .int (iI (((dy : Nat) : Int))), .int (iI (pct)), .int (iI (lr)), .int (iI (sr))])), (la, arI cs 4 lf), (ia, arQ cs 2 5 itf), (na, arQ cs 3 20 lnf), (kn, .inr (3, [.ref hi, .int (iI (ld)), .int (iI (fd)), .int (iI (fk)), .int (iI (fv)), .ref kl, .ref ke, .ref kd, .ref ks, .ref ka, .int (iI (es)), .int (iI (sk)), .int (iI (so)), .int (iI (lo))])), (kd, .inr (0, [.ref ud])), (ud, arI cs 1005 dm), (ks, .inr (0, [.ref uls])), (uls, arI cs 1005 sl)]))) (va_Qi (fun r (_ : Unit) => r = iI (mnI un sk)) (fun _ t => va_P D vwCl [(kr, .inr (5, [.ref la, .ref ia, .ref na, .ref b4, .ref b6, .ref b8, .ref b10, .int (iI (((sh : Nat) : Int))), .int (iI (((it : Nat) : Int))), .int (iI (lc)), .int (iI (((dy : Nat) : Int))), .int (iI (pct)), .int (iI (lr)), .int (iI (sr))])), (la, arI cs 4 lf), (ia, arQ cs 2 5 itf), (na, arQ cs 3 20 lnf), (kn, .inr (3, [.ref hi, .int (iI (ld)), .int (iI (fd)), .int (iI (fk)), .int (iI (fv)), .ref kl, .ref ke, .ref kd, .ref ks, .ref ka, .int (iI (es)), .int (iI (sk - mnI un sk)), .int (iI (so + mnI un sk)), .int (iI (lo + (un - mnI un sk)))])), (kd, .inr (0, [.ref ud])), (ud, arI cs 1005 (upI dm dy (dm dy + un))), (ks, .inr (0, [.ref uls])), (uls, arI cs 1005 (upI sl dy (sl dy + mnI un sk)))] t.heap) (inW [(kr, .inr (5, [.ref la, .ref ia, .ref na, .ref b4, .ref b6, .ref b8, .ref b10, .int (iI (((sh : Nat) : Int))), .int (iI (((it : Nat) : Int))), .int (iI (lc)), .int (iI (((dy : Nat) : Int))), .int (iI (pct)), .int (iI (lr)), .int (iI (sr))])), (la, arI cs 4 lf), (ia, arQ cs 2 5 itf), (na, arQ cs 3 20 lnf), (kn, .inr (3, [.ref hi, .int (iI (ld)), .int (iI (fd)), .int (iI (fk)), .int (iI (fv)), .ref kl, .ref ke, .ref kd, .ref ks, .ref ka, .int (iI (es)), .int (iI (sk)), .int (iI (so)), .int (iI (lo))])), (kd, .inr (0, [.ref ud])), (ud, arI cs 1005 dm), (ks, .inr (0, [.ref uls])), (uls, arI cs 1005 sl)])) 4 24 (inW [(kr, .inr (5, [.ref la, .ref ia, .ref na, .ref b4, .ref b6, .ref b8, .ref b10, .int (iI (((sh : Nat) : Int))), .int (iI (((it : Nat) : Int))), .int (iI (lc)), .int (iI (((dy : Nat) : Int))), .int (iI (pct)), .int (iI (lr)), .int (iI (sr))])), (la, arI cs 4 lf), (ia, arQ cs 2 5 itf), (na, arQ cs 3 20 lnf), (kn, .inr (3, [.ref hi, .int (iI (ld)), .int (iI (fd)), .int (iI (fk)), .int (iI (fv)), .ref kl, .ref ke, .ref kd, .ref ks, .ref ka, .int (iI (es)), .int (iI (sk)), .int (iI (so)), .int (iI (lo))])), (kd, .inr (0, [.ref ud])), (ud, arI cs 1005 dm), (ks, .inr (0, [.ref uls])), (uls, arI cs 1005 sl)]) := by
  refine va_MetW (cc := cL_demand) (maxL := 5) (ret := some .int) (hh := [(0, 7, 8, 32), (0, 7, 13, 57), (0, 7, 18, 20), (0, 7, 23, 59)]) (by decide +kernel) rfl ?_
  intro p e s m args below meth c s₁ B hml hv
  obtain ⟨rfl, ⟨hP, hK, hD, hN⟩, hE⟩ := hv
  have hx := B.exec
  have hb := B.bytes
  have hr := B.returns
  have hts : ∀ w ∈ ALL, w.before _ s = true := fun w h => atoms_spec (ws := ws_L_demand) B.pre w (List.mem_cons_of_mem _ h)
  have hown : s.vm.findClass RL = some m.cls := findClass_of_methodNamed B.named
  have hlocks := B.notSynchronized
  have htab : c.exceptionTable.toList = tableOf [(0, 7, 8, 32), (0, 7, 13, 57), (0, 7, 18, 20), (0, 7, 23, 59)] := vx_table (x := yL_demand) B (atoms_spec (ws := ws_L_demand) B.pre _ List.mem_cons_self)
  generalize hAe : inW [(kr, .inr (5, [.ref la, .ref ia, .ref na, .ref b4, .ref b6, .ref b8, .ref b10, .int (iI (((sh : Nat) : Int))), .int (iI (((it : Nat) : Int))), .int (iI (lc)), .int (iI (((dy : Nat) : Int))), .int (iI (pct)), .int (iI (lr)), .int (iI (sr))])), (la, arI cs 4 lf), (ia, arQ cs 2 5 itf), (na, arQ cs 3 20 lnf), (kn, .inr (3, [.ref hi, .int (iI (ld)), .int (iI (fd)), .int (iI (fk)), .int (iI (fv)), .ref kl, .ref ke, .ref kd, .ref ks, .ref ka, .int (iI (es)), .int (iI (sk)), .int (iI (so)), .int (iI (lo))])), (kd, .inr (0, [.ref ud])), (ud, arI cs 1005 dm), (ks, .inr (0, [.ref uls])), (uls, arI cs 1005 sl)] = A at hD hE ⊢
  have hS : va_S A s.heap s.heap [] := va_S.rf
  have hl := lv_entry ([.ref kr, .int (iI (((sn : Nat) : Int))), .int (iI (((tn : Nat) : Int))), .int (iI (un))]) (n := 5) (Nat.le_of_ble_eq_true rfl)
  rw [lg_entry_eq]
  generalize (lg_sl ([.ref kr, .int (iI (((sn : Nat) : Int))), .int (iI (((tn : Nat) : Int))), .int (iI (un))]) ++ List.replicate (5 - (lg_sl ([.ref kr, .int (iI (((sn : Nat) : Int))), .int (iI (((tn : Nat) : Int))), .int (iI (un))])).length) Slot.unset).toArray = ls at hl ⊢
  have hl : lv_has ls 5 [(0, .ref kr), (1, .int (iI (((sn : Nat) : Int)))), (2, .int (iI (((tn : Nat) : Int)))), (3, .int (iI (un)))] := hl
  have hH := rfl (a := s.heap)
  refine lv_aload_n hx hb dL_demand_0 rfl (lv_at hl 0 rfl) ?_
  refine lv_iload_n hx hb dL_demand_1 rfl (lv_at hl 1 rfl) ?_
  refine lv_iload_n hx hb dL_demand_2 rfl (lv_at hl 2 rfl) ?_
  refine lv_iload_n hx hb dL_demand_3 rfl (lv_at hl 3 rfl) ?_
  have pk1 : picks [(kr, .inr (5, [.ref la, .ref ia, .ref na, .ref b4, .ref b6, .ref b8, .ref b10, .int (iI (((sh : Nat) : Int))), .int (iI (((it : Nat) : Int))), .int (iI (lc)), .int (iI (((dy : Nat) : Int))), .int (iI (pct)), .int (iI (lr)), .int (iI (sr))])), (la, arI cs 4 lf), (ia, arQ cs 2 5 itf), (na, arQ cs 3 20 lnf), (kn, .inr (3, [.ref hi, .int (iI (ld)), .int (iI (fd)), .int (iI (fk)), .int (iI (fv)), .ref kl, .ref ke, .ref kd, .ref ks, .ref ka, .int (iI (es)), .int (iI (sk)), .int (iI (so)), .int (iI (lo))])), (kd, .inr (0, [.ref ud])), (ud, arI cs 1005 dm), (ks, .inr (0, [.ref uls])), (uls, arI cs 1005 sl)] [0, 1, 2, 3, 4, 5, 6, 7, 8] [(kr, .inr (5, [.ref la, .ref ia, .ref na, .ref b4, .ref b6, .ref b8, .ref b10, .int (iI (((sh : Nat) : Int))), .int (iI (((it : Nat) : Int))), .int (iI (lc)), .int (iI (((dy : Nat) : Int))), .int (iI (pct)), .int (iI (lr)), .int (iI (sr))])), (la, arI cs 4 lf), (ia, arQ cs 2 5 itf), (na, arQ cs 3 20 lnf), (kn, .inr (3, [.ref hi, .int (iI (ld)), .int (iI (fd)), .int (iI (fk)), .int (iI (fv)), .ref kl, .ref ke, .ref kd, .ref ks, .ref ka, .int (iI (es)), .int (iI (sk)), .int (iI (so)), .int (iI (lo))])), (kd, .inr (0, [.ref ud])), (ud, arI cs 1005 dm), (ks, .inr (0, [.ref uls])), (uls, arI cs 1005 sl)] := ⟨rfl, rfl, rfl, rfl, rfl, rfl, rfl, rfl, rfl, trivial⟩
  refine vx_calli (vx_runV (As := [.int (iI (((sn : Nat) : Int))), .int (iI (((tn : Nat) : Int))), .int (iI (un))]) (rest := []) ⟨hx, hb, hml, hown, hts⟩ (m_X5_demand_ok l hst D cs kr la ia na b4 b6 b8 b10 sh it lc dy pct lr sr lf itf lnf sn tn kn hi kl ke kd ks ka ld fd fk fv es sk so lo ud uls dm sl un (hsh) (hit) (hitf) (hsn) (htn) (hln) (hd) (hdm) (hsk) (hun)) (cwV 3 hts (gV w_462 w_463 w_464 w_1 w_465) rfl rfl rfl (by decide +kernel) ⟨Nat.le_of_ble_eq_true rfl, Nat.le_of_ble_eq_true rfl⟩) (PE_V hK hN hE hS (fun q h => inW_sub hD [0, 1, 2, 3, 4, 5, 6, 7, 8] pk1 q h) hP hD [0, 1, 2, 3, 4, 5, 6, 7, 8] rfl pk1 rfl rfl) rfl rfl hl.1 rfl (lv_room (Nat.le_of_ble_eq_true rfl)) dL_demand_4 ⟨Nat.le_of_ble_eq_true rfl, Nat.le_of_ble_eq_true rfl⟩) hS (fun q _ h => inW_sub hD [0, 1, 2, 3, 4, 5, 6, 7, 8] pk1 q h) (fun q h => inW_sub hD [0, 1, 2, 3, 4, 5, 6, 7, 8] pk1 q h) (fun q _ h => inW_sub hD [0, 1, 2, 3, 4, 5, 6, 7, 8] pk1 q h) (fun E ce q9 u t H1 locs1 ht hvm hpx hBX hz1 hk1 hS1 hce hcv hcl => ?_) (fun r u t H locs ht hvm hw hB hz1 hk1 hS => ?_)
  · exact absurd (hpx.1.trans hz) hpx.2
  obtain ⟨hc2, hw⟩ := hw
  subst hw
  rw [ht] at hB
  obtain ⟨hP, hD⟩ := my_join (W1 := [(kr, .inr (5, [.ref la, .ref ia, .ref na, .ref b4, .ref b6, .ref b8, .ref b10, .int (iI (((sh : Nat) : Int))), .int (iI (((it : Nat) : Int))), .int (iI (lc)), .int (iI (((dy : Nat) : Int))), .int (iI (pct)), .int (iI (lr)), .int (iI (sr))])), (la, arI cs 4 lf), (ia, arQ cs 2 5 itf), (na, arQ cs 3 20 lnf), (kn, .inr (3, [.ref hi, .int (iI (ld)), .int (iI (fd)), .int (iI (fk)), .int (iI (fv)), .ref kl, .ref ke, .ref kd, .ref ks, .ref ka, .int (iI (es)), .int (iI (sk - mnI un sk)), .int (iI (so + mnI un sk)), .int (iI (lo + (un - mnI un sk)))])), (kd, .inr (0, [.ref ud])), (ud, arI cs 1005 (upI dm dy (dm dy + un))), (ks, .inr (0, [.ref uls])), (uls, arI cs 1005 (upI sl dy (sl dy + mnI un sk)))]) hP hD [0, 1, 2, 3, 4, 5, 6, 7, 8] rfl pk1 rfl hk1 hB
  have hP : va_P D vwCl [(kr, .inr (5, [.ref la, .ref ia, .ref na, .ref b4, .ref b6, .ref b8, .ref b10, .int (iI (((sh : Nat) : Int))), .int (iI (((it : Nat) : Int))), .int (iI (lc)), .int (iI (((dy : Nat) : Int))), .int (iI (pct)), .int (iI (lr)), .int (iI (sr))])), (la, arI cs 4 lf), (ia, arQ cs 2 5 itf), (na, arQ cs 3 20 lnf), (kn, .inr (3, [.ref hi, .int (iI (ld)), .int (iI (fd)), .int (iI (fk)), .int (iI (fv)), .ref kl, .ref ke, .ref kd, .ref ks, .ref ka, .int (iI (es)), .int (iI (sk - mnI un sk)), .int (iI (so + mnI un sk)), .int (iI (lo + (un - mnI un sk)))])), (kd, .inr (0, [.ref ud])), (ud, arI cs 1005 (upI dm dy (dm dy + un))), (ks, .inr (0, [.ref uls])), (uls, arI cs 1005 (upI sl dy (sl dy + mnI un sk)))] H := hP
  have hD : va_D A [(kr, .inr (5, [.ref la, .ref ia, .ref na, .ref b4, .ref b6, .ref b8, .ref b10, .int (iI (((sh : Nat) : Int))), .int (iI (((it : Nat) : Int))), .int (iI (lc)), .int (iI (((dy : Nat) : Int))), .int (iI (pct)), .int (iI (lr)), .int (iI (sr))])), (la, arI cs 4 lf), (ia, arQ cs 2 5 itf), (na, arQ cs 3 20 lnf), (kn, .inr (3, [.ref hi, .int (iI (ld)), .int (iI (fd)), .int (iI (fk)), .int (iI (fv)), .ref kl, .ref ke, .ref kd, .ref ks, .ref ka, .int (iI (es)), .int (iI (sk - mnI un sk)), .int (iI (so + mnI un sk)), .int (iI (lo + (un - mnI un sk)))])), (kd, .inr (0, [.ref ud])), (ud, arI cs 1005 (upI dm dy (dm dy + un))), (ks, .inr (0, [.ref uls])), (uls, arI cs 1005 (upI sl dy (sl dy + mnI un sk)))] := hD
  subst hAe
  refine W.widen (k := 4) (n := 24) (by omega) (by omega) ?_
  have hres : iI (mnI un sk) = iI (mnI un sk) := congrArg iI (by
      rfl)
  exact W.iret hx hb hr (fun t ht hW => ⟨⟨_, (), rfl, hres, by show va_P D vwCl _ t.heap; rw [ht]; exact hP⟩, hS.F ht⟩) hS.2.2 dL_demand_7

set_option maxHeartbeats 4000000 in
set_option maxRecDepth 100000 in
theorem m_L_demand_ok_t (l : Launch) (hst : l.stackTraces = false) (D : va_G) (cs : Nat → ClassId) (kr la ia na b4 b6 b8 b10 sh it : Nat) (lc : Int) (dy : Nat) (pct lr sr : Int) (lf : Nat → Int) (itf : Nat → Option Nat) (lnf : Nat → Option Nat) (sn tn : Nat) (kn hi kl ke kd ks ka : Nat) (ld fd fk fv es sk so lo : Int) (ud uls : Nat) (dm sl : Nat → Int) (un : Int) (hsh : sh ≤ 4) (hit : it ≤ 5) (hitf : ∀ j, j < it → itf j ≠ none) (hsn : sn < sh) (htn : tn < it) (hln : lnf (sn * 5 + tn) = some kn) (hd : dy < 1000) (hdm : 0 ≤ dm dy ∧ dm dy ≤ 999) (hsk : 0 ≤ sk ∧ sk < 2147483648) (hun : -2147483648 ≤ un ∧ un < 2147483648) (hne : (if un < 1 ∨ 99 < un then 3 else if 999 < dm dy + un then 5 else 0) ≠ 0) : Met l yL_demand ws_L_demand ({ frames := 9, cells := 4, slots := 24, locals := 151 }) (va_Pc [.ref kr, .int (iI (((sn : Nat) : Int))), .int (iI (((tn : Nat) : Int))), .int (iI (un))] (PE D cs [(kr, .inr (5, [.ref la, .ref ia, .ref na, .ref b4, .ref b6, .ref b8, .ref b10, .int (iI (((sh : Nat) : Int))), .int (iI (((it : Nat) : Int))), .int (iI (lc)), .int (iI (((dy : Nat) : Int))), .int (iI (pct)), .int (iI (lr)), .int (iI (sr))])), (la, arI cs 4 lf), (ia, arQ cs 2 5 itf), (na, arQ cs 3 20 lnf), (kn, .inr (3, [.ref hi, .int (iI (ld)), .int (iI (fd)), .int (iI (fk)), .int (iI (fv)), .ref kl, .ref ke, .ref kd, .ref ks, .ref ka, .int (iI (es)), .int (iI (sk)), .int (iI (so)), .int (iI (lo))])), (kd, .inr (0, [.ref ud])), (ud, arI cs 1005 dm), (ks, .inr (0, [.ref uls])), (uls, arI cs 1005 sl)] (inW [(kr, .inr (5, [.ref la, .ref ia, .ref na, .ref b4, .ref b6, .ref b8, .ref b10, .int (iI (((sh : Nat) : Int))), .int (iI (((it : Nat) : Int))), .int (iI (lc)), .int (iI (((dy : Nat) : Int))), .int (iI (pct)), .int (iI (lr)), .int (iI (sr))])), (la, arI cs 4 lf), (ia, arQ cs 2 5 itf), (na, arQ cs 3 20 lnf), (kn, .inr (3, [.ref hi, .int (iI (ld)), .int (iI (fd)), .int (iI (fk)), .int (iI (fv)), .ref kl, .ref ke, .ref kd, .ref ks, .ref ka, .int (iI (es)), .int (iI (sk)), .int (iI (so)), .int (iI (lo))])), (kd, .inr (0, [.ref ud])), (ud, arI cs 1005 dm), (ks, .inr (0, [.ref uls])), (uls, arI cs 1005 sl)]))) (va_Qi (fun r (_ : Unit) => r = iI (exv (if un < 1 ∨ 99 < un then 3 else if 999 < dm dy + un then 5 else 0))) (fun _ t => va_P D vwCl [(kr, .inr (5, [.ref la, .ref ia, .ref na, .ref b4, .ref b6, .ref b8, .ref b10, .int (iI (((sh : Nat) : Int))), .int (iI (((it : Nat) : Int))), .int (iI (lc)), .int (iI (((dy : Nat) : Int))), .int (iI (pct)), .int (iI (lr)), .int (iI (sr))])), (la, arI cs 4 lf), (ia, arQ cs 2 5 itf), (na, arQ cs 3 20 lnf), (kn, .inr (3, [.ref hi, .int (iI (ld)), .int (iI (fd)), .int (iI (fk)), .int (iI (fv)), .ref kl, .ref ke, .ref kd, .ref ks, .ref ka, .int (iI (es)), .int (iI (sk)), .int (iI (so)), .int (iI (lo))])), (kd, .inr (0, [.ref ud])), (ud, arI cs 1005 dm), (ks, .inr (0, [.ref uls])), (uls, arI cs 1005 sl)] t.heap) (inW [(kr, .inr (5, [.ref la, .ref ia, .ref na, .ref b4, .ref b6, .ref b8, .ref b10, .int (iI (((sh : Nat) : Int))), .int (iI (((it : Nat) : Int))), .int (iI (lc)), .int (iI (((dy : Nat) : Int))), .int (iI (pct)), .int (iI (lr)), .int (iI (sr))])), (la, arI cs 4 lf), (ia, arQ cs 2 5 itf), (na, arQ cs 3 20 lnf), (kn, .inr (3, [.ref hi, .int (iI (ld)), .int (iI (fd)), .int (iI (fk)), .int (iI (fv)), .ref kl, .ref ke, .ref kd, .ref ks, .ref ka, .int (iI (es)), .int (iI (sk)), .int (iI (so)), .int (iI (lo))])), (kd, .inr (0, [.ref ud])), (ud, arI cs 1005 dm), (ks, .inr (0, [.ref uls])), (uls, arI cs 1005 sl)])) 4 24 (inW [(kr, .inr (5, [.ref la, .ref ia, .ref na, .ref b4, .ref b6, .ref b8, .ref b10, .int (iI (((sh : Nat) : Int))), .int (iI (((it : Nat) : Int))), .int (iI (lc)), .int (iI (((dy : Nat) : Int))), .int (iI (pct)), .int (iI (lr)), .int (iI (sr))])), (la, arI cs 4 lf), (ia, arQ cs 2 5 itf), (na, arQ cs 3 20 lnf), (kn, .inr (3, [.ref hi, .int (iI (ld)), .int (iI (fd)), .int (iI (fk)), .int (iI (fv)), .ref kl, .ref ke, .ref kd, .ref ks, .ref ka, .int (iI (es)), .int (iI (sk)), .int (iI (so)), .int (iI (lo))])), (kd, .inr (0, [.ref ud])), (ud, arI cs 1005 dm), (ks, .inr (0, [.ref uls])), (uls, arI cs 1005 sl)]) := by
  refine va_MetW (cc := cL_demand) (maxL := 5) (ret := some .int) (hh := [(0, 7, 8, 32), (0, 7, 13, 57), (0, 7, 18, 20), (0, 7, 23, 59)]) (by decide +kernel) rfl ?_
  intro p e s m args below meth c s₁ B hml hv
  obtain ⟨rfl, ⟨hP, hK, hD, hN⟩, hE⟩ := hv
  have hx := B.exec
  have hb := B.bytes
  have hr := B.returns
  have hts : ∀ w ∈ ALL, w.before _ s = true := fun w h => atoms_spec (ws := ws_L_demand) B.pre w (List.mem_cons_of_mem _ h)
  have hown : s.vm.findClass RL = some m.cls := findClass_of_methodNamed B.named
  have hlocks := B.notSynchronized
  have htab : c.exceptionTable.toList = tableOf [(0, 7, 8, 32), (0, 7, 13, 57), (0, 7, 18, 20), (0, 7, 23, 59)] := vx_table (x := yL_demand) B (atoms_spec (ws := ws_L_demand) B.pre _ List.mem_cons_self)
  generalize hAe : inW [(kr, .inr (5, [.ref la, .ref ia, .ref na, .ref b4, .ref b6, .ref b8, .ref b10, .int (iI (((sh : Nat) : Int))), .int (iI (((it : Nat) : Int))), .int (iI (lc)), .int (iI (((dy : Nat) : Int))), .int (iI (pct)), .int (iI (lr)), .int (iI (sr))])), (la, arI cs 4 lf), (ia, arQ cs 2 5 itf), (na, arQ cs 3 20 lnf), (kn, .inr (3, [.ref hi, .int (iI (ld)), .int (iI (fd)), .int (iI (fk)), .int (iI (fv)), .ref kl, .ref ke, .ref kd, .ref ks, .ref ka, .int (iI (es)), .int (iI (sk)), .int (iI (so)), .int (iI (lo))])), (kd, .inr (0, [.ref ud])), (ud, arI cs 1005 dm), (ks, .inr (0, [.ref uls])), (uls, arI cs 1005 sl)] = A at hD hE ⊢
  have hS : va_S A s.heap s.heap [] := va_S.rf
  have hl := lv_entry ([.ref kr, .int (iI (((sn : Nat) : Int))), .int (iI (((tn : Nat) : Int))), .int (iI (un))]) (n := 5) (Nat.le_of_ble_eq_true rfl)
  rw [lg_entry_eq]
  generalize (lg_sl ([.ref kr, .int (iI (((sn : Nat) : Int))), .int (iI (((tn : Nat) : Int))), .int (iI (un))]) ++ List.replicate (5 - (lg_sl ([.ref kr, .int (iI (((sn : Nat) : Int))), .int (iI (((tn : Nat) : Int))), .int (iI (un))])).length) Slot.unset).toArray = ls at hl ⊢
  have hl : lv_has ls 5 [(0, .ref kr), (1, .int (iI (((sn : Nat) : Int)))), (2, .int (iI (((tn : Nat) : Int)))), (3, .int (iI (un)))] := hl
  have hH := rfl (a := s.heap)
  refine lv_aload_n hx hb dL_demand_0 rfl (lv_at hl 0 rfl) ?_
  refine lv_iload_n hx hb dL_demand_1 rfl (lv_at hl 1 rfl) ?_
  refine lv_iload_n hx hb dL_demand_2 rfl (lv_at hl 2 rfl) ?_
  refine lv_iload_n hx hb dL_demand_3 rfl (lv_at hl 3 rfl) ?_
  have pk1 : picks [(kr, .inr (5, [.ref la, .ref ia, .ref na, .ref b4, .ref b6, .ref b8, .ref b10, .int (iI (((sh : Nat) : Int))), .int (iI (((it : Nat) : Int))), .int (iI (lc)), .int (iI (((dy : Nat) : Int))), .int (iI (pct)), .int (iI (lr)), .int (iI (sr))])), (la, arI cs 4 lf), (ia, arQ cs 2 5 itf), (na, arQ cs 3 20 lnf), (kn, .inr (3, [.ref hi, .int (iI (ld)), .int (iI (fd)), .int (iI (fk)), .int (iI (fv)), .ref kl, .ref ke, .ref kd, .ref ks, .ref ka, .int (iI (es)), .int (iI (sk)), .int (iI (so)), .int (iI (lo))])), (kd, .inr (0, [.ref ud])), (ud, arI cs 1005 dm), (ks, .inr (0, [.ref uls])), (uls, arI cs 1005 sl)] [0, 1, 2, 3, 4, 5, 6, 7, 8] [(kr, .inr (5, [.ref la, .ref ia, .ref na, .ref b4, .ref b6, .ref b8, .ref b10, .int (iI (((sh : Nat) : Int))), .int (iI (((it : Nat) : Int))), .int (iI (lc)), .int (iI (((dy : Nat) : Int))), .int (iI (pct)), .int (iI (lr)), .int (iI (sr))])), (la, arI cs 4 lf), (ia, arQ cs 2 5 itf), (na, arQ cs 3 20 lnf), (kn, .inr (3, [.ref hi, .int (iI (ld)), .int (iI (fd)), .int (iI (fk)), .int (iI (fv)), .ref kl, .ref ke, .ref kd, .ref ks, .ref ka, .int (iI (es)), .int (iI (sk)), .int (iI (so)), .int (iI (lo))])), (kd, .inr (0, [.ref ud])), (ud, arI cs 1005 dm), (ks, .inr (0, [.ref uls])), (uls, arI cs 1005 sl)] := ⟨rfl, rfl, rfl, rfl, rfl, rfl, rfl, rfl, rfl, trivial⟩
  refine vx_calli (vx_runV (As := [.int (iI (((sn : Nat) : Int))), .int (iI (((tn : Nat) : Int))), .int (iI (un))]) (rest := []) ⟨hx, hb, hml, hown, hts⟩ (m_X5_demand_ok l hst D cs kr la ia na b4 b6 b8 b10 sh it lc dy pct lr sr lf itf lnf sn tn kn hi kl ke kd ks ka ld fd fk fv es sk so lo ud uls dm sl un (hsh) (hit) (hitf) (hsn) (htn) (hln) (hd) (hdm) (hsk) (hun)) (cwV 3 hts (gV w_462 w_463 w_464 w_1 w_465) rfl rfl rfl (by decide +kernel) ⟨Nat.le_of_ble_eq_true rfl, Nat.le_of_ble_eq_true rfl⟩) (PE_V hK hN hE hS (fun q h => inW_sub hD [0, 1, 2, 3, 4, 5, 6, 7, 8] pk1 q h) hP hD [0, 1, 2, 3, 4, 5, 6, 7, 8] rfl pk1 rfl rfl) rfl rfl hl.1 rfl (lv_room (Nat.le_of_ble_eq_true rfl)) dL_demand_4 ⟨Nat.le_of_ble_eq_true rfl, Nat.le_of_ble_eq_true rfl⟩) hS (fun q _ h => inW_sub hD [0, 1, 2, 3, 4, 5, 6, 7, 8] pk1 q h) (fun q h => inW_sub hD [0, 1, 2, 3, 4, 5, 6, 7, 8] pk1 q h) (fun q _ h => inW_sub hD [0, 1, 2, 3, 4, 5, 6, 7, 8] pk1 q h) (fun E ce q9 u t H1 locs1 ht hvm hpx hBX hz1 hk1 hS1 hce hcv hcl => ?_) (fun r u t H locs ht hvm hw hB hz1 hk1 hS => ?_)
  · have h9 : u = (if un < 1 ∨ 99 < un then 3 else if 999 < dm dy + un then 5 else 0) := hpx.1
    have hS := hS1
    have hcd : (if un < 1 ∨ 99 < un then 3 else if 999 < dm dy + un then 5 else 0) = 3 ∨ (if un < 1 ∨ 99 < un then 3 else if 999 < dm dy + un then 5 else 0) = 5 := by
      revert hne
      (try unfold cdL); (try unfold cdS); (try unfold cdC)
      (repeat' split) <;> simp
    obtain ⟨hEu, hBX⟩ := hBX
    rw [ht] at hBX
    obtain ⟨hP, hD⟩ := my_join (Wc := [(kr, .inr (5, [.ref la, .ref ia, .ref na, .ref b4, .ref b6, .ref b8, .ref b10, .int (iI (((sh : Nat) : Int))), .int (iI (((it : Nat) : Int))), .int (iI (lc)), .int (iI (((dy : Nat) : Int))), .int (iI (pct)), .int (iI (lr)), .int (iI (sr))])), (la, arI cs 4 lf), (ia, arQ cs 2 5 itf), (na, arQ cs 3 20 lnf), (kn, .inr (3, [.ref hi, .int (iI (ld)), .int (iI (fd)), .int (iI (fk)), .int (iI (fv)), .ref kl, .ref ke, .ref kd, .ref ks, .ref ka, .int (iI (es)), .int (iI (sk)), .int (iI (so)), .int (iI (lo))])), (kd, .inr (0, [.ref ud])), (ud, arI cs 1005 dm), (ks, .inr (0, [.ref uls])), (uls, arI cs 1005 sl)]) (W1 := [(kr, .inr (5, [.ref la, .ref ia, .ref na, .ref b4, .ref b6, .ref b8, .ref b10, .int (iI (((sh : Nat) : Int))), .int (iI (((it : Nat) : Int))), .int (iI (lc)), .int (iI (((dy : Nat) : Int))), .int (iI (pct)), .int (iI (lr)), .int (iI (sr))])), (la, arI cs 4 lf), (ia, arQ cs 2 5 itf), (na, arQ cs 3 20 lnf), (kn, .inr (3, [.ref hi, .int (iI (ld)), .int (iI (fd)), .int (iI (fk)), .int (iI (fv)), .ref kl, .ref ke, .ref kd, .ref ks, .ref ka, .int (iI (es)), .int (iI (sk)), .int (iI (so)), .int (iI (lo))])), (kd, .inr (0, [.ref ud])), (ud, arI cs 1005 dm), (ks, .inr (0, [.ref uls])), (uls, arI cs 1005 sl)]) hP hD [0, 1, 2, 3, 4, 5, 6, 7, 8] rfl (⟨rfl, rfl, rfl, rfl, rfl, rfl, rfl, rfl, rfl, trivial⟩) rfl hk1 hBX
    have hP : va_P D vwCl [(kr, .inr (5, [.ref la, .ref ia, .ref na, .ref b4, .ref b6, .ref b8, .ref b10, .int (iI (((sh : Nat) : Int))), .int (iI (((it : Nat) : Int))), .int (iI (lc)), .int (iI (((dy : Nat) : Int))), .int (iI (pct)), .int (iI (lr)), .int (iI (sr))])), (la, arI cs 4 lf), (ia, arQ cs 2 5 itf), (na, arQ cs 3 20 lnf), (kn, .inr (3, [.ref hi, .int (iI (ld)), .int (iI (fd)), .int (iI (fk)), .int (iI (fv)), .ref kl, .ref ke, .ref kd, .ref ks, .ref ka, .int (iI (es)), .int (iI (sk)), .int (iI (so)), .int (iI (lo))])), (kd, .inr (0, [.ref ud])), (ud, arI cs 1005 dm), (ks, .inr (0, [.ref uls])), (uls, arI cs 1005 sl)] H1 := hP
    have hD : va_D A [(kr, .inr (5, [.ref la, .ref ia, .ref na, .ref b4, .ref b6, .ref b8, .ref b10, .int (iI (((sh : Nat) : Int))), .int (iI (((it : Nat) : Int))), .int (iI (lc)), .int (iI (((dy : Nat) : Int))), .int (iI (pct)), .int (iI (lr)), .int (iI (sr))])), (la, arI cs 4 lf), (ia, arQ cs 2 5 itf), (na, arQ cs 3 20 lnf), (kn, .inr (3, [.ref hi, .int (iI (ld)), .int (iI (fd)), .int (iI (fk)), .int (iI (fv)), .ref kl, .ref ke, .ref kd, .ref ks, .ref ka, .int (iI (es)), .int (iI (sk)), .int (iI (so)), .int (iI (lo))])), (kd, .inr (0, [.ref ud])), (ud, arI cs 1005 dm), (ks, .inr (0, [.ref uls])), (uls, arI cs 1005 sl)] := hD
    rcases hcd with hc3 | hcd
    · have hE3 : E = "java/lang/IllegalArgumentException" := by have h8 : E = exN u := hEu; rw [h8, h9, hc3]; rfl
      subst hE3
      refine vx_catch (name := "java/lang/IllegalArgumentException") hown [⟨0, 7, 8, 32⟩, ⟨0, 7, 13, 57⟩] ⟨0, 7, 18, 20⟩ [⟨0, 7, 23, 59⟩] (htab.trans rfl) (fun z hz => by
          simp only [List.mem_cons, List.not_mem_nil, or_false] at hz
          rcases hz with rfl | rfl
          · exact Or.inr ⟨by decide, "java/lang/IndexOutOfBoundsException", hts _ w_272, hE.2.2.2.2.2 _ (List.mem_of_getElem? (i := 8) rfl)⟩
          · exact Or.inr ⟨by decide, "java/util/NoSuchElementException", hts _ w_460, hE.2.2.2.2.2 _ (List.mem_of_getElem? (i := 12) rfl)⟩) rfl (by decide) (hts _ w_138) (hE.use _ (List.mem_append_right _ (List.mem_map.mpr ⟨_, List.mem_of_getElem? (i := 2) rfl, rfl⟩))) hce hcv hcl ?_
      refine lv_astore (lv' := [(4, .ref q9), (0, .ref kr), (1, .int (iI (((sn : Nat) : Int)))), (2, .int (iI (((tn : Nat) : Int)))), (3, .int (iI (un)))]) hx hb dL_demand_18 hl (by decide) rfl (fun ls hl => ?_)
      refine lv_bipush (v := iI (-78)) hx hb dL_demand_20 (by decide) ?_
      subst hAe
      refine W.widen (k := 4) (n := 24) (by omega) (by omega) ?_
      have hres : iI (-78) = iI (exv (if un < 1 ∨ 99 < un then 3 else if 999 < dm dy + un then 5 else 0)) := congrArg iI (by
          rw [hc3]; rfl)
      exact W.iret hx hb hr (fun t ht hW => ⟨⟨_, (), rfl, hres, by show va_P D vwCl _ t.heap; rw [ht]; exact hP⟩, hS.F ht⟩) hS.2.2 dL_demand_22
    have hc3 := hcd
    have hE3 : E = "java/lang/UnsupportedOperationException" := by have h8 : E = exN u := hEu; rw [h8, h9, hc3]; rfl
    subst hE3
    refine vx_catch (name := "java/lang/UnsupportedOperationException") hown [⟨0, 7, 8, 32⟩, ⟨0, 7, 13, 57⟩, ⟨0, 7, 18, 20⟩] ⟨0, 7, 23, 59⟩ [] (htab.trans rfl) (fun z hz => by
        simp only [List.mem_cons, List.not_mem_nil, or_false] at hz
        rcases hz with rfl | rfl | rfl
        · exact Or.inr ⟨by decide, "java/lang/IndexOutOfBoundsException", hts _ w_272, hE.2.2.2.2.2 _ (List.mem_of_getElem? (i := 11) rfl)⟩
        · exact Or.inr ⟨by decide, "java/util/NoSuchElementException", hts _ w_460, hE.2.2.2.2.2 _ (List.mem_of_getElem? (i := 15) rfl)⟩
        · exact Or.inr ⟨by decide, "java/lang/IllegalArgumentException", hts _ w_138, hE.2.2.2.2.2 _ (List.mem_of_getElem? (i := 3) rfl)⟩) rfl (by decide) (hts _ w_461) (hE.use _ (List.mem_append_right _ (List.mem_map.mpr ⟨_, List.mem_of_getElem? (i := 4) rfl, rfl⟩))) hce hcv hcl ?_
    refine lv_astore (lv' := [(4, .ref q9), (0, .ref kr), (1, .int (iI (((sn : Nat) : Int)))), (2, .int (iI (((tn : Nat) : Int)))), (3, .int (iI (un)))]) hx hb dL_demand_23 hl (by decide) rfl (fun ls hl => ?_)
    refine lv_bipush (v := iI (-76)) hx hb dL_demand_25 (by decide) ?_
    subst hAe
    refine W.widen (k := 4) (n := 24) (by omega) (by omega) ?_
    have hres : iI (-76) = iI (exv (if un < 1 ∨ 99 < un then 3 else if 999 < dm dy + un then 5 else 0)) := congrArg iI (by
        rw [hc3]; rfl)
    exact W.iret hx hb hr (fun t ht hW => ⟨⟨_, (), rfl, hres, by show va_P D vwCl _ t.heap; rw [ht]; exact hP⟩, hS.F ht⟩) hS.2.2 dL_demand_27
  obtain ⟨hc2, hw⟩ := hw
  subst hw
  rw [ht] at hB
  obtain ⟨hP, hD⟩ := my_join (W1 := [(kr, .inr (5, [.ref la, .ref ia, .ref na, .ref b4, .ref b6, .ref b8, .ref b10, .int (iI (((sh : Nat) : Int))), .int (iI (((it : Nat) : Int))), .int (iI (lc)), .int (iI (((dy : Nat) : Int))), .int (iI (pct)), .int (iI (lr)), .int (iI (sr))])), (la, arI cs 4 lf), (ia, arQ cs 2 5 itf), (na, arQ cs 3 20 lnf), (kn, .inr (3, [.ref hi, .int (iI (ld)), .int (iI (fd)), .int (iI (fk)), .int (iI (fv)), .ref kl, .ref ke, .ref kd, .ref ks, .ref ka, .int (iI (es)), .int (iI (sk - mnI un sk)), .int (iI (so + mnI un sk)), .int (iI (lo + (un - mnI un sk)))])), (kd, .inr (0, [.ref ud])), (ud, arI cs 1005 (upI dm dy (dm dy + un))), (ks, .inr (0, [.ref uls])), (uls, arI cs 1005 (upI sl dy (sl dy + mnI un sk)))]) hP hD [0, 1, 2, 3, 4, 5, 6, 7, 8] rfl pk1 rfl hk1 hB
  have hP : va_P D vwCl [(kr, .inr (5, [.ref la, .ref ia, .ref na, .ref b4, .ref b6, .ref b8, .ref b10, .int (iI (((sh : Nat) : Int))), .int (iI (((it : Nat) : Int))), .int (iI (lc)), .int (iI (((dy : Nat) : Int))), .int (iI (pct)), .int (iI (lr)), .int (iI (sr))])), (la, arI cs 4 lf), (ia, arQ cs 2 5 itf), (na, arQ cs 3 20 lnf), (kn, .inr (3, [.ref hi, .int (iI (ld)), .int (iI (fd)), .int (iI (fk)), .int (iI (fv)), .ref kl, .ref ke, .ref kd, .ref ks, .ref ka, .int (iI (es)), .int (iI (sk - mnI un sk)), .int (iI (so + mnI un sk)), .int (iI (lo + (un - mnI un sk)))])), (kd, .inr (0, [.ref ud])), (ud, arI cs 1005 (upI dm dy (dm dy + un))), (ks, .inr (0, [.ref uls])), (uls, arI cs 1005 (upI sl dy (sl dy + mnI un sk)))] H := hP
  have hD : va_D A [(kr, .inr (5, [.ref la, .ref ia, .ref na, .ref b4, .ref b6, .ref b8, .ref b10, .int (iI (((sh : Nat) : Int))), .int (iI (((it : Nat) : Int))), .int (iI (lc)), .int (iI (((dy : Nat) : Int))), .int (iI (pct)), .int (iI (lr)), .int (iI (sr))])), (la, arI cs 4 lf), (ia, arQ cs 2 5 itf), (na, arQ cs 3 20 lnf), (kn, .inr (3, [.ref hi, .int (iI (ld)), .int (iI (fd)), .int (iI (fk)), .int (iI (fv)), .ref kl, .ref ke, .ref kd, .ref ks, .ref ka, .int (iI (es)), .int (iI (sk - mnI un sk)), .int (iI (so + mnI un sk)), .int (iI (lo + (un - mnI un sk)))])), (kd, .inr (0, [.ref ud])), (ud, arI cs 1005 (upI dm dy (dm dy + un))), (ks, .inr (0, [.ref uls])), (uls, arI cs 1005 (upI sl dy (sl dy + mnI un sk)))] := hD
  exact absurd hc2 hne

abbrev ws_L_addShop : List Cond := Cond.codeWith yL_addShop cL_addShop 3 (some .int) [(0, 5, 6, 20), (0, 5, 10, 22)] :: ALL
set_option maxHeartbeats 4000000 in
set_option maxRecDepth 100000 in
theorem m_L_addShop_r (l : Launch) (hst : l.stackTraces = false) (D : va_G) (cs : Nat → ClassId) (kr la ia na b4 b6 b8 b10 sh it : Nat) (lc : Int) (dy : Nat) (pct lr sr : Int) (lf : Nat → Int) (zl : Int) (hsh : sh ≤ 4) (hzl : -2147483648 ≤ zl ∧ zl < 2147483648) (hz : (if zl < 1 ∨ 5 < zl then 3 else if 4 ≤ sh then 4 else 0) = 0) : Met l yL_addShop ws_L_addShop ({ frames := 7, cells := 1, slots := 6, locals := 103 }) (va_Pc [.ref kr, .int (iI (zl))] (PE D cs [(kr, .inr (5, [.ref la, .ref ia, .ref na, .ref b4, .ref b6, .ref b8, .ref b10, .int (iI (((sh : Nat) : Int))), .int (iI (((it : Nat) : Int))), .int (iI (lc)), .int (iI (((dy : Nat) : Int))), .int (iI (pct)), .int (iI (lr)), .int (iI (sr))])), (la, arI cs 4 lf)] (inW [(kr, .inr (5, [.ref la, .ref ia, .ref na, .ref b4, .ref b6, .ref b8, .ref b10, .int (iI (((sh : Nat) : Int))), .int (iI (((it : Nat) : Int))), .int (iI (lc)), .int (iI (((dy : Nat) : Int))), .int (iI (pct)), .int (iI (lr)), .int (iI (sr))])), (la, arI cs 4 lf)]))) (va_Qi (fun r (_ : Unit) => r = iI (((sh : Nat) : Int))) (fun _ t => va_P D vwCl [(kr, .inr (5, [.ref la, .ref ia, .ref na, .ref b4, .ref b6, .ref b8, .ref b10, .int (iI ((((sh + 1) : Nat) : Int))), .int (iI (((it : Nat) : Int))), .int (iI (lc)), .int (iI (((dy : Nat) : Int))), .int (iI (pct)), .int (iI (lr)), .int (iI (sr))])), (la, arI cs 4 (upI lf sh zl))] t.heap) (inW [(kr, .inr (5, [.ref la, .ref ia, .ref na, .ref b4, .ref b6, .ref b8, .ref b10, .int (iI (((sh : Nat) : Int))), .int (iI (((it : Nat) : Int))), .int (iI (lc)), .int (iI (((dy : Nat) : Int))), .int (iI (pct)), .int (iI (lr)), .int (iI (sr))])), (la, arI cs 4 lf)])) 1 6 (inW [(kr, .inr (5, [.ref la, .ref ia, .ref na, .ref b4, .ref b6, .ref b8, .ref b10, .int (iI (((sh : Nat) : Int))), .int (iI (((it : Nat) : Int))), .int (iI (lc)), .int (iI (((dy : Nat) : Int))), .int (iI (pct)), .int (iI (lr)), .int (iI (sr))])), (la, arI cs 4 lf)]) := by
  refine va_MetW (cc := cL_addShop) (maxL := 3) (ret := some .int) (hh := [(0, 5, 6, 20), (0, 5, 10, 22)]) (by decide +kernel) rfl ?_
  intro p e s m args below meth c s₁ B hml hv
  obtain ⟨rfl, ⟨hP, hK, hD, hN⟩, hE⟩ := hv
  have hx := B.exec
  have hb := B.bytes
  have hr := B.returns
  have hts : ∀ w ∈ ALL, w.before _ s = true := fun w h => atoms_spec (ws := ws_L_addShop) B.pre w (List.mem_cons_of_mem _ h)
  have hown : s.vm.findClass RL = some m.cls := findClass_of_methodNamed B.named
  have hlocks := B.notSynchronized
  have htab : c.exceptionTable.toList = tableOf [(0, 5, 6, 20), (0, 5, 10, 22)] := vx_table (x := yL_addShop) B (atoms_spec (ws := ws_L_addShop) B.pre _ List.mem_cons_self)
  generalize hAe : inW [(kr, .inr (5, [.ref la, .ref ia, .ref na, .ref b4, .ref b6, .ref b8, .ref b10, .int (iI (((sh : Nat) : Int))), .int (iI (((it : Nat) : Int))), .int (iI (lc)), .int (iI (((dy : Nat) : Int))), .int (iI (pct)), .int (iI (lr)), .int (iI (sr))])), (la, arI cs 4 lf)] = A at hD hE ⊢
  have hS : va_S A s.heap s.heap [] := va_S.rf
  have hl := lv_entry ([.ref kr, .int (iI (zl))]) (n := 3) (Nat.le_of_ble_eq_true rfl)
  rw [lg_entry_eq]
  generalize (lg_sl ([.ref kr, .int (iI (zl))]) ++ List.replicate (3 - (lg_sl ([.ref kr, .int (iI (zl))])).length) Slot.unset).toArray = ls at hl ⊢
  have hl : lv_has ls 3 [(0, .ref kr), (1, .int (iI (zl)))] := hl
  have hH := rfl (a := s.heap)
  refine lv_aload_n hx hb dL_addShop_0 rfl (lv_at hl 0 rfl) ?_
  refine lv_iload_n hx hb dL_addShop_1 rfl (lv_at hl 1 rfl) ?_
  have pk1 : picks [(kr, .inr (5, [.ref la, .ref ia, .ref na, .ref b4, .ref b6, .ref b8, .ref b10, .int (iI (((sh : Nat) : Int))), .int (iI (((it : Nat) : Int))), .int (iI (lc)), .int (iI (((dy : Nat) : Int))), .int (iI (pct)), .int (iI (lr)), .int (iI (sr))])), (la, arI cs 4 lf)] [0, 1] [(kr, .inr (5, [.ref la, .ref ia, .ref na, .ref b4, .ref b6, .ref b8, .ref b10, .int (iI (((sh : Nat) : Int))), .int (iI (((it : Nat) : Int))), .int (iI (lc)), .int (iI (((dy : Nat) : Int))), .int (iI (pct)), .int (iI (lr)), .int (iI (sr))])), (la, arI cs 4 lf)] := ⟨rfl, rfl, trivial⟩
  refine vx_calli (vx_runV (As := [.int (iI (zl))]) (rest := []) ⟨hx, hb, hml, hown, hts⟩ (m_X5_addShop l hst D cs kr la ia na b4 b6 b8 b10 sh it lc dy pct lr sr lf zl (hsh) (hzl)) (cwV 1 hts (gV w_140 w_141 w_142 w_1 w_143) rfl rfl rfl (by decide +kernel) ⟨Nat.le_of_ble_eq_true rfl, Nat.le_of_ble_eq_true rfl⟩) (PE_V hK hN hE hS (fun q h => inW_sub hD [0, 1] pk1 q h) hP hD [0, 1] rfl pk1 rfl rfl) rfl rfl hl.1 rfl (lv_room (Nat.le_of_ble_eq_true rfl)) dL_addShop_2 ⟨Nat.le_of_ble_eq_true rfl, Nat.le_of_ble_eq_true rfl⟩) hS (fun q _ h => inW_sub hD [0, 1] pk1 q h) (fun q h => inW_sub hD [0, 1] pk1 q h) (fun q _ h => inW_sub hD [0, 1] pk1 q h) (fun E ce q9 u t H1 locs1 ht hvm hpx hBX hz1 hk1 hS1 hce hcv hcl => ?_) (fun r u t H locs ht hvm hw hB hz1 hk1 hS => ?_)
  · exact absurd (hpx.1.trans hz) hpx.2
  obtain ⟨hc2, hw⟩ := hw
  subst hw
  rw [ht] at hB
  obtain ⟨hP, hD⟩ := my_join (W1 := [(kr, .inr (5, [.ref la, .ref ia, .ref na, .ref b4, .ref b6, .ref b8, .ref b10, .int (iI ((((sh + 1) : Nat) : Int))), .int (iI (((it : Nat) : Int))), .int (iI (lc)), .int (iI (((dy : Nat) : Int))), .int (iI (pct)), .int (iI (lr)), .int (iI (sr))])), (la, arI cs 4 (upI lf sh zl))]) hP hD [0, 1] rfl pk1 rfl hk1 hB
  have hP : va_P D vwCl [(kr, .inr (5, [.ref la, .ref ia, .ref na, .ref b4, .ref b6, .ref b8, .ref b10, .int (iI ((((sh + 1) : Nat) : Int))), .int (iI (((it : Nat) : Int))), .int (iI (lc)), .int (iI (((dy : Nat) : Int))), .int (iI (pct)), .int (iI (lr)), .int (iI (sr))])), (la, arI cs 4 (upI lf sh zl))] H := hP
  have hD : va_D A [(kr, .inr (5, [.ref la, .ref ia, .ref na, .ref b4, .ref b6, .ref b8, .ref b10, .int (iI ((((sh + 1) : Nat) : Int))), .int (iI (((it : Nat) : Int))), .int (iI (lc)), .int (iI (((dy : Nat) : Int))), .int (iI (pct)), .int (iI (lr)), .int (iI (sr))])), (la, arI cs 4 (upI lf sh zl))] := hD
  subst hAe
  refine W.widen (k := 1) (n := 6) (by omega) (by omega) ?_
  have hres : iI (((sh : Nat) : Int)) = iI (((sh : Nat) : Int)) := congrArg iI (by
      rfl)
  exact W.iret hx hb hr (fun t ht hW => ⟨⟨_, (), rfl, hres, by show va_P D vwCl _ t.heap; rw [ht]; exact hP⟩, hS.F ht⟩) hS.2.2 dL_addShop_5

abbrev ws_L_setService : List Cond := Cond.codeWith yL_setService cL_setService 3 (some .int) [(0, 5, 6, 20)] :: ALL
set_option maxHeartbeats 4000000 in
set_option maxRecDepth 100000 in
theorem m_L_setService_r (l : Launch) (hst : l.stackTraces = false) (D : va_G) (cs : Nat → ClassId) (kr la ia na b4 b6 b8 b10 sh it : Nat) (lc : Int) (dy : Nat) (pct lr sr : Int) (zl : Int) (hzl : -2147483648 ≤ zl ∧ zl < 2147483648) (hz : (if zl < 1 ∨ 100 < zl then 3 else 0) = 0) : Met l yL_setService ws_L_setService ({ frames := 7, cells := 1, slots := 6, locals := 104 }) (va_Pc [.ref kr, .int (iI (zl))] (PE D cs [(kr, .inr (5, [.ref la, .ref ia, .ref na, .ref b4, .ref b6, .ref b8, .ref b10, .int (iI (((sh : Nat) : Int))), .int (iI (((it : Nat) : Int))), .int (iI (lc)), .int (iI (((dy : Nat) : Int))), .int (iI (pct)), .int (iI (lr)), .int (iI (sr))]))] (inW [(kr, .inr (5, [.ref la, .ref ia, .ref na, .ref b4, .ref b6, .ref b8, .ref b10, .int (iI (((sh : Nat) : Int))), .int (iI (((it : Nat) : Int))), .int (iI (lc)), .int (iI (((dy : Nat) : Int))), .int (iI (pct)), .int (iI (lr)), .int (iI (sr))]))]))) (va_Qi (fun r (_ : Unit) => r = iI (pct)) (fun _ t => va_P D vwCl [(kr, .inr (5, [.ref la, .ref ia, .ref na, .ref b4, .ref b6, .ref b8, .ref b10, .int (iI (((sh : Nat) : Int))), .int (iI (((it : Nat) : Int))), .int (iI (lc)), .int (iI (((dy : Nat) : Int))), .int (iI (zl)), .int (iI (lr)), .int (iI (sr))]))] t.heap) (inW [(kr, .inr (5, [.ref la, .ref ia, .ref na, .ref b4, .ref b6, .ref b8, .ref b10, .int (iI (((sh : Nat) : Int))), .int (iI (((it : Nat) : Int))), .int (iI (lc)), .int (iI (((dy : Nat) : Int))), .int (iI (pct)), .int (iI (lr)), .int (iI (sr))]))])) 1 6 (inW [(kr, .inr (5, [.ref la, .ref ia, .ref na, .ref b4, .ref b6, .ref b8, .ref b10, .int (iI (((sh : Nat) : Int))), .int (iI (((it : Nat) : Int))), .int (iI (lc)), .int (iI (((dy : Nat) : Int))), .int (iI (pct)), .int (iI (lr)), .int (iI (sr))]))]) := by
  refine va_MetW (cc := cL_setService) (maxL := 3) (ret := some .int) (hh := [(0, 5, 6, 20)]) (by decide +kernel) rfl ?_
  intro p e s m args below meth c s₁ B hml hv
  obtain ⟨rfl, ⟨hP, hK, hD, hN⟩, hE⟩ := hv
  have hx := B.exec
  have hb := B.bytes
  have hr := B.returns
  have hts : ∀ w ∈ ALL, w.before _ s = true := fun w h => atoms_spec (ws := ws_L_setService) B.pre w (List.mem_cons_of_mem _ h)
  have hown : s.vm.findClass RL = some m.cls := findClass_of_methodNamed B.named
  have hlocks := B.notSynchronized
  have htab : c.exceptionTable.toList = tableOf [(0, 5, 6, 20)] := vx_table (x := yL_setService) B (atoms_spec (ws := ws_L_setService) B.pre _ List.mem_cons_self)
  generalize hAe : inW [(kr, .inr (5, [.ref la, .ref ia, .ref na, .ref b4, .ref b6, .ref b8, .ref b10, .int (iI (((sh : Nat) : Int))), .int (iI (((it : Nat) : Int))), .int (iI (lc)), .int (iI (((dy : Nat) : Int))), .int (iI (pct)), .int (iI (lr)), .int (iI (sr))]))] = A at hD hE ⊢
  have hS : va_S A s.heap s.heap [] := va_S.rf
  have hl := lv_entry ([.ref kr, .int (iI (zl))]) (n := 3) (Nat.le_of_ble_eq_true rfl)
  rw [lg_entry_eq]
  generalize (lg_sl ([.ref kr, .int (iI (zl))]) ++ List.replicate (3 - (lg_sl ([.ref kr, .int (iI (zl))])).length) Slot.unset).toArray = ls at hl ⊢
  have hl : lv_has ls 3 [(0, .ref kr), (1, .int (iI (zl)))] := hl
  have hH := rfl (a := s.heap)
  refine lv_aload_n hx hb dL_setService_0 rfl (lv_at hl 0 rfl) ?_
  refine lv_iload_n hx hb dL_setService_1 rfl (lv_at hl 1 rfl) ?_
  have pk1 : picks [(kr, .inr (5, [.ref la, .ref ia, .ref na, .ref b4, .ref b6, .ref b8, .ref b10, .int (iI (((sh : Nat) : Int))), .int (iI (((it : Nat) : Int))), .int (iI (lc)), .int (iI (((dy : Nat) : Int))), .int (iI (pct)), .int (iI (lr)), .int (iI (sr))]))] [0] [(kr, .inr (5, [.ref la, .ref ia, .ref na, .ref b4, .ref b6, .ref b8, .ref b10, .int (iI (((sh : Nat) : Int))), .int (iI (((it : Nat) : Int))), .int (iI (lc)), .int (iI (((dy : Nat) : Int))), .int (iI (pct)), .int (iI (lr)), .int (iI (sr))]))] := ⟨rfl, trivial⟩
  refine vx_calli (vx_runV (As := [.int (iI (zl))]) (rest := []) ⟨hx, hb, hml, hown, hts⟩ (m_X5_setService l hst D cs kr la ia na b4 b6 b8 b10 sh it lc dy pct lr sr zl (hzl)) (cwV 1 hts (gV w_421 w_422 w_423 w_1 w_424) rfl rfl rfl (by decide +kernel) ⟨Nat.le_of_ble_eq_true rfl, Nat.le_of_ble_eq_true rfl⟩) (PE_V hK hN hE hS (fun q h => inW_sub hD [0] pk1 q h) hP hD [0] rfl pk1 rfl rfl) rfl rfl hl.1 rfl (lv_room (Nat.le_of_ble_eq_true rfl)) dL_setService_2 ⟨Nat.le_of_ble_eq_true rfl, Nat.le_of_ble_eq_true rfl⟩) hS (fun q _ h => inW_sub hD [0] pk1 q h) (fun q h => inW_sub hD [0] pk1 q h) (fun q _ h => inW_sub hD [0] pk1 q h) (fun E ce q9 u t H1 locs1 ht hvm hpx hBX hz1 hk1 hS1 hce hcv hcl => ?_) (fun r u t H locs ht hvm hw hB hz1 hk1 hS => ?_)
  · exact absurd (hpx.1.trans hz) hpx.2
  obtain ⟨hc2, hw⟩ := hw
  subst hw
  rw [ht] at hB
  obtain ⟨hP, hD⟩ := my_join (W1 := [(kr, .inr (5, [.ref la, .ref ia, .ref na, .ref b4, .ref b6, .ref b8, .ref b10, .int (iI (((sh : Nat) : Int))), .int (iI (((it : Nat) : Int))), .int (iI (lc)), .int (iI (((dy : Nat) : Int))), .int (iI (zl)), .int (iI (lr)), .int (iI (sr))]))]) hP hD [0] rfl pk1 rfl hk1 hB
  have hP : va_P D vwCl [(kr, .inr (5, [.ref la, .ref ia, .ref na, .ref b4, .ref b6, .ref b8, .ref b10, .int (iI (((sh : Nat) : Int))), .int (iI (((it : Nat) : Int))), .int (iI (lc)), .int (iI (((dy : Nat) : Int))), .int (iI (zl)), .int (iI (lr)), .int (iI (sr))]))] H := hP
  have hD : va_D A [(kr, .inr (5, [.ref la, .ref ia, .ref na, .ref b4, .ref b6, .ref b8, .ref b10, .int (iI (((sh : Nat) : Int))), .int (iI (((it : Nat) : Int))), .int (iI (lc)), .int (iI (((dy : Nat) : Int))), .int (iI (zl)), .int (iI (lr)), .int (iI (sr))]))] := hD
  subst hAe
  refine W.widen (k := 1) (n := 6) (by omega) (by omega) ?_
  have hres : iI (pct) = iI (pct) := congrArg iI (by
      rfl)
  exact W.iret hx hb hr (fun t ht hW => ⟨⟨_, (), rfl, hres, by show va_P D vwCl _ t.heap; rw [ht]; exact hP⟩, hS.F ht⟩) hS.2.2 dL_setService_5

set_option maxHeartbeats 4000000 in
set_option maxRecDepth 100000 in
theorem m_L_setService_t (l : Launch) (hst : l.stackTraces = false) (D : va_G) (cs : Nat → ClassId) (kr la ia na b4 b6 b8 b10 sh it : Nat) (lc : Int) (dy : Nat) (pct lr sr : Int) (zl : Int) (hzl : -2147483648 ≤ zl ∧ zl < 2147483648) (hne : (if zl < 1 ∨ 100 < zl then 3 else 0) ≠ 0) : Met l yL_setService ws_L_setService ({ frames := 7, cells := 1, slots := 6, locals := 104 }) (va_Pc [.ref kr, .int (iI (zl))] (PE D cs [(kr, .inr (5, [.ref la, .ref ia, .ref na, .ref b4, .ref b6, .ref b8, .ref b10, .int (iI (((sh : Nat) : Int))), .int (iI (((it : Nat) : Int))), .int (iI (lc)), .int (iI (((dy : Nat) : Int))), .int (iI (pct)), .int (iI (lr)), .int (iI (sr))]))] (inW [(kr, .inr (5, [.ref la, .ref ia, .ref na, .ref b4, .ref b6, .ref b8, .ref b10, .int (iI (((sh : Nat) : Int))), .int (iI (((it : Nat) : Int))), .int (iI (lc)), .int (iI (((dy : Nat) : Int))), .int (iI (pct)), .int (iI (lr)), .int (iI (sr))]))]))) (va_Qi (fun r (_ : Unit) => r = iI (exv (if zl < 1 ∨ 100 < zl then 3 else 0))) (fun _ t => va_P D vwCl [(kr, .inr (5, [.ref la, .ref ia, .ref na, .ref b4, .ref b6, .ref b8, .ref b10, .int (iI (((sh : Nat) : Int))), .int (iI (((it : Nat) : Int))), .int (iI (lc)), .int (iI (((dy : Nat) : Int))), .int (iI (pct)), .int (iI (lr)), .int (iI (sr))]))] t.heap) (inW [(kr, .inr (5, [.ref la, .ref ia, .ref na, .ref b4, .ref b6, .ref b8, .ref b10, .int (iI (((sh : Nat) : Int))), .int (iI (((it : Nat) : Int))), .int (iI (lc)), .int (iI (((dy : Nat) : Int))), .int (iI (pct)), .int (iI (lr)), .int (iI (sr))]))])) 1 6 (inW [(kr, .inr (5, [.ref la, .ref ia, .ref na, .ref b4, .ref b6, .ref b8, .ref b10, .int (iI (((sh : Nat) : Int))), .int (iI (((it : Nat) : Int))), .int (iI (lc)), .int (iI (((dy : Nat) : Int))), .int (iI (pct)), .int (iI (lr)), .int (iI (sr))]))]) := by
  refine va_MetW (cc := cL_setService) (maxL := 3) (ret := some .int) (hh := [(0, 5, 6, 20)]) (by decide +kernel) rfl ?_
  intro p e s m args below meth c s₁ B hml hv
  obtain ⟨rfl, ⟨hP, hK, hD, hN⟩, hE⟩ := hv
  have hx := B.exec
  have hb := B.bytes
  have hr := B.returns
  have hts : ∀ w ∈ ALL, w.before _ s = true := fun w h => atoms_spec (ws := ws_L_setService) B.pre w (List.mem_cons_of_mem _ h)
  have hown : s.vm.findClass RL = some m.cls := findClass_of_methodNamed B.named
  have hlocks := B.notSynchronized
  have htab : c.exceptionTable.toList = tableOf [(0, 5, 6, 20)] := vx_table (x := yL_setService) B (atoms_spec (ws := ws_L_setService) B.pre _ List.mem_cons_self)
  generalize hAe : inW [(kr, .inr (5, [.ref la, .ref ia, .ref na, .ref b4, .ref b6, .ref b8, .ref b10, .int (iI (((sh : Nat) : Int))), .int (iI (((it : Nat) : Int))), .int (iI (lc)), .int (iI (((dy : Nat) : Int))), .int (iI (pct)), .int (iI (lr)), .int (iI (sr))]))] = A at hD hE ⊢
  have hS : va_S A s.heap s.heap [] := va_S.rf
  have hl := lv_entry ([.ref kr, .int (iI (zl))]) (n := 3) (Nat.le_of_ble_eq_true rfl)
  rw [lg_entry_eq]
  generalize (lg_sl ([.ref kr, .int (iI (zl))]) ++ List.replicate (3 - (lg_sl ([.ref kr, .int (iI (zl))])).length) Slot.unset).toArray = ls at hl ⊢
  have hl : lv_has ls 3 [(0, .ref kr), (1, .int (iI (zl)))] := hl
  have hH := rfl (a := s.heap)
  refine lv_aload_n hx hb dL_setService_0 rfl (lv_at hl 0 rfl) ?_
  refine lv_iload_n hx hb dL_setService_1 rfl (lv_at hl 1 rfl) ?_
  have pk1 : picks [(kr, .inr (5, [.ref la, .ref ia, .ref na, .ref b4, .ref b6, .ref b8, .ref b10, .int (iI (((sh : Nat) : Int))), .int (iI (((it : Nat) : Int))), .int (iI (lc)), .int (iI (((dy : Nat) : Int))), .int (iI (pct)), .int (iI (lr)), .int (iI (sr))]))] [0] [(kr, .inr (5, [.ref la, .ref ia, .ref na, .ref b4, .ref b6, .ref b8, .ref b10, .int (iI (((sh : Nat) : Int))), .int (iI (((it : Nat) : Int))), .int (iI (lc)), .int (iI (((dy : Nat) : Int))), .int (iI (pct)), .int (iI (lr)), .int (iI (sr))]))] := ⟨rfl, trivial⟩
  refine vx_calli (vx_runV (As := [.int (iI (zl))]) (rest := []) ⟨hx, hb, hml, hown, hts⟩ (m_X5_setService l hst D cs kr la ia na b4 b6 b8 b10 sh it lc dy pct lr sr zl (hzl)) (cwV 1 hts (gV w_421 w_422 w_423 w_1 w_424) rfl rfl rfl (by decide +kernel) ⟨Nat.le_of_ble_eq_true rfl, Nat.le_of_ble_eq_true rfl⟩) (PE_V hK hN hE hS (fun q h => inW_sub hD [0] pk1 q h) hP hD [0] rfl pk1 rfl rfl) rfl rfl hl.1 rfl (lv_room (Nat.le_of_ble_eq_true rfl)) dL_setService_2 ⟨Nat.le_of_ble_eq_true rfl, Nat.le_of_ble_eq_true rfl⟩) hS (fun q _ h => inW_sub hD [0] pk1 q h) (fun q h => inW_sub hD [0] pk1 q h) (fun q _ h => inW_sub hD [0] pk1 q h) (fun E ce q9 u t H1 locs1 ht hvm hpx hBX hz1 hk1 hS1 hce hcv hcl => ?_) (fun r u t H locs ht hvm hw hB hz1 hk1 hS => ?_)
  · have h9 : u = (if zl < 1 ∨ 100 < zl then 3 else 0) := hpx.1
    have hS := hS1
    have hcd : (if zl < 1 ∨ 100 < zl then 3 else 0) = 3 := by
      revert hne
      (try unfold cdL); (try unfold cdS); (try unfold cdC)
      (repeat' split) <;> simp
    obtain ⟨hEu, hBX⟩ := hBX
    rw [ht] at hBX
    obtain ⟨hP, hD⟩ := my_join (Wc := [(kr, .inr (5, [.ref la, .ref ia, .ref na, .ref b4, .ref b6, .ref b8, .ref b10, .int (iI (((sh : Nat) : Int))), .int (iI (((it : Nat) : Int))), .int (iI (lc)), .int (iI (((dy : Nat) : Int))), .int (iI (pct)), .int (iI (lr)), .int (iI (sr))]))]) (W1 := [(kr, .inr (5, [.ref la, .ref ia, .ref na, .ref b4, .ref b6, .ref b8, .ref b10, .int (iI (((sh : Nat) : Int))), .int (iI (((it : Nat) : Int))), .int (iI (lc)), .int (iI (((dy : Nat) : Int))), .int (iI (pct)), .int (iI (lr)), .int (iI (sr))]))]) hP hD [0] rfl (⟨rfl, trivial⟩) rfl hk1 hBX
    have hP : va_P D vwCl [(kr, .inr (5, [.ref la, .ref ia, .ref na, .ref b4, .ref b6, .ref b8, .ref b10, .int (iI (((sh : Nat) : Int))), .int (iI (((it : Nat) : Int))), .int (iI (lc)), .int (iI (((dy : Nat) : Int))), .int (iI (pct)), .int (iI (lr)), .int (iI (sr))]))] H1 := hP
    have hD : va_D A [(kr, .inr (5, [.ref la, .ref ia, .ref na, .ref b4, .ref b6, .ref b8, .ref b10, .int (iI (((sh : Nat) : Int))), .int (iI (((it : Nat) : Int))), .int (iI (lc)), .int (iI (((dy : Nat) : Int))), .int (iI (pct)), .int (iI (lr)), .int (iI (sr))]))] := hD
    have hc3 := hcd
    have hE3 : E = "java/lang/IllegalArgumentException" := by have h8 : E = exN u := hEu; rw [h8, h9, hc3]; rfl
    subst hE3
    refine vx_catch (name := "java/lang/IllegalArgumentException") hown [] ⟨0, 5, 6, 20⟩ [] (htab.trans rfl) (fun z hz => by cases hz) rfl (by decide) (hts _ w_138) (hE.use _ (List.mem_append_right _ (List.mem_map.mpr ⟨_, List.mem_of_getElem? (i := 2) rfl, rfl⟩))) hce hcv hcl ?_
    refine lv_astore_n (lv' := [(2, .ref q9), (0, .ref kr), (1, .int (iI (zl)))]) hx hb dL_setService_6 rfl hl (by decide) rfl (fun ls hl => ?_)
    refine lv_bipush (v := iI (-78)) hx hb dL_setService_7 (by decide) ?_
    subst hAe
    refine W.widen (k := 1) (n := 6) (by omega) (by omega) ?_
    have hres : iI (-78) = iI (exv (if zl < 1 ∨ 100 < zl then 3 else 0)) := congrArg iI (by
        rw [hc3]; rfl)
    exact W.iret hx hb hr (fun t ht hW => ⟨⟨_, (), rfl, hres, by show va_P D vwCl _ t.heap; rw [ht]; exact hP⟩, hS.F ht⟩) hS.2.2 dL_setService_9
  obtain ⟨hc2, hw⟩ := hw
  subst hw
  rw [ht] at hB
  obtain ⟨hP, hD⟩ := my_join (W1 := [(kr, .inr (5, [.ref la, .ref ia, .ref na, .ref b4, .ref b6, .ref b8, .ref b10, .int (iI (((sh : Nat) : Int))), .int (iI (((it : Nat) : Int))), .int (iI (lc)), .int (iI (((dy : Nat) : Int))), .int (iI (zl)), .int (iI (lr)), .int (iI (sr))]))]) hP hD [0] rfl pk1 rfl hk1 hB
  have hP : va_P D vwCl [(kr, .inr (5, [.ref la, .ref ia, .ref na, .ref b4, .ref b6, .ref b8, .ref b10, .int (iI (((sh : Nat) : Int))), .int (iI (((it : Nat) : Int))), .int (iI (lc)), .int (iI (((dy : Nat) : Int))), .int (iI (zl)), .int (iI (lr)), .int (iI (sr))]))] H := hP
  have hD : va_D A [(kr, .inr (5, [.ref la, .ref ia, .ref na, .ref b4, .ref b6, .ref b8, .ref b10, .int (iI (((sh : Nat) : Int))), .int (iI (((it : Nat) : Int))), .int (iI (lc)), .int (iI (((dy : Nat) : Int))), .int (iI (zl)), .int (iI (lr)), .int (iI (sr))]))] := hD
  exact absurd hc2 hne

abbrev ws_L_setRates : List Cond := Cond.codeWith yL_setRates cL_setRates 4 (some .int) [(0, 6, 7, 20)] :: ALL
set_option maxHeartbeats 4000000 in
set_option maxRecDepth 100000 in
theorem m_L_setRates_r (l : Launch) (hst : l.stackTraces = false) (D : va_G) (cs : Nat → ClassId) (kr la ia na b4 b6 b8 b10 sh it : Nat) (lc : Int) (dy : Nat) (pct lr sr : Int) (zl zm : Int) (hzl : -2147483648 ≤ zl ∧ zl < 2147483648) (hzm : -2147483648 ≤ zm ∧ zm < 2147483648) (hz : (if (zl < 0 ∨ 100 < zl) ∨ (zm < 0 ∨ 100 < zm) then 3 else 0) = 0) : Met l yL_setRates ws_L_setRates ({ frames := 7, cells := 1, slots := 6, locals := 105 }) (va_Pc [.ref kr, .int (iI (zl)), .int (iI (zm))] (PE D cs [(kr, .inr (5, [.ref la, .ref ia, .ref na, .ref b4, .ref b6, .ref b8, .ref b10, .int (iI (((sh : Nat) : Int))), .int (iI (((it : Nat) : Int))), .int (iI (lc)), .int (iI (((dy : Nat) : Int))), .int (iI (pct)), .int (iI (lr)), .int (iI (sr))]))] (inW [(kr, .inr (5, [.ref la, .ref ia, .ref na, .ref b4, .ref b6, .ref b8, .ref b10, .int (iI (((sh : Nat) : Int))), .int (iI (((it : Nat) : Int))), .int (iI (lc)), .int (iI (((dy : Nat) : Int))), .int (iI (pct)), .int (iI (lr)), .int (iI (sr))]))]))) (va_Qi (fun r (_ : Unit) => r = iI (lr)) (fun _ t => va_P D vwCl [(kr, .inr (5, [.ref la, .ref ia, .ref na, .ref b4, .ref b6, .ref b8, .ref b10, .int (iI (((sh : Nat) : Int))), .int (iI (((it : Nat) : Int))), .int (iI (lc)), .int (iI (((dy : Nat) : Int))), .int (iI (pct)), .int (iI (zl)), .int (iI (zm))]))] t.heap) (inW [(kr, .inr (5, [.ref la, .ref ia, .ref na, .ref b4, .ref b6, .ref b8, .ref b10, .int (iI (((sh : Nat) : Int))), .int (iI (((it : Nat) : Int))), .int (iI (lc)), .int (iI (((dy : Nat) : Int))), .int (iI (pct)), .int (iI (lr)), .int (iI (sr))]))])) 1 6 (inW [(kr, .inr (5, [.ref la, .ref ia, .ref na, .ref b4, .ref b6, .ref b8, .ref b10, .int (iI (((sh : Nat) : Int))), .int (iI (((it : Nat) : Int))), .int (iI (lc)), .int (iI (((dy : Nat) : Int))), .int (iI (pct)), .int (iI (lr)), .int (iI (sr))]))]) := by
  refine va_MetW (cc := cL_setRates) (maxL := 4) (ret := some .int) (hh := [(0, 6, 7, 20)]) (by decide +kernel) rfl ?_
  intro p e s m args below meth c s₁ B hml hv
  obtain ⟨rfl, ⟨hP, hK, hD, hN⟩, hE⟩ := hv
  have hx := B.exec
  have hb := B.bytes
  have hr := B.returns
  have hts : ∀ w ∈ ALL, w.before _ s = true := fun w h => atoms_spec (ws := ws_L_setRates) B.pre w (List.mem_cons_of_mem _ h)
  have hown : s.vm.findClass RL = some m.cls := findClass_of_methodNamed B.named
  have hlocks := B.notSynchronized
  have htab : c.exceptionTable.toList = tableOf [(0, 6, 7, 20)] := vx_table (x := yL_setRates) B (atoms_spec (ws := ws_L_setRates) B.pre _ List.mem_cons_self)
  generalize hAe : inW [(kr, .inr (5, [.ref la, .ref ia, .ref na, .ref b4, .ref b6, .ref b8, .ref b10, .int (iI (((sh : Nat) : Int))), .int (iI (((it : Nat) : Int))), .int (iI (lc)), .int (iI (((dy : Nat) : Int))), .int (iI (pct)), .int (iI (lr)), .int (iI (sr))]))] = A at hD hE ⊢
  have hS : va_S A s.heap s.heap [] := va_S.rf
  have hl := lv_entry ([.ref kr, .int (iI (zl)), .int (iI (zm))]) (n := 4) (Nat.le_of_ble_eq_true rfl)
  rw [lg_entry_eq]
  generalize (lg_sl ([.ref kr, .int (iI (zl)), .int (iI (zm))]) ++ List.replicate (4 - (lg_sl ([.ref kr, .int (iI (zl)), .int (iI (zm))])).length) Slot.unset).toArray = ls at hl ⊢
  have hl : lv_has ls 4 [(0, .ref kr), (1, .int (iI (zl))), (2, .int (iI (zm)))] := hl
  have hH := rfl (a := s.heap)
  refine lv_aload_n hx hb dL_setRates_0 rfl (lv_at hl 0 rfl) ?_
  refine lv_iload_n hx hb dL_setRates_1 rfl (lv_at hl 1 rfl) ?_
  refine lv_iload_n hx hb dL_setRates_2 rfl (lv_at hl 2 rfl) ?_
  have pk1 : picks [(kr, .inr (5, [.ref la, .ref ia, .ref na, .ref b4, .ref b6, .ref b8, .ref b10, .int (iI (((sh : Nat) : Int))), .int (iI (((it : Nat) : Int))), .int (iI (lc)), .int (iI (((dy : Nat) : Int))), .int (iI (pct)), .int (iI (lr)), .int (iI (sr))]))] [0] [(kr, .inr (5, [.ref la, .ref ia, .ref na, .ref b4, .ref b6, .ref b8, .ref b10, .int (iI (((sh : Nat) : Int))), .int (iI (((it : Nat) : Int))), .int (iI (lc)), .int (iI (((dy : Nat) : Int))), .int (iI (pct)), .int (iI (lr)), .int (iI (sr))]))] := ⟨rfl, trivial⟩
  refine vx_calli (vx_runV (As := [.int (iI (zl)), .int (iI (zm))]) (rest := []) ⟨hx, hb, hml, hown, hts⟩ (m_X5_setRates l hst D cs kr la ia na b4 b6 b8 b10 sh it lc dy pct lr sr zl zm (hzl) (hzm)) (cwV 2 hts (gV w_429 w_430 w_431 w_1 w_432) rfl rfl rfl (by decide +kernel) ⟨Nat.le_of_ble_eq_true rfl, Nat.le_of_ble_eq_true rfl⟩) (PE_V hK hN hE hS (fun q h => inW_sub hD [0] pk1 q h) hP hD [0] rfl pk1 rfl rfl) rfl rfl hl.1 rfl (lv_room (Nat.le_of_ble_eq_true rfl)) dL_setRates_3 ⟨Nat.le_of_ble_eq_true rfl, Nat.le_of_ble_eq_true rfl⟩) hS (fun q _ h => inW_sub hD [0] pk1 q h) (fun q h => inW_sub hD [0] pk1 q h) (fun q _ h => inW_sub hD [0] pk1 q h) (fun E ce q9 u t H1 locs1 ht hvm hpx hBX hz1 hk1 hS1 hce hcv hcl => ?_) (fun r u t H locs ht hvm hw hB hz1 hk1 hS => ?_)
  · exact absurd (hpx.1.trans hz) hpx.2
  obtain ⟨hc2, hw⟩ := hw
  subst hw
  rw [ht] at hB
  obtain ⟨hP, hD⟩ := my_join (W1 := [(kr, .inr (5, [.ref la, .ref ia, .ref na, .ref b4, .ref b6, .ref b8, .ref b10, .int (iI (((sh : Nat) : Int))), .int (iI (((it : Nat) : Int))), .int (iI (lc)), .int (iI (((dy : Nat) : Int))), .int (iI (pct)), .int (iI (zl)), .int (iI (zm))]))]) hP hD [0] rfl pk1 rfl hk1 hB
  have hP : va_P D vwCl [(kr, .inr (5, [.ref la, .ref ia, .ref na, .ref b4, .ref b6, .ref b8, .ref b10, .int (iI (((sh : Nat) : Int))), .int (iI (((it : Nat) : Int))), .int (iI (lc)), .int (iI (((dy : Nat) : Int))), .int (iI (pct)), .int (iI (zl)), .int (iI (zm))]))] H := hP
  have hD : va_D A [(kr, .inr (5, [.ref la, .ref ia, .ref na, .ref b4, .ref b6, .ref b8, .ref b10, .int (iI (((sh : Nat) : Int))), .int (iI (((it : Nat) : Int))), .int (iI (lc)), .int (iI (((dy : Nat) : Int))), .int (iI (pct)), .int (iI (zl)), .int (iI (zm))]))] := hD
  subst hAe
  refine W.widen (k := 1) (n := 6) (by omega) (by omega) ?_
  have hres : iI (lr) = iI (lr) := congrArg iI (by
      rfl)
  exact W.iret hx hb hr (fun t ht hW => ⟨⟨_, (), rfl, hres, by show va_P D vwCl _ t.heap; rw [ht]; exact hP⟩, hS.F ht⟩) hS.2.2 dL_setRates_6

set_option maxHeartbeats 4000000 in
set_option maxRecDepth 100000 in
theorem m_L_setRates_t (l : Launch) (hst : l.stackTraces = false) (D : va_G) (cs : Nat → ClassId) (kr la ia na b4 b6 b8 b10 sh it : Nat) (lc : Int) (dy : Nat) (pct lr sr : Int) (zl zm : Int) (hzl : -2147483648 ≤ zl ∧ zl < 2147483648) (hzm : -2147483648 ≤ zm ∧ zm < 2147483648) (hne : (if (zl < 0 ∨ 100 < zl) ∨ (zm < 0 ∨ 100 < zm) then 3 else 0) ≠ 0) : Met l yL_setRates ws_L_setRates ({ frames := 7, cells := 1, slots := 6, locals := 105 }) (va_Pc [.ref kr, .int (iI (zl)), .int (iI (zm))] (PE D cs [(kr, .inr (5, [.ref la, .ref ia, .ref na, .ref b4, .ref b6, .ref b8, .ref b10, .int (iI (((sh : Nat) : Int))), .int (iI (((it : Nat) : Int))), .int (iI (lc)), .int (iI (((dy : Nat) : Int))), .int (iI (pct)), .int (iI (lr)), .int (iI (sr))]))] (inW [(kr, .inr (5, [.ref la, .ref ia, .ref na, .ref b4, .ref b6, .ref b8, .ref b10, .int (iI (((sh : Nat) : Int))), .int (iI (((it : Nat) : Int))), .int (iI (lc)), .int (iI (((dy : Nat) : Int))), .int (iI (pct)), .int (iI (lr)), .int (iI (sr))]))]))) (va_Qi (fun r (_ : Unit) => r = iI (exv (if (zl < 0 ∨ 100 < zl) ∨ (zm < 0 ∨ 100 < zm) then 3 else 0))) (fun _ t => va_P D vwCl [(kr, .inr (5, [.ref la, .ref ia, .ref na, .ref b4, .ref b6, .ref b8, .ref b10, .int (iI (((sh : Nat) : Int))), .int (iI (((it : Nat) : Int))), .int (iI (lc)), .int (iI (((dy : Nat) : Int))), .int (iI (pct)), .int (iI (lr)), .int (iI (sr))]))] t.heap) (inW [(kr, .inr (5, [.ref la, .ref ia, .ref na, .ref b4, .ref b6, .ref b8, .ref b10, .int (iI (((sh : Nat) : Int))), .int (iI (((it : Nat) : Int))), .int (iI (lc)), .int (iI (((dy : Nat) : Int))), .int (iI (pct)), .int (iI (lr)), .int (iI (sr))]))])) 1 6 (inW [(kr, .inr (5, [.ref la, .ref ia, .ref na, .ref b4, .ref b6, .ref b8, .ref b10, .int (iI (((sh : Nat) : Int))), .int (iI (((it : Nat) : Int))), .int (iI (lc)), .int (iI (((dy : Nat) : Int))), .int (iI (pct)), .int (iI (lr)), .int (iI (sr))]))]) := by
  refine va_MetW (cc := cL_setRates) (maxL := 4) (ret := some .int) (hh := [(0, 6, 7, 20)]) (by decide +kernel) rfl ?_
  intro p e s m args below meth c s₁ B hml hv
  obtain ⟨rfl, ⟨hP, hK, hD, hN⟩, hE⟩ := hv
  have hx := B.exec
  have hb := B.bytes
  have hr := B.returns
  have hts : ∀ w ∈ ALL, w.before _ s = true := fun w h => atoms_spec (ws := ws_L_setRates) B.pre w (List.mem_cons_of_mem _ h)
  have hown : s.vm.findClass RL = some m.cls := findClass_of_methodNamed B.named
  have hlocks := B.notSynchronized
  have htab : c.exceptionTable.toList = tableOf [(0, 6, 7, 20)] := vx_table (x := yL_setRates) B (atoms_spec (ws := ws_L_setRates) B.pre _ List.mem_cons_self)
  generalize hAe : inW [(kr, .inr (5, [.ref la, .ref ia, .ref na, .ref b4, .ref b6, .ref b8, .ref b10, .int (iI (((sh : Nat) : Int))), .int (iI (((it : Nat) : Int))), .int (iI (lc)), .int (iI (((dy : Nat) : Int))), .int (iI (pct)), .int (iI (lr)), .int (iI (sr))]))] = A at hD hE ⊢
  have hS : va_S A s.heap s.heap [] := va_S.rf
  have hl := lv_entry ([.ref kr, .int (iI (zl)), .int (iI (zm))]) (n := 4) (Nat.le_of_ble_eq_true rfl)
  rw [lg_entry_eq]
  generalize (lg_sl ([.ref kr, .int (iI (zl)), .int (iI (zm))]) ++ List.replicate (4 - (lg_sl ([.ref kr, .int (iI (zl)), .int (iI (zm))])).length) Slot.unset).toArray = ls at hl ⊢
  have hl : lv_has ls 4 [(0, .ref kr), (1, .int (iI (zl))), (2, .int (iI (zm)))] := hl
  have hH := rfl (a := s.heap)
  refine lv_aload_n hx hb dL_setRates_0 rfl (lv_at hl 0 rfl) ?_
  refine lv_iload_n hx hb dL_setRates_1 rfl (lv_at hl 1 rfl) ?_
  refine lv_iload_n hx hb dL_setRates_2 rfl (lv_at hl 2 rfl) ?_
  have pk1 : picks [(kr, .inr (5, [.ref la, .ref ia, .ref na, .ref b4, .ref b6, .ref b8, .ref b10, .int (iI (((sh : Nat) : Int))), .int (iI (((it : Nat) : Int))), .int (iI (lc)), .int (iI (((dy : Nat) : Int))), .int (iI (pct)), .int (iI (lr)), .int (iI (sr))]))] [0] [(kr, .inr (5, [.ref la, .ref ia, .ref na, .ref b4, .ref b6, .ref b8, .ref b10, .int (iI (((sh : Nat) : Int))), .int (iI (((it : Nat) : Int))), .int (iI (lc)), .int (iI (((dy : Nat) : Int))), .int (iI (pct)), .int (iI (lr)), .int (iI (sr))]))] := ⟨rfl, trivial⟩
  refine vx_calli (vx_runV (As := [.int (iI (zl)), .int (iI (zm))]) (rest := []) ⟨hx, hb, hml, hown, hts⟩ (m_X5_setRates l hst D cs kr la ia na b4 b6 b8 b10 sh it lc dy pct lr sr zl zm (hzl) (hzm)) (cwV 2 hts (gV w_429 w_430 w_431 w_1 w_432) rfl rfl rfl (by decide +kernel) ⟨Nat.le_of_ble_eq_true rfl, Nat.le_of_ble_eq_true rfl⟩) (PE_V hK hN hE hS (fun q h => inW_sub hD [0] pk1 q h) hP hD [0] rfl pk1 rfl rfl) rfl rfl hl.1 rfl (lv_room (Nat.le_of_ble_eq_true rfl)) dL_setRates_3 ⟨Nat.le_of_ble_eq_true rfl, Nat.le_of_ble_eq_true rfl⟩) hS (fun q _ h => inW_sub hD [0] pk1 q h) (fun q h => inW_sub hD [0] pk1 q h) (fun q _ h => inW_sub hD [0] pk1 q h) (fun E ce q9 u t H1 locs1 ht hvm hpx hBX hz1 hk1 hS1 hce hcv hcl => ?_) (fun r u t H locs ht hvm hw hB hz1 hk1 hS => ?_)
  · have h9 : u = (if (zl < 0 ∨ 100 < zl) ∨ (zm < 0 ∨ 100 < zm) then 3 else 0) := hpx.1
    have hS := hS1
    have hcd : (if (zl < 0 ∨ 100 < zl) ∨ (zm < 0 ∨ 100 < zm) then 3 else 0) = 3 := by
      revert hne
      (try unfold cdL); (try unfold cdS); (try unfold cdC)
      (repeat' split) <;> simp
    obtain ⟨hEu, hBX⟩ := hBX
    rw [ht] at hBX
    obtain ⟨hP, hD⟩ := my_join (Wc := [(kr, .inr (5, [.ref la, .ref ia, .ref na, .ref b4, .ref b6, .ref b8, .ref b10, .int (iI (((sh : Nat) : Int))), .int (iI (((it : Nat) : Int))), .int (iI (lc)), .int (iI (((dy : Nat) : Int))), .int (iI (pct)), .int (iI (lr)), .int (iI (sr))]))]) (W1 := [(kr, .inr (5, [.ref la, .ref ia, .ref na, .ref b4, .ref b6, .ref b8, .ref b10, .int (iI (((sh : Nat) : Int))), .int (iI (((it : Nat) : Int))), .int (iI (lc)), .int (iI (((dy : Nat) : Int))), .int (iI (pct)), .int (iI (lr)), .int (iI (sr))]))]) hP hD [0] rfl (⟨rfl, trivial⟩) rfl hk1 hBX
    have hP : va_P D vwCl [(kr, .inr (5, [.ref la, .ref ia, .ref na, .ref b4, .ref b6, .ref b8, .ref b10, .int (iI (((sh : Nat) : Int))), .int (iI (((it : Nat) : Int))), .int (iI (lc)), .int (iI (((dy : Nat) : Int))), .int (iI (pct)), .int (iI (lr)), .int (iI (sr))]))] H1 := hP
    have hD : va_D A [(kr, .inr (5, [.ref la, .ref ia, .ref na, .ref b4, .ref b6, .ref b8, .ref b10, .int (iI (((sh : Nat) : Int))), .int (iI (((it : Nat) : Int))), .int (iI (lc)), .int (iI (((dy : Nat) : Int))), .int (iI (pct)), .int (iI (lr)), .int (iI (sr))]))] := hD
    have hc3 := hcd
    have hE3 : E = "java/lang/IllegalArgumentException" := by have h8 : E = exN u := hEu; rw [h8, h9, hc3]; rfl
    subst hE3
    refine vx_catch (name := "java/lang/IllegalArgumentException") hown [] ⟨0, 6, 7, 20⟩ [] (htab.trans rfl) (fun z hz => by cases hz) rfl (by decide) (hts _ w_138) (hE.use _ (List.mem_append_right _ (List.mem_map.mpr ⟨_, List.mem_of_getElem? (i := 2) rfl, rfl⟩))) hce hcv hcl ?_
    refine lv_astore_n (lv' := [(3, .ref q9), (0, .ref kr), (1, .int (iI (zl))), (2, .int (iI (zm)))]) hx hb dL_setRates_7 rfl hl (by decide) rfl (fun ls hl => ?_)
    refine lv_bipush (v := iI (-78)) hx hb dL_setRates_8 (by decide) ?_
    subst hAe
    refine W.widen (k := 1) (n := 6) (by omega) (by omega) ?_
    have hres : iI (-78) = iI (exv (if (zl < 0 ∨ 100 < zl) ∨ (zm < 0 ∨ 100 < zm) then 3 else 0)) := congrArg iI (by
        rw [hc3]; rfl)
    exact W.iret hx hb hr (fun t ht hW => ⟨⟨_, (), rfl, hres, by show va_P D vwCl _ t.heap; rw [ht]; exact hP⟩, hS.F ht⟩) hS.2.2 dL_setRates_10
  obtain ⟨hc2, hw⟩ := hw
  subst hw
  rw [ht] at hB
  obtain ⟨hP, hD⟩ := my_join (W1 := [(kr, .inr (5, [.ref la, .ref ia, .ref na, .ref b4, .ref b6, .ref b8, .ref b10, .int (iI (((sh : Nat) : Int))), .int (iI (((it : Nat) : Int))), .int (iI (lc)), .int (iI (((dy : Nat) : Int))), .int (iI (pct)), .int (iI (zl)), .int (iI (zm))]))]) hP hD [0] rfl pk1 rfl hk1 hB
  have hP : va_P D vwCl [(kr, .inr (5, [.ref la, .ref ia, .ref na, .ref b4, .ref b6, .ref b8, .ref b10, .int (iI (((sh : Nat) : Int))), .int (iI (((it : Nat) : Int))), .int (iI (lc)), .int (iI (((dy : Nat) : Int))), .int (iI (pct)), .int (iI (zl)), .int (iI (zm))]))] H := hP
  have hD : va_D A [(kr, .inr (5, [.ref la, .ref ia, .ref na, .ref b4, .ref b6, .ref b8, .ref b10, .int (iI (((sh : Nat) : Int))), .int (iI (((it : Nat) : Int))), .int (iI (lc)), .int (iI (((dy : Nat) : Int))), .int (iI (pct)), .int (iI (zl)), .int (iI (zm))]))] := hD
  exact absurd hc2 hne

abbrev ws_L_supply : List Cond := Cond.codeWith yL_supply cL_supply 4 (some .int) [(0, 6, 7, 32), (0, 6, 11, 20), (0, 6, 15, 22)] :: ALL
set_option maxHeartbeats 4000000 in
set_option maxRecDepth 100000 in
theorem m_L_supply_no_t (l : Launch) (hst : l.stackTraces = false) (D : va_G) (cs : Nat → ClassId) (kr la ia na b4 b6 b8 b10 sh it : Nat) (lc : Int) (dy : Nat) (pct lr sr : Int) (itf : Nat → Option Nat) (zi : Int) (z0 : Int) (hit : it ≤ 5) (hitf : ∀ j, j < it → itf j ≠ none) (hzi : -2147483648 ≤ zi ∧ zi < 2147483648) (hno : cdS it zi ≠ 0) : Met l yL_supply ws_L_supply ({ frames := 8, cells := 2, slots := 12, locals := 127 }) (va_Pc [.ref kr, .int (iI (zi)), .int (iI (z0))] (PE D cs [(kr, .inr (5, [.ref la, .ref ia, .ref na, .ref b4, .ref b6, .ref b8, .ref b10, .int (iI (((sh : Nat) : Int))), .int (iI (((it : Nat) : Int))), .int (iI (lc)), .int (iI (((dy : Nat) : Int))), .int (iI (pct)), .int (iI (lr)), .int (iI (sr))])), (ia, arQ cs 2 5 itf)] noA)) (va_Qi (fun r (_ : Unit) => r = iI (exv (cdS it zi))) (fun _ _ => True) noA) 2 12 noA := by
  refine va_MetW (cc := cL_supply) (maxL := 4) (ret := some .int) (hh := [(0, 6, 7, 32), (0, 6, 11, 20), (0, 6, 15, 22)]) (by decide +kernel) rfl ?_
  intro p e s m args below meth c s₁ B hml hv
  obtain ⟨rfl, ⟨hP, hK, hD, hN⟩, hE⟩ := hv
  have hx := B.exec
  have hb := B.bytes
  have hr := B.returns
  have hts : ∀ w ∈ ALL, w.before _ s = true := fun w h => atoms_spec (ws := ws_L_supply) B.pre w (List.mem_cons_of_mem _ h)
  have hown : s.vm.findClass RL = some m.cls := findClass_of_methodNamed B.named
  have hlocks := B.notSynchronized
  have htab : c.exceptionTable.toList = tableOf [(0, 6, 7, 32), (0, 6, 11, 20), (0, 6, 15, 22)] := vx_table (x := yL_supply) B (atoms_spec (ws := ws_L_supply) B.pre _ List.mem_cons_self)
  have hS : va_S noA s.heap s.heap [] := va_S.rf
  generalize inW [(kr, .inr (5, [.ref la, .ref ia, .ref na, .ref b4, .ref b6, .ref b8, .ref b10, .int (iI (((sh : Nat) : Int))), .int (iI (((it : Nat) : Int))), .int (iI (lc)), .int (iI (((dy : Nat) : Int))), .int (iI (pct)), .int (iI (lr)), .int (iI (sr))])), (ia, arQ cs 2 5 itf)] = A at hD
  have hl := lv_entry ([.ref kr, .int (iI (zi)), .int (iI (z0))]) (n := 4) (Nat.le_of_ble_eq_true rfl)
  rw [lg_entry_eq]
  generalize (lg_sl ([.ref kr, .int (iI (zi)), .int (iI (z0))]) ++ List.replicate (4 - (lg_sl ([.ref kr, .int (iI (zi)), .int (iI (z0))])).length) Slot.unset).toArray = ls at hl ⊢
  have hl : lv_has ls 4 [(0, .ref kr), (1, .int (iI (zi))), (2, .int (iI (z0)))] := hl
  have hH := rfl (a := s.heap)
  refine lv_aload_n hx hb dL_supply_0 rfl (lv_at hl 0 rfl) ?_
  refine lv_iload_n hx hb dL_supply_1 rfl (lv_at hl 1 rfl) ?_
  refine lv_iload_n hx hb dL_supply_2 rfl (lv_at hl 2 rfl) ?_
  have pk1 : picks [(kr, .inr (5, [.ref la, .ref ia, .ref na, .ref b4, .ref b6, .ref b8, .ref b10, .int (iI (((sh : Nat) : Int))), .int (iI (((it : Nat) : Int))), .int (iI (lc)), .int (iI (((dy : Nat) : Int))), .int (iI (pct)), .int (iI (lr)), .int (iI (sr))])), (ia, arQ cs 2 5 itf)] [0, 1] [(kr, .inr (5, [.ref la, .ref ia, .ref na, .ref b4, .ref b6, .ref b8, .ref b10, .int (iI (((sh : Nat) : Int))), .int (iI (((it : Nat) : Int))), .int (iI (lc)), .int (iI (((dy : Nat) : Int))), .int (iI (pct)), .int (iI (lr)), .int (iI (sr))])), (ia, arQ cs 2 5 itf)] := ⟨rfl, rfl, trivial⟩
  refine vx_calli (vx_runV (As := [.int (iI (zi)), .int (iI (z0))]) (rest := []) ⟨hx, hb, hml, hown, hts⟩ (m_X5_supply_no l hst D cs kr la ia na b4 b6 b8 b10 sh it lc dy pct lr sr itf zi z0 (hit) (hitf) (hzi) (hno)) (cwV 2 hts (gV w_404 w_405 w_406 w_1 w_407) rfl rfl rfl (by decide +kernel) ⟨Nat.le_of_ble_eq_true rfl, Nat.le_of_ble_eq_true rfl⟩) (PE_V hK hN hE hS (fun _ h => False.elim h) hP hD [0, 1] rfl pk1 rfl rfl) rfl rfl hl.1 rfl (lv_room (Nat.le_of_ble_eq_true rfl)) dL_supply_3 ⟨Nat.le_of_ble_eq_true rfl, Nat.le_of_ble_eq_true rfl⟩) hS (fun _ _ h => False.elim h) (fun _ h => False.elim h) (fun _ _ h => False.elim h) (fun E ce q9 u t H1 locs1 ht hvm hpx hBX hz1 hk1 hS1 hce hcv hcl => ?_) (fun r u t H locs ht hvm hw hB hz1 hk1 hS => ?_)
  · have h9 : u = cdS it zi := hpx.1
    have hS := hS1
    have hcd : cdS it zi = 1 := by
      revert hno
      (try unfold cdL); (try unfold cdS); (try unfold cdC)
      (repeat' split) <;> simp
    have hEu := hBX
    have hP := P_kept hP hk1
    have hc3 := hcd
    have hE3 : E = "java/lang/IndexOutOfBoundsException" := by have h8 : E = exN u := hEu; rw [h8, h9, hc3]; rfl
    subst hE3
    refine vx_catch (name := "java/lang/IndexOutOfBoundsException") hown [] ⟨0, 6, 7, 32⟩ [⟨0, 6, 11, 20⟩, ⟨0, 6, 15, 22⟩] (htab.trans rfl) (fun z hz => by cases hz) rfl (by decide) (hts _ w_272) (hE.use _ (List.mem_append_right _ (List.mem_map.mpr ⟨_, List.mem_of_getElem? (i := 0) rfl, rfl⟩))) hce hcv hcl ?_
    refine lv_astore_n (lv' := [(3, .ref q9), (0, .ref kr), (1, .int (iI (zi))), (2, .int (iI (z0)))]) hx hb dL_supply_7 rfl hl (by decide) rfl (fun ls hl => ?_)
    refine lv_bipush (v := iI (-77)) hx hb dL_supply_8 (by decide) ?_
    refine W.widen (k := 2) (n := 12) (by omega) (by omega) ?_
    have hres : iI (-77) = iI (exv (cdS it zi)) := congrArg iI (by
        rw [hc3]; rfl)
    exact W.iret hx hb hr (fun t ht hW => ⟨⟨_, (), rfl, hres, trivial⟩, hS.F ht⟩) hS.2.2 dL_supply_10
  obtain ⟨hc2, hw⟩ := hw
  subst hw
  have hP := P_kept hP hk1
  exact absurd hc2 hno

set_option maxHeartbeats 4000000 in
set_option maxRecDepth 100000 in
theorem m_L_supply_ok_r (l : Launch) (hst : l.stackTraces = false) (D : va_G) (cs : Nat → ClassId) (kr la ia na b4 b6 b8 b10 sh it : Nat) (lc : Int) (dy : Nat) (pct lr sr : Int) (itf : Nat → Option Nat) (tn : Nat) (hi ti go pr : Nat) (pk fs st : Int) (uti : Nat) (fti : Nat → Int) (zu : Int) (hit : it ≤ 5) (hitf : ∀ j, j < it → itf j ≠ none) (htn : tn < it) (hitn : itf tn = some hi) (hd : dy < 1000) (hstk : 0 ≤ st ∧ st ≤ 99999) (hzu : -2147483648 ≤ zu ∧ zu < 2147483648) (hz : (if zu < 1 ∨ 9999 < zu then 3 else if 99999 < st + zu then 4 else 0) = 0) : Met l yL_supply ws_L_supply ({ frames := 8, cells := 2, slots := 12, locals := 127 }) (va_Pc [.ref kr, .int (iI (((tn : Nat) : Int))), .int (iI (zu))] (PE D cs [(kr, .inr (5, [.ref la, .ref ia, .ref na, .ref b4, .ref b6, .ref b8, .ref b10, .int (iI (((sh : Nat) : Int))), .int (iI (((it : Nat) : Int))), .int (iI (lc)), .int (iI (((dy : Nat) : Int))), .int (iI (pct)), .int (iI (lr)), .int (iI (sr))])), (ia, arQ cs 2 5 itf), (hi, .inr (1, [.int (iI (pk)), .int (iI (fs)), .ref ti, .ref go, .ref pr, .int (iI (st))])), (ti, .inr (0, [.ref uti])), (uti, arI cs 1005 fti)] (inW [(kr, .inr (5, [.ref la, .ref ia, .ref na, .ref b4, .ref b6, .ref b8, .ref b10, .int (iI (((sh : Nat) : Int))), .int (iI (((it : Nat) : Int))), .int (iI (lc)), .int (iI (((dy : Nat) : Int))), .int (iI (pct)), .int (iI (lr)), .int (iI (sr))])), (ia, arQ cs 2 5 itf), (hi, .inr (1, [.int (iI (pk)), .int (iI (fs)), .ref ti, .ref go, .ref pr, .int (iI (st))])), (ti, .inr (0, [.ref uti])), (uti, arI cs 1005 fti)]))) (va_Qi (fun r (_ : Unit) => r = iI (st + zu)) (fun _ t => va_P D vwCl [(kr, .inr (5, [.ref la, .ref ia, .ref na, .ref b4, .ref b6, .ref b8, .ref b10, .int (iI (((sh : Nat) : Int))), .int (iI (((it : Nat) : Int))), .int (iI (lc)), .int (iI (((dy : Nat) : Int))), .int (iI (pct)), .int (iI (lr)), .int (iI (sr))])), (ia, arQ cs 2 5 itf), (hi, .inr (1, [.int (iI (pk)), .int (iI (fs)), .ref ti, .ref go, .ref pr, .int (iI (st + zu))])), (ti, .inr (0, [.ref uti])), (uti, arI cs 1005 (upI fti dy (fti dy + zu)))] t.heap) (inW [(kr, .inr (5, [.ref la, .ref ia, .ref na, .ref b4, .ref b6, .ref b8, .ref b10, .int (iI (((sh : Nat) : Int))), .int (iI (((it : Nat) : Int))), .int (iI (lc)), .int (iI (((dy : Nat) : Int))), .int (iI (pct)), .int (iI (lr)), .int (iI (sr))])), (ia, arQ cs 2 5 itf), (hi, .inr (1, [.int (iI (pk)), .int (iI (fs)), .ref ti, .ref go, .ref pr, .int (iI (st))])), (ti, .inr (0, [.ref uti])), (uti, arI cs 1005 fti)])) 2 12 (inW [(kr, .inr (5, [.ref la, .ref ia, .ref na, .ref b4, .ref b6, .ref b8, .ref b10, .int (iI (((sh : Nat) : Int))), .int (iI (((it : Nat) : Int))), .int (iI (lc)), .int (iI (((dy : Nat) : Int))), .int (iI (pct)), .int (iI (lr)), .int (iI (sr))])), (ia, arQ cs 2 5 itf), (hi, .inr (1, [.int (iI (pk)), .int (iI (fs)), .ref ti, .ref go, .ref pr, .int (iI (st))])), (ti, .inr (0, [.ref uti])), (uti, arI cs 1005 fti)]) := by
  refine va_MetW (cc := cL_supply) (maxL := 4) (ret := some .int) (hh := [(0, 6, 7, 32), (0, 6, 11, 20), (0, 6, 15, 22)]) (by decide +kernel) rfl ?_
  intro p e s m args below meth c s₁ B hml hv
  obtain ⟨rfl, ⟨hP, hK, hD, hN⟩, hE⟩ := hv
  have hx := B.exec
  have hb := B.bytes
  have hr := B.returns
  have hts : ∀ w ∈ ALL, w.before _ s = true := fun w h => atoms_spec (ws := ws_L_supply) B.pre w (List.mem_cons_of_mem _ h)
  have hown : s.vm.findClass RL = some m.cls := findClass_of_methodNamed B.named
  have hlocks := B.notSynchronized
  have htab : c.exceptionTable.toList = tableOf [(0, 6, 7, 32), (0, 6, 11, 20), (0, 6, 15, 22)] := vx_table (x := yL_supply) B (atoms_spec (ws := ws_L_supply) B.pre _ List.mem_cons_self)
  generalize hAe : inW [(kr, .inr (5, [.ref la, .ref ia, .ref na, .ref b4, .ref b6, .ref b8, .ref b10, .int (iI (((sh : Nat) : Int))), .int (iI (((it : Nat) : Int))), .int (iI (lc)), .int (iI (((dy : Nat) : Int))), .int (iI (pct)), .int (iI (lr)), .int (iI (sr))])), (ia, arQ cs 2 5 itf), (hi, .inr (1, [.int (iI (pk)), .int (iI (fs)), .ref ti, .ref go, .ref pr, .int (iI (st))])), (ti, .inr (0, [.ref uti])), (uti, arI cs 1005 fti)] = A at hD hE ⊢
  have hS : va_S A s.heap s.heap [] := va_S.rf
  have hl := lv_entry ([.ref kr, .int (iI (((tn : Nat) : Int))), .int (iI (zu))]) (n := 4) (Nat.le_of_ble_eq_true rfl)
  rw [lg_entry_eq]
  generalize (lg_sl ([.ref kr, .int (iI (((tn : Nat) : Int))), .int (iI (zu))]) ++ List.replicate (4 - (lg_sl ([.ref kr, .int (iI (((tn : Nat) : Int))), .int (iI (zu))])).length) Slot.unset).toArray = ls at hl ⊢
  have hl : lv_has ls 4 [(0, .ref kr), (1, .int (iI (((tn : Nat) : Int)))), (2, .int (iI (zu)))] := hl
  have hH := rfl (a := s.heap)
  refine lv_aload_n hx hb dL_supply_0 rfl (lv_at hl 0 rfl) ?_
  refine lv_iload_n hx hb dL_supply_1 rfl (lv_at hl 1 rfl) ?_
  refine lv_iload_n hx hb dL_supply_2 rfl (lv_at hl 2 rfl) ?_
  have pk1 : picks [(kr, .inr (5, [.ref la, .ref ia, .ref na, .ref b4, .ref b6, .ref b8, .ref b10, .int (iI (((sh : Nat) : Int))), .int (iI (((it : Nat) : Int))), .int (iI (lc)), .int (iI (((dy : Nat) : Int))), .int (iI (pct)), .int (iI (lr)), .int (iI (sr))])), (ia, arQ cs 2 5 itf), (hi, .inr (1, [.int (iI (pk)), .int (iI (fs)), .ref ti, .ref go, .ref pr, .int (iI (st))])), (ti, .inr (0, [.ref uti])), (uti, arI cs 1005 fti)] [0, 1, 2, 3, 4] [(kr, .inr (5, [.ref la, .ref ia, .ref na, .ref b4, .ref b6, .ref b8, .ref b10, .int (iI (((sh : Nat) : Int))), .int (iI (((it : Nat) : Int))), .int (iI (lc)), .int (iI (((dy : Nat) : Int))), .int (iI (pct)), .int (iI (lr)), .int (iI (sr))])), (ia, arQ cs 2 5 itf), (hi, .inr (1, [.int (iI (pk)), .int (iI (fs)), .ref ti, .ref go, .ref pr, .int (iI (st))])), (ti, .inr (0, [.ref uti])), (uti, arI cs 1005 fti)] := ⟨rfl, rfl, rfl, rfl, rfl, trivial⟩
  refine vx_calli (vx_runV (As := [.int (iI (((tn : Nat) : Int))), .int (iI (zu))]) (rest := []) ⟨hx, hb, hml, hown, hts⟩ (m_X5_supply_ok l hst D cs kr la ia na b4 b6 b8 b10 sh it lc dy pct lr sr itf tn hi ti go pr pk fs st uti fti zu (hit) (hitf) (htn) (hitn) (hd) (hstk) (hzu)) (cwV 2 hts (gV w_404 w_405 w_406 w_1 w_407) rfl rfl rfl (by decide +kernel) ⟨Nat.le_of_ble_eq_true rfl, Nat.le_of_ble_eq_true rfl⟩) (PE_V hK hN hE hS (fun q h => inW_sub hD [0, 1, 2, 3, 4] pk1 q h) hP hD [0, 1, 2, 3, 4] rfl pk1 rfl rfl) rfl rfl hl.1 rfl (lv_room (Nat.le_of_ble_eq_true rfl)) dL_supply_3 ⟨Nat.le_of_ble_eq_true rfl, Nat.le_of_ble_eq_true rfl⟩) hS (fun q _ h => inW_sub hD [0, 1, 2, 3, 4] pk1 q h) (fun q h => inW_sub hD [0, 1, 2, 3, 4] pk1 q h) (fun q _ h => inW_sub hD [0, 1, 2, 3, 4] pk1 q h) (fun E ce q9 u t H1 locs1 ht hvm hpx hBX hz1 hk1 hS1 hce hcv hcl => ?_) (fun r u t H locs ht hvm hw hB hz1 hk1 hS => ?_)
  · exact absurd (hpx.1.trans hz) hpx.2
  obtain ⟨hc2, hw⟩ := hw
  subst hw
  rw [ht] at hB
  obtain ⟨hP, hD⟩ := my_join (W1 := [(kr, .inr (5, [.ref la, .ref ia, .ref na, .ref b4, .ref b6, .ref b8, .ref b10, .int (iI (((sh : Nat) : Int))), .int (iI (((it : Nat) : Int))), .int (iI (lc)), .int (iI (((dy : Nat) : Int))), .int (iI (pct)), .int (iI (lr)), .int (iI (sr))])), (ia, arQ cs 2 5 itf), (hi, .inr (1, [.int (iI (pk)), .int (iI (fs)), .ref ti, .ref go, .ref pr, .int (iI (st + zu))])), (ti, .inr (0, [.ref uti])), (uti, arI cs 1005 (upI fti dy (fti dy + zu)))]) hP hD [0, 1, 2, 3, 4] rfl pk1 rfl hk1 hB
  have hP : va_P D vwCl [(kr, .inr (5, [.ref la, .ref ia, .ref na, .ref b4, .ref b6, .ref b8, .ref b10, .int (iI (((sh : Nat) : Int))), .int (iI (((it : Nat) : Int))), .int (iI (lc)), .int (iI (((dy : Nat) : Int))), .int (iI (pct)), .int (iI (lr)), .int (iI (sr))])), (ia, arQ cs 2 5 itf), (hi, .inr (1, [.int (iI (pk)), .int (iI (fs)), .ref ti, .ref go, .ref pr, .int (iI (st + zu))])), (ti, .inr (0, [.ref uti])), (uti, arI cs 1005 (upI fti dy (fti dy + zu)))] H := hP
  have hD : va_D A [(kr, .inr (5, [.ref la, .ref ia, .ref na, .ref b4, .ref b6, .ref b8, .ref b10, .int (iI (((sh : Nat) : Int))), .int (iI (((it : Nat) : Int))), .int (iI (lc)), .int (iI (((dy : Nat) : Int))), .int (iI (pct)), .int (iI (lr)), .int (iI (sr))])), (ia, arQ cs 2 5 itf), (hi, .inr (1, [.int (iI (pk)), .int (iI (fs)), .ref ti, .ref go, .ref pr, .int (iI (st + zu))])), (ti, .inr (0, [.ref uti])), (uti, arI cs 1005 (upI fti dy (fti dy + zu)))] := hD
  subst hAe
  refine W.widen (k := 2) (n := 12) (by omega) (by omega) ?_
  have hres : iI (st + zu) = iI (st + zu) := congrArg iI (by
      rfl)
  exact W.iret hx hb hr (fun t ht hW => ⟨⟨_, (), rfl, hres, by show va_P D vwCl _ t.heap; rw [ht]; exact hP⟩, hS.F ht⟩) hS.2.2 dL_supply_6

set_option maxHeartbeats 4000000 in
set_option maxRecDepth 100000 in
theorem m_L_supply_ok_t (l : Launch) (hst : l.stackTraces = false) (D : va_G) (cs : Nat → ClassId) (kr la ia na b4 b6 b8 b10 sh it : Nat) (lc : Int) (dy : Nat) (pct lr sr : Int) (itf : Nat → Option Nat) (tn : Nat) (hi ti go pr : Nat) (pk fs st : Int) (uti : Nat) (fti : Nat → Int) (zu : Int) (hit : it ≤ 5) (hitf : ∀ j, j < it → itf j ≠ none) (htn : tn < it) (hitn : itf tn = some hi) (hd : dy < 1000) (hstk : 0 ≤ st ∧ st ≤ 99999) (hzu : -2147483648 ≤ zu ∧ zu < 2147483648) (hne : (if zu < 1 ∨ 9999 < zu then 3 else if 99999 < st + zu then 4 else 0) ≠ 0) : Met l yL_supply ws_L_supply ({ frames := 8, cells := 2, slots := 12, locals := 127 }) (va_Pc [.ref kr, .int (iI (((tn : Nat) : Int))), .int (iI (zu))] (PE D cs [(kr, .inr (5, [.ref la, .ref ia, .ref na, .ref b4, .ref b6, .ref b8, .ref b10, .int (iI (((sh : Nat) : Int))), .int (iI (((it : Nat) : Int))), .int (iI (lc)), .int (iI (((dy : Nat) : Int))), .int (iI (pct)), .int (iI (lr)), .int (iI (sr))])), (ia, arQ cs 2 5 itf), (hi, .inr (1, [.int (iI (pk)), .int (iI (fs)), .ref ti, .ref go, .ref pr, .int (iI (st))])), (ti, .inr (0, [.ref uti])), (uti, arI cs 1005 fti)] (inW [(kr, .inr (5, [.ref la, .ref ia, .ref na, .ref b4, .ref b6, .ref b8, .ref b10, .int (iI (((sh : Nat) : Int))), .int (iI (((it : Nat) : Int))), .int (iI (lc)), .int (iI (((dy : Nat) : Int))), .int (iI (pct)), .int (iI (lr)), .int (iI (sr))])), (ia, arQ cs 2 5 itf), (hi, .inr (1, [.int (iI (pk)), .int (iI (fs)), .ref ti, .ref go, .ref pr, .int (iI (st))])), (ti, .inr (0, [.ref uti])), (uti, arI cs 1005 fti)]))) (va_Qi (fun r (_ : Unit) => r = iI (exv (if zu < 1 ∨ 9999 < zu then 3 else if 99999 < st + zu then 4 else 0))) (fun _ t => va_P D vwCl [(kr, .inr (5, [.ref la, .ref ia, .ref na, .ref b4, .ref b6, .ref b8, .ref b10, .int (iI (((sh : Nat) : Int))), .int (iI (((it : Nat) : Int))), .int (iI (lc)), .int (iI (((dy : Nat) : Int))), .int (iI (pct)), .int (iI (lr)), .int (iI (sr))])), (ia, arQ cs 2 5 itf), (hi, .inr (1, [.int (iI (pk)), .int (iI (fs)), .ref ti, .ref go, .ref pr, .int (iI (st))])), (ti, .inr (0, [.ref uti])), (uti, arI cs 1005 fti)] t.heap) (inW [(kr, .inr (5, [.ref la, .ref ia, .ref na, .ref b4, .ref b6, .ref b8, .ref b10, .int (iI (((sh : Nat) : Int))), .int (iI (((it : Nat) : Int))), .int (iI (lc)), .int (iI (((dy : Nat) : Int))), .int (iI (pct)), .int (iI (lr)), .int (iI (sr))])), (ia, arQ cs 2 5 itf), (hi, .inr (1, [.int (iI (pk)), .int (iI (fs)), .ref ti, .ref go, .ref pr, .int (iI (st))])), (ti, .inr (0, [.ref uti])), (uti, arI cs 1005 fti)])) 2 12 (inW [(kr, .inr (5, [.ref la, .ref ia, .ref na, .ref b4, .ref b6, .ref b8, .ref b10, .int (iI (((sh : Nat) : Int))), .int (iI (((it : Nat) : Int))), .int (iI (lc)), .int (iI (((dy : Nat) : Int))), .int (iI (pct)), .int (iI (lr)), .int (iI (sr))])), (ia, arQ cs 2 5 itf), (hi, .inr (1, [.int (iI (pk)), .int (iI (fs)), .ref ti, .ref go, .ref pr, .int (iI (st))])), (ti, .inr (0, [.ref uti])), (uti, arI cs 1005 fti)]) := by
  refine va_MetW (cc := cL_supply) (maxL := 4) (ret := some .int) (hh := [(0, 6, 7, 32), (0, 6, 11, 20), (0, 6, 15, 22)]) (by decide +kernel) rfl ?_
  intro p e s m args below meth c s₁ B hml hv
  obtain ⟨rfl, ⟨hP, hK, hD, hN⟩, hE⟩ := hv
  have hx := B.exec
  have hb := B.bytes
  have hr := B.returns
  have hts : ∀ w ∈ ALL, w.before _ s = true := fun w h => atoms_spec (ws := ws_L_supply) B.pre w (List.mem_cons_of_mem _ h)
  have hown : s.vm.findClass RL = some m.cls := findClass_of_methodNamed B.named
  have hlocks := B.notSynchronized
  have htab : c.exceptionTable.toList = tableOf [(0, 6, 7, 32), (0, 6, 11, 20), (0, 6, 15, 22)] := vx_table (x := yL_supply) B (atoms_spec (ws := ws_L_supply) B.pre _ List.mem_cons_self)
  generalize hAe : inW [(kr, .inr (5, [.ref la, .ref ia, .ref na, .ref b4, .ref b6, .ref b8, .ref b10, .int (iI (((sh : Nat) : Int))), .int (iI (((it : Nat) : Int))), .int (iI (lc)), .int (iI (((dy : Nat) : Int))), .int (iI (pct)), .int (iI (lr)), .int (iI (sr))])), (ia, arQ cs 2 5 itf), (hi, .inr (1, [.int (iI (pk)), .int (iI (fs)), .ref ti, .ref go, .ref pr, .int (iI (st))])), (ti, .inr (0, [.ref uti])), (uti, arI cs 1005 fti)] = A at hD hE ⊢
  have hS : va_S A s.heap s.heap [] := va_S.rf
  have hl := lv_entry ([.ref kr, .int (iI (((tn : Nat) : Int))), .int (iI (zu))]) (n := 4) (Nat.le_of_ble_eq_true rfl)
  rw [lg_entry_eq]
  generalize (lg_sl ([.ref kr, .int (iI (((tn : Nat) : Int))), .int (iI (zu))]) ++ List.replicate (4 - (lg_sl ([.ref kr, .int (iI (((tn : Nat) : Int))), .int (iI (zu))])).length) Slot.unset).toArray = ls at hl ⊢
  have hl : lv_has ls 4 [(0, .ref kr), (1, .int (iI (((tn : Nat) : Int)))), (2, .int (iI (zu)))] := hl
  have hH := rfl (a := s.heap)
  refine lv_aload_n hx hb dL_supply_0 rfl (lv_at hl 0 rfl) ?_
  refine lv_iload_n hx hb dL_supply_1 rfl (lv_at hl 1 rfl) ?_
  refine lv_iload_n hx hb dL_supply_2 rfl (lv_at hl 2 rfl) ?_
  have pk1 : picks [(kr, .inr (5, [.ref la, .ref ia, .ref na, .ref b4, .ref b6, .ref b8, .ref b10, .int (iI (((sh : Nat) : Int))), .int (iI (((it : Nat) : Int))), .int (iI (lc)), .int (iI (((dy : Nat) : Int))), .int (iI (pct)), .int (iI (lr)), .int (iI (sr))])), (ia, arQ cs 2 5 itf), (hi, .inr (1, [.int (iI (pk)), .int (iI (fs)), .ref ti, .ref go, .ref pr, .int (iI (st))])), (ti, .inr (0, [.ref uti])), (uti, arI cs 1005 fti)] [0, 1, 2, 3, 4] [(kr, .inr (5, [.ref la, .ref ia, .ref na, .ref b4, .ref b6, .ref b8, .ref b10, .int (iI (((sh : Nat) : Int))), .int (iI (((it : Nat) : Int))), .int (iI (lc)), .int (iI (((dy : Nat) : Int))), .int (iI (pct)), .int (iI (lr)), .int (iI (sr))])), (ia, arQ cs 2 5 itf), (hi, .inr (1, [.int (iI (pk)), .int (iI (fs)), .ref ti, .ref go, .ref pr, .int (iI (st))])), (ti, .inr (0, [.ref uti])), (uti, arI cs 1005 fti)] := ⟨rfl, rfl, rfl, rfl, rfl, trivial⟩
  refine vx_calli (vx_runV (As := [.int (iI (((tn : Nat) : Int))), .int (iI (zu))]) (rest := []) ⟨hx, hb, hml, hown, hts⟩ (m_X5_supply_ok l hst D cs kr la ia na b4 b6 b8 b10 sh it lc dy pct lr sr itf tn hi ti go pr pk fs st uti fti zu (hit) (hitf) (htn) (hitn) (hd) (hstk) (hzu)) (cwV 2 hts (gV w_404 w_405 w_406 w_1 w_407) rfl rfl rfl (by decide +kernel) ⟨Nat.le_of_ble_eq_true rfl, Nat.le_of_ble_eq_true rfl⟩) (PE_V hK hN hE hS (fun q h => inW_sub hD [0, 1, 2, 3, 4] pk1 q h) hP hD [0, 1, 2, 3, 4] rfl pk1 rfl rfl) rfl rfl hl.1 rfl (lv_room (Nat.le_of_ble_eq_true rfl)) dL_supply_3 ⟨Nat.le_of_ble_eq_true rfl, Nat.le_of_ble_eq_true rfl⟩) hS (fun q _ h => inW_sub hD [0, 1, 2, 3, 4] pk1 q h) (fun q h => inW_sub hD [0, 1, 2, 3, 4] pk1 q h) (fun q _ h => inW_sub hD [0, 1, 2, 3, 4] pk1 q h) (fun E ce q9 u t H1 locs1 ht hvm hpx hBX hz1 hk1 hS1 hce hcv hcl => ?_) (fun r u t H locs ht hvm hw hB hz1 hk1 hS => ?_)
  · have h9 : u = (if zu < 1 ∨ 9999 < zu then 3 else if 99999 < st + zu then 4 else 0) := hpx.1
    have hS := hS1
    have hcd : (if zu < 1 ∨ 9999 < zu then 3 else if 99999 < st + zu then 4 else 0) = 3 ∨ (if zu < 1 ∨ 9999 < zu then 3 else if 99999 < st + zu then 4 else 0) = 4 := by
      revert hne
      (try unfold cdL); (try unfold cdS); (try unfold cdC)
      (repeat' split) <;> simp
    obtain ⟨hEu, hBX⟩ := hBX
    rw [ht] at hBX
    obtain ⟨hP, hD⟩ := my_join (Wc := [(kr, .inr (5, [.ref la, .ref ia, .ref na, .ref b4, .ref b6, .ref b8, .ref b10, .int (iI (((sh : Nat) : Int))), .int (iI (((it : Nat) : Int))), .int (iI (lc)), .int (iI (((dy : Nat) : Int))), .int (iI (pct)), .int (iI (lr)), .int (iI (sr))])), (ia, arQ cs 2 5 itf), (hi, .inr (1, [.int (iI (pk)), .int (iI (fs)), .ref ti, .ref go, .ref pr, .int (iI (st))])), (ti, .inr (0, [.ref uti])), (uti, arI cs 1005 fti)]) (W1 := [(kr, .inr (5, [.ref la, .ref ia, .ref na, .ref b4, .ref b6, .ref b8, .ref b10, .int (iI (((sh : Nat) : Int))), .int (iI (((it : Nat) : Int))), .int (iI (lc)), .int (iI (((dy : Nat) : Int))), .int (iI (pct)), .int (iI (lr)), .int (iI (sr))])), (ia, arQ cs 2 5 itf), (hi, .inr (1, [.int (iI (pk)), .int (iI (fs)), .ref ti, .ref go, .ref pr, .int (iI (st))])), (ti, .inr (0, [.ref uti])), (uti, arI cs 1005 fti)]) hP hD [0, 1, 2, 3, 4] rfl (⟨rfl, rfl, rfl, rfl, rfl, trivial⟩) rfl hk1 hBX
    have hP : va_P D vwCl [(kr, .inr (5, [.ref la, .ref ia, .ref na, .ref b4, .ref b6, .ref b8, .ref b10, .int (iI (((sh : Nat) : Int))), .int (iI (((it : Nat) : Int))), .int (iI (lc)), .int (iI (((dy : Nat) : Int))), .int (iI (pct)), .int (iI (lr)), .int (iI (sr))])), (ia, arQ cs 2 5 itf), (hi, .inr (1, [.int (iI (pk)), .int (iI (fs)), .ref ti, .ref go, .ref pr, .int (iI (st))])), (ti, .inr (0, [.ref uti])), (uti, arI cs 1005 fti)] H1 := hP
    have hD : va_D A [(kr, .inr (5, [.ref la, .ref ia, .ref na, .ref b4, .ref b6, .ref b8, .ref b10, .int (iI (((sh : Nat) : Int))), .int (iI (((it : Nat) : Int))), .int (iI (lc)), .int (iI (((dy : Nat) : Int))), .int (iI (pct)), .int (iI (lr)), .int (iI (sr))])), (ia, arQ cs 2 5 itf), (hi, .inr (1, [.int (iI (pk)), .int (iI (fs)), .ref ti, .ref go, .ref pr, .int (iI (st))])), (ti, .inr (0, [.ref uti])), (uti, arI cs 1005 fti)] := hD
    rcases hcd with hc3 | hcd
    · have hE3 : E = "java/lang/IllegalArgumentException" := by have h8 : E = exN u := hEu; rw [h8, h9, hc3]; rfl
      subst hE3
      refine vx_catch (name := "java/lang/IllegalArgumentException") hown [⟨0, 6, 7, 32⟩] ⟨0, 6, 11, 20⟩ [⟨0, 6, 15, 22⟩] (htab.trans rfl) (fun z hz => by
          simp only [List.mem_cons, List.not_mem_nil, or_false] at hz
          rcases hz with rfl
          · exact Or.inr ⟨by decide, "java/lang/IndexOutOfBoundsException", hts _ w_272, hE.2.2.2.2.2 _ (List.mem_of_getElem? (i := 8) rfl)⟩) rfl (by decide) (hts _ w_138) (hE.use _ (List.mem_append_right _ (List.mem_map.mpr ⟨_, List.mem_of_getElem? (i := 2) rfl, rfl⟩))) hce hcv hcl ?_
      refine lv_astore_n (lv' := [(3, .ref q9), (0, .ref kr), (1, .int (iI (((tn : Nat) : Int)))), (2, .int (iI (zu)))]) hx hb dL_supply_11 rfl hl (by decide) rfl (fun ls hl => ?_)
      refine lv_bipush (v := iI (-78)) hx hb dL_supply_12 (by decide) ?_
      subst hAe
      refine W.widen (k := 2) (n := 12) (by omega) (by omega) ?_
      have hres : iI (-78) = iI (exv (if zu < 1 ∨ 9999 < zu then 3 else if 99999 < st + zu then 4 else 0)) := congrArg iI (by
          rw [hc3]; rfl)
      exact W.iret hx hb hr (fun t ht hW => ⟨⟨_, (), rfl, hres, by show va_P D vwCl _ t.heap; rw [ht]; exact hP⟩, hS.F ht⟩) hS.2.2 dL_supply_14
    have hc3 := hcd
    have hE3 : E = "java/lang/IllegalStateException" := by have h8 : E = exN u := hEu; rw [h8, h9, hc3]; rfl
    subst hE3
    refine vx_catch (name := "java/lang/IllegalStateException") hown [⟨0, 6, 7, 32⟩, ⟨0, 6, 11, 20⟩] ⟨0, 6, 15, 22⟩ [] (htab.trans rfl) (fun z hz => by
        simp only [List.mem_cons, List.not_mem_nil, or_false] at hz
        rcases hz with rfl | rfl
        · exact Or.inr ⟨by decide, "java/lang/IndexOutOfBoundsException", hts _ w_272, hE.2.2.2.2.2 _ (List.mem_of_getElem? (i := 9) rfl)⟩
        · exact Or.inr ⟨by decide, "java/lang/IllegalArgumentException", hts _ w_138, hE.2.2.2.2.2 _ (List.mem_of_getElem? (i := 0) rfl)⟩) rfl (by decide) (hts _ w_139) (hE.use _ (List.mem_append_right _ (List.mem_map.mpr ⟨_, List.mem_of_getElem? (i := 3) rfl, rfl⟩))) hce hcv hcl ?_
    refine lv_astore_n (lv' := [(3, .ref q9), (0, .ref kr), (1, .int (iI (((tn : Nat) : Int)))), (2, .int (iI (zu)))]) hx hb dL_supply_15 rfl hl (by decide) rfl (fun ls hl => ?_)
    refine lv_bipush (v := iI (-79)) hx hb dL_supply_16 (by decide) ?_
    subst hAe
    refine W.widen (k := 2) (n := 12) (by omega) (by omega) ?_
    have hres : iI (-79) = iI (exv (if zu < 1 ∨ 9999 < zu then 3 else if 99999 < st + zu then 4 else 0)) := congrArg iI (by
        rw [hc3]; rfl)
    exact W.iret hx hb hr (fun t ht hW => ⟨⟨_, (), rfl, hres, by show va_P D vwCl _ t.heap; rw [ht]; exact hP⟩, hS.F ht⟩) hS.2.2 dL_supply_18
  obtain ⟨hc2, hw⟩ := hw
  subst hw
  rw [ht] at hB
  obtain ⟨hP, hD⟩ := my_join (W1 := [(kr, .inr (5, [.ref la, .ref ia, .ref na, .ref b4, .ref b6, .ref b8, .ref b10, .int (iI (((sh : Nat) : Int))), .int (iI (((it : Nat) : Int))), .int (iI (lc)), .int (iI (((dy : Nat) : Int))), .int (iI (pct)), .int (iI (lr)), .int (iI (sr))])), (ia, arQ cs 2 5 itf), (hi, .inr (1, [.int (iI (pk)), .int (iI (fs)), .ref ti, .ref go, .ref pr, .int (iI (st + zu))])), (ti, .inr (0, [.ref uti])), (uti, arI cs 1005 (upI fti dy (fti dy + zu)))]) hP hD [0, 1, 2, 3, 4] rfl pk1 rfl hk1 hB
  have hP : va_P D vwCl [(kr, .inr (5, [.ref la, .ref ia, .ref na, .ref b4, .ref b6, .ref b8, .ref b10, .int (iI (((sh : Nat) : Int))), .int (iI (((it : Nat) : Int))), .int (iI (lc)), .int (iI (((dy : Nat) : Int))), .int (iI (pct)), .int (iI (lr)), .int (iI (sr))])), (ia, arQ cs 2 5 itf), (hi, .inr (1, [.int (iI (pk)), .int (iI (fs)), .ref ti, .ref go, .ref pr, .int (iI (st + zu))])), (ti, .inr (0, [.ref uti])), (uti, arI cs 1005 (upI fti dy (fti dy + zu)))] H := hP
  have hD : va_D A [(kr, .inr (5, [.ref la, .ref ia, .ref na, .ref b4, .ref b6, .ref b8, .ref b10, .int (iI (((sh : Nat) : Int))), .int (iI (((it : Nat) : Int))), .int (iI (lc)), .int (iI (((dy : Nat) : Int))), .int (iI (pct)), .int (iI (lr)), .int (iI (sr))])), (ia, arQ cs 2 5 itf), (hi, .inr (1, [.int (iI (pk)), .int (iI (fs)), .ref ti, .ref go, .ref pr, .int (iI (st + zu))])), (ti, .inr (0, [.ref uti])), (uti, arI cs 1005 (upI fti dy (fti dy + zu)))] := hD
  exact absurd hc2 hne

abbrev ws_L_centre : List Cond := Cond.codeWith yL_centre cL_centre 3 (some .int) [(0, 5, 6, 32)] :: ALL
set_option maxHeartbeats 4000000 in
set_option maxRecDepth 100000 in
theorem m_L_centre_ok_r (l : Launch) (hst : l.stackTraces = false) (D : va_G) (cs : Nat → ClassId) (kr la ia na b4 b6 b8 b10 sh it : Nat) (lc : Int) (dy : Nat) (pct lr sr : Int) (itf : Nat → Option Nat) (tn : Nat) (hi ti go pr : Nat) (pk fs st : Int) (hit : it ≤ 5) (hitf : ∀ j, j < it → itf j ≠ none) (htn : tn < it) (hitn : itf tn = some hi) : Met l yL_centre ws_L_centre ({ frames := 8, cells := 1, slots := 6, locals := 125 }) (va_Pc [.ref kr, .int (iI (((tn : Nat) : Int)))] (PE D cs [(kr, .inr (5, [.ref la, .ref ia, .ref na, .ref b4, .ref b6, .ref b8, .ref b10, .int (iI (((sh : Nat) : Int))), .int (iI (((it : Nat) : Int))), .int (iI (lc)), .int (iI (((dy : Nat) : Int))), .int (iI (pct)), .int (iI (lr)), .int (iI (sr))])), (ia, arQ cs 2 5 itf), (hi, .inr (1, [.int (iI (pk)), .int (iI (fs)), .ref ti, .ref go, .ref pr, .int (iI (st))]))] noA)) (va_Qi (fun r (_ : Unit) => r = iI (st)) (fun _ _ => True) noA) 1 6 noA := by
  refine va_MetW (cc := cL_centre) (maxL := 3) (ret := some .int) (hh := [(0, 5, 6, 32)]) (by decide +kernel) rfl ?_
  intro p e s m args below meth c s₁ B hml hv
  obtain ⟨rfl, ⟨hP, hK, hD, hN⟩, hE⟩ := hv
  have hx := B.exec
  have hb := B.bytes
  have hr := B.returns
  have hts : ∀ w ∈ ALL, w.before _ s = true := fun w h => atoms_spec (ws := ws_L_centre) B.pre w (List.mem_cons_of_mem _ h)
  have hown : s.vm.findClass RL = some m.cls := findClass_of_methodNamed B.named
  have hlocks := B.notSynchronized
  have htab : c.exceptionTable.toList = tableOf [(0, 5, 6, 32)] := vx_table (x := yL_centre) B (atoms_spec (ws := ws_L_centre) B.pre _ List.mem_cons_self)
  have hS : va_S noA s.heap s.heap [] := va_S.rf
  generalize inW [(kr, .inr (5, [.ref la, .ref ia, .ref na, .ref b4, .ref b6, .ref b8, .ref b10, .int (iI (((sh : Nat) : Int))), .int (iI (((it : Nat) : Int))), .int (iI (lc)), .int (iI (((dy : Nat) : Int))), .int (iI (pct)), .int (iI (lr)), .int (iI (sr))])), (ia, arQ cs 2 5 itf), (hi, .inr (1, [.int (iI (pk)), .int (iI (fs)), .ref ti, .ref go, .ref pr, .int (iI (st))]))] = A at hD
  have hl := lv_entry ([.ref kr, .int (iI (((tn : Nat) : Int)))]) (n := 3) (Nat.le_of_ble_eq_true rfl)
  rw [lg_entry_eq]
  generalize (lg_sl ([.ref kr, .int (iI (((tn : Nat) : Int)))]) ++ List.replicate (3 - (lg_sl ([.ref kr, .int (iI (((tn : Nat) : Int)))])).length) Slot.unset).toArray = ls at hl ⊢
  have hl : lv_has ls 3 [(0, .ref kr), (1, .int (iI (((tn : Nat) : Int))))] := hl
  have hH := rfl (a := s.heap)
  refine lv_aload_n hx hb dL_centre_0 rfl (lv_at hl 0 rfl) ?_
  refine lv_iload_n hx hb dL_centre_1 rfl (lv_at hl 1 rfl) ?_
  have pk1 : picks [(kr, .inr (5, [.ref la, .ref ia, .ref na, .ref b4, .ref b6, .ref b8, .ref b10, .int (iI (((sh : Nat) : Int))), .int (iI (((it : Nat) : Int))), .int (iI (lc)), .int (iI (((dy : Nat) : Int))), .int (iI (pct)), .int (iI (lr)), .int (iI (sr))])), (ia, arQ cs 2 5 itf), (hi, .inr (1, [.int (iI (pk)), .int (iI (fs)), .ref ti, .ref go, .ref pr, .int (iI (st))]))] [0, 1, 2] [(kr, .inr (5, [.ref la, .ref ia, .ref na, .ref b4, .ref b6, .ref b8, .ref b10, .int (iI (((sh : Nat) : Int))), .int (iI (((it : Nat) : Int))), .int (iI (lc)), .int (iI (((dy : Nat) : Int))), .int (iI (pct)), .int (iI (lr)), .int (iI (sr))])), (ia, arQ cs 2 5 itf), (hi, .inr (1, [.int (iI (pk)), .int (iI (fs)), .ref ti, .ref go, .ref pr, .int (iI (st))]))] := ⟨rfl, rfl, rfl, trivial⟩
  refine vx_calli (vx_runV (As := [.int (iI (((tn : Nat) : Int)))]) (rest := []) ⟨hx, hb, hml, hown, hts⟩ (m_X5_centre_ok l hst D cs kr la ia na b4 b6 b8 b10 sh it lc dy pct lr sr itf tn hi ti go pr pk fs st (hit) (hitf) (htn) (hitn)) (cwV 1 hts (gV w_653 w_654 w_655 w_1 w_656) rfl rfl rfl (by decide +kernel) ⟨Nat.le_of_ble_eq_true rfl, Nat.le_of_ble_eq_true rfl⟩) (PE_V hK hN hE hS (fun _ h => False.elim h) hP hD [0, 1, 2] rfl pk1 rfl rfl) rfl rfl hl.1 rfl (lv_room (Nat.le_of_ble_eq_true rfl)) dL_centre_2 ⟨Nat.le_of_ble_eq_true rfl, Nat.le_of_ble_eq_true rfl⟩) hS (fun _ _ h => False.elim h) (fun _ h => False.elim h) (fun _ _ h => False.elim h) (fun E ce q9 u t H1 locs1 ht hvm hpx hBX hz1 hk1 hS1 hce hcv hcl => ?_) (fun r u t H locs ht hvm hw hB hz1 hk1 hS => ?_)
  · exact absurd (hpx.1) hpx.2
  obtain ⟨hc2, hw⟩ := hw
  subst hw
  have hP := P_kept hP hk1
  refine W.widen (k := 1) (n := 6) (by omega) (by omega) ?_
  have hres : iI (st) = iI (st) := congrArg iI (by
      rfl)
  exact W.iret hx hb hr (fun t ht hW => ⟨⟨_, (), rfl, hres, trivial⟩, hS.F ht⟩) hS.2.2 dL_centre_5

abbrev ws_L_centreByJournal : List Cond := Cond.codeWith yL_centreByJournal cL_centreByJournal 3 (some .int) [(0, 5, 6, 32)] :: ALL
set_option maxHeartbeats 4000000 in
set_option maxRecDepth 100000 in
theorem m_L_centreByJournal_ok_r (l : Launch) (hst : l.stackTraces = false) (D : va_G) (cs : Nat → ClassId) (kr la ia na b4 b6 b8 b10 sh it : Nat) (lc : Int) (dy : Nat) (pct lr sr : Int) (itf : Nat → Option Nat) (tn : Nat) (hi ti go pr : Nat) (pk fs st : Int) (uti ugo : Nat) (fti fgo : Nat → Int) (hit : it ≤ 5) (hitf : ∀ j, j < it → itf j ≠ none) (htn : tn < it) (hitn : itf tn = some hi) (hd : dy < 1000) : Met l yL_centreByJournal ws_L_centreByJournal ({ frames := 8, cells := 1, slots := 6, locals := 125 }) (va_Pc [.ref kr, .int (iI (((tn : Nat) : Int)))] (PE D cs [(kr, .inr (5, [.ref la, .ref ia, .ref na, .ref b4, .ref b6, .ref b8, .ref b10, .int (iI (((sh : Nat) : Int))), .int (iI (((it : Nat) : Int))), .int (iI (lc)), .int (iI (((dy : Nat) : Int))), .int (iI (pct)), .int (iI (lr)), .int (iI (sr))])), (ia, arQ cs 2 5 itf), (hi, .inr (1, [.int (iI (pk)), .int (iI (fs)), .ref ti, .ref go, .ref pr, .int (iI (st))])), (ti, .inr (0, [.ref uti])), (uti, arI cs 1005 fti), (go, .inr (0, [.ref ugo])), (ugo, arI cs 1005 fgo)] noA)) (va_Qi (fun r (_ : Unit) => r = iI (fs + smI fti (dy + 1) - smI fgo (dy + 1))) (fun _ _ => True) noA) 1 6 noA := by
  refine va_MetW (cc := cL_centreByJournal) (maxL := 3) (ret := some .int) (hh := [(0, 5, 6, 32)]) (by decide +kernel) rfl ?_
  intro p e s m args below meth c s₁ B hml hv
  obtain ⟨rfl, ⟨hP, hK, hD, hN⟩, hE⟩ := hv
  have hx := B.exec
  have hb := B.bytes
  have hr := B.returns
  have hts : ∀ w ∈ ALL, w.before _ s = true := fun w h => atoms_spec (ws := ws_L_centreByJournal) B.pre w (List.mem_cons_of_mem _ h)
  have hown : s.vm.findClass RL = some m.cls := findClass_of_methodNamed B.named
  have hlocks := B.notSynchronized
  have htab : c.exceptionTable.toList = tableOf [(0, 5, 6, 32)] := vx_table (x := yL_centreByJournal) B (atoms_spec (ws := ws_L_centreByJournal) B.pre _ List.mem_cons_self)
  have hS : va_S noA s.heap s.heap [] := va_S.rf
  generalize inW [(kr, .inr (5, [.ref la, .ref ia, .ref na, .ref b4, .ref b6, .ref b8, .ref b10, .int (iI (((sh : Nat) : Int))), .int (iI (((it : Nat) : Int))), .int (iI (lc)), .int (iI (((dy : Nat) : Int))), .int (iI (pct)), .int (iI (lr)), .int (iI (sr))])), (ia, arQ cs 2 5 itf), (hi, .inr (1, [.int (iI (pk)), .int (iI (fs)), .ref ti, .ref go, .ref pr, .int (iI (st))])), (ti, .inr (0, [.ref uti])), (uti, arI cs 1005 fti), (go, .inr (0, [.ref ugo])), (ugo, arI cs 1005 fgo)] = A at hD
  have hl := lv_entry ([.ref kr, .int (iI (((tn : Nat) : Int)))]) (n := 3) (Nat.le_of_ble_eq_true rfl)
  rw [lg_entry_eq]
  generalize (lg_sl ([.ref kr, .int (iI (((tn : Nat) : Int)))]) ++ List.replicate (3 - (lg_sl ([.ref kr, .int (iI (((tn : Nat) : Int)))])).length) Slot.unset).toArray = ls at hl ⊢
  have hl : lv_has ls 3 [(0, .ref kr), (1, .int (iI (((tn : Nat) : Int))))] := hl
  have hH := rfl (a := s.heap)
  refine lv_aload_n hx hb dL_centreByJournal_0 rfl (lv_at hl 0 rfl) ?_
  refine lv_iload_n hx hb dL_centreByJournal_1 rfl (lv_at hl 1 rfl) ?_
  have pk1 : picks [(kr, .inr (5, [.ref la, .ref ia, .ref na, .ref b4, .ref b6, .ref b8, .ref b10, .int (iI (((sh : Nat) : Int))), .int (iI (((it : Nat) : Int))), .int (iI (lc)), .int (iI (((dy : Nat) : Int))), .int (iI (pct)), .int (iI (lr)), .int (iI (sr))])), (ia, arQ cs 2 5 itf), (hi, .inr (1, [.int (iI (pk)), .int (iI (fs)), .ref ti, .ref go, .ref pr, .int (iI (st))])), (ti, .inr (0, [.ref uti])), (uti, arI cs 1005 fti), (go, .inr (0, [.ref ugo])), (ugo, arI cs 1005 fgo)] [0, 1, 2, 3, 4, 5, 6] [(kr, .inr (5, [.ref la, .ref ia, .ref na, .ref b4, .ref b6, .ref b8, .ref b10, .int (iI (((sh : Nat) : Int))), .int (iI (((it : Nat) : Int))), .int (iI (lc)), .int (iI (((dy : Nat) : Int))), .int (iI (pct)), .int (iI (lr)), .int (iI (sr))])), (ia, arQ cs 2 5 itf), (hi, .inr (1, [.int (iI (pk)), .int (iI (fs)), .ref ti, .ref go, .ref pr, .int (iI (st))])), (ti, .inr (0, [.ref uti])), (uti, arI cs 1005 fti), (go, .inr (0, [.ref ugo])), (ugo, arI cs 1005 fgo)] := ⟨rfl, rfl, rfl, rfl, rfl, rfl, rfl, trivial⟩
  refine vx_calli (vx_runV (As := [.int (iI (((tn : Nat) : Int)))]) (rest := []) ⟨hx, hb, hml, hown, hts⟩ (m_X5_centreByJournal_ok l hst D cs kr la ia na b4 b6 b8 b10 sh it lc dy pct lr sr itf tn hi ti go pr pk fs st uti ugo fti fgo (hit) (hitf) (htn) (hitn) (hd)) (cwV 1 hts (gV w_795 w_796 w_797 w_1 w_798) rfl rfl rfl (by decide +kernel) ⟨Nat.le_of_ble_eq_true rfl, Nat.le_of_ble_eq_true rfl⟩) (PE_V hK hN hE hS (fun _ h => False.elim h) hP hD [0, 1, 2, 3, 4, 5, 6] rfl pk1 rfl rfl) rfl rfl hl.1 rfl (lv_room (Nat.le_of_ble_eq_true rfl)) dL_centreByJournal_2 ⟨Nat.le_of_ble_eq_true rfl, Nat.le_of_ble_eq_true rfl⟩) hS (fun _ _ h => False.elim h) (fun _ h => False.elim h) (fun _ _ h => False.elim h) (fun E ce q9 u t H1 locs1 ht hvm hpx hBX hz1 hk1 hS1 hce hcv hcl => ?_) (fun r u t H locs ht hvm hw hB hz1 hk1 hS => ?_)
  · exact absurd (hpx.1) hpx.2
  obtain ⟨hc2, hw⟩ := hw
  subst hw
  have hP := P_kept hP hk1
  refine W.widen (k := 1) (n := 6) (by omega) (by omega) ?_
  have hres : iI (fs + smI fti (dy + 1) - smI fgo (dy + 1)) = iI (fs + smI fti (dy + 1) - smI fgo (dy + 1)) := congrArg iI (by
      rfl)
  exact W.iret hx hb hr (fun t ht hW => ⟨⟨_, (), rfl, hres, trivial⟩, hS.F ht⟩) hS.2.2 dL_centreByJournal_5

abbrev ws_L_night : List Cond := Cond.codeWith yL_night cL_night 2 (some .int) [(0, 4, 5, 22)] :: ALL
set_option maxHeartbeats 4000000 in
set_option maxRecDepth 100000 in
theorem m_L_night_ok_r (l : Launch) (hst : l.stackTraces = false) (D : va_G) (cs : Nat → ClassId) (kr la ia na b4 b6 b8 b10 sh it : Nat) (lc : Int) (dy : Nat) (pct lr sr : Int) (ulr usr ur uq ug : Nat) (lf lrf srf rse rq gv : Nat → Int) (rv pn : Int) (IA LA : Nat → Nat → Nat) (cr : Nat → Bool) (IR : Nat → IT) (LR : Nat → LT) (hsh : sh ≤ 4) (hit : it ≤ 5) (hci : ∀ a, cr a = true → a % 5 < it ∧ a / 5 < sh) (hpr : ∀ i j, 0 ≤ ipr (IR i) j ∧ ipr (IR i) j ≤ 1) (hlv : ∀ a, 0 ≤ llv (LR a) ∧ llv (LR a) ≤ 9990000) (hse : ∀ a w, 100 ≤ lse (LR a) w ∧ lse (LR a) w ≤ 5000) (hdm : ∀ a j, 0 ≤ ldm (LR a) j ∧ ldm (LR a) j ≤ 999) (hd : dy < 999) (hlr : 0 ≤ lr ∧ lr ≤ 100) (hsr : 0 ≤ sr ∧ sr ≤ 100) (hpc : 1 ≤ pct ∧ pct ≤ 100) (hlk : ∀ a, lOK (dy + 1) ((qS cr (rcvR (dy + 1)) (qS (cL cr IR dy) (lrnR dy lr sr) LR 20) 20) a)) (hik : ∀ i, iOK (IR i)) : Met l yL_night ws_L_night ({ frames := 7, cells := 1, slots := 6, locals := 162 }) (va_Pc [.ref kr] (PE D cs ([(kr, .inr (5, [.ref la, .ref ia, .ref na, .ref b4, .ref b6, .ref b8, .ref b10, .int (iI (((sh : Nat) : Int))), .int (iI (((it : Nat) : Int))), .int (iI (lc)), .int (iI (((dy : Nat) : Int))), .int (iI (pct)), .int (iI (lr)), .int (iI (sr))])), (la, arI cs 4 lf), (ia, arQ cs 2 5 (itq it IA)), (na, arQ cs 3 20 (lnq cr LA)), (b4, .inr (0, [.ref ulr])), (ulr, arI cs 1005 lrf), (b6, .inr (0, [.ref usr])), (usr, arI cs 1005 srf), (b8, .inr (2, [.ref ur, .int (iI (rv))])), (ur, arI cs 7 rse), (b10, .inr (4, [.ref uq, .ref ug, .int (iI (pn))])), (uq, arI cs 4 rq), (ug, arI cs 4 gv)] ++ (aW cs IA LA it cr IR LR)) (inW ([(kr, .inr (5, [.ref la, .ref ia, .ref na, .ref b4, .ref b6, .ref b8, .ref b10, .int (iI (((sh : Nat) : Int))), .int (iI (((it : Nat) : Int))), .int (iI (lc)), .int (iI (((dy : Nat) : Int))), .int (iI (pct)), .int (iI (lr)), .int (iI (sr))])), (la, arI cs 4 lf), (ia, arQ cs 2 5 (itq it IA)), (na, arQ cs 3 20 (lnq cr LA)), (b4, .inr (0, [.ref ulr])), (ulr, arI cs 1005 lrf), (b6, .inr (0, [.ref usr])), (usr, arI cs 1005 srf), (b8, .inr (2, [.ref ur, .int (iI (rv))])), (ur, arI cs 7 rse), (b10, .inr (4, [.ref uq, .ref ug, .int (iI (pn))])), (uq, arI cs 4 rq), (ug, arI cs 4 gv)] ++ (aW cs IA LA it cr IR LR))))) (va_Qi (fun r (_ : Unit) => r = iI ((ntS (dy + 1) pct cr sh (IR, (qS cr (rcvR (dy + 1)) (qS (cL cr IR dy) (lrnR dy lr sr) LR 20) 20), rq, pn, 0) it).2.2.2.2)) (fun _ t => va_P D vwCl ([(kr, .inr (5, [.ref la, .ref ia, .ref na, .ref b4, .ref b6, .ref b8, .ref b10, .int (iI (((sh : Nat) : Int))), .int (iI (((it : Nat) : Int))), .int (iI (lc)), .int (iI ((((dy + 1) : Nat) : Int))), .int (iI (pct)), .int (iI (lr)), .int (iI (sr))])), (la, arI cs 4 lf), (ia, arQ cs 2 5 (itq it IA)), (na, arQ cs 3 20 (lnq cr LA)), (b4, .inr (0, [.ref ulr])), (ulr, arI cs 1005 (upI lrf dy (lrf dy + lr))), (b6, .inr (0, [.ref usr])), (usr, arI cs 1005 (upI srf dy (srf dy + sr))), (b8, .inr (2, [.ref ur, .int (iI (rv))])), (ur, arI cs 7 rse), (b10, .inr (4, [.ref uq, .ref ug, .int (iI ((ntS (dy + 1) pct cr sh (IR, (qS cr (rcvR (dy + 1)) (qS (cL cr IR dy) (lrnR dy lr sr) LR 20) 20), rq, pn, 0) it).2.2.2.1))])), (uq, arI cs 4 ((ntS (dy + 1) pct cr sh (IR, (qS cr (rcvR (dy + 1)) (qS (cL cr IR dy) (lrnR dy lr sr) LR 20) 20), rq, pn, 0) it).2.2.1)), (ug, arI cs 4 gv)] ++ (aW cs IA LA it cr ((ntS (dy + 1) pct cr sh (IR, (qS cr (rcvR (dy + 1)) (qS (cL cr IR dy) (lrnR dy lr sr) LR 20) 20), rq, pn, 0) it).1) ((ntS (dy + 1) pct cr sh (IR, (qS cr (rcvR (dy + 1)) (qS (cL cr IR dy) (lrnR dy lr sr) LR 20) 20), rq, pn, 0) it).2.1))) t.heap) (inW ([(kr, .inr (5, [.ref la, .ref ia, .ref na, .ref b4, .ref b6, .ref b8, .ref b10, .int (iI (((sh : Nat) : Int))), .int (iI (((it : Nat) : Int))), .int (iI (lc)), .int (iI (((dy : Nat) : Int))), .int (iI (pct)), .int (iI (lr)), .int (iI (sr))])), (la, arI cs 4 lf), (ia, arQ cs 2 5 (itq it IA)), (na, arQ cs 3 20 (lnq cr LA)), (b4, .inr (0, [.ref ulr])), (ulr, arI cs 1005 lrf), (b6, .inr (0, [.ref usr])), (usr, arI cs 1005 srf), (b8, .inr (2, [.ref ur, .int (iI (rv))])), (ur, arI cs 7 rse), (b10, .inr (4, [.ref uq, .ref ug, .int (iI (pn))])), (uq, arI cs 4 rq), (ug, arI cs 4 gv)] ++ (aW cs IA LA it cr IR LR)))) 1 6 (inW ([(kr, .inr (5, [.ref la, .ref ia, .ref na, .ref b4, .ref b6, .ref b8, .ref b10, .int (iI (((sh : Nat) : Int))), .int (iI (((it : Nat) : Int))), .int (iI (lc)), .int (iI (((dy : Nat) : Int))), .int (iI (pct)), .int (iI (lr)), .int (iI (sr))])), (la, arI cs 4 lf), (ia, arQ cs 2 5 (itq it IA)), (na, arQ cs 3 20 (lnq cr LA)), (b4, .inr (0, [.ref ulr])), (ulr, arI cs 1005 lrf), (b6, .inr (0, [.ref usr])), (usr, arI cs 1005 srf), (b8, .inr (2, [.ref ur, .int (iI (rv))])), (ur, arI cs 7 rse), (b10, .inr (4, [.ref uq, .ref ug, .int (iI (pn))])), (uq, arI cs 4 rq), (ug, arI cs 4 gv)] ++ (aW cs IA LA it cr IR LR))) := by
  refine va_MetW (cc := cL_night) (maxL := 2) (ret := some .int) (hh := [(0, 4, 5, 22)]) (by decide +kernel) rfl ?_
  intro p e s m args below meth c s₁ B hml hv
  obtain ⟨rfl, ⟨hP, hK, hD, hN⟩, hE⟩ := hv
  have hx := B.exec
  have hb := B.bytes
  have hr := B.returns
  have hts : ∀ w ∈ ALL, w.before _ s = true := fun w h => atoms_spec (ws := ws_L_night) B.pre w (List.mem_cons_of_mem _ h)
  have hown : s.vm.findClass RL = some m.cls := findClass_of_methodNamed B.named
  have hlocks := B.notSynchronized
  have htab : c.exceptionTable.toList = tableOf [(0, 4, 5, 22)] := vx_table (x := yL_night) B (atoms_spec (ws := ws_L_night) B.pre _ List.mem_cons_self)
  generalize hAe : inW ([(kr, .inr (5, [.ref la, .ref ia, .ref na, .ref b4, .ref b6, .ref b8, .ref b10, .int (iI (((sh : Nat) : Int))), .int (iI (((it : Nat) : Int))), .int (iI (lc)), .int (iI (((dy : Nat) : Int))), .int (iI (pct)), .int (iI (lr)), .int (iI (sr))])), (la, arI cs 4 lf), (ia, arQ cs 2 5 (itq it IA)), (na, arQ cs 3 20 (lnq cr LA)), (b4, .inr (0, [.ref ulr])), (ulr, arI cs 1005 lrf), (b6, .inr (0, [.ref usr])), (usr, arI cs 1005 srf), (b8, .inr (2, [.ref ur, .int (iI (rv))])), (ur, arI cs 7 rse), (b10, .inr (4, [.ref uq, .ref ug, .int (iI (pn))])), (uq, arI cs 4 rq), (ug, arI cs 4 gv)] ++ (aW cs IA LA it cr IR LR)) = A at hD hE ⊢
  have hS : va_S A s.heap s.heap [] := va_S.rf
  have hl := lv_entry ([.ref kr]) (n := 2) (Nat.le_of_ble_eq_true rfl)
  rw [lg_entry_eq]
  generalize (lg_sl ([.ref kr]) ++ List.replicate (2 - (lg_sl ([.ref kr])).length) Slot.unset).toArray = ls at hl ⊢
  have hl : lv_has ls 2 [(0, .ref kr)] := hl
  have hH := rfl (a := s.heap)
  refine lv_aload_n hx hb dL_night_0 rfl (lv_at hl 0 rfl) ?_
  refine vx_calli (vx_runV (As := []) (rest := []) ⟨hx, hb, hml, hown, hts⟩ (m_X5_night_ok l hst D cs kr la ia na b4 b6 b8 b10 sh it lc dy pct lr sr ulr usr ur uq ug lf lrf srf rse rq gv rv pn IA LA cr IR LR (hsh) (hit) (hci) (hpr) (hlv) (hse) (hdm) (hd) (hlr) (hsr) (hpc) (hlk) (hik)) (cwV 0 hts (gV w_515 w_516 w_517 w_1 w_518) rfl rfl rfl (by decide +kernel) ⟨Nat.le_of_ble_eq_true rfl, Nat.le_of_ble_eq_true rfl⟩) (PE_Va hK hN hE hS (fun q h => inW_suba hD q h) hP hD rfl rfl) rfl rfl hl.1 rfl (lv_room (Nat.le_of_ble_eq_true rfl)) dL_night_1 ⟨Nat.le_of_ble_eq_true rfl, Nat.le_of_ble_eq_true rfl⟩) hS (fun q _ h => inW_suba hD q h) (fun q h => inW_suba hD q h) (fun q _ h => inW_suba hD q h) (fun E ce q9 u t H1 locs1 ht hvm hpx hBX hz1 hk1 hS1 hce hcv hcl => ?_) (fun r u t H locs ht hvm hw hB hz1 hk1 hS => ?_)
  · exact absurd (hpx.1) hpx.2
  obtain ⟨hc2, hw⟩ := hw
  subst hw
  rw [ht] at hB
  have hP : va_P D vwCl ([(kr, .inr (5, [.ref la, .ref ia, .ref na, .ref b4, .ref b6, .ref b8, .ref b10, .int (iI (((sh : Nat) : Int))), .int (iI (((it : Nat) : Int))), .int (iI (lc)), .int (iI ((((dy + 1) : Nat) : Int))), .int (iI (pct)), .int (iI (lr)), .int (iI (sr))])), (la, arI cs 4 lf), (ia, arQ cs 2 5 (itq it IA)), (na, arQ cs 3 20 (lnq cr LA)), (b4, .inr (0, [.ref ulr])), (ulr, arI cs 1005 (upI lrf dy (lrf dy + lr))), (b6, .inr (0, [.ref usr])), (usr, arI cs 1005 (upI srf dy (srf dy + sr))), (b8, .inr (2, [.ref ur, .int (iI (rv))])), (ur, arI cs 7 rse), (b10, .inr (4, [.ref uq, .ref ug, .int (iI ((ntS (dy + 1) pct cr sh (IR, (qS cr (rcvR (dy + 1)) (qS (cL cr IR dy) (lrnR dy lr sr) LR 20) 20), rq, pn, 0) it).2.2.2.1))])), (uq, arI cs 4 ((ntS (dy + 1) pct cr sh (IR, (qS cr (rcvR (dy + 1)) (qS (cL cr IR dy) (lrnR dy lr sr) LR 20) 20), rq, pn, 0) it).2.2.1)), (ug, arI cs 4 gv)] ++ (aW cs IA LA it cr ((ntS (dy + 1) pct cr sh (IR, (qS cr (rcvR (dy + 1)) (qS (cL cr IR dy) (lrnR dy lr sr) LR 20) 20), rq, pn, 0) it).1) ((ntS (dy + 1) pct cr sh (IR, (qS cr (rcvR (dy + 1)) (qS (cL cr IR dy) (lrnR dy lr sr) LR 20) 20), rq, pn, 0) it).2.1))) H := hB
  have hD : va_D A ([(kr, .inr (5, [.ref la, .ref ia, .ref na, .ref b4, .ref b6, .ref b8, .ref b10, .int (iI (((sh : Nat) : Int))), .int (iI (((it : Nat) : Int))), .int (iI (lc)), .int (iI ((((dy + 1) : Nat) : Int))), .int (iI (pct)), .int (iI (lr)), .int (iI (sr))])), (la, arI cs 4 lf), (ia, arQ cs 2 5 (itq it IA)), (na, arQ cs 3 20 (lnq cr LA)), (b4, .inr (0, [.ref ulr])), (ulr, arI cs 1005 (upI lrf dy (lrf dy + lr))), (b6, .inr (0, [.ref usr])), (usr, arI cs 1005 (upI srf dy (srf dy + sr))), (b8, .inr (2, [.ref ur, .int (iI (rv))])), (ur, arI cs 7 rse), (b10, .inr (4, [.ref uq, .ref ug, .int (iI ((ntS (dy + 1) pct cr sh (IR, (qS cr (rcvR (dy + 1)) (qS (cL cr IR dy) (lrnR dy lr sr) LR 20) 20), rq, pn, 0) it).2.2.2.1))])), (uq, arI cs 4 ((ntS (dy + 1) pct cr sh (IR, (qS cr (rcvR (dy + 1)) (qS (cL cr IR dy) (lrnR dy lr sr) LR 20) 20), rq, pn, 0) it).2.2.1)), (ug, arI cs 4 gv)] ++ (aW cs IA LA it cr ((ntS (dy + 1) pct cr sh (IR, (qS cr (rcvR (dy + 1)) (qS (cL cr IR dy) (lrnR dy lr sr) LR 20) 20), rq, pn, 0) it).1) ((ntS (dy + 1) pct cr sh (IR, (qS cr (rcvR (dy + 1)) (qS (cL cr IR dy) (lrnR dy lr sr) LR 20) 20), rq, pn, 0) it).2.1))) := D_fst hD (fst_ap rfl aW_fst)
  subst hAe
  refine W.widen (k := 1) (n := 6) (by omega) (by omega) ?_
  have hres : iI ((ntS (dy + 1) pct cr sh (IR, (qS cr (rcvR (dy + 1)) (qS (cL cr IR dy) (lrnR dy lr sr) LR 20) 20), rq, pn, 0) it).2.2.2.2) = iI ((ntS (dy + 1) pct cr sh (IR, (qS cr (rcvR (dy + 1)) (qS (cL cr IR dy) (lrnR dy lr sr) LR 20) 20), rq, pn, 0) it).2.2.2.2) := congrArg iI (by
      rfl)
  exact W.iret hx hb hr (fun t ht hW => ⟨⟨_, (), rfl, hres, by show va_P D vwCl _ t.heap; rw [ht]; exact hP⟩, hS.F ht⟩) hS.2.2 dL_night_4

abbrev ws_L_carry : List Cond := Cond.codeWith yL_carry cL_carry 6 (some .int) [(0, 9, 10, 32), (0, 9, 15, 20), (0, 9, 20, 22)] :: ALL
set_option maxHeartbeats 4000000 in
set_option maxRecDepth 100000 in
theorem m_L_carry_no_t (l : Launch) (hst : l.stackTraces = false) (D : va_G) (cs : Nat → ClassId) (kr la ia na b4 b6 b8 b10 sh it : Nat) (lc : Int) (dy : Nat) (pct lr sr : Int) (lf : Nat → Int) (itf : Nat → Option Nat) (lnf : Nat → Option Nat) (zs zi zk zl : Int) (hsh : sh ≤ 4) (hit : it ≤ 5) (hitf : ∀ j, j < it → itf j ≠ none) (hzs : -2147483648 ≤ zs ∧ zs < 2147483648) (hzi : -2147483648 ≤ zi ∧ zi < 2147483648) (hzk : -2147483648 ≤ zk ∧ zk < 2147483648) (hzl : -2147483648 ≤ zl ∧ zl < 2147483648) (hno : (cdC sh it lnf zs zi zk zl) ≠ 0) : Met l yL_carry ws_L_carry ({ frames := 8, cells := 3, slots := 18, locals := 130 }) (va_Pc [.ref kr, .int (iI (zs)), .int (iI (zi)), .int (iI (zk)), .int (iI (zl))] (PE D cs [(kr, .inr (5, [.ref la, .ref ia, .ref na, .ref b4, .ref b6, .ref b8, .ref b10, .int (iI (((sh : Nat) : Int))), .int (iI (((it : Nat) : Int))), .int (iI (lc)), .int (iI (((dy : Nat) : Int))), .int (iI (pct)), .int (iI (lr)), .int (iI (sr))])), (la, arI cs 4 lf), (ia, arQ cs 2 5 itf), (na, arQ cs 3 20 lnf)] noA)) (va_Qi (fun r (_ : Unit) => r = iI (exv (cdC sh it lnf zs zi zk zl))) (fun _ _ => True) noA) 3 18 noA := by
  refine va_MetW (cc := cL_carry) (maxL := 6) (ret := some .int) (hh := [(0, 9, 10, 32), (0, 9, 15, 20), (0, 9, 20, 22)]) (by decide +kernel) rfl ?_
  intro p e s m args below meth c s₁ B hml hv
  obtain ⟨rfl, ⟨hP, hK, hD, hN⟩, hE⟩ := hv
  have hx := B.exec
  have hb := B.bytes
  have hr := B.returns
  have hts : ∀ w ∈ ALL, w.before _ s = true := fun w h => atoms_spec (ws := ws_L_carry) B.pre w (List.mem_cons_of_mem _ h)
  have hown : s.vm.findClass RL = some m.cls := findClass_of_methodNamed B.named
  have hlocks := B.notSynchronized
  have htab : c.exceptionTable.toList = tableOf [(0, 9, 10, 32), (0, 9, 15, 20), (0, 9, 20, 22)] := vx_table (x := yL_carry) B (atoms_spec (ws := ws_L_carry) B.pre _ List.mem_cons_self)
  have hS : va_S noA s.heap s.heap [] := va_S.rf
  generalize inW [(kr, .inr (5, [.ref la, .ref ia, .ref na, .ref b4, .ref b6, .ref b8, .ref b10, .int (iI (((sh : Nat) : Int))), .int (iI (((it : Nat) : Int))), .int (iI (lc)), .int (iI (((dy : Nat) : Int))), .int (iI (pct)), .int (iI (lr)), .int (iI (sr))])), (la, arI cs 4 lf), (ia, arQ cs 2 5 itf), (na, arQ cs 3 20 lnf)] = A at hD
  have hl := lv_entry ([.ref kr, .int (iI (zs)), .int (iI (zi)), .int (iI (zk)), .int (iI (zl))]) (n := 6) (Nat.le_of_ble_eq_true rfl)
  rw [lg_entry_eq]
  generalize (lg_sl ([.ref kr, .int (iI (zs)), .int (iI (zi)), .int (iI (zk)), .int (iI (zl))]) ++ List.replicate (6 - (lg_sl ([.ref kr, .int (iI (zs)), .int (iI (zi)), .int (iI (zk)), .int (iI (zl))])).length) Slot.unset).toArray = ls at hl ⊢
  have hl : lv_has ls 6 [(0, .ref kr), (1, .int (iI (zs))), (2, .int (iI (zi))), (3, .int (iI (zk))), (4, .int (iI (zl)))] := hl
  have hH := rfl (a := s.heap)
  refine lv_aload_n hx hb dL_carry_0 rfl (lv_at hl 0 rfl) ?_
  refine lv_iload_n hx hb dL_carry_1 rfl (lv_at hl 1 rfl) ?_
  refine lv_iload_n hx hb dL_carry_2 rfl (lv_at hl 2 rfl) ?_
  refine lv_iload_n hx hb dL_carry_3 rfl (lv_at hl 3 rfl) ?_
  refine lv_iload hx hb dL_carry_4 (lv_at hl 4 rfl) ?_
  have pk1 : picks [(kr, .inr (5, [.ref la, .ref ia, .ref na, .ref b4, .ref b6, .ref b8, .ref b10, .int (iI (((sh : Nat) : Int))), .int (iI (((it : Nat) : Int))), .int (iI (lc)), .int (iI (((dy : Nat) : Int))), .int (iI (pct)), .int (iI (lr)), .int (iI (sr))])), (la, arI cs 4 lf), (ia, arQ cs 2 5 itf), (na, arQ cs 3 20 lnf)] [0, 1, 2, 3] [(kr, .inr (5, [.ref la, .ref ia, .ref na, .ref b4, .ref b6, .ref b8, .ref b10, .int (iI (((sh : Nat) : Int))), .int (iI (((it : Nat) : Int))), .int (iI (lc)), .int (iI (((dy : Nat) : Int))), .int (iI (pct)), .int (iI (lr)), .int (iI (sr))])), (la, arI cs 4 lf), (ia, arQ cs 2 5 itf), (na, arQ cs 3 20 lnf)] := ⟨rfl, rfl, rfl, rfl, trivial⟩
  refine vx_calli (vx_runV (As := [.int (iI (zs)), .int (iI (zi)), .int (iI (zk)), .int (iI (zl))]) (rest := []) ⟨hx, hb, hml, hown, hts⟩ (m_X5_carry_no l hst D cs kr la ia na b4 b6 b8 b10 sh it lc dy pct lr sr lf itf lnf zs zi zk zl (hsh) (hit) (hitf) (hzs) (hzi) (hzk) (hzl) (hno)) (cwV 4 hts (gV w_273 w_274 w_275 w_1 w_276) rfl rfl rfl (by decide +kernel) ⟨Nat.le_of_ble_eq_true rfl, Nat.le_of_ble_eq_true rfl⟩) (PE_V hK hN hE hS (fun _ h => False.elim h) hP hD [0, 1, 2, 3] rfl pk1 rfl rfl) rfl rfl hl.1 rfl (lv_room (Nat.le_of_ble_eq_true rfl)) dL_carry_6 ⟨Nat.le_of_ble_eq_true rfl, Nat.le_of_ble_eq_true rfl⟩) hS (fun _ _ h => False.elim h) (fun _ h => False.elim h) (fun _ _ h => False.elim h) (fun E ce q9 u t H1 locs1 ht hvm hpx hBX hz1 hk1 hS1 hce hcv hcl => ?_) (fun r u t H locs ht hvm hw hB hz1 hk1 hS => ?_)
  · have h9 : u = (cdC sh it lnf zs zi zk zl) := hpx.1
    have hS := hS1
    have hcd : (cdC sh it lnf zs zi zk zl) = 1 ∨ (cdC sh it lnf zs zi zk zl) = 3 ∨ (cdC sh it lnf zs zi zk zl) = 4 := by
      revert hno
      (try unfold cdL); (try unfold cdS); (try unfold cdC)
      (repeat' split) <;> simp
    have hEu := hBX
    have hP := P_kept hP hk1
    rcases hcd with hc3 | hcd
    · have hE3 : E = "java/lang/IndexOutOfBoundsException" := by have h8 : E = exN u := hEu; rw [h8, h9, hc3]; rfl
      subst hE3
      refine vx_catch (name := "java/lang/IndexOutOfBoundsException") hown [] ⟨0, 9, 10, 32⟩ [⟨0, 9, 15, 20⟩, ⟨0, 9, 20, 22⟩] (htab.trans rfl) (fun z hz => by cases hz) rfl (by decide) (hts _ w_272) (hE.use _ (List.mem_append_right _ (List.mem_map.mpr ⟨_, List.mem_of_getElem? (i := 0) rfl, rfl⟩))) hce hcv hcl ?_
      refine lv_astore (lv' := [(5, .ref q9), (0, .ref kr), (1, .int (iI (zs))), (2, .int (iI (zi))), (3, .int (iI (zk))), (4, .int (iI (zl)))]) hx hb dL_carry_10 hl (by decide) rfl (fun ls hl => ?_)
      refine lv_bipush (v := iI (-77)) hx hb dL_carry_12 (by decide) ?_
      refine W.widen (k := 3) (n := 18) (by omega) (by omega) ?_
      have hres : iI (-77) = iI (exv (cdC sh it lnf zs zi zk zl)) := congrArg iI (by
          rw [hc3]; rfl)
      exact W.iret hx hb hr (fun t ht hW => ⟨⟨_, (), rfl, hres, trivial⟩, hS.F ht⟩) hS.2.2 dL_carry_14
    rcases hcd with hc3 | hcd
    · have hE3 : E = "java/lang/IllegalArgumentException" := by have h8 : E = exN u := hEu; rw [h8, h9, hc3]; rfl
      subst hE3
      refine vx_catch (name := "java/lang/IllegalArgumentException") hown [⟨0, 9, 10, 32⟩] ⟨0, 9, 15, 20⟩ [⟨0, 9, 20, 22⟩] (htab.trans rfl) (fun z hz => by
          simp only [List.mem_cons, List.not_mem_nil, or_false] at hz
          rcases hz with rfl
          · exact Or.inr ⟨by decide, "java/lang/IndexOutOfBoundsException", hts _ w_272, hE.2.2.2.2.2 _ (List.mem_of_getElem? (i := 8) rfl)⟩) rfl (by decide) (hts _ w_138) (hE.use _ (List.mem_append_right _ (List.mem_map.mpr ⟨_, List.mem_of_getElem? (i := 2) rfl, rfl⟩))) hce hcv hcl ?_
      refine lv_astore (lv' := [(5, .ref q9), (0, .ref kr), (1, .int (iI (zs))), (2, .int (iI (zi))), (3, .int (iI (zk))), (4, .int (iI (zl)))]) hx hb dL_carry_15 hl (by decide) rfl (fun ls hl => ?_)
      refine lv_bipush (v := iI (-78)) hx hb dL_carry_17 (by decide) ?_
      refine W.widen (k := 3) (n := 18) (by omega) (by omega) ?_
      have hres : iI (-78) = iI (exv (cdC sh it lnf zs zi zk zl)) := congrArg iI (by
          rw [hc3]; rfl)
      exact W.iret hx hb hr (fun t ht hW => ⟨⟨_, (), rfl, hres, trivial⟩, hS.F ht⟩) hS.2.2 dL_carry_19
    have hc3 := hcd
    have hE3 : E = "java/lang/IllegalStateException" := by have h8 : E = exN u := hEu; rw [h8, h9, hc3]; rfl
    subst hE3
    refine vx_catch (name := "java/lang/IllegalStateException") hown [⟨0, 9, 10, 32⟩, ⟨0, 9, 15, 20⟩] ⟨0, 9, 20, 22⟩ [] (htab.trans rfl) (fun z hz => by
        simp only [List.mem_cons, List.not_mem_nil, or_false] at hz
        rcases hz with rfl | rfl
        · exact Or.inr ⟨by decide, "java/lang/IndexOutOfBoundsException", hts _ w_272, hE.2.2.2.2.2 _ (List.mem_of_getElem? (i := 9) rfl)⟩
        · exact Or.inr ⟨by decide, "java/lang/IllegalArgumentException", hts _ w_138, hE.2.2.2.2.2 _ (List.mem_of_getElem? (i := 0) rfl)⟩) rfl (by decide) (hts _ w_139) (hE.use _ (List.mem_append_right _ (List.mem_map.mpr ⟨_, List.mem_of_getElem? (i := 3) rfl, rfl⟩))) hce hcv hcl ?_
    refine lv_astore (lv' := [(5, .ref q9), (0, .ref kr), (1, .int (iI (zs))), (2, .int (iI (zi))), (3, .int (iI (zk))), (4, .int (iI (zl)))]) hx hb dL_carry_20 hl (by decide) rfl (fun ls hl => ?_)
    refine lv_bipush (v := iI (-79)) hx hb dL_carry_22 (by decide) ?_
    refine W.widen (k := 3) (n := 18) (by omega) (by omega) ?_
    have hres : iI (-79) = iI (exv (cdC sh it lnf zs zi zk zl)) := congrArg iI (by
        rw [hc3]; rfl)
    exact W.iret hx hb hr (fun t ht hW => ⟨⟨_, (), rfl, hres, trivial⟩, hS.F ht⟩) hS.2.2 dL_carry_24
  obtain ⟨hc2, hw⟩ := hw
  subst hw
  have hP := P_kept hP hk1
  exact absurd hc2 hno

abbrev ws_L_carries : List Cond := Cond.codeWith yL_carries cL_carries 4 (some .int) [(0, 14, 15, 32)] :: ALL
set_option maxHeartbeats 4000000 in
set_option maxRecDepth 100000 in
theorem m_L_carries_r (l : Launch) (hst : l.stackTraces = false) (D : va_G) (cs : Nat → ClassId) (kr la ia na b4 b6 b8 b10 sh it : Nat) (lc : Int) (dy : Nat) (pct lr sr : Int) (lf : Nat → Int) (itf : Nat → Option Nat) (lnf : Nat → Option Nat) (zs zi : Int) (hsh : sh ≤ 4) (hit : it ≤ 5) (hitf : ∀ j, j < it → itf j ≠ none) (hzs : -2147483648 ≤ zs ∧ zs < 2147483648) (hzi : -2147483648 ≤ zi ∧ zi < 2147483648) (hz : (if (0 ≤ zs ∧ zs < (sh : Int)) ∧ (0 ≤ zi ∧ zi < (it : Int)) then 0 else 1) = 0) : Met l yL_carries ws_L_carries ({ frames := 8, cells := 2, slots := 12, locals := 126 }) (va_Pc [.ref kr, .int (iI (zs)), .int (iI (zi))] (PE D cs [(kr, .inr (5, [.ref la, .ref ia, .ref na, .ref b4, .ref b6, .ref b8, .ref b10, .int (iI (((sh : Nat) : Int))), .int (iI (((it : Nat) : Int))), .int (iI (lc)), .int (iI (((dy : Nat) : Int))), .int (iI (pct)), .int (iI (lr)), .int (iI (sr))])), (la, arI cs 4 lf), (ia, arQ cs 2 5 itf), (na, arQ cs 3 20 lnf)] noA)) (va_Qi (fun r (_ : Unit) => r = iI (crI sh it lnf zs zi)) (fun _ _ => True) noA) 2 12 noA := by
  refine va_MetW (cc := cL_carries) (maxL := 4) (ret := some .int) (hh := [(0, 14, 15, 32)]) (by decide +kernel) rfl ?_
  intro p e s m args below meth c s₁ B hml hv
  obtain ⟨rfl, ⟨hP, hK, hD, hN⟩, hE⟩ := hv
  have hx := B.exec
  have hb := B.bytes
  have hr := B.returns
  have hts : ∀ w ∈ ALL, w.before _ s = true := fun w h => atoms_spec (ws := ws_L_carries) B.pre w (List.mem_cons_of_mem _ h)
  have hown : s.vm.findClass RL = some m.cls := findClass_of_methodNamed B.named
  have hlocks := B.notSynchronized
  have htab : c.exceptionTable.toList = tableOf [(0, 14, 15, 32)] := vx_table (x := yL_carries) B (atoms_spec (ws := ws_L_carries) B.pre _ List.mem_cons_self)
  have hS : va_S noA s.heap s.heap [] := va_S.rf
  generalize inW [(kr, .inr (5, [.ref la, .ref ia, .ref na, .ref b4, .ref b6, .ref b8, .ref b10, .int (iI (((sh : Nat) : Int))), .int (iI (((it : Nat) : Int))), .int (iI (lc)), .int (iI (((dy : Nat) : Int))), .int (iI (pct)), .int (iI (lr)), .int (iI (sr))])), (la, arI cs 4 lf), (ia, arQ cs 2 5 itf), (na, arQ cs 3 20 lnf)] = A at hD
  have hl := lv_entry ([.ref kr, .int (iI (zs)), .int (iI (zi))]) (n := 4) (Nat.le_of_ble_eq_true rfl)
  rw [lg_entry_eq]
  generalize (lg_sl ([.ref kr, .int (iI (zs)), .int (iI (zi))]) ++ List.replicate (4 - (lg_sl ([.ref kr, .int (iI (zs)), .int (iI (zi))])).length) Slot.unset).toArray = ls at hl ⊢
  have hl : lv_has ls 4 [(0, .ref kr), (1, .int (iI (zs))), (2, .int (iI (zi)))] := hl
  have hH := rfl (a := s.heap)
  refine lv_aload_n hx hb dL_carries_0 rfl (lv_at hl 0 rfl) ?_
  refine lv_iload_n hx hb dL_carries_1 rfl (lv_at hl 1 rfl) ?_
  refine lv_iload_n hx hb dL_carries_2 rfl (lv_at hl 2 rfl) ?_
  have pk1 : picks [(kr, .inr (5, [.ref la, .ref ia, .ref na, .ref b4, .ref b6, .ref b8, .ref b10, .int (iI (((sh : Nat) : Int))), .int (iI (((it : Nat) : Int))), .int (iI (lc)), .int (iI (((dy : Nat) : Int))), .int (iI (pct)), .int (iI (lr)), .int (iI (sr))])), (la, arI cs 4 lf), (ia, arQ cs 2 5 itf), (na, arQ cs 3 20 lnf)] [0, 1, 2, 3] [(kr, .inr (5, [.ref la, .ref ia, .ref na, .ref b4, .ref b6, .ref b8, .ref b10, .int (iI (((sh : Nat) : Int))), .int (iI (((it : Nat) : Int))), .int (iI (lc)), .int (iI (((dy : Nat) : Int))), .int (iI (pct)), .int (iI (lr)), .int (iI (sr))])), (la, arI cs 4 lf), (ia, arQ cs 2 5 itf), (na, arQ cs 3 20 lnf)] := ⟨rfl, rfl, rfl, rfl, trivial⟩
  refine vx_calli (vx_runV (As := [.int (iI (zs)), .int (iI (zi))]) (rest := []) ⟨hx, hb, hml, hown, hts⟩ (m_X5_carries l hst D cs kr la ia na b4 b6 b8 b10 sh it lc dy pct lr sr lf itf lnf zs zi (hsh) (hit) (hitf) (hzs) (hzi)) (cwV 2 hts (gV w_393 w_394 w_395 w_1 w_396) rfl rfl rfl (by decide +kernel) ⟨Nat.le_of_ble_eq_true rfl, Nat.le_of_ble_eq_true rfl⟩) (PE_V hK hN hE hS (fun _ h => False.elim h) hP hD [0, 1, 2, 3] rfl pk1 rfl rfl) rfl rfl hl.1 rfl (lv_room (Nat.le_of_ble_eq_true rfl)) dL_carries_3 ⟨Nat.le_of_ble_eq_true rfl, Nat.le_of_ble_eq_true rfl⟩) hS (fun _ _ h => False.elim h) (fun _ h => False.elim h) (fun _ _ h => False.elim h) (fun E ce q9 u t H1 locs1 ht hvm hpx hBX hz1 hk1 hS1 hce hcv hcl => ?_) (fun r u t H locs ht hvm hw hB hz1 hk1 hS => ?_)
  · exact absurd (hpx.1.trans hz) hpx.2
  obtain ⟨hc2, hw⟩ := hw
  subst hw
  have hP := P_kept hP hk1
  have hrz := (crI_rng sh it lnf zs zi)
  refine my_if_eq (tgt := 13) hx hb (by omega) dL_carries_6 (by decide) (fun bh3 => ?_) (fun bh3 => ?_)
  · refine lv_iconst (v := iI (0)) hx hb dL_carries_13 rfl ?_
    refine W.widen (k := 2) (n := 12) (by omega) (by omega) ?_
    have hres : iI (0) = iI (crI sh it lnf zs zi) := congrArg iI (by
        have hrz := (crI_rng sh it lnf zs zi)
        omega)
    exact W.iret hx hb hr (fun t ht hW => ⟨⟨_, (), rfl, hres, trivial⟩, hS.F ht⟩) hS.2.2 dL_carries_14
  · refine lv_iconst (v := iI (1)) hx hb dL_carries_9 rfl ?_
    refine lv_goto (tgt := 14) hx hb dL_carries_10 (by decide) ?_
    refine W.widen (k := 2) (n := 12) (by omega) (by omega) ?_
    have hres : iI (1) = iI (crI sh it lnf zs zi) := congrArg iI (by
        have hrz := (crI_rng sh it lnf zs zi)
        omega)
    exact W.iret hx hb hr (fun t ht hW => ⟨⟨_, (), rfl, hres, trivial⟩, hS.F ht⟩) hS.2.2 dL_carries_14

abbrev ws_L_isMarked : List Cond := Cond.codeWith yL_isMarked cL_isMarked 4 (some .int) [(0, 14, 15, 32), (0, 14, 19, 20)] :: ALL
set_option maxHeartbeats 4000000 in
set_option maxRecDepth 100000 in
theorem m_L_isMarked_ok_r (l : Launch) (hst : l.stackTraces = false) (D : va_G) (cs : Nat → ClassId) (kr la ia na b4 b6 b8 b10 sh it : Nat) (lc : Int) (dy : Nat) (pct lr sr : Int) (itf : Nat → Option Nat) (tn : Nat) (hi ti go pr : Nat) (pk fs st : Int) (upr : Nat) (fpr : Nat → Int) (zd : Int) (hit : it ≤ 5) (hitf : ∀ j, j < it → itf j ≠ none) (htn : tn < it) (hitn : itf tn = some hi) (hfp : ∀ j, 0 ≤ fpr j ∧ fpr j ≤ 1) (hzd : -2147483648 ≤ zd ∧ zd < 2147483648) (hz : (if zd < 0 ∨ 999 < zd then 3 else 0) = 0) : Met l yL_isMarked ws_L_isMarked ({ frames := 8, cells := 2, slots := 12, locals := 127 }) (va_Pc [.ref kr, .int (iI (((tn : Nat) : Int))), .int (iI (zd))] (PE D cs [(kr, .inr (5, [.ref la, .ref ia, .ref na, .ref b4, .ref b6, .ref b8, .ref b10, .int (iI (((sh : Nat) : Int))), .int (iI (((it : Nat) : Int))), .int (iI (lc)), .int (iI (((dy : Nat) : Int))), .int (iI (pct)), .int (iI (lr)), .int (iI (sr))])), (ia, arQ cs 2 5 itf), (hi, .inr (1, [.int (iI (pk)), .int (iI (fs)), .ref ti, .ref go, .ref pr, .int (iI (st))])), (pr, .inr (0, [.ref upr])), (upr, arI cs 1005 fpr)] noA)) (va_Qi (fun r (_ : Unit) => r = iI (fpr zd.toNat)) (fun _ _ => True) noA) 2 12 noA := by
  refine va_MetW (cc := cL_isMarked) (maxL := 4) (ret := some .int) (hh := [(0, 14, 15, 32), (0, 14, 19, 20)]) (by decide +kernel) rfl ?_
  intro p e s m args below meth c s₁ B hml hv
  obtain ⟨rfl, ⟨hP, hK, hD, hN⟩, hE⟩ := hv
  have hx := B.exec
  have hb := B.bytes
  have hr := B.returns
  have hts : ∀ w ∈ ALL, w.before _ s = true := fun w h => atoms_spec (ws := ws_L_isMarked) B.pre w (List.mem_cons_of_mem _ h)
  have hown : s.vm.findClass RL = some m.cls := findClass_of_methodNamed B.named
  have hlocks := B.notSynchronized
  have htab : c.exceptionTable.toList = tableOf [(0, 14, 15, 32), (0, 14, 19, 20)] := vx_table (x := yL_isMarked) B (atoms_spec (ws := ws_L_isMarked) B.pre _ List.mem_cons_self)
  have hS : va_S noA s.heap s.heap [] := va_S.rf
  generalize inW [(kr, .inr (5, [.ref la, .ref ia, .ref na, .ref b4, .ref b6, .ref b8, .ref b10, .int (iI (((sh : Nat) : Int))), .int (iI (((it : Nat) : Int))), .int (iI (lc)), .int (iI (((dy : Nat) : Int))), .int (iI (pct)), .int (iI (lr)), .int (iI (sr))])), (ia, arQ cs 2 5 itf), (hi, .inr (1, [.int (iI (pk)), .int (iI (fs)), .ref ti, .ref go, .ref pr, .int (iI (st))])), (pr, .inr (0, [.ref upr])), (upr, arI cs 1005 fpr)] = A at hD
  have hl := lv_entry ([.ref kr, .int (iI (((tn : Nat) : Int))), .int (iI (zd))]) (n := 4) (Nat.le_of_ble_eq_true rfl)
  rw [lg_entry_eq]
  generalize (lg_sl ([.ref kr, .int (iI (((tn : Nat) : Int))), .int (iI (zd))]) ++ List.replicate (4 - (lg_sl ([.ref kr, .int (iI (((tn : Nat) : Int))), .int (iI (zd))])).length) Slot.unset).toArray = ls at hl ⊢
  have hl : lv_has ls 4 [(0, .ref kr), (1, .int (iI (((tn : Nat) : Int)))), (2, .int (iI (zd)))] := hl
  have hH := rfl (a := s.heap)
  refine lv_aload_n hx hb dL_isMarked_0 rfl (lv_at hl 0 rfl) ?_
  refine lv_iload_n hx hb dL_isMarked_1 rfl (lv_at hl 1 rfl) ?_
  refine lv_iload_n hx hb dL_isMarked_2 rfl (lv_at hl 2 rfl) ?_
  have pk1 : picks [(kr, .inr (5, [.ref la, .ref ia, .ref na, .ref b4, .ref b6, .ref b8, .ref b10, .int (iI (((sh : Nat) : Int))), .int (iI (((it : Nat) : Int))), .int (iI (lc)), .int (iI (((dy : Nat) : Int))), .int (iI (pct)), .int (iI (lr)), .int (iI (sr))])), (ia, arQ cs 2 5 itf), (hi, .inr (1, [.int (iI (pk)), .int (iI (fs)), .ref ti, .ref go, .ref pr, .int (iI (st))])), (pr, .inr (0, [.ref upr])), (upr, arI cs 1005 fpr)] [0, 1, 2, 3, 4] [(kr, .inr (5, [.ref la, .ref ia, .ref na, .ref b4, .ref b6, .ref b8, .ref b10, .int (iI (((sh : Nat) : Int))), .int (iI (((it : Nat) : Int))), .int (iI (lc)), .int (iI (((dy : Nat) : Int))), .int (iI (pct)), .int (iI (lr)), .int (iI (sr))])), (ia, arQ cs 2 5 itf), (hi, .inr (1, [.int (iI (pk)), .int (iI (fs)), .ref ti, .ref go, .ref pr, .int (iI (st))])), (pr, .inr (0, [.ref upr])), (upr, arI cs 1005 fpr)] := ⟨rfl, rfl, rfl, rfl, rfl, trivial⟩
  refine vx_calli (vx_runV (As := [.int (iI (((tn : Nat) : Int))), .int (iI (zd))]) (rest := []) ⟨hx, hb, hml, hown, hts⟩ (m_X5_isMarked_ok l hst D cs kr la ia na b4 b6 b8 b10 sh it lc dy pct lr sr itf tn hi ti go pr pk fs st upr fpr zd (hit) (hitf) (htn) (hitn) (hfp) (hzd)) (cwV 2 hts (gV w_452 w_453 w_454 w_1 w_455) rfl rfl rfl (by decide +kernel) ⟨Nat.le_of_ble_eq_true rfl, Nat.le_of_ble_eq_true rfl⟩) (PE_V hK hN hE hS (fun _ h => False.elim h) hP hD [0, 1, 2, 3, 4] rfl pk1 rfl rfl) rfl rfl hl.1 rfl (lv_room (Nat.le_of_ble_eq_true rfl)) dL_isMarked_3 ⟨Nat.le_of_ble_eq_true rfl, Nat.le_of_ble_eq_true rfl⟩) hS (fun _ _ h => False.elim h) (fun _ h => False.elim h) (fun _ _ h => False.elim h) (fun E ce q9 u t H1 locs1 ht hvm hpx hBX hz1 hk1 hS1 hce hcv hcl => ?_) (fun r u t H locs ht hvm hw hB hz1 hk1 hS => ?_)
  · exact absurd (hpx.1.trans hz) hpx.2
  obtain ⟨hc2, hw⟩ := hw
  subst hw
  have hP := P_kept hP hk1
  have hrz := hfp zd.toNat
  refine my_if_eq (tgt := 13) hx hb (by omega) dL_isMarked_6 (by decide) (fun bh3 => ?_) (fun bh3 => ?_)
  · refine lv_iconst (v := iI (0)) hx hb dL_isMarked_13 rfl ?_
    refine W.widen (k := 2) (n := 12) (by omega) (by omega) ?_
    have hres : iI (0) = iI (fpr zd.toNat) := congrArg iI (by
        have hrz := hfp zd.toNat
        omega)
    exact W.iret hx hb hr (fun t ht hW => ⟨⟨_, (), rfl, hres, trivial⟩, hS.F ht⟩) hS.2.2 dL_isMarked_14
  · refine lv_iconst (v := iI (1)) hx hb dL_isMarked_9 rfl ?_
    refine lv_goto (tgt := 14) hx hb dL_isMarked_10 (by decide) ?_
    refine W.widen (k := 2) (n := 12) (by omega) (by omega) ?_
    have hres : iI (1) = iI (fpr zd.toNat) := congrArg iI (by
        have hrz := hfp zd.toNat
        omega)
    exact W.iret hx hb hr (fun t ht hW => ⟨⟨_, (), rfl, hres, trivial⟩, hS.F ht⟩) hS.2.2 dL_isMarked_14

abbrev ws_L_mark : List Cond := Cond.codeWith yL_mark cL_mark 4 (some .int) [(0, 14, 15, 32), (0, 14, 19, 20)] :: ALL
set_option maxHeartbeats 4000000 in
set_option maxRecDepth 100000 in
theorem m_L_mark_no_t (l : Launch) (hst : l.stackTraces = false) (D : va_G) (cs : Nat → ClassId) (kr la ia na b4 b6 b8 b10 sh it : Nat) (lc : Int) (dy : Nat) (pct lr sr : Int) (itf : Nat → Option Nat) (zi : Int) (z0 : Int) (hit : it ≤ 5) (hitf : ∀ j, j < it → itf j ≠ none) (hzi : -2147483648 ≤ zi ∧ zi < 2147483648) (hno : cdS it zi ≠ 0) : Met l yL_mark ws_L_mark ({ frames := 8, cells := 2, slots := 12, locals := 128 }) (va_Pc [.ref kr, .int (iI (zi)), .int (iI (z0))] (PE D cs [(kr, .inr (5, [.ref la, .ref ia, .ref na, .ref b4, .ref b6, .ref b8, .ref b10, .int (iI (((sh : Nat) : Int))), .int (iI (((it : Nat) : Int))), .int (iI (lc)), .int (iI (((dy : Nat) : Int))), .int (iI (pct)), .int (iI (lr)), .int (iI (sr))])), (ia, arQ cs 2 5 itf)] noA)) (va_Qi (fun r (_ : Unit) => r = iI (exv (cdS it zi))) (fun _ _ => True) noA) 2 12 noA := by
  refine va_MetW (cc := cL_mark) (maxL := 4) (ret := some .int) (hh := [(0, 14, 15, 32), (0, 14, 19, 20)]) (by decide +kernel) rfl ?_
  intro p e s m args below meth c s₁ B hml hv
  obtain ⟨rfl, ⟨hP, hK, hD, hN⟩, hE⟩ := hv
  have hx := B.exec
  have hb := B.bytes
  have hr := B.returns
  have hts : ∀ w ∈ ALL, w.before _ s = true := fun w h => atoms_spec (ws := ws_L_mark) B.pre w (List.mem_cons_of_mem _ h)
  have hown : s.vm.findClass RL = some m.cls := findClass_of_methodNamed B.named
  have hlocks := B.notSynchronized
  have htab : c.exceptionTable.toList = tableOf [(0, 14, 15, 32), (0, 14, 19, 20)] := vx_table (x := yL_mark) B (atoms_spec (ws := ws_L_mark) B.pre _ List.mem_cons_self)
  have hS : va_S noA s.heap s.heap [] := va_S.rf
  generalize inW [(kr, .inr (5, [.ref la, .ref ia, .ref na, .ref b4, .ref b6, .ref b8, .ref b10, .int (iI (((sh : Nat) : Int))), .int (iI (((it : Nat) : Int))), .int (iI (lc)), .int (iI (((dy : Nat) : Int))), .int (iI (pct)), .int (iI (lr)), .int (iI (sr))])), (ia, arQ cs 2 5 itf)] = A at hD
  have hl := lv_entry ([.ref kr, .int (iI (zi)), .int (iI (z0))]) (n := 4) (Nat.le_of_ble_eq_true rfl)
  rw [lg_entry_eq]
  generalize (lg_sl ([.ref kr, .int (iI (zi)), .int (iI (z0))]) ++ List.replicate (4 - (lg_sl ([.ref kr, .int (iI (zi)), .int (iI (z0))])).length) Slot.unset).toArray = ls at hl ⊢
  have hl : lv_has ls 4 [(0, .ref kr), (1, .int (iI (zi))), (2, .int (iI (z0)))] := hl
  have hH := rfl (a := s.heap)
  refine lv_aload_n hx hb dL_mark_0 rfl (lv_at hl 0 rfl) ?_
  refine lv_iload_n hx hb dL_mark_1 rfl (lv_at hl 1 rfl) ?_
  refine lv_iload_n hx hb dL_mark_2 rfl (lv_at hl 2 rfl) ?_
  have pk1 : picks [(kr, .inr (5, [.ref la, .ref ia, .ref na, .ref b4, .ref b6, .ref b8, .ref b10, .int (iI (((sh : Nat) : Int))), .int (iI (((it : Nat) : Int))), .int (iI (lc)), .int (iI (((dy : Nat) : Int))), .int (iI (pct)), .int (iI (lr)), .int (iI (sr))])), (ia, arQ cs 2 5 itf)] [0, 1] [(kr, .inr (5, [.ref la, .ref ia, .ref na, .ref b4, .ref b6, .ref b8, .ref b10, .int (iI (((sh : Nat) : Int))), .int (iI (((it : Nat) : Int))), .int (iI (lc)), .int (iI (((dy : Nat) : Int))), .int (iI (pct)), .int (iI (lr)), .int (iI (sr))])), (ia, arQ cs 2 5 itf)] := ⟨rfl, rfl, trivial⟩
  refine vx_calli (vx_runV (As := [.int (iI (zi)), .int (iI (z0))]) (rest := []) ⟨hx, hb, hml, hown, hts⟩ (m_X5_mark_no l hst D cs kr la ia na b4 b6 b8 b10 sh it lc dy pct lr sr itf zi z0 (hit) (hitf) (hzi) (hno)) (cwV 2 hts (gV w_438 w_439 w_440 w_1 w_441) rfl rfl rfl (by decide +kernel) ⟨Nat.le_of_ble_eq_true rfl, Nat.le_of_ble_eq_true rfl⟩) (PE_V hK hN hE hS (fun _ h => False.elim h) hP hD [0, 1] rfl pk1 rfl rfl) rfl rfl hl.1 rfl (lv_room (Nat.le_of_ble_eq_true rfl)) dL_mark_3 ⟨Nat.le_of_ble_eq_true rfl, Nat.le_of_ble_eq_true rfl⟩) hS (fun _ _ h => False.elim h) (fun _ h => False.elim h) (fun _ _ h => False.elim h) (fun E ce q9 u t H1 locs1 ht hvm hpx hBX hz1 hk1 hS1 hce hcv hcl => ?_) (fun r u t H locs ht hvm hw hB hz1 hk1 hS => ?_)
  · have h9 : u = cdS it zi := hpx.1
    have hS := hS1
    have hcd : cdS it zi = 1 := by
      revert hno
      (try unfold cdL); (try unfold cdS); (try unfold cdC)
      (repeat' split) <;> simp
    have hEu := hBX
    have hP := P_kept hP hk1
    have hc3 := hcd
    have hE3 : E = "java/lang/IndexOutOfBoundsException" := by have h8 : E = exN u := hEu; rw [h8, h9, hc3]; rfl
    subst hE3
    refine vx_catch (name := "java/lang/IndexOutOfBoundsException") hown [] ⟨0, 14, 15, 32⟩ [⟨0, 14, 19, 20⟩] (htab.trans rfl) (fun z hz => by cases hz) rfl (by decide) (hts _ w_272) (hE.use _ (List.mem_append_right _ (List.mem_map.mpr ⟨_, List.mem_of_getElem? (i := 0) rfl, rfl⟩))) hce hcv hcl ?_
    refine lv_astore_n (lv' := [(3, .ref q9), (0, .ref kr), (1, .int (iI (zi))), (2, .int (iI (z0)))]) hx hb dL_mark_15 rfl hl (by decide) rfl (fun ls hl => ?_)
    refine lv_bipush (v := iI (-77)) hx hb dL_mark_16 (by decide) ?_
    refine W.widen (k := 2) (n := 12) (by omega) (by omega) ?_
    have hres : iI (-77) = iI (exv (cdS it zi)) := congrArg iI (by
        rw [hc3]; rfl)
    exact W.iret hx hb hr (fun t ht hW => ⟨⟨_, (), rfl, hres, trivial⟩, hS.F ht⟩) hS.2.2 dL_mark_18
  obtain ⟨hc2, hw⟩ := hw
  subst hw
  have hP := P_kept hP hk1
  exact absurd hc2 hno

set_option maxHeartbeats 4000000 in
set_option maxRecDepth 100000 in
theorem m_L_mark_ok_r (l : Launch) (hst : l.stackTraces = false) (D : va_G) (cs : Nat → ClassId) (kr la ia na b4 b6 b8 b10 sh it : Nat) (lc : Int) (dy : Nat) (pct lr sr : Int) (itf : Nat → Option Nat) (tn : Nat) (hi ti go pr : Nat) (pk fs st : Int) (upr : Nat) (fpr : Nat → Int) (zd : Int) (hit : it ≤ 5) (hitf : ∀ j, j < it → itf j ≠ none) (htn : tn < it) (hitn : itf tn = some hi) (hfp : ∀ j, 0 ≤ fpr j ∧ fpr j ≤ 1) (hd : dy < 1000) (hzd : -2147483648 ≤ zd ∧ zd < 2147483648) (hz : (if zd < (dy : Int) ∨ 999 < zd then 3 else 0) = 0) : Met l yL_mark ws_L_mark ({ frames := 8, cells := 2, slots := 12, locals := 128 }) (va_Pc [.ref kr, .int (iI (((tn : Nat) : Int))), .int (iI (zd))] (PE D cs [(kr, .inr (5, [.ref la, .ref ia, .ref na, .ref b4, .ref b6, .ref b8, .ref b10, .int (iI (((sh : Nat) : Int))), .int (iI (((it : Nat) : Int))), .int (iI (lc)), .int (iI (((dy : Nat) : Int))), .int (iI (pct)), .int (iI (lr)), .int (iI (sr))])), (ia, arQ cs 2 5 itf), (hi, .inr (1, [.int (iI (pk)), .int (iI (fs)), .ref ti, .ref go, .ref pr, .int (iI (st))])), (pr, .inr (0, [.ref upr])), (upr, arI cs 1005 fpr)] (inW [(kr, .inr (5, [.ref la, .ref ia, .ref na, .ref b4, .ref b6, .ref b8, .ref b10, .int (iI (((sh : Nat) : Int))), .int (iI (((it : Nat) : Int))), .int (iI (lc)), .int (iI (((dy : Nat) : Int))), .int (iI (pct)), .int (iI (lr)), .int (iI (sr))])), (ia, arQ cs 2 5 itf), (hi, .inr (1, [.int (iI (pk)), .int (iI (fs)), .ref ti, .ref go, .ref pr, .int (iI (st))])), (pr, .inr (0, [.ref upr])), (upr, arI cs 1005 fpr)]))) (va_Qi (fun r (_ : Unit) => r = iI (fpr zd.toNat)) (fun _ t => va_P D vwCl [(kr, .inr (5, [.ref la, .ref ia, .ref na, .ref b4, .ref b6, .ref b8, .ref b10, .int (iI (((sh : Nat) : Int))), .int (iI (((it : Nat) : Int))), .int (iI (lc)), .int (iI (((dy : Nat) : Int))), .int (iI (pct)), .int (iI (lr)), .int (iI (sr))])), (ia, arQ cs 2 5 itf), (hi, .inr (1, [.int (iI (pk)), .int (iI (fs)), .ref ti, .ref go, .ref pr, .int (iI (st))])), (pr, .inr (0, [.ref upr])), (upr, arI cs 1005 (upI fpr zd.toNat 1))] t.heap) (inW [(kr, .inr (5, [.ref la, .ref ia, .ref na, .ref b4, .ref b6, .ref b8, .ref b10, .int (iI (((sh : Nat) : Int))), .int (iI (((it : Nat) : Int))), .int (iI (lc)), .int (iI (((dy : Nat) : Int))), .int (iI (pct)), .int (iI (lr)), .int (iI (sr))])), (ia, arQ cs 2 5 itf), (hi, .inr (1, [.int (iI (pk)), .int (iI (fs)), .ref ti, .ref go, .ref pr, .int (iI (st))])), (pr, .inr (0, [.ref upr])), (upr, arI cs 1005 fpr)])) 2 12 (inW [(kr, .inr (5, [.ref la, .ref ia, .ref na, .ref b4, .ref b6, .ref b8, .ref b10, .int (iI (((sh : Nat) : Int))), .int (iI (((it : Nat) : Int))), .int (iI (lc)), .int (iI (((dy : Nat) : Int))), .int (iI (pct)), .int (iI (lr)), .int (iI (sr))])), (ia, arQ cs 2 5 itf), (hi, .inr (1, [.int (iI (pk)), .int (iI (fs)), .ref ti, .ref go, .ref pr, .int (iI (st))])), (pr, .inr (0, [.ref upr])), (upr, arI cs 1005 fpr)]) := by
  refine va_MetW (cc := cL_mark) (maxL := 4) (ret := some .int) (hh := [(0, 14, 15, 32), (0, 14, 19, 20)]) (by decide +kernel) rfl ?_
  intro p e s m args below meth c s₁ B hml hv
  obtain ⟨rfl, ⟨hP, hK, hD, hN⟩, hE⟩ := hv
  have hx := B.exec
  have hb := B.bytes
  have hr := B.returns
  have hts : ∀ w ∈ ALL, w.before _ s = true := fun w h => atoms_spec (ws := ws_L_mark) B.pre w (List.mem_cons_of_mem _ h)
  have hown : s.vm.findClass RL = some m.cls := findClass_of_methodNamed B.named
  have hlocks := B.notSynchronized
  have htab : c.exceptionTable.toList = tableOf [(0, 14, 15, 32), (0, 14, 19, 20)] := vx_table (x := yL_mark) B (atoms_spec (ws := ws_L_mark) B.pre _ List.mem_cons_self)
  generalize hAe : inW [(kr, .inr (5, [.ref la, .ref ia, .ref na, .ref b4, .ref b6, .ref b8, .ref b10, .int (iI (((sh : Nat) : Int))), .int (iI (((it : Nat) : Int))), .int (iI (lc)), .int (iI (((dy : Nat) : Int))), .int (iI (pct)), .int (iI (lr)), .int (iI (sr))])), (ia, arQ cs 2 5 itf), (hi, .inr (1, [.int (iI (pk)), .int (iI (fs)), .ref ti, .ref go, .ref pr, .int (iI (st))])), (pr, .inr (0, [.ref upr])), (upr, arI cs 1005 fpr)] = A at hD hE ⊢
  have hS : va_S A s.heap s.heap [] := va_S.rf
  have hl := lv_entry ([.ref kr, .int (iI (((tn : Nat) : Int))), .int (iI (zd))]) (n := 4) (Nat.le_of_ble_eq_true rfl)
  rw [lg_entry_eq]
  generalize (lg_sl ([.ref kr, .int (iI (((tn : Nat) : Int))), .int (iI (zd))]) ++ List.replicate (4 - (lg_sl ([.ref kr, .int (iI (((tn : Nat) : Int))), .int (iI (zd))])).length) Slot.unset).toArray = ls at hl ⊢
  have hl : lv_has ls 4 [(0, .ref kr), (1, .int (iI (((tn : Nat) : Int)))), (2, .int (iI (zd)))] := hl
  have hH := rfl (a := s.heap)
  refine lv_aload_n hx hb dL_mark_0 rfl (lv_at hl 0 rfl) ?_
  refine lv_iload_n hx hb dL_mark_1 rfl (lv_at hl 1 rfl) ?_
  refine lv_iload_n hx hb dL_mark_2 rfl (lv_at hl 2 rfl) ?_
  have pk1 : picks [(kr, .inr (5, [.ref la, .ref ia, .ref na, .ref b4, .ref b6, .ref b8, .ref b10, .int (iI (((sh : Nat) : Int))), .int (iI (((it : Nat) : Int))), .int (iI (lc)), .int (iI (((dy : Nat) : Int))), .int (iI (pct)), .int (iI (lr)), .int (iI (sr))])), (ia, arQ cs 2 5 itf), (hi, .inr (1, [.int (iI (pk)), .int (iI (fs)), .ref ti, .ref go, .ref pr, .int (iI (st))])), (pr, .inr (0, [.ref upr])), (upr, arI cs 1005 fpr)] [0, 1, 2, 3, 4] [(kr, .inr (5, [.ref la, .ref ia, .ref na, .ref b4, .ref b6, .ref b8, .ref b10, .int (iI (((sh : Nat) : Int))), .int (iI (((it : Nat) : Int))), .int (iI (lc)), .int (iI (((dy : Nat) : Int))), .int (iI (pct)), .int (iI (lr)), .int (iI (sr))])), (ia, arQ cs 2 5 itf), (hi, .inr (1, [.int (iI (pk)), .int (iI (fs)), .ref ti, .ref go, .ref pr, .int (iI (st))])), (pr, .inr (0, [.ref upr])), (upr, arI cs 1005 fpr)] := ⟨rfl, rfl, rfl, rfl, rfl, trivial⟩
  refine vx_calli (vx_runV (As := [.int (iI (((tn : Nat) : Int))), .int (iI (zd))]) (rest := []) ⟨hx, hb, hml, hown, hts⟩ (m_X5_mark_ok l hst D cs kr la ia na b4 b6 b8 b10 sh it lc dy pct lr sr itf tn hi ti go pr pk fs st upr fpr zd (hit) (hitf) (htn) (hitn) (hfp) (hd) (hzd)) (cwV 2 hts (gV w_438 w_439 w_440 w_1 w_441) rfl rfl rfl (by decide +kernel) ⟨Nat.le_of_ble_eq_true rfl, Nat.le_of_ble_eq_true rfl⟩) (PE_V hK hN hE hS (fun q h => inW_sub hD [0, 1, 2, 3, 4] pk1 q h) hP hD [0, 1, 2, 3, 4] rfl pk1 rfl rfl) rfl rfl hl.1 rfl (lv_room (Nat.le_of_ble_eq_true rfl)) dL_mark_3 ⟨Nat.le_of_ble_eq_true rfl, Nat.le_of_ble_eq_true rfl⟩) hS (fun q _ h => inW_sub hD [0, 1, 2, 3, 4] pk1 q h) (fun q h => inW_sub hD [0, 1, 2, 3, 4] pk1 q h) (fun q _ h => inW_sub hD [0, 1, 2, 3, 4] pk1 q h) (fun E ce q9 u t H1 locs1 ht hvm hpx hBX hz1 hk1 hS1 hce hcv hcl => ?_) (fun r u t H locs ht hvm hw hB hz1 hk1 hS => ?_)
  · exact absurd (hpx.1.trans hz) hpx.2
  obtain ⟨hc2, hw⟩ := hw
  subst hw
  rw [ht] at hB
  obtain ⟨hP, hD⟩ := my_join (W1 := [(kr, .inr (5, [.ref la, .ref ia, .ref na, .ref b4, .ref b6, .ref b8, .ref b10, .int (iI (((sh : Nat) : Int))), .int (iI (((it : Nat) : Int))), .int (iI (lc)), .int (iI (((dy : Nat) : Int))), .int (iI (pct)), .int (iI (lr)), .int (iI (sr))])), (ia, arQ cs 2 5 itf), (hi, .inr (1, [.int (iI (pk)), .int (iI (fs)), .ref ti, .ref go, .ref pr, .int (iI (st))])), (pr, .inr (0, [.ref upr])), (upr, arI cs 1005 (upI fpr zd.toNat 1))]) hP hD [0, 1, 2, 3, 4] rfl pk1 rfl hk1 hB
  have hP : va_P D vwCl [(kr, .inr (5, [.ref la, .ref ia, .ref na, .ref b4, .ref b6, .ref b8, .ref b10, .int (iI (((sh : Nat) : Int))), .int (iI (((it : Nat) : Int))), .int (iI (lc)), .int (iI (((dy : Nat) : Int))), .int (iI (pct)), .int (iI (lr)), .int (iI (sr))])), (ia, arQ cs 2 5 itf), (hi, .inr (1, [.int (iI (pk)), .int (iI (fs)), .ref ti, .ref go, .ref pr, .int (iI (st))])), (pr, .inr (0, [.ref upr])), (upr, arI cs 1005 (upI fpr zd.toNat 1))] H := hP
  have hD : va_D A [(kr, .inr (5, [.ref la, .ref ia, .ref na, .ref b4, .ref b6, .ref b8, .ref b10, .int (iI (((sh : Nat) : Int))), .int (iI (((it : Nat) : Int))), .int (iI (lc)), .int (iI (((dy : Nat) : Int))), .int (iI (pct)), .int (iI (lr)), .int (iI (sr))])), (ia, arQ cs 2 5 itf), (hi, .inr (1, [.int (iI (pk)), .int (iI (fs)), .ref ti, .ref go, .ref pr, .int (iI (st))])), (pr, .inr (0, [.ref upr])), (upr, arI cs 1005 (upI fpr zd.toNat 1))] := hD
  have hrz := hfp zd.toNat
  refine my_if_eq (tgt := 13) hx hb (by omega) dL_mark_6 (by decide) (fun bh3 => ?_) (fun bh3 => ?_)
  · refine lv_iconst (v := iI (0)) hx hb dL_mark_13 rfl ?_
    subst hAe
    refine W.widen (k := 2) (n := 12) (by omega) (by omega) ?_
    have hres : iI (0) = iI (fpr zd.toNat) := congrArg iI (by
        have hrz := hfp zd.toNat
        omega)
    exact W.iret hx hb hr (fun t ht hW => ⟨⟨_, (), rfl, hres, by show va_P D vwCl _ t.heap; rw [ht]; exact hP⟩, hS.F ht⟩) hS.2.2 dL_mark_14
  · refine lv_iconst (v := iI (1)) hx hb dL_mark_9 rfl ?_
    refine lv_goto (tgt := 14) hx hb dL_mark_10 (by decide) ?_
    subst hAe
    refine W.widen (k := 2) (n := 12) (by omega) (by omega) ?_
    have hres : iI (1) = iI (fpr zd.toNat) := congrArg iI (by
        have hrz := hfp zd.toNat
        omega)
    exact W.iret hx hb hr (fun t ht hW => ⟨⟨_, (), rfl, hres, by show va_P D vwCl _ t.heap; rw [ht]; exact hP⟩, hS.F ht⟩) hS.2.2 dL_mark_14

set_option maxHeartbeats 4000000 in
set_option maxRecDepth 100000 in
theorem m_L_mark_ok_t (l : Launch) (hst : l.stackTraces = false) (D : va_G) (cs : Nat → ClassId) (kr la ia na b4 b6 b8 b10 sh it : Nat) (lc : Int) (dy : Nat) (pct lr sr : Int) (itf : Nat → Option Nat) (tn : Nat) (hi ti go pr : Nat) (pk fs st : Int) (upr : Nat) (fpr : Nat → Int) (zd : Int) (hit : it ≤ 5) (hitf : ∀ j, j < it → itf j ≠ none) (htn : tn < it) (hitn : itf tn = some hi) (hfp : ∀ j, 0 ≤ fpr j ∧ fpr j ≤ 1) (hd : dy < 1000) (hzd : -2147483648 ≤ zd ∧ zd < 2147483648) (hne : (if zd < (dy : Int) ∨ 999 < zd then 3 else 0) ≠ 0) : Met l yL_mark ws_L_mark ({ frames := 8, cells := 2, slots := 12, locals := 128 }) (va_Pc [.ref kr, .int (iI (((tn : Nat) : Int))), .int (iI (zd))] (PE D cs [(kr, .inr (5, [.ref la, .ref ia, .ref na, .ref b4, .ref b6, .ref b8, .ref b10, .int (iI (((sh : Nat) : Int))), .int (iI (((it : Nat) : Int))), .int (iI (lc)), .int (iI (((dy : Nat) : Int))), .int (iI (pct)), .int (iI (lr)), .int (iI (sr))])), (ia, arQ cs 2 5 itf), (hi, .inr (1, [.int (iI (pk)), .int (iI (fs)), .ref ti, .ref go, .ref pr, .int (iI (st))])), (pr, .inr (0, [.ref upr])), (upr, arI cs 1005 fpr)] (inW [(kr, .inr (5, [.ref la, .ref ia, .ref na, .ref b4, .ref b6, .ref b8, .ref b10, .int (iI (((sh : Nat) : Int))), .int (iI (((it : Nat) : Int))), .int (iI (lc)), .int (iI (((dy : Nat) : Int))), .int (iI (pct)), .int (iI (lr)), .int (iI (sr))])), (ia, arQ cs 2 5 itf), (hi, .inr (1, [.int (iI (pk)), .int (iI (fs)), .ref ti, .ref go, .ref pr, .int (iI (st))])), (pr, .inr (0, [.ref upr])), (upr, arI cs 1005 fpr)]))) (va_Qi (fun r (_ : Unit) => r = iI (exv (if zd < (dy : Int) ∨ 999 < zd then 3 else 0))) (fun _ t => va_P D vwCl [(kr, .inr (5, [.ref la, .ref ia, .ref na, .ref b4, .ref b6, .ref b8, .ref b10, .int (iI (((sh : Nat) : Int))), .int (iI (((it : Nat) : Int))), .int (iI (lc)), .int (iI (((dy : Nat) : Int))), .int (iI (pct)), .int (iI (lr)), .int (iI (sr))])), (ia, arQ cs 2 5 itf), (hi, .inr (1, [.int (iI (pk)), .int (iI (fs)), .ref ti, .ref go, .ref pr, .int (iI (st))])), (pr, .inr (0, [.ref upr])), (upr, arI cs 1005 fpr)] t.heap) (inW [(kr, .inr (5, [.ref la, .ref ia, .ref na, .ref b4, .ref b6, .ref b8, .ref b10, .int (iI (((sh : Nat) : Int))), .int (iI (((it : Nat) : Int))), .int (iI (lc)), .int (iI (((dy : Nat) : Int))), .int (iI (pct)), .int (iI (lr)), .int (iI (sr))])), (ia, arQ cs 2 5 itf), (hi, .inr (1, [.int (iI (pk)), .int (iI (fs)), .ref ti, .ref go, .ref pr, .int (iI (st))])), (pr, .inr (0, [.ref upr])), (upr, arI cs 1005 fpr)])) 2 12 (inW [(kr, .inr (5, [.ref la, .ref ia, .ref na, .ref b4, .ref b6, .ref b8, .ref b10, .int (iI (((sh : Nat) : Int))), .int (iI (((it : Nat) : Int))), .int (iI (lc)), .int (iI (((dy : Nat) : Int))), .int (iI (pct)), .int (iI (lr)), .int (iI (sr))])), (ia, arQ cs 2 5 itf), (hi, .inr (1, [.int (iI (pk)), .int (iI (fs)), .ref ti, .ref go, .ref pr, .int (iI (st))])), (pr, .inr (0, [.ref upr])), (upr, arI cs 1005 fpr)]) := by
  refine va_MetW (cc := cL_mark) (maxL := 4) (ret := some .int) (hh := [(0, 14, 15, 32), (0, 14, 19, 20)]) (by decide +kernel) rfl ?_
  intro p e s m args below meth c s₁ B hml hv
  obtain ⟨rfl, ⟨hP, hK, hD, hN⟩, hE⟩ := hv
  have hx := B.exec
  have hb := B.bytes
  have hr := B.returns
  have hts : ∀ w ∈ ALL, w.before _ s = true := fun w h => atoms_spec (ws := ws_L_mark) B.pre w (List.mem_cons_of_mem _ h)
  have hown : s.vm.findClass RL = some m.cls := findClass_of_methodNamed B.named
  have hlocks := B.notSynchronized
  have htab : c.exceptionTable.toList = tableOf [(0, 14, 15, 32), (0, 14, 19, 20)] := vx_table (x := yL_mark) B (atoms_spec (ws := ws_L_mark) B.pre _ List.mem_cons_self)
  generalize hAe : inW [(kr, .inr (5, [.ref la, .ref ia, .ref na, .ref b4, .ref b6, .ref b8, .ref b10, .int (iI (((sh : Nat) : Int))), .int (iI (((it : Nat) : Int))), .int (iI (lc)), .int (iI (((dy : Nat) : Int))), .int (iI (pct)), .int (iI (lr)), .int (iI (sr))])), (ia, arQ cs 2 5 itf), (hi, .inr (1, [.int (iI (pk)), .int (iI (fs)), .ref ti, .ref go, .ref pr, .int (iI (st))])), (pr, .inr (0, [.ref upr])), (upr, arI cs 1005 fpr)] = A at hD hE ⊢
  have hS : va_S A s.heap s.heap [] := va_S.rf
  have hl := lv_entry ([.ref kr, .int (iI (((tn : Nat) : Int))), .int (iI (zd))]) (n := 4) (Nat.le_of_ble_eq_true rfl)
  rw [lg_entry_eq]
  generalize (lg_sl ([.ref kr, .int (iI (((tn : Nat) : Int))), .int (iI (zd))]) ++ List.replicate (4 - (lg_sl ([.ref kr, .int (iI (((tn : Nat) : Int))), .int (iI (zd))])).length) Slot.unset).toArray = ls at hl ⊢
  have hl : lv_has ls 4 [(0, .ref kr), (1, .int (iI (((tn : Nat) : Int)))), (2, .int (iI (zd)))] := hl
  have hH := rfl (a := s.heap)
  refine lv_aload_n hx hb dL_mark_0 rfl (lv_at hl 0 rfl) ?_
  refine lv_iload_n hx hb dL_mark_1 rfl (lv_at hl 1 rfl) ?_
  refine lv_iload_n hx hb dL_mark_2 rfl (lv_at hl 2 rfl) ?_
  have pk1 : picks [(kr, .inr (5, [.ref la, .ref ia, .ref na, .ref b4, .ref b6, .ref b8, .ref b10, .int (iI (((sh : Nat) : Int))), .int (iI (((it : Nat) : Int))), .int (iI (lc)), .int (iI (((dy : Nat) : Int))), .int (iI (pct)), .int (iI (lr)), .int (iI (sr))])), (ia, arQ cs 2 5 itf), (hi, .inr (1, [.int (iI (pk)), .int (iI (fs)), .ref ti, .ref go, .ref pr, .int (iI (st))])), (pr, .inr (0, [.ref upr])), (upr, arI cs 1005 fpr)] [0, 1, 2, 3, 4] [(kr, .inr (5, [.ref la, .ref ia, .ref na, .ref b4, .ref b6, .ref b8, .ref b10, .int (iI (((sh : Nat) : Int))), .int (iI (((it : Nat) : Int))), .int (iI (lc)), .int (iI (((dy : Nat) : Int))), .int (iI (pct)), .int (iI (lr)), .int (iI (sr))])), (ia, arQ cs 2 5 itf), (hi, .inr (1, [.int (iI (pk)), .int (iI (fs)), .ref ti, .ref go, .ref pr, .int (iI (st))])), (pr, .inr (0, [.ref upr])), (upr, arI cs 1005 fpr)] := ⟨rfl, rfl, rfl, rfl, rfl, trivial⟩
  refine vx_calli (vx_runV (As := [.int (iI (((tn : Nat) : Int))), .int (iI (zd))]) (rest := []) ⟨hx, hb, hml, hown, hts⟩ (m_X5_mark_ok l hst D cs kr la ia na b4 b6 b8 b10 sh it lc dy pct lr sr itf tn hi ti go pr pk fs st upr fpr zd (hit) (hitf) (htn) (hitn) (hfp) (hd) (hzd)) (cwV 2 hts (gV w_438 w_439 w_440 w_1 w_441) rfl rfl rfl (by decide +kernel) ⟨Nat.le_of_ble_eq_true rfl, Nat.le_of_ble_eq_true rfl⟩) (PE_V hK hN hE hS (fun q h => inW_sub hD [0, 1, 2, 3, 4] pk1 q h) hP hD [0, 1, 2, 3, 4] rfl pk1 rfl rfl) rfl rfl hl.1 rfl (lv_room (Nat.le_of_ble_eq_true rfl)) dL_mark_3 ⟨Nat.le_of_ble_eq_true rfl, Nat.le_of_ble_eq_true rfl⟩) hS (fun q _ h => inW_sub hD [0, 1, 2, 3, 4] pk1 q h) (fun q h => inW_sub hD [0, 1, 2, 3, 4] pk1 q h) (fun q _ h => inW_sub hD [0, 1, 2, 3, 4] pk1 q h) (fun E ce q9 u t H1 locs1 ht hvm hpx hBX hz1 hk1 hS1 hce hcv hcl => ?_) (fun r u t H locs ht hvm hw hB hz1 hk1 hS => ?_)
  · have h9 : u = (if zd < (dy : Int) ∨ 999 < zd then 3 else 0) := hpx.1
    have hS := hS1
    have hcd : (if zd < (dy : Int) ∨ 999 < zd then 3 else 0) = 3 := by
      revert hne
      (try unfold cdL); (try unfold cdS); (try unfold cdC)
      (repeat' split) <;> simp
    obtain ⟨hEu, hBX⟩ := hBX
    rw [ht] at hBX
    obtain ⟨hP, hD⟩ := my_join (Wc := [(kr, .inr (5, [.ref la, .ref ia, .ref na, .ref b4, .ref b6, .ref b8, .ref b10, .int (iI (((sh : Nat) : Int))), .int (iI (((it : Nat) : Int))), .int (iI (lc)), .int (iI (((dy : Nat) : Int))), .int (iI (pct)), .int (iI (lr)), .int (iI (sr))])), (ia, arQ cs 2 5 itf), (hi, .inr (1, [.int (iI (pk)), .int (iI (fs)), .ref ti, .ref go, .ref pr, .int (iI (st))])), (pr, .inr (0, [.ref upr])), (upr, arI cs 1005 fpr)]) (W1 := [(kr, .inr (5, [.ref la, .ref ia, .ref na, .ref b4, .ref b6, .ref b8, .ref b10, .int (iI (((sh : Nat) : Int))), .int (iI (((it : Nat) : Int))), .int (iI (lc)), .int (iI (((dy : Nat) : Int))), .int (iI (pct)), .int (iI (lr)), .int (iI (sr))])), (ia, arQ cs 2 5 itf), (hi, .inr (1, [.int (iI (pk)), .int (iI (fs)), .ref ti, .ref go, .ref pr, .int (iI (st))])), (pr, .inr (0, [.ref upr])), (upr, arI cs 1005 fpr)]) hP hD [0, 1, 2, 3, 4] rfl (⟨rfl, rfl, rfl, rfl, rfl, trivial⟩) rfl hk1 hBX
    have hP : va_P D vwCl [(kr, .inr (5, [.ref la, .ref ia, .ref na, .ref b4, .ref b6, .ref b8, .ref b10, .int (iI (((sh : Nat) : Int))), .int (iI (((it : Nat) : Int))), .int (iI (lc)), .int (iI (((dy : Nat) : Int))), .int (iI (pct)), .int (iI (lr)), .int (iI (sr))])), (ia, arQ cs 2 5 itf), (hi, .inr (1, [.int (iI (pk)), .int (iI (fs)), .ref ti, .ref go, .ref pr, .int (iI (st))])), (pr, .inr (0, [.ref upr])), (upr, arI cs 1005 fpr)] H1 := hP
    have hD : va_D A [(kr, .inr (5, [.ref la, .ref ia, .ref na, .ref b4, .ref b6, .ref b8, .ref b10, .int (iI (((sh : Nat) : Int))), .int (iI (((it : Nat) : Int))), .int (iI (lc)), .int (iI (((dy : Nat) : Int))), .int (iI (pct)), .int (iI (lr)), .int (iI (sr))])), (ia, arQ cs 2 5 itf), (hi, .inr (1, [.int (iI (pk)), .int (iI (fs)), .ref ti, .ref go, .ref pr, .int (iI (st))])), (pr, .inr (0, [.ref upr])), (upr, arI cs 1005 fpr)] := hD
    have hc3 := hcd
    have hE3 : E = "java/lang/IllegalArgumentException" := by have h8 : E = exN u := hEu; rw [h8, h9, hc3]; rfl
    subst hE3
    refine vx_catch (name := "java/lang/IllegalArgumentException") hown [⟨0, 14, 15, 32⟩] ⟨0, 14, 19, 20⟩ [] (htab.trans rfl) (fun z hz => by
        simp only [List.mem_cons, List.not_mem_nil, or_false] at hz
        rcases hz with rfl
        · exact Or.inr ⟨by decide, "java/lang/IndexOutOfBoundsException", hts _ w_272, hE.2.2.2.2.2 _ (List.mem_of_getElem? (i := 8) rfl)⟩) rfl (by decide) (hts _ w_138) (hE.use _ (List.mem_append_right _ (List.mem_map.mpr ⟨_, List.mem_of_getElem? (i := 2) rfl, rfl⟩))) hce hcv hcl ?_
    refine lv_astore_n (lv' := [(3, .ref q9), (0, .ref kr), (1, .int (iI (((tn : Nat) : Int)))), (2, .int (iI (zd)))]) hx hb dL_mark_19 rfl hl (by decide) rfl (fun ls hl => ?_)
    refine lv_bipush (v := iI (-78)) hx hb dL_mark_20 (by decide) ?_
    subst hAe
    refine W.widen (k := 2) (n := 12) (by omega) (by omega) ?_
    have hres : iI (-78) = iI (exv (if zd < (dy : Int) ∨ 999 < zd then 3 else 0)) := congrArg iI (by
        rw [hc3]; rfl)
    exact W.iret hx hb hr (fun t ht hW => ⟨⟨_, (), rfl, hres, by show va_P D vwCl _ t.heap; rw [ht]; exact hP⟩, hS.F ht⟩) hS.2.2 dL_mark_22
  obtain ⟨hc2, hw⟩ := hw
  subst hw
  rw [ht] at hB
  obtain ⟨hP, hD⟩ := my_join (W1 := [(kr, .inr (5, [.ref la, .ref ia, .ref na, .ref b4, .ref b6, .ref b8, .ref b10, .int (iI (((sh : Nat) : Int))), .int (iI (((it : Nat) : Int))), .int (iI (lc)), .int (iI (((dy : Nat) : Int))), .int (iI (pct)), .int (iI (lr)), .int (iI (sr))])), (ia, arQ cs 2 5 itf), (hi, .inr (1, [.int (iI (pk)), .int (iI (fs)), .ref ti, .ref go, .ref pr, .int (iI (st))])), (pr, .inr (0, [.ref upr])), (upr, arI cs 1005 (upI fpr zd.toNat 1))]) hP hD [0, 1, 2, 3, 4] rfl pk1 rfl hk1 hB
  have hP : va_P D vwCl [(kr, .inr (5, [.ref la, .ref ia, .ref na, .ref b4, .ref b6, .ref b8, .ref b10, .int (iI (((sh : Nat) : Int))), .int (iI (((it : Nat) : Int))), .int (iI (lc)), .int (iI (((dy : Nat) : Int))), .int (iI (pct)), .int (iI (lr)), .int (iI (sr))])), (ia, arQ cs 2 5 itf), (hi, .inr (1, [.int (iI (pk)), .int (iI (fs)), .ref ti, .ref go, .ref pr, .int (iI (st))])), (pr, .inr (0, [.ref upr])), (upr, arI cs 1005 (upI fpr zd.toNat 1))] H := hP
  have hD : va_D A [(kr, .inr (5, [.ref la, .ref ia, .ref na, .ref b4, .ref b6, .ref b8, .ref b10, .int (iI (((sh : Nat) : Int))), .int (iI (((it : Nat) : Int))), .int (iI (lc)), .int (iI (((dy : Nat) : Int))), .int (iI (pct)), .int (iI (lr)), .int (iI (sr))])), (ia, arQ cs 2 5 itf), (hi, .inr (1, [.int (iI (pk)), .int (iI (fs)), .ref ti, .ref go, .ref pr, .int (iI (st))])), (pr, .inr (0, [.ref upr])), (upr, arI cs 1005 (upI fpr zd.toNat 1))] := hD
  exact absurd hc2 hne

abbrev ws_L_addItem : List Cond := Cond.codeWith yL_addItem cL_addItem 4 (some .int) [(0, 6, 7, 20), (0, 6, 11, 22)] :: ALL
set_option maxHeartbeats 4000000 in
set_option maxRecDepth 100000 in
theorem m_L_addItem_ok_r (l : Launch) (hst : l.stackTraces = false) (D : va_G) (cs : Nat → ClassId) (kr la ia na b4 b6 b8 b10 sh it : Nat) (lc : Int) (dy : Nat) (pct lr sr : Int) (itf : Nat → Option Nat) (zp zs : Int) (sz : Nat) (hzp : -2147483648 ≤ zp ∧ zp < 2147483648) (hzs : -2147483648 ≤ zs ∧ zs < 2147483648) (hok1 : 1 ≤ zp ∧ zp ≤ 50) (hok2 : 0 ≤ zs ∧ zs ≤ 9999) (hit : it < 5) : Met l yL_addItem ws_L_addItem ({ frames := 4, cells := 7, slots := 3024, locals := 76 }) (va_Pc [.ref kr, .int (iI (zp)), .int (iI (zs))] (fun U => U.heap.size = sz ∧ PE D cs [(kr, .inr (5, [.ref la, .ref ia, .ref na, .ref b4, .ref b6, .ref b8, .ref b10, .int (iI (((sh : Nat) : Int))), .int (iI (((it : Nat) : Int))), .int (iI (lc)), .int (iI (((dy : Nat) : Int))), .int (iI (pct)), .int (iI (lr)), .int (iI (sr))])), (ia, arQ cs 2 5 itf)] (va_A [(kr, .inr (5, [.ref la, .ref ia, .ref na, .ref b4, .ref b6, .ref b8, .ref b10, .int (iI (((sh : Nat) : Int))), .int (iI (((it : Nat) : Int))), .int (iI (lc)), .int (iI (((dy : Nat) : Int))), .int (iI (pct)), .int (iI (lr)), .int (iI (sr))])), (ia, arQ cs 2 5 itf)] sz) U)) (va_Qi (fun r (_ : Nat → Nat) => r = iI (((it : Nat) : Int))) (fun u t => va_P D vwCl [(kr, .inr (5, [.ref la, .ref ia, .ref na, .ref b4, .ref b6, .ref b8, .ref b10, .int (iI (((sh : Nat) : Int))), .int (iI ((((it + 1) : Nat) : Int))), .int (iI (lc)), .int (iI (((dy : Nat) : Int))), .int (iI (pct)), .int (iI (lr)), .int (iI (sr))])), (ia, arQ cs 2 5 (va_up itf it (some (u 0)))), (u 0, .inr (1, [.int (iI (zp)), .int (iI (zs)), .ref (u 1), .ref (u 3), .ref (u 5), .int (iI (zs))])), (u 1, .inr (0, [.ref (u 2)])), (u 2, arI cs 1005 (fun _ => 0)), (u 3, .inr (0, [.ref (u 4)])), (u 4, arI cs 1005 (fun _ => 0)), (u 5, .inr (0, [.ref (u 6)])), (u 6, arI cs 1005 (fun _ => 0))] t.heap ∧ va_D (va_A [(kr, .inr (5, [.ref la, .ref ia, .ref na, .ref b4, .ref b6, .ref b8, .ref b10, .int (iI (((sh : Nat) : Int))), .int (iI (((it : Nat) : Int))), .int (iI (lc)), .int (iI (((dy : Nat) : Int))), .int (iI (pct)), .int (iI (lr)), .int (iI (sr))])), (ia, arQ cs 2 5 itf)] sz) [(kr, .inr (5, [.ref la, .ref ia, .ref na, .ref b4, .ref b6, .ref b8, .ref b10, .int (iI (((sh : Nat) : Int))), .int (iI ((((it + 1) : Nat) : Int))), .int (iI (lc)), .int (iI (((dy : Nat) : Int))), .int (iI (pct)), .int (iI (lr)), .int (iI (sr))])), (ia, arQ cs 2 5 (va_up itf it (some (u 0)))), (u 0, .inr (1, [.int (iI (zp)), .int (iI (zs)), .ref (u 1), .ref (u 3), .ref (u 5), .int (iI (zs))])), (u 1, .inr (0, [.ref (u 2)])), (u 2, arI cs 1005 (fun _ => 0)), (u 3, .inr (0, [.ref (u 4)])), (u 4, arI cs 1005 (fun _ => 0)), (u 5, .inr (0, [.ref (u 6)])), (u 6, arI cs 1005 (fun _ => 0))]) (va_A [(kr, .inr (5, [.ref la, .ref ia, .ref na, .ref b4, .ref b6, .ref b8, .ref b10, .int (iI (((sh : Nat) : Int))), .int (iI (((it : Nat) : Int))), .int (iI (lc)), .int (iI (((dy : Nat) : Int))), .int (iI (pct)), .int (iI (lr)), .int (iI (sr))])), (ia, arQ cs 2 5 itf)] sz)) 7 3024 (va_A [(kr, .inr (5, [.ref la, .ref ia, .ref na, .ref b4, .ref b6, .ref b8, .ref b10, .int (iI (((sh : Nat) : Int))), .int (iI (((it : Nat) : Int))), .int (iI (lc)), .int (iI (((dy : Nat) : Int))), .int (iI (pct)), .int (iI (lr)), .int (iI (sr))])), (ia, arQ cs 2 5 itf)] sz) := by
  refine va_MetW (cc := cL_addItem) (maxL := 4) (ret := some .int) (hh := [(0, 6, 7, 20), (0, 6, 11, 22)]) (by decide +kernel) rfl ?_
  intro p e s m args below meth c s₁ B hml hv
  obtain ⟨rfl, hsz, ⟨hP, hK, hD, hN⟩, hE⟩ := hv
  subst hsz
  have hx := B.exec
  have hb := B.bytes
  have hr := B.returns
  have hts : ∀ w ∈ ALL, w.before _ s = true := fun w h => atoms_spec (ws := ws_L_addItem) B.pre w (List.mem_cons_of_mem _ h)
  have hown : s.vm.findClass RL = some m.cls := findClass_of_methodNamed B.named
  have hlocks := B.notSynchronized
  have htab : c.exceptionTable.toList = tableOf [(0, 6, 7, 20), (0, 6, 11, 22)] := vx_table (x := yL_addItem) B (atoms_spec (ws := ws_L_addItem) B.pre _ List.mem_cons_self)
  have hD := hD.self (sz := s.heap.size)
  generalize hAe : va_A [(kr, .inr (5, [.ref la, .ref ia, .ref na, .ref b4, .ref b6, .ref b8, .ref b10, .int (iI (((sh : Nat) : Int))), .int (iI (((it : Nat) : Int))), .int (iI (lc)), .int (iI (((dy : Nat) : Int))), .int (iI (pct)), .int (iI (lr)), .int (iI (sr))])), (ia, arQ cs 2 5 itf)] s.heap.size = A at hD hE ⊢
  have hA : ∀ q : Nat, s.heap.size ≤ q → A q := fun q h => by rw [← hAe]; exact Or.inr h
  have hS : va_S A s.heap s.heap [] := va_S.rf
  have hl := lv_entry ([.ref kr, .int (iI (zp)), .int (iI (zs))]) (n := 4) (Nat.le_of_ble_eq_true rfl)
  rw [lg_entry_eq]
  generalize (lg_sl ([.ref kr, .int (iI (zp)), .int (iI (zs))]) ++ List.replicate (4 - (lg_sl ([.ref kr, .int (iI (zp)), .int (iI (zs))])).length) Slot.unset).toArray = ls at hl ⊢
  have hl : lv_has ls 4 [(0, .ref kr), (1, .int (iI (zp))), (2, .int (iI (zs)))] := hl
  have hH := rfl (a := s.heap)
  refine lv_aload_n hx hb dL_addItem_0 rfl (lv_at hl 0 rfl) ?_
  refine lv_iload_n hx hb dL_addItem_1 rfl (lv_at hl 1 rfl) ?_
  refine lv_iload_n hx hb dL_addItem_2 rfl (lv_at hl 2 rfl) ?_
  have pk1 : picks [(kr, .inr (5, [.ref la, .ref ia, .ref na, .ref b4, .ref b6, .ref b8, .ref b10, .int (iI (((sh : Nat) : Int))), .int (iI (((it : Nat) : Int))), .int (iI (lc)), .int (iI (((dy : Nat) : Int))), .int (iI (pct)), .int (iI (lr)), .int (iI (sr))])), (ia, arQ cs 2 5 itf)] [0, 1] [(kr, .inr (5, [.ref la, .ref ia, .ref na, .ref b4, .ref b6, .ref b8, .ref b10, .int (iI (((sh : Nat) : Int))), .int (iI (((it : Nat) : Int))), .int (iI (lc)), .int (iI (((dy : Nat) : Int))), .int (iI (pct)), .int (iI (lr)), .int (iI (sr))])), (ia, arQ cs 2 5 itf)] := ⟨rfl, rfl, trivial⟩
  have hFA := fA_sub hD [0, 1] pk1 hS hA
  refine vx_calli (vx_runV (As := [.int (iI (zp)), .int (iI (zs))]) (rest := []) ⟨hx, hb, hml, hown, hts⟩ (m_X5_addItem_ok l hst D cs kr la ia na b4 b6 b8 b10 sh it lc dy pct lr sr itf zp zs _ (hzp) (hzs) (hok1) (hok2) (hit)) (cwV 2 hts (gV w_233 w_234 w_235 w_1 w_236) rfl rfl rfl (by decide +kernel) ⟨Nat.le_of_ble_eq_true rfl, Nat.le_of_ble_eq_true rfl⟩) (PAE_V hK hN hE hS hFA hP hD [0, 1] rfl pk1 rfl rfl) rfl rfl hl.1 rfl (lv_room (Nat.le_of_ble_eq_true rfl)) dL_addItem_3 ⟨Nat.le_of_ble_eq_true rfl, Nat.le_of_ble_eq_true rfl⟩) hS (fun q _ h => hFA q h) hFA (fun q _ h => hFA q h) (fun E ce q9 u t H1 locs1 ht hvm hpx hBX hz1 hk1 hS1 hce hcv hcl => absurd hpx.1 hpx.2) (fun r u2 t H1 locs ht hvm hw hB hz1 hk1 hS => ?_)
  replace hw := hw.2
  subst hw
  rw [ht] at hB
  obtain ⟨hP, hD⟩ := my_joinA (W1 := [(kr, .inr (5, [.ref la, .ref ia, .ref na, .ref b4, .ref b6, .ref b8, .ref b10, .int (iI (((sh : Nat) : Int))), .int (iI ((((it + 1) : Nat) : Int))), .int (iI (lc)), .int (iI (((dy : Nat) : Int))), .int (iI (pct)), .int (iI (lr)), .int (iI (sr))])), (ia, arQ cs 2 5 (va_up itf it (some (u2 0))))]) (Wn := [(u2 0, .inr (1, [.int (iI (zp)), .int (iI (zs)), .ref (u2 1), .ref (u2 3), .ref (u2 5), .int (iI (zs))])), (u2 1, .inr (0, [.ref (u2 2)])), (u2 2, arI cs 1005 (fun _ => 0)), (u2 3, .inr (0, [.ref (u2 4)])), (u2 4, arI cs 1005 (fun _ => 0)), (u2 5, .inr (0, [.ref (u2 6)])), (u2 6, arI cs 1005 (fun _ => 0))]) hP hD [0, 1] rfl pk1 rfl hk1 hB hFA
  generalize H1 = H at hP hS ⊢
  have hP : va_P D vwCl [(kr, .inr (5, [.ref la, .ref ia, .ref na, .ref b4, .ref b6, .ref b8, .ref b10, .int (iI (((sh : Nat) : Int))), .int (iI ((((it + 1) : Nat) : Int))), .int (iI (lc)), .int (iI (((dy : Nat) : Int))), .int (iI (pct)), .int (iI (lr)), .int (iI (sr))])), (ia, arQ cs 2 5 (va_up itf it (some (u2 0)))), (u2 0, .inr (1, [.int (iI (zp)), .int (iI (zs)), .ref (u2 1), .ref (u2 3), .ref (u2 5), .int (iI (zs))])), (u2 1, .inr (0, [.ref (u2 2)])), (u2 2, arI cs 1005 (fun _ => 0)), (u2 3, .inr (0, [.ref (u2 4)])), (u2 4, arI cs 1005 (fun _ => 0)), (u2 5, .inr (0, [.ref (u2 6)])), (u2 6, arI cs 1005 (fun _ => 0))] H := hP
  have hD : va_D A [(kr, .inr (5, [.ref la, .ref ia, .ref na, .ref b4, .ref b6, .ref b8, .ref b10, .int (iI (((sh : Nat) : Int))), .int (iI ((((it + 1) : Nat) : Int))), .int (iI (lc)), .int (iI (((dy : Nat) : Int))), .int (iI (pct)), .int (iI (lr)), .int (iI (sr))])), (ia, arQ cs 2 5 (va_up itf it (some (u2 0)))), (u2 0, .inr (1, [.int (iI (zp)), .int (iI (zs)), .ref (u2 1), .ref (u2 3), .ref (u2 5), .int (iI (zs))])), (u2 1, .inr (0, [.ref (u2 2)])), (u2 2, arI cs 1005 (fun _ => 0)), (u2 3, .inr (0, [.ref (u2 4)])), (u2 4, arI cs 1005 (fun _ => 0)), (u2 5, .inr (0, [.ref (u2 6)])), (u2 6, arI cs 1005 (fun _ => 0))] := hD
  subst hAe
  refine W.widen (k := 7) (n := 3024) (by omega) (by omega) ?_
  have hres : iI (((it : Nat) : Int)) = iI (((it : Nat) : Int)) := congrArg iI (by
      rfl)
  exact W.iret hx hb hr (fun t ht hW => ⟨⟨_, (fun k => ([u2 0, u2 1, u2 2, u2 3, u2 4, u2 5, u2 6] : List Nat).getD k 0), rfl, hres, by show va_P D vwCl _ t.heap; rw [ht]; exact hP, hD⟩, hS.F ht⟩) hS.2.2 dL_addItem_6

set_option maxHeartbeats 4000000 in
set_option maxRecDepth 100000 in
theorem m_L_carry_ok_r (l : Launch) (hst : l.stackTraces = false) (D : va_G) (cs : Nat → ClassId) (kr la ia na b4 b6 b8 b10 sh it : Nat) (lc : Int) (dy : Nat) (pct lr sr : Int) (lf : Nat → Int) (itf : Nat → Option Nat) (lnf : Nat → Option Nat) (sn tn hi : Nat) (zk zl : Int) (sz : Nat) (hsh : sh ≤ 4) (hit : it ≤ 5) (hitf : ∀ j, j < it → itf j ≠ none) (hsn : sn < sh) (htn : tn < it) (hitn : itf tn = some hi) (hln : lnf (sn * 5 + tn) = none) (hzk : 0 ≤ zk ∧ zk ≤ 999) (hzl : 0 ≤ zl ∧ zl ≤ 99999) : Met l yL_carry ws_L_carry ({ frames := 8, cells := 12, slots := 3074, locals := 130 }) (va_Pc [.ref kr, .int (iI (((sn : Nat) : Int))), .int (iI (((tn : Nat) : Int))), .int (iI (zk)), .int (iI (zl))] (fun U => U.heap.size = sz ∧ PE D cs [(kr, .inr (5, [.ref la, .ref ia, .ref na, .ref b4, .ref b6, .ref b8, .ref b10, .int (iI (((sh : Nat) : Int))), .int (iI (((it : Nat) : Int))), .int (iI (lc)), .int (iI (((dy : Nat) : Int))), .int (iI (pct)), .int (iI (lr)), .int (iI (sr))])), (la, arI cs 4 lf), (ia, arQ cs 2 5 itf), (na, arQ cs 3 20 lnf)] (va_A [(kr, .inr (5, [.ref la, .ref ia, .ref na, .ref b4, .ref b6, .ref b8, .ref b10, .int (iI (((sh : Nat) : Int))), .int (iI (((it : Nat) : Int))), .int (iI (lc)), .int (iI (((dy : Nat) : Int))), .int (iI (pct)), .int (iI (lr)), .int (iI (sr))])), (la, arI cs 4 lf), (ia, arQ cs 2 5 itf), (na, arQ cs 3 20 lnf)] sz) U)) (va_Qi (fun r (_ : Nat → Nat) => r = iI (lc + 1)) (fun u t => va_P D vwCl [(kr, .inr (5, [.ref la, .ref ia, .ref na, .ref b4, .ref b6, .ref b8, .ref b10, .int (iI (((sh : Nat) : Int))), .int (iI (((it : Nat) : Int))), .int (iI (lc + 1)), .int (iI (((dy : Nat) : Int))), .int (iI (pct)), .int (iI (lr)), .int (iI (sr))])), (la, arI cs 4 lf), (ia, arQ cs 2 5 itf), (na, arQ cs 3 20 (va_up lnf (sn * 5 + tn) (some (u 0)))), (u 0, .inr (3, [.ref hi, .int (iI (lf sn)), .int (iI (((dy : Nat) : Int))), .int (iI (zk)), .int (iI (zl)), .ref (u 1), .ref (u 3), .ref (u 4), .ref (u 6), .ref (u 8), .int (iI (0)), .int (iI (zk)), .int (iI (0)), .int (iI (0))])), (u 1, .inr (2, [.ref (u 2), .int (iI (zl))])), (u 2, arI cs 7 (fun _ => 1000)), (u 3, arI cs 21 (fun _ => 0)), (u 4, .inr (0, [.ref (u 5)])), (u 5, arI cs 1005 (fun _ => 0)), (u 6, .inr (0, [.ref (u 7)])), (u 7, arI cs 1005 (fun _ => 0)), (u 8, .inr (0, [.ref (u 9)])), (u 9, arI cs 1005 (fun _ => 0))] t.heap ∧ va_D (va_A [(kr, .inr (5, [.ref la, .ref ia, .ref na, .ref b4, .ref b6, .ref b8, .ref b10, .int (iI (((sh : Nat) : Int))), .int (iI (((it : Nat) : Int))), .int (iI (lc)), .int (iI (((dy : Nat) : Int))), .int (iI (pct)), .int (iI (lr)), .int (iI (sr))])), (la, arI cs 4 lf), (ia, arQ cs 2 5 itf), (na, arQ cs 3 20 lnf)] sz) [(kr, .inr (5, [.ref la, .ref ia, .ref na, .ref b4, .ref b6, .ref b8, .ref b10, .int (iI (((sh : Nat) : Int))), .int (iI (((it : Nat) : Int))), .int (iI (lc + 1)), .int (iI (((dy : Nat) : Int))), .int (iI (pct)), .int (iI (lr)), .int (iI (sr))])), (la, arI cs 4 lf), (ia, arQ cs 2 5 itf), (na, arQ cs 3 20 (va_up lnf (sn * 5 + tn) (some (u 0)))), (u 0, .inr (3, [.ref hi, .int (iI (lf sn)), .int (iI (((dy : Nat) : Int))), .int (iI (zk)), .int (iI (zl)), .ref (u 1), .ref (u 3), .ref (u 4), .ref (u 6), .ref (u 8), .int (iI (0)), .int (iI (zk)), .int (iI (0)), .int (iI (0))])), (u 1, .inr (2, [.ref (u 2), .int (iI (zl))])), (u 2, arI cs 7 (fun _ => 1000)), (u 3, arI cs 21 (fun _ => 0)), (u 4, .inr (0, [.ref (u 5)])), (u 5, arI cs 1005 (fun _ => 0)), (u 6, .inr (0, [.ref (u 7)])), (u 7, arI cs 1005 (fun _ => 0)), (u 8, .inr (0, [.ref (u 9)])), (u 9, arI cs 1005 (fun _ => 0))]) (va_A [(kr, .inr (5, [.ref la, .ref ia, .ref na, .ref b4, .ref b6, .ref b8, .ref b10, .int (iI (((sh : Nat) : Int))), .int (iI (((it : Nat) : Int))), .int (iI (lc)), .int (iI (((dy : Nat) : Int))), .int (iI (pct)), .int (iI (lr)), .int (iI (sr))])), (la, arI cs 4 lf), (ia, arQ cs 2 5 itf), (na, arQ cs 3 20 lnf)] sz)) 12 3074 (va_A [(kr, .inr (5, [.ref la, .ref ia, .ref na, .ref b4, .ref b6, .ref b8, .ref b10, .int (iI (((sh : Nat) : Int))), .int (iI (((it : Nat) : Int))), .int (iI (lc)), .int (iI (((dy : Nat) : Int))), .int (iI (pct)), .int (iI (lr)), .int (iI (sr))])), (la, arI cs 4 lf), (ia, arQ cs 2 5 itf), (na, arQ cs 3 20 lnf)] sz) := by
  refine va_MetW (cc := cL_carry) (maxL := 6) (ret := some .int) (hh := [(0, 9, 10, 32), (0, 9, 15, 20), (0, 9, 20, 22)]) (by decide +kernel) rfl ?_
  intro p e s m args below meth c s₁ B hml hv
  obtain ⟨rfl, hsz, ⟨hP, hK, hD, hN⟩, hE⟩ := hv
  subst hsz
  have hx := B.exec
  have hb := B.bytes
  have hr := B.returns
  have hts : ∀ w ∈ ALL, w.before _ s = true := fun w h => atoms_spec (ws := ws_L_carry) B.pre w (List.mem_cons_of_mem _ h)
  have hown : s.vm.findClass RL = some m.cls := findClass_of_methodNamed B.named
  have hlocks := B.notSynchronized
  have htab : c.exceptionTable.toList = tableOf [(0, 9, 10, 32), (0, 9, 15, 20), (0, 9, 20, 22)] := vx_table (x := yL_carry) B (atoms_spec (ws := ws_L_carry) B.pre _ List.mem_cons_self)
  have hD := hD.self (sz := s.heap.size)
  generalize hAe : va_A [(kr, .inr (5, [.ref la, .ref ia, .ref na, .ref b4, .ref b6, .ref b8, .ref b10, .int (iI (((sh : Nat) : Int))), .int (iI (((it : Nat) : Int))), .int (iI (lc)), .int (iI (((dy : Nat) : Int))), .int (iI (pct)), .int (iI (lr)), .int (iI (sr))])), (la, arI cs 4 lf), (ia, arQ cs 2 5 itf), (na, arQ cs 3 20 lnf)] s.heap.size = A at hD hE ⊢
  have hA : ∀ q : Nat, s.heap.size ≤ q → A q := fun q h => by rw [← hAe]; exact Or.inr h
  have hS : va_S A s.heap s.heap [] := va_S.rf
  have hl := lv_entry ([.ref kr, .int (iI (((sn : Nat) : Int))), .int (iI (((tn : Nat) : Int))), .int (iI (zk)), .int (iI (zl))]) (n := 6) (Nat.le_of_ble_eq_true rfl)
  rw [lg_entry_eq]
  generalize (lg_sl ([.ref kr, .int (iI (((sn : Nat) : Int))), .int (iI (((tn : Nat) : Int))), .int (iI (zk)), .int (iI (zl))]) ++ List.replicate (6 - (lg_sl ([.ref kr, .int (iI (((sn : Nat) : Int))), .int (iI (((tn : Nat) : Int))), .int (iI (zk)), .int (iI (zl))])).length) Slot.unset).toArray = ls at hl ⊢
  have hl : lv_has ls 6 [(0, .ref kr), (1, .int (iI (((sn : Nat) : Int)))), (2, .int (iI (((tn : Nat) : Int)))), (3, .int (iI (zk))), (4, .int (iI (zl)))] := hl
  have hH := rfl (a := s.heap)
  refine lv_aload_n hx hb dL_carry_0 rfl (lv_at hl 0 rfl) ?_
  refine lv_iload_n hx hb dL_carry_1 rfl (lv_at hl 1 rfl) ?_
  refine lv_iload_n hx hb dL_carry_2 rfl (lv_at hl 2 rfl) ?_
  refine lv_iload_n hx hb dL_carry_3 rfl (lv_at hl 3 rfl) ?_
  refine lv_iload hx hb dL_carry_4 (lv_at hl 4 rfl) ?_
  have pk1 : picks [(kr, .inr (5, [.ref la, .ref ia, .ref na, .ref b4, .ref b6, .ref b8, .ref b10, .int (iI (((sh : Nat) : Int))), .int (iI (((it : Nat) : Int))), .int (iI (lc)), .int (iI (((dy : Nat) : Int))), .int (iI (pct)), .int (iI (lr)), .int (iI (sr))])), (la, arI cs 4 lf), (ia, arQ cs 2 5 itf), (na, arQ cs 3 20 lnf)] [0, 1, 2, 3] [(kr, .inr (5, [.ref la, .ref ia, .ref na, .ref b4, .ref b6, .ref b8, .ref b10, .int (iI (((sh : Nat) : Int))), .int (iI (((it : Nat) : Int))), .int (iI (lc)), .int (iI (((dy : Nat) : Int))), .int (iI (pct)), .int (iI (lr)), .int (iI (sr))])), (la, arI cs 4 lf), (ia, arQ cs 2 5 itf), (na, arQ cs 3 20 lnf)] := ⟨rfl, rfl, rfl, rfl, trivial⟩
  have hFA := fA_sub hD [0, 1, 2, 3] pk1 hS hA
  refine vx_calli (vx_runV (As := [.int (iI (((sn : Nat) : Int))), .int (iI (((tn : Nat) : Int))), .int (iI (zk)), .int (iI (zl))]) (rest := []) ⟨hx, hb, hml, hown, hts⟩ (m_X5_carry_ok l hst D cs kr la ia na b4 b6 b8 b10 sh it lc dy pct lr sr lf itf lnf sn tn hi zk zl _ (hsh) (hit) (hitf) (hsn) (htn) (hitn) (hln) (hzk) (hzl)) (cwV 4 hts (gV w_273 w_274 w_275 w_1 w_276) rfl rfl rfl (by decide +kernel) ⟨Nat.le_of_ble_eq_true rfl, Nat.le_of_ble_eq_true rfl⟩) (PAE_V hK hN hE hS hFA hP hD [0, 1, 2, 3] rfl pk1 rfl rfl) rfl rfl hl.1 rfl (lv_room (Nat.le_of_ble_eq_true rfl)) dL_carry_6 ⟨Nat.le_of_ble_eq_true rfl, Nat.le_of_ble_eq_true rfl⟩) hS (fun q _ h => hFA q h) hFA (fun q _ h => hFA q h) (fun E ce q9 u t H1 locs1 ht hvm hpx hBX hz1 hk1 hS1 hce hcv hcl => absurd hpx.1 hpx.2) (fun r u2 t H1 locs ht hvm hw hB hz1 hk1 hS => ?_)
  replace hw := hw.2
  subst hw
  rw [ht] at hB
  obtain ⟨hP, hD⟩ := my_joinA (W1 := [(kr, .inr (5, [.ref la, .ref ia, .ref na, .ref b4, .ref b6, .ref b8, .ref b10, .int (iI (((sh : Nat) : Int))), .int (iI (((it : Nat) : Int))), .int (iI (lc + 1)), .int (iI (((dy : Nat) : Int))), .int (iI (pct)), .int (iI (lr)), .int (iI (sr))])), (la, arI cs 4 lf), (ia, arQ cs 2 5 itf), (na, arQ cs 3 20 (va_up lnf (sn * 5 + tn) (some (u2 0))))]) (Wn := [(u2 0, .inr (3, [.ref hi, .int (iI (lf sn)), .int (iI (((dy : Nat) : Int))), .int (iI (zk)), .int (iI (zl)), .ref (u2 1), .ref (u2 3), .ref (u2 4), .ref (u2 6), .ref (u2 8), .int (iI (0)), .int (iI (zk)), .int (iI (0)), .int (iI (0))])), (u2 1, .inr (2, [.ref (u2 2), .int (iI (zl))])), (u2 2, arI cs 7 (fun _ => 1000)), (u2 3, arI cs 21 (fun _ => 0)), (u2 4, .inr (0, [.ref (u2 5)])), (u2 5, arI cs 1005 (fun _ => 0)), (u2 6, .inr (0, [.ref (u2 7)])), (u2 7, arI cs 1005 (fun _ => 0)), (u2 8, .inr (0, [.ref (u2 9)])), (u2 9, arI cs 1005 (fun _ => 0))]) hP hD [0, 1, 2, 3] rfl pk1 rfl hk1 hB hFA
  generalize H1 = H at hP hS ⊢
  have hP : va_P D vwCl [(kr, .inr (5, [.ref la, .ref ia, .ref na, .ref b4, .ref b6, .ref b8, .ref b10, .int (iI (((sh : Nat) : Int))), .int (iI (((it : Nat) : Int))), .int (iI (lc + 1)), .int (iI (((dy : Nat) : Int))), .int (iI (pct)), .int (iI (lr)), .int (iI (sr))])), (la, arI cs 4 lf), (ia, arQ cs 2 5 itf), (na, arQ cs 3 20 (va_up lnf (sn * 5 + tn) (some (u2 0)))), (u2 0, .inr (3, [.ref hi, .int (iI (lf sn)), .int (iI (((dy : Nat) : Int))), .int (iI (zk)), .int (iI (zl)), .ref (u2 1), .ref (u2 3), .ref (u2 4), .ref (u2 6), .ref (u2 8), .int (iI (0)), .int (iI (zk)), .int (iI (0)), .int (iI (0))])), (u2 1, .inr (2, [.ref (u2 2), .int (iI (zl))])), (u2 2, arI cs 7 (fun _ => 1000)), (u2 3, arI cs 21 (fun _ => 0)), (u2 4, .inr (0, [.ref (u2 5)])), (u2 5, arI cs 1005 (fun _ => 0)), (u2 6, .inr (0, [.ref (u2 7)])), (u2 7, arI cs 1005 (fun _ => 0)), (u2 8, .inr (0, [.ref (u2 9)])), (u2 9, arI cs 1005 (fun _ => 0))] H := hP
  have hD : va_D A [(kr, .inr (5, [.ref la, .ref ia, .ref na, .ref b4, .ref b6, .ref b8, .ref b10, .int (iI (((sh : Nat) : Int))), .int (iI (((it : Nat) : Int))), .int (iI (lc + 1)), .int (iI (((dy : Nat) : Int))), .int (iI (pct)), .int (iI (lr)), .int (iI (sr))])), (la, arI cs 4 lf), (ia, arQ cs 2 5 itf), (na, arQ cs 3 20 (va_up lnf (sn * 5 + tn) (some (u2 0)))), (u2 0, .inr (3, [.ref hi, .int (iI (lf sn)), .int (iI (((dy : Nat) : Int))), .int (iI (zk)), .int (iI (zl)), .ref (u2 1), .ref (u2 3), .ref (u2 4), .ref (u2 6), .ref (u2 8), .int (iI (0)), .int (iI (zk)), .int (iI (0)), .int (iI (0))])), (u2 1, .inr (2, [.ref (u2 2), .int (iI (zl))])), (u2 2, arI cs 7 (fun _ => 1000)), (u2 3, arI cs 21 (fun _ => 0)), (u2 4, .inr (0, [.ref (u2 5)])), (u2 5, arI cs 1005 (fun _ => 0)), (u2 6, .inr (0, [.ref (u2 7)])), (u2 7, arI cs 1005 (fun _ => 0)), (u2 8, .inr (0, [.ref (u2 9)])), (u2 9, arI cs 1005 (fun _ => 0))] := hD
  subst hAe
  refine W.widen (k := 12) (n := 3074) (by omega) (by omega) ?_
  have hres : iI (lc + 1) = iI (lc + 1) := congrArg iI (by
      rfl)
  exact W.iret hx hb hr (fun t ht hW => ⟨⟨_, (fun k => ([u2 0, u2 1, u2 2, u2 3, u2 4, u2 5, u2 6, u2 7, u2 8, u2 9] : List Nat).getD k 0), rfl, hres, by show va_P D vwCl _ t.heap; rw [ht]; exact hP, hD⟩, hS.F ht⟩) hS.2.2 dL_carry_9
