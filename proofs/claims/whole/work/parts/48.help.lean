abbrev ws_L_level : List Cond := Cond.codeWith yL_level cL_level 5 (some .int) [(0, 10, 13, 25), (0, 10, 17, 50)] :: ALL
set_option maxHeartbeats 4000000 in
set_option maxRecDepth 100000 in
theorem m_L_level_no_t (l : Launch) (hst : l.stackTraces = false) (D : va_G) (cs : Nat → ClassId) (kr la ia na b4 b6 b8 b10 sh it : Nat) (lc : Int) (dy : Nat) (pct lr sr : Int) (lf : Nat → Int) (itf : Nat → Option Nat) (lnf : Nat → Option Nat) (zs zi : Int) (po : Nat) (ov : Nat → Int64) (hsh : sh ≤ 4) (hit : it ≤ 5) (hitf : ∀ j, j < it → itf j ≠ none) (hzs : -2147483648 ≤ zs ∧ zs < 2147483648) (hzi : -2147483648 ≤ zi ∧ zi < 2147483648) (hno : cdL sh it lnf zs zi ≠ 0) : Met l yL_level ws_L_level ({ frames := 9, cells := 3, slots := 18, locals := 149 }) (va_Pc [.ref kr, .int (iI (zs)), .int (iI (zi)), .ref po] (PE D cs [(po, .inl (cs 4, 1, .inr (.inl ov))), (kr, .inr (5, [.ref la, .ref ia, .ref na, .ref b4, .ref b6, .ref b8, .ref b10, .int (iI (((sh : Nat) : Int))), .int (iI (((it : Nat) : Int))), .int (iI (lc)), .int (iI (((dy : Nat) : Int))), .int (iI (pct)), .int (iI (lr)), .int (iI (sr))])), (la, arI cs 4 lf), (ia, arQ cs 2 5 itf), (na, arQ cs 3 20 lnf)] noA)) (va_Qi (fun r (_ : Unit) => r = iI (hkI [1, 2] (cdL sh it lnf zs zi))) (fun _ _ => True) noA) 3 18 noA := by
  refine va_MetW (cc := cL_level) (maxL := 5) (ret := some .int) (hh := [(0, 10, 13, 25), (0, 10, 17, 50)]) (by decide +kernel) rfl ?_
  intro p e s m args below meth c s₁ B hml hv
  obtain ⟨rfl, ⟨hP, hK, hD, hN⟩, hE⟩ := hv
  have hx := B.exec
  have hb := B.bytes
  have hr := B.returns
  have hts : ∀ w ∈ ALL, w.before _ s = true := fun w h => atoms_spec (ws := ws_L_level) B.pre w (List.mem_cons_of_mem _ h)
  have hown : s.vm.findClass RL = some m.cls := findClass_of_methodNamed B.named
  have hlocks := B.notSynchronized
  have htab : c.exceptionTable.toList = tableOf [(0, 10, 13, 25), (0, 10, 17, 50)] := vx_table (x := yL_level) B (atoms_spec (ws := ws_L_level) B.pre _ List.mem_cons_self)
  have hS : va_S noA s.heap s.heap [] := va_S.rf
  generalize inW [(po, .inl (cs 4, 1, .inr (.inl ov))), (kr, .inr (5, [.ref la, .ref ia, .ref na, .ref b4, .ref b6, .ref b8, .ref b10, .int (iI (((sh : Nat) : Int))), .int (iI (((it : Nat) : Int))), .int (iI (lc)), .int (iI (((dy : Nat) : Int))), .int (iI (pct)), .int (iI (lr)), .int (iI (sr))])), (la, arI cs 4 lf), (ia, arQ cs 2 5 itf), (na, arQ cs 3 20 lnf)] = A at hD
  have hl := lv_entry ([.ref kr, .int (iI (zs)), .int (iI (zi)), .ref po]) (n := 5) (Nat.le_of_ble_eq_true rfl)
  rw [lg_entry_eq]
  generalize (lg_sl ([.ref kr, .int (iI (zs)), .int (iI (zi)), .ref po]) ++ List.replicate (5 - (lg_sl ([.ref kr, .int (iI (zs)), .int (iI (zi)), .ref po])).length) Slot.unset).toArray = ls at hl ⊢
  have hl : lv_has ls 5 [(0, .ref kr), (1, .int (iI (zs))), (2, .int (iI (zi))), (3, .ref po)] := hl
  have hH := rfl (a := s.heap)
  refine lv_aload_n hx hb dL_level_0 rfl (lv_at hl 3 rfl) ?_
  refine lv_iconst (v := iI (0)) hx hb dL_level_1 rfl ?_
  refine lv_aload_n hx hb dL_level_2 rfl (lv_at hl 0 rfl) ?_
  refine lv_iload_n hx hb dL_level_3 rfl (lv_at hl 1 rfl) ?_
  refine lv_iload_n hx hb dL_level_4 rfl (lv_at hl 2 rfl) ?_
  have pk1 : picks [(po, .inl (cs 4, 1, .inr (.inl ov))), (kr, .inr (5, [.ref la, .ref ia, .ref na, .ref b4, .ref b6, .ref b8, .ref b10, .int (iI (((sh : Nat) : Int))), .int (iI (((it : Nat) : Int))), .int (iI (lc)), .int (iI (((dy : Nat) : Int))), .int (iI (pct)), .int (iI (lr)), .int (iI (sr))])), (la, arI cs 4 lf), (ia, arQ cs 2 5 itf), (na, arQ cs 3 20 lnf)] [1, 2, 3, 4] [(kr, .inr (5, [.ref la, .ref ia, .ref na, .ref b4, .ref b6, .ref b8, .ref b10, .int (iI (((sh : Nat) : Int))), .int (iI (((it : Nat) : Int))), .int (iI (lc)), .int (iI (((dy : Nat) : Int))), .int (iI (pct)), .int (iI (lr)), .int (iI (sr))])), (la, arI cs 4 lf), (ia, arQ cs 2 5 itf), (na, arQ cs 3 20 lnf)] := ⟨rfl, rfl, rfl, rfl, trivial⟩
  refine vx_calli (vx_runV (As := [.int (iI (zs)), .int (iI (zi))]) (rest := [.int (iI (0)), .ref po]) ⟨hx, hb, hml, hown, hts⟩ (m_X5_level_no l hst D cs kr la ia na b4 b6 b8 b10 sh it lc dy pct lr sr lf itf lnf zs zi (hsh) (hit) (hitf) (hzs) (hzi) (hno)) (cwV 2 hts (gV w_625 w_626 w_627 w_1 w_628) rfl rfl rfl (by decide +kernel) ⟨Nat.le_of_ble_eq_true rfl, Nat.le_of_ble_eq_true rfl⟩) (PE_V hK hN hE hS (fun _ h => False.elim h) hP hD [1, 2, 3, 4] rfl pk1 rfl rfl) rfl rfl hl.1 rfl (lv_room (Nat.le_of_ble_eq_true rfl)) dL_level_5 ⟨Nat.le_of_ble_eq_true rfl, Nat.le_of_ble_eq_true rfl⟩) hS (fun _ _ h => False.elim h) (fun _ h => False.elim h) (fun _ _ h => False.elim h) (fun E ce q9 u t H1 locs1 ht hvm hpx hBX hz1 hk1 hS1 hce hcv hcl => ?_) (fun r u t H locs ht hvm hw hB hz1 hk1 hS => ?_)
  · have h9 : u = cdL sh it lnf zs zi := hpx.1
    have hS := hS1
    have hcd : cdL sh it lnf zs zi = 2 ∨ cdL sh it lnf zs zi = 1 := by
      revert hno
      (try unfold cdL); (try unfold cdS); (try unfold cdC)
      (repeat' split) <;> simp
    have hEu := hBX
    have hP := P_kept hP hk1
    rcases hcd with hc3 | hcd
    · have hE3 : E = "java/util/NoSuchElementException" := by have h8 : E = exN u := hEu; rw [h8, h9, hc3]; rfl
      subst hE3
      refine vx_catch (name := "java/util/NoSuchElementException") hown [⟨0, 10, 13, 25⟩] ⟨0, 10, 17, 50⟩ [] (htab.trans rfl) (fun z hz => by
          simp only [List.mem_cons, List.not_mem_nil, or_false] at hz
          rcases hz with rfl
          · exact Or.inr ⟨by decide, "java/lang/IndexOutOfBoundsException", hts _ w_266, hE.2.2.2.2.2 _ (List.mem_of_getElem? (i := 10) rfl)⟩) rfl (by decide) (hts _ w_455) (hE.use _ (List.mem_append_right _ (List.mem_map.mpr ⟨_, List.mem_of_getElem? (i := 1) rfl, rfl⟩))) hce hcv hcl ?_
      refine lv_astore (lv' := [(4, .ref q9), (0, .ref kr), (1, .int (iI (zs))), (2, .int (iI (zi))), (3, .ref po)]) hx hb dL_level_17 hl (by decide) rfl (fun ls hl => ?_)
      refine lv_iconst (v := iI (2)) hx hb dL_level_19 rfl ?_
      refine W.widen (k := 3) (n := 18) (by omega) (by omega) ?_
      have hres : iI (2) = iI (hkI [1, 2] (cdL sh it lnf zs zi)) := congrArg iI (by
          rw [hc3]; rfl)
      exact W.iret hx hb hr (fun t ht hW => ⟨⟨_, (), rfl, hres, trivial⟩, hS.F ht⟩) hS.2.2 dL_level_20
    have hc3 := hcd
    have hE3 : E = "java/lang/IndexOutOfBoundsException" := by have h8 : E = exN u := hEu; rw [h8, h9, hc3]; rfl
    subst hE3
    refine vx_catch (name := "java/lang/IndexOutOfBoundsException") hown [] ⟨0, 10, 13, 25⟩ [⟨0, 10, 17, 50⟩] (htab.trans rfl) (fun z hz => by cases hz) rfl (by decide) (hts _ w_266) (hE.use _ (List.mem_append_right _ (List.mem_map.mpr ⟨_, List.mem_of_getElem? (i := 0) rfl, rfl⟩))) hce hcv hcl ?_
    refine lv_astore (lv' := [(4, .ref q9), (0, .ref kr), (1, .int (iI (zs))), (2, .int (iI (zi))), (3, .ref po)]) hx hb dL_level_13 hl (by decide) rfl (fun ls hl => ?_)
    refine lv_iconst (v := iI (1)) hx hb dL_level_15 rfl ?_
    refine W.widen (k := 3) (n := 18) (by omega) (by omega) ?_
    have hres : iI (1) = iI (hkI [1, 2] (cdL sh it lnf zs zi)) := congrArg iI (by
        rw [hc3]; rfl)
    exact W.iret hx hb hr (fun t ht hW => ⟨⟨_, (), rfl, hres, trivial⟩, hS.F ht⟩) hS.2.2 dL_level_16
  obtain ⟨hc2, hw⟩ := hw
  subst hw
  have hP := P_kept hP hk1
  exact absurd hc2 hno

set_option maxHeartbeats 4000000 in
set_option maxRecDepth 100000 in
theorem m_L_level_ok_r (l : Launch) (hst : l.stackTraces = false) (D : va_G) (cs : Nat → ClassId) (kr la ia na b4 b6 b8 b10 sh it : Nat) (lc : Int) (dy : Nat) (pct lr sr : Int) (lf : Nat → Int) (itf : Nat → Option Nat) (lnf : Nat → Option Nat) (sn tn : Nat) (kn hi kl ke kd ks ka : Nat) (ld fd fk fv es sk so lo : Int) (us : Nat) (lev : Int) (se : Nat → Int) (po : Nat) (ov : Nat → Int64) (hsh : sh ≤ 4) (hit : it ≤ 5) (hitf : ∀ j, j < it → itf j ≠ none) (hsn : sn < sh) (htn : tn < it) (hln : lnf (sn * 5 + tn) = some kn) (hrr : -2147483648 ≤ lev ∧ lev < 2147483648) : Met l yL_level ws_L_level ({ frames := 9, cells := 3, slots := 18, locals := 149 }) (va_Pc [.ref kr, .int (iI (((sn : Nat) : Int))), .int (iI (((tn : Nat) : Int))), .ref po] (PE D cs [(po, .inl (cs 4, 1, .inr (.inl ov))), (kr, .inr (5, [.ref la, .ref ia, .ref na, .ref b4, .ref b6, .ref b8, .ref b10, .int (iI (((sh : Nat) : Int))), .int (iI (((it : Nat) : Int))), .int (iI (lc)), .int (iI (((dy : Nat) : Int))), .int (iI (pct)), .int (iI (lr)), .int (iI (sr))])), (la, arI cs 4 lf), (ia, arQ cs 2 5 itf), (na, arQ cs 3 20 lnf), (kn, .inr (3, [.ref hi, .int (iI (ld)), .int (iI (fd)), .int (iI (fk)), .int (iI (fv)), .ref kl, .ref ke, .ref kd, .ref ks, .ref ka, .int (iI (es)), .int (iI (sk)), .int (iI (so)), .int (iI (lo))])), (kl, .inr (2, [.ref us, .int (iI (lev))])), (us, arI cs 7 se)] (inW [(po, .inl (cs 4, 1, .inr (.inl ov))), (kr, .inr (5, [.ref la, .ref ia, .ref na, .ref b4, .ref b6, .ref b8, .ref b10, .int (iI (((sh : Nat) : Int))), .int (iI (((it : Nat) : Int))), .int (iI (lc)), .int (iI (((dy : Nat) : Int))), .int (iI (pct)), .int (iI (lr)), .int (iI (sr))])), (la, arI cs 4 lf), (ia, arQ cs 2 5 itf), (na, arQ cs 3 20 lnf), (kn, .inr (3, [.ref hi, .int (iI (ld)), .int (iI (fd)), .int (iI (fk)), .int (iI (fv)), .ref kl, .ref ke, .ref kd, .ref ks, .ref ka, .int (iI (es)), .int (iI (sk)), .int (iI (so)), .int (iI (lo))])), (kl, .inr (2, [.ref us, .int (iI (lev))])), (us, arI cs 7 se)]))) (va_Qi (fun r (_ : Unit) => r = iI (0)) (fun _ t => va_P D vwCl [(po, .inl (cs 4, 1, .inr (.inl (vp_updL ov 0 (lI (lev)))))), (kr, .inr (5, [.ref la, .ref ia, .ref na, .ref b4, .ref b6, .ref b8, .ref b10, .int (iI (((sh : Nat) : Int))), .int (iI (((it : Nat) : Int))), .int (iI (lc)), .int (iI (((dy : Nat) : Int))), .int (iI (pct)), .int (iI (lr)), .int (iI (sr))])), (la, arI cs 4 lf), (ia, arQ cs 2 5 itf), (na, arQ cs 3 20 lnf), (kn, .inr (3, [.ref hi, .int (iI (ld)), .int (iI (fd)), .int (iI (fk)), .int (iI (fv)), .ref kl, .ref ke, .ref kd, .ref ks, .ref ka, .int (iI (es)), .int (iI (sk)), .int (iI (so)), .int (iI (lo))])), (kl, .inr (2, [.ref us, .int (iI (lev))])), (us, arI cs 7 se)] t.heap) (inW [(po, .inl (cs 4, 1, .inr (.inl ov))), (kr, .inr (5, [.ref la, .ref ia, .ref na, .ref b4, .ref b6, .ref b8, .ref b10, .int (iI (((sh : Nat) : Int))), .int (iI (((it : Nat) : Int))), .int (iI (lc)), .int (iI (((dy : Nat) : Int))), .int (iI (pct)), .int (iI (lr)), .int (iI (sr))])), (la, arI cs 4 lf), (ia, arQ cs 2 5 itf), (na, arQ cs 3 20 lnf), (kn, .inr (3, [.ref hi, .int (iI (ld)), .int (iI (fd)), .int (iI (fk)), .int (iI (fv)), .ref kl, .ref ke, .ref kd, .ref ks, .ref ka, .int (iI (es)), .int (iI (sk)), .int (iI (so)), .int (iI (lo))])), (kl, .inr (2, [.ref us, .int (iI (lev))])), (us, arI cs 7 se)])) 3 18 (inW [(po, .inl (cs 4, 1, .inr (.inl ov))), (kr, .inr (5, [.ref la, .ref ia, .ref na, .ref b4, .ref b6, .ref b8, .ref b10, .int (iI (((sh : Nat) : Int))), .int (iI (((it : Nat) : Int))), .int (iI (lc)), .int (iI (((dy : Nat) : Int))), .int (iI (pct)), .int (iI (lr)), .int (iI (sr))])), (la, arI cs 4 lf), (ia, arQ cs 2 5 itf), (na, arQ cs 3 20 lnf), (kn, .inr (3, [.ref hi, .int (iI (ld)), .int (iI (fd)), .int (iI (fk)), .int (iI (fv)), .ref kl, .ref ke, .ref kd, .ref ks, .ref ka, .int (iI (es)), .int (iI (sk)), .int (iI (so)), .int (iI (lo))])), (kl, .inr (2, [.ref us, .int (iI (lev))])), (us, arI cs 7 se)]) := by
  refine va_MetW (cc := cL_level) (maxL := 5) (ret := some .int) (hh := [(0, 10, 13, 25), (0, 10, 17, 50)]) (by decide +kernel) rfl ?_
  intro p e s m args below meth c s₁ B hml hv
  obtain ⟨rfl, ⟨hP, hK, hD, hN⟩, hE⟩ := hv
  have hx := B.exec
  have hb := B.bytes
  have hr := B.returns
  have hts : ∀ w ∈ ALL, w.before _ s = true := fun w h => atoms_spec (ws := ws_L_level) B.pre w (List.mem_cons_of_mem _ h)
  have hown : s.vm.findClass RL = some m.cls := findClass_of_methodNamed B.named
  have hlocks := B.notSynchronized
  have htab : c.exceptionTable.toList = tableOf [(0, 10, 13, 25), (0, 10, 17, 50)] := vx_table (x := yL_level) B (atoms_spec (ws := ws_L_level) B.pre _ List.mem_cons_self)
  generalize hAe : inW [(po, .inl (cs 4, 1, .inr (.inl ov))), (kr, .inr (5, [.ref la, .ref ia, .ref na, .ref b4, .ref b6, .ref b8, .ref b10, .int (iI (((sh : Nat) : Int))), .int (iI (((it : Nat) : Int))), .int (iI (lc)), .int (iI (((dy : Nat) : Int))), .int (iI (pct)), .int (iI (lr)), .int (iI (sr))])), (la, arI cs 4 lf), (ia, arQ cs 2 5 itf), (na, arQ cs 3 20 lnf), (kn, .inr (3, [.ref hi, .int (iI (ld)), .int (iI (fd)), .int (iI (fk)), .int (iI (fv)), .ref kl, .ref ke, .ref kd, .ref ks, .ref ka, .int (iI (es)), .int (iI (sk)), .int (iI (so)), .int (iI (lo))])), (kl, .inr (2, [.ref us, .int (iI (lev))])), (us, arI cs 7 se)] = A at hD hE ⊢
  have hS : va_S A s.heap s.heap [] := va_S.rf
  have hl := lv_entry ([.ref kr, .int (iI (((sn : Nat) : Int))), .int (iI (((tn : Nat) : Int))), .ref po]) (n := 5) (Nat.le_of_ble_eq_true rfl)
  rw [lg_entry_eq]
  generalize (lg_sl ([.ref kr, .int (iI (((sn : Nat) : Int))), .int (iI (((tn : Nat) : Int))), .ref po]) ++ List.replicate (5 - (lg_sl ([.ref kr, .int (iI (((sn : Nat) : Int))), .int (iI (((tn : Nat) : Int))), .ref po])).length) Slot.unset).toArray = ls at hl ⊢
  have hl : lv_has ls 5 [(0, .ref kr), (1, .int (iI (((sn : Nat) : Int)))), (2, .int (iI (((tn : Nat) : Int)))), (3, .ref po)] := hl
  have hH := rfl (a := s.heap)
  refine lv_aload_n hx hb dL_level_0 rfl (lv_at hl 3 rfl) ?_
  refine lv_iconst (v := iI (0)) hx hb dL_level_1 rfl ?_
  refine lv_aload_n hx hb dL_level_2 rfl (lv_at hl 0 rfl) ?_
  refine lv_iload_n hx hb dL_level_3 rfl (lv_at hl 1 rfl) ?_
  refine lv_iload_n hx hb dL_level_4 rfl (lv_at hl 2 rfl) ?_
  have pk1 : picks [(po, .inl (cs 4, 1, .inr (.inl ov))), (kr, .inr (5, [.ref la, .ref ia, .ref na, .ref b4, .ref b6, .ref b8, .ref b10, .int (iI (((sh : Nat) : Int))), .int (iI (((it : Nat) : Int))), .int (iI (lc)), .int (iI (((dy : Nat) : Int))), .int (iI (pct)), .int (iI (lr)), .int (iI (sr))])), (la, arI cs 4 lf), (ia, arQ cs 2 5 itf), (na, arQ cs 3 20 lnf), (kn, .inr (3, [.ref hi, .int (iI (ld)), .int (iI (fd)), .int (iI (fk)), .int (iI (fv)), .ref kl, .ref ke, .ref kd, .ref ks, .ref ka, .int (iI (es)), .int (iI (sk)), .int (iI (so)), .int (iI (lo))])), (kl, .inr (2, [.ref us, .int (iI (lev))])), (us, arI cs 7 se)] [1, 2, 3, 4, 5, 6, 7] [(kr, .inr (5, [.ref la, .ref ia, .ref na, .ref b4, .ref b6, .ref b8, .ref b10, .int (iI (((sh : Nat) : Int))), .int (iI (((it : Nat) : Int))), .int (iI (lc)), .int (iI (((dy : Nat) : Int))), .int (iI (pct)), .int (iI (lr)), .int (iI (sr))])), (la, arI cs 4 lf), (ia, arQ cs 2 5 itf), (na, arQ cs 3 20 lnf), (kn, .inr (3, [.ref hi, .int (iI (ld)), .int (iI (fd)), .int (iI (fk)), .int (iI (fv)), .ref kl, .ref ke, .ref kd, .ref ks, .ref ka, .int (iI (es)), .int (iI (sk)), .int (iI (so)), .int (iI (lo))])), (kl, .inr (2, [.ref us, .int (iI (lev))])), (us, arI cs 7 se)] := ⟨rfl, rfl, rfl, rfl, rfl, rfl, rfl, trivial⟩
  refine vx_calli (vx_runV (As := [.int (iI (((sn : Nat) : Int))), .int (iI (((tn : Nat) : Int)))]) (rest := [.int (iI (0)), .ref po]) ⟨hx, hb, hml, hown, hts⟩ (m_X5_level_ok l hst D cs kr la ia na b4 b6 b8 b10 sh it lc dy pct lr sr lf itf lnf sn tn kn hi kl ke kd ks ka ld fd fk fv es sk so lo us lev se (hsh) (hit) (hitf) (hsn) (htn) (hln)) (cwV 2 hts (gV w_625 w_626 w_627 w_1 w_628) rfl rfl rfl (by decide +kernel) ⟨Nat.le_of_ble_eq_true rfl, Nat.le_of_ble_eq_true rfl⟩) (PE_V hK hN hE hS (fun _ h => False.elim h) hP hD [1, 2, 3, 4, 5, 6, 7] rfl pk1 rfl rfl) rfl rfl hl.1 rfl (lv_room (Nat.le_of_ble_eq_true rfl)) dL_level_5 ⟨Nat.le_of_ble_eq_true rfl, Nat.le_of_ble_eq_true rfl⟩) hS (fun _ _ h => False.elim h) (fun _ h => False.elim h) (fun _ _ h => False.elim h) (fun E ce q9 u t H1 locs1 ht hvm hpx hBX hz1 hk1 hS1 hce hcv hcl => ?_) (fun r u t H locs ht hvm hw hB hz1 hk1 hS => ?_)
  · exact absurd (hpx.1) hpx.2
  obtain ⟨hc2, hw⟩ := hw
  subst hw
  have hP := P_kept hP hk1
  refine my_i2l hx hb dL_level_8 (by omega) ?_
  refine my_last0 hx hb hK hP hD hS 0 rfl dL_level_9 (fun H locs hP hD hS => ?_)
  have hP : va_P D vwCl [(po, .inl (cs 4, 1, .inr (.inl (vp_updL ov 0 (lI (lev)))))), (kr, .inr (5, [.ref la, .ref ia, .ref na, .ref b4, .ref b6, .ref b8, .ref b10, .int (iI (((sh : Nat) : Int))), .int (iI (((it : Nat) : Int))), .int (iI (lc)), .int (iI (((dy : Nat) : Int))), .int (iI (pct)), .int (iI (lr)), .int (iI (sr))])), (la, arI cs 4 lf), (ia, arQ cs 2 5 itf), (na, arQ cs 3 20 lnf), (kn, .inr (3, [.ref hi, .int (iI (ld)), .int (iI (fd)), .int (iI (fk)), .int (iI (fv)), .ref kl, .ref ke, .ref kd, .ref ks, .ref ka, .int (iI (es)), .int (iI (sk)), .int (iI (so)), .int (iI (lo))])), (kl, .inr (2, [.ref us, .int (iI (lev))])), (us, arI cs 7 se)] H := hP
  have hD : va_D A [(po, .inl (cs 4, 1, .inr (.inl (vp_updL ov 0 (lI (lev)))))), (kr, .inr (5, [.ref la, .ref ia, .ref na, .ref b4, .ref b6, .ref b8, .ref b10, .int (iI (((sh : Nat) : Int))), .int (iI (((it : Nat) : Int))), .int (iI (lc)), .int (iI (((dy : Nat) : Int))), .int (iI (pct)), .int (iI (lr)), .int (iI (sr))])), (la, arI cs 4 lf), (ia, arQ cs 2 5 itf), (na, arQ cs 3 20 lnf), (kn, .inr (3, [.ref hi, .int (iI (ld)), .int (iI (fd)), .int (iI (fk)), .int (iI (fv)), .ref kl, .ref ke, .ref kd, .ref ks, .ref ka, .int (iI (es)), .int (iI (sk)), .int (iI (so)), .int (iI (lo))])), (kl, .inr (2, [.ref us, .int (iI (lev))])), (us, arI cs 7 se)] := hD
  refine lv_goto (tgt := 21) hx hb dL_level_10 (by decide) ?_
  refine lv_iconst (v := iI (0)) hx hb dL_level_21 rfl ?_
  subst hAe
  refine W.widen (k := 3) (n := 18) (by omega) (by omega) ?_
  have hres : iI (0) = iI (0) := congrArg iI (by
      rfl)
  exact W.iret hx hb hr (fun t ht hW => ⟨⟨_, (), rfl, hres, by show va_P D vwCl _ t.heap; rw [ht]; exact hP⟩, hS.F ht⟩) hS.2.2 dL_level_22

abbrev ws_L_stock : List Cond := Cond.codeWith yL_stock cL_stock 5 (some .int) [(0, 10, 13, 25), (0, 10, 17, 50)] :: ALL
set_option maxHeartbeats 4000000 in
set_option maxRecDepth 100000 in
theorem m_L_stock_no_t (l : Launch) (hst : l.stackTraces = false) (D : va_G) (cs : Nat → ClassId) (kr la ia na b4 b6 b8 b10 sh it : Nat) (lc : Int) (dy : Nat) (pct lr sr : Int) (lf : Nat → Int) (itf : Nat → Option Nat) (lnf : Nat → Option Nat) (zs zi : Int) (po : Nat) (ov : Nat → Int64) (hsh : sh ≤ 4) (hit : it ≤ 5) (hitf : ∀ j, j < it → itf j ≠ none) (hzs : -2147483648 ≤ zs ∧ zs < 2147483648) (hzi : -2147483648 ≤ zi ∧ zi < 2147483648) (hno : cdL sh it lnf zs zi ≠ 0) : Met l yL_stock ws_L_stock ({ frames := 9, cells := 3, slots := 18, locals := 149 }) (va_Pc [.ref kr, .int (iI (zs)), .int (iI (zi)), .ref po] (PE D cs [(po, .inl (cs 4, 1, .inr (.inl ov))), (kr, .inr (5, [.ref la, .ref ia, .ref na, .ref b4, .ref b6, .ref b8, .ref b10, .int (iI (((sh : Nat) : Int))), .int (iI (((it : Nat) : Int))), .int (iI (lc)), .int (iI (((dy : Nat) : Int))), .int (iI (pct)), .int (iI (lr)), .int (iI (sr))])), (la, arI cs 4 lf), (ia, arQ cs 2 5 itf), (na, arQ cs 3 20 lnf)] noA)) (va_Qi (fun r (_ : Unit) => r = iI (hkI [1, 2] (cdL sh it lnf zs zi))) (fun _ _ => True) noA) 3 18 noA := by
  refine va_MetW (cc := cL_stock) (maxL := 5) (ret := some .int) (hh := [(0, 10, 13, 25), (0, 10, 17, 50)]) (by decide +kernel) rfl ?_
  intro p e s m args below meth c s₁ B hml hv
  obtain ⟨rfl, ⟨hP, hK, hD, hN⟩, hE⟩ := hv
  have hx := B.exec
  have hb := B.bytes
  have hr := B.returns
  have hts : ∀ w ∈ ALL, w.before _ s = true := fun w h => atoms_spec (ws := ws_L_stock) B.pre w (List.mem_cons_of_mem _ h)
  have hown : s.vm.findClass RL = some m.cls := findClass_of_methodNamed B.named
  have hlocks := B.notSynchronized
  have htab : c.exceptionTable.toList = tableOf [(0, 10, 13, 25), (0, 10, 17, 50)] := vx_table (x := yL_stock) B (atoms_spec (ws := ws_L_stock) B.pre _ List.mem_cons_self)
  have hS : va_S noA s.heap s.heap [] := va_S.rf
  generalize inW [(po, .inl (cs 4, 1, .inr (.inl ov))), (kr, .inr (5, [.ref la, .ref ia, .ref na, .ref b4, .ref b6, .ref b8, .ref b10, .int (iI (((sh : Nat) : Int))), .int (iI (((it : Nat) : Int))), .int (iI (lc)), .int (iI (((dy : Nat) : Int))), .int (iI (pct)), .int (iI (lr)), .int (iI (sr))])), (la, arI cs 4 lf), (ia, arQ cs 2 5 itf), (na, arQ cs 3 20 lnf)] = A at hD
  have hl := lv_entry ([.ref kr, .int (iI (zs)), .int (iI (zi)), .ref po]) (n := 5) (Nat.le_of_ble_eq_true rfl)
  rw [lg_entry_eq]
  generalize (lg_sl ([.ref kr, .int (iI (zs)), .int (iI (zi)), .ref po]) ++ List.replicate (5 - (lg_sl ([.ref kr, .int (iI (zs)), .int (iI (zi)), .ref po])).length) Slot.unset).toArray = ls at hl ⊢
  have hl : lv_has ls 5 [(0, .ref kr), (1, .int (iI (zs))), (2, .int (iI (zi))), (3, .ref po)] := hl
  have hH := rfl (a := s.heap)
  refine lv_aload_n hx hb dL_stock_0 rfl (lv_at hl 3 rfl) ?_
  refine lv_iconst (v := iI (0)) hx hb dL_stock_1 rfl ?_
  refine lv_aload_n hx hb dL_stock_2 rfl (lv_at hl 0 rfl) ?_
  refine lv_iload_n hx hb dL_stock_3 rfl (lv_at hl 1 rfl) ?_
  refine lv_iload_n hx hb dL_stock_4 rfl (lv_at hl 2 rfl) ?_
  have pk1 : picks [(po, .inl (cs 4, 1, .inr (.inl ov))), (kr, .inr (5, [.ref la, .ref ia, .ref na, .ref b4, .ref b6, .ref b8, .ref b10, .int (iI (((sh : Nat) : Int))), .int (iI (((it : Nat) : Int))), .int (iI (lc)), .int (iI (((dy : Nat) : Int))), .int (iI (pct)), .int (iI (lr)), .int (iI (sr))])), (la, arI cs 4 lf), (ia, arQ cs 2 5 itf), (na, arQ cs 3 20 lnf)] [1, 2, 3, 4] [(kr, .inr (5, [.ref la, .ref ia, .ref na, .ref b4, .ref b6, .ref b8, .ref b10, .int (iI (((sh : Nat) : Int))), .int (iI (((it : Nat) : Int))), .int (iI (lc)), .int (iI (((dy : Nat) : Int))), .int (iI (pct)), .int (iI (lr)), .int (iI (sr))])), (la, arI cs 4 lf), (ia, arQ cs 2 5 itf), (na, arQ cs 3 20 lnf)] := ⟨rfl, rfl, rfl, rfl, trivial⟩
  refine vx_calli (vx_runV (As := [.int (iI (zs)), .int (iI (zi))]) (rest := [.int (iI (0)), .ref po]) ⟨hx, hb, hml, hown, hts⟩ (m_X5_stock_no l hst D cs kr la ia na b4 b6 b8 b10 sh it lc dy pct lr sr lf itf lnf zs zi (hsh) (hit) (hitf) (hzs) (hzi) (hno)) (cwV 2 hts (gV w_679 w_680 w_681 w_1 w_682) rfl rfl rfl (by decide +kernel) ⟨Nat.le_of_ble_eq_true rfl, Nat.le_of_ble_eq_true rfl⟩) (PE_V hK hN hE hS (fun _ h => False.elim h) hP hD [1, 2, 3, 4] rfl pk1 rfl rfl) rfl rfl hl.1 rfl (lv_room (Nat.le_of_ble_eq_true rfl)) dL_stock_5 ⟨Nat.le_of_ble_eq_true rfl, Nat.le_of_ble_eq_true rfl⟩) hS (fun _ _ h => False.elim h) (fun _ h => False.elim h) (fun _ _ h => False.elim h) (fun E ce q9 u t H1 locs1 ht hvm hpx hBX hz1 hk1 hS1 hce hcv hcl => ?_) (fun r u t H locs ht hvm hw hB hz1 hk1 hS => ?_)
  · have h9 : u = cdL sh it lnf zs zi := hpx.1
    have hS := hS1
    have hcd : cdL sh it lnf zs zi = 2 ∨ cdL sh it lnf zs zi = 1 := by
      revert hno
      (try unfold cdL); (try unfold cdS); (try unfold cdC)
      (repeat' split) <;> simp
    have hEu := hBX
    have hP := P_kept hP hk1
    rcases hcd with hc3 | hcd
    · have hE3 : E = "java/util/NoSuchElementException" := by have h8 : E = exN u := hEu; rw [h8, h9, hc3]; rfl
      subst hE3
      refine vx_catch (name := "java/util/NoSuchElementException") hown [⟨0, 10, 13, 25⟩] ⟨0, 10, 17, 50⟩ [] (htab.trans rfl) (fun z hz => by
          simp only [List.mem_cons, List.not_mem_nil, or_false] at hz
          rcases hz with rfl
          · exact Or.inr ⟨by decide, "java/lang/IndexOutOfBoundsException", hts _ w_266, hE.2.2.2.2.2 _ (List.mem_of_getElem? (i := 10) rfl)⟩) rfl (by decide) (hts _ w_455) (hE.use _ (List.mem_append_right _ (List.mem_map.mpr ⟨_, List.mem_of_getElem? (i := 1) rfl, rfl⟩))) hce hcv hcl ?_
      refine lv_astore (lv' := [(4, .ref q9), (0, .ref kr), (1, .int (iI (zs))), (2, .int (iI (zi))), (3, .ref po)]) hx hb dL_stock_17 hl (by decide) rfl (fun ls hl => ?_)
      refine lv_iconst (v := iI (2)) hx hb dL_stock_19 rfl ?_
      refine W.widen (k := 3) (n := 18) (by omega) (by omega) ?_
      have hres : iI (2) = iI (hkI [1, 2] (cdL sh it lnf zs zi)) := congrArg iI (by
          rw [hc3]; rfl)
      exact W.iret hx hb hr (fun t ht hW => ⟨⟨_, (), rfl, hres, trivial⟩, hS.F ht⟩) hS.2.2 dL_stock_20
    have hc3 := hcd
    have hE3 : E = "java/lang/IndexOutOfBoundsException" := by have h8 : E = exN u := hEu; rw [h8, h9, hc3]; rfl
    subst hE3
    refine vx_catch (name := "java/lang/IndexOutOfBoundsException") hown [] ⟨0, 10, 13, 25⟩ [⟨0, 10, 17, 50⟩] (htab.trans rfl) (fun z hz => by cases hz) rfl (by decide) (hts _ w_266) (hE.use _ (List.mem_append_right _ (List.mem_map.mpr ⟨_, List.mem_of_getElem? (i := 0) rfl, rfl⟩))) hce hcv hcl ?_
    refine lv_astore (lv' := [(4, .ref q9), (0, .ref kr), (1, .int (iI (zs))), (2, .int (iI (zi))), (3, .ref po)]) hx hb dL_stock_13 hl (by decide) rfl (fun ls hl => ?_)
    refine lv_iconst (v := iI (1)) hx hb dL_stock_15 rfl ?_
    refine W.widen (k := 3) (n := 18) (by omega) (by omega) ?_
    have hres : iI (1) = iI (hkI [1, 2] (cdL sh it lnf zs zi)) := congrArg iI (by
        rw [hc3]; rfl)
    exact W.iret hx hb hr (fun t ht hW => ⟨⟨_, (), rfl, hres, trivial⟩, hS.F ht⟩) hS.2.2 dL_stock_16
  obtain ⟨hc2, hw⟩ := hw
  subst hw
  have hP := P_kept hP hk1
  exact absurd hc2 hno

set_option maxHeartbeats 4000000 in
set_option maxRecDepth 100000 in
theorem m_L_stock_ok_r (l : Launch) (hst : l.stackTraces = false) (D : va_G) (cs : Nat → ClassId) (kr la ia na b4 b6 b8 b10 sh it : Nat) (lc : Int) (dy : Nat) (pct lr sr : Int) (lf : Nat → Int) (itf : Nat → Option Nat) (lnf : Nat → Option Nat) (sn tn : Nat) (kn hi kl ke kd ks ka : Nat) (ld fd fk fv es sk so lo : Int) (po : Nat) (ov : Nat → Int64) (hsh : sh ≤ 4) (hit : it ≤ 5) (hitf : ∀ j, j < it → itf j ≠ none) (hsn : sn < sh) (htn : tn < it) (hln : lnf (sn * 5 + tn) = some kn) (hrr : -2147483648 ≤ sk ∧ sk < 2147483648) : Met l yL_stock ws_L_stock ({ frames := 9, cells := 3, slots := 18, locals := 149 }) (va_Pc [.ref kr, .int (iI (((sn : Nat) : Int))), .int (iI (((tn : Nat) : Int))), .ref po] (PE D cs [(po, .inl (cs 4, 1, .inr (.inl ov))), (kr, .inr (5, [.ref la, .ref ia, .ref na, .ref b4, .ref b6, .ref b8, .ref b10, .int (iI (((sh : Nat) : Int))), .int (iI (((it : Nat) : Int))), .int (iI (lc)), .int (iI (((dy : Nat) : Int))), .int (iI (pct)), .int (iI (lr)), .int (iI (sr))])), (la, arI cs 4 lf), (ia, arQ cs 2 5 itf), (na, arQ cs 3 20 lnf), (kn, .inr (3, [.ref hi, .int (iI (ld)), .int (iI (fd)), .int (iI (fk)), .int (iI (fv)), .ref kl, .ref ke, .ref kd, .ref ks, .ref ka, .int (iI (es)), .int (iI (sk)), .int (iI (so)), .int (iI (lo))]))] (inW [(po, .inl (cs 4, 1, .inr (.inl ov))), (kr, .inr (5, [.ref la, .ref ia, .ref na, .ref b4, .ref b6, .ref b8, .ref b10, .int (iI (((sh : Nat) : Int))), .int (iI (((it : Nat) : Int))), .int (iI (lc)), .int (iI (((dy : Nat) : Int))), .int (iI (pct)), .int (iI (lr)), .int (iI (sr))])), (la, arI cs 4 lf), (ia, arQ cs 2 5 itf), (na, arQ cs 3 20 lnf), (kn, .inr (3, [.ref hi, .int (iI (ld)), .int (iI (fd)), .int (iI (fk)), .int (iI (fv)), .ref kl, .ref ke, .ref kd, .ref ks, .ref ka, .int (iI (es)), .int (iI (sk)), .int (iI (so)), .int (iI (lo))]))]))) (va_Qi (fun r (_ : Unit) => r = iI (0)) (fun _ t => va_P D vwCl [(po, .inl (cs 4, 1, .inr (.inl (vp_updL ov 0 (lI (sk)))))), (kr, .inr (5, [.ref la, .ref ia, .ref na, .ref b4, .ref b6, .ref b8, .ref b10, .int (iI (((sh : Nat) : Int))), .int (iI (((it : Nat) : Int))), .int (iI (lc)), .int (iI (((dy : Nat) : Int))), .int (iI (pct)), .int (iI (lr)), .int (iI (sr))])), (la, arI cs 4 lf), (ia, arQ cs 2 5 itf), (na, arQ cs 3 20 lnf), (kn, .inr (3, [.ref hi, .int (iI (ld)), .int (iI (fd)), .int (iI (fk)), .int (iI (fv)), .ref kl, .ref ke, .ref kd, .ref ks, .ref ka, .int (iI (es)), .int (iI (sk)), .int (iI (so)), .int (iI (lo))]))] t.heap) (inW [(po, .inl (cs 4, 1, .inr (.inl ov))), (kr, .inr (5, [.ref la, .ref ia, .ref na, .ref b4, .ref b6, .ref b8, .ref b10, .int (iI (((sh : Nat) : Int))), .int (iI (((it : Nat) : Int))), .int (iI (lc)), .int (iI (((dy : Nat) : Int))), .int (iI (pct)), .int (iI (lr)), .int (iI (sr))])), (la, arI cs 4 lf), (ia, arQ cs 2 5 itf), (na, arQ cs 3 20 lnf), (kn, .inr (3, [.ref hi, .int (iI (ld)), .int (iI (fd)), .int (iI (fk)), .int (iI (fv)), .ref kl, .ref ke, .ref kd, .ref ks, .ref ka, .int (iI (es)), .int (iI (sk)), .int (iI (so)), .int (iI (lo))]))])) 3 18 (inW [(po, .inl (cs 4, 1, .inr (.inl ov))), (kr, .inr (5, [.ref la, .ref ia, .ref na, .ref b4, .ref b6, .ref b8, .ref b10, .int (iI (((sh : Nat) : Int))), .int (iI (((it : Nat) : Int))), .int (iI (lc)), .int (iI (((dy : Nat) : Int))), .int (iI (pct)), .int (iI (lr)), .int (iI (sr))])), (la, arI cs 4 lf), (ia, arQ cs 2 5 itf), (na, arQ cs 3 20 lnf), (kn, .inr (3, [.ref hi, .int (iI (ld)), .int (iI (fd)), .int (iI (fk)), .int (iI (fv)), .ref kl, .ref ke, .ref kd, .ref ks, .ref ka, .int (iI (es)), .int (iI (sk)), .int (iI (so)), .int (iI (lo))]))]) := by
  refine va_MetW (cc := cL_stock) (maxL := 5) (ret := some .int) (hh := [(0, 10, 13, 25), (0, 10, 17, 50)]) (by decide +kernel) rfl ?_
  intro p e s m args below meth c s₁ B hml hv
  obtain ⟨rfl, ⟨hP, hK, hD, hN⟩, hE⟩ := hv
  have hx := B.exec
  have hb := B.bytes
  have hr := B.returns
  have hts : ∀ w ∈ ALL, w.before _ s = true := fun w h => atoms_spec (ws := ws_L_stock) B.pre w (List.mem_cons_of_mem _ h)
  have hown : s.vm.findClass RL = some m.cls := findClass_of_methodNamed B.named
  have hlocks := B.notSynchronized
  have htab : c.exceptionTable.toList = tableOf [(0, 10, 13, 25), (0, 10, 17, 50)] := vx_table (x := yL_stock) B (atoms_spec (ws := ws_L_stock) B.pre _ List.mem_cons_self)
  generalize hAe : inW [(po, .inl (cs 4, 1, .inr (.inl ov))), (kr, .inr (5, [.ref la, .ref ia, .ref na, .ref b4, .ref b6, .ref b8, .ref b10, .int (iI (((sh : Nat) : Int))), .int (iI (((it : Nat) : Int))), .int (iI (lc)), .int (iI (((dy : Nat) : Int))), .int (iI (pct)), .int (iI (lr)), .int (iI (sr))])), (la, arI cs 4 lf), (ia, arQ cs 2 5 itf), (na, arQ cs 3 20 lnf), (kn, .inr (3, [.ref hi, .int (iI (ld)), .int (iI (fd)), .int (iI (fk)), .int (iI (fv)), .ref kl, .ref ke, .ref kd, .ref ks, .ref ka, .int (iI (es)), .int (iI (sk)), .int (iI (so)), .int (iI (lo))]))] = A at hD hE ⊢
  have hS : va_S A s.heap s.heap [] := va_S.rf
  have hl := lv_entry ([.ref kr, .int (iI (((sn : Nat) : Int))), .int (iI (((tn : Nat) : Int))), .ref po]) (n := 5) (Nat.le_of_ble_eq_true rfl)
  rw [lg_entry_eq]
  generalize (lg_sl ([.ref kr, .int (iI (((sn : Nat) : Int))), .int (iI (((tn : Nat) : Int))), .ref po]) ++ List.replicate (5 - (lg_sl ([.ref kr, .int (iI (((sn : Nat) : Int))), .int (iI (((tn : Nat) : Int))), .ref po])).length) Slot.unset).toArray = ls at hl ⊢
  have hl : lv_has ls 5 [(0, .ref kr), (1, .int (iI (((sn : Nat) : Int)))), (2, .int (iI (((tn : Nat) : Int)))), (3, .ref po)] := hl
  have hH := rfl (a := s.heap)
  refine lv_aload_n hx hb dL_stock_0 rfl (lv_at hl 3 rfl) ?_
  refine lv_iconst (v := iI (0)) hx hb dL_stock_1 rfl ?_
  refine lv_aload_n hx hb dL_stock_2 rfl (lv_at hl 0 rfl) ?_
  refine lv_iload_n hx hb dL_stock_3 rfl (lv_at hl 1 rfl) ?_
  refine lv_iload_n hx hb dL_stock_4 rfl (lv_at hl 2 rfl) ?_
  have pk1 : picks [(po, .inl (cs 4, 1, .inr (.inl ov))), (kr, .inr (5, [.ref la, .ref ia, .ref na, .ref b4, .ref b6, .ref b8, .ref b10, .int (iI (((sh : Nat) : Int))), .int (iI (((it : Nat) : Int))), .int (iI (lc)), .int (iI (((dy : Nat) : Int))), .int (iI (pct)), .int (iI (lr)), .int (iI (sr))])), (la, arI cs 4 lf), (ia, arQ cs 2 5 itf), (na, arQ cs 3 20 lnf), (kn, .inr (3, [.ref hi, .int (iI (ld)), .int (iI (fd)), .int (iI (fk)), .int (iI (fv)), .ref kl, .ref ke, .ref kd, .ref ks, .ref ka, .int (iI (es)), .int (iI (sk)), .int (iI (so)), .int (iI (lo))]))] [1, 2, 3, 4, 5] [(kr, .inr (5, [.ref la, .ref ia, .ref na, .ref b4, .ref b6, .ref b8, .ref b10, .int (iI (((sh : Nat) : Int))), .int (iI (((it : Nat) : Int))), .int (iI (lc)), .int (iI (((dy : Nat) : Int))), .int (iI (pct)), .int (iI (lr)), .int (iI (sr))])), (la, arI cs 4 lf), (ia, arQ cs 2 5 itf), (na, arQ cs 3 20 lnf), (kn, .inr (3, [.ref hi, .int (iI (ld)), .int (iI (fd)), .int (iI (fk)), .int (iI (fv)), .ref kl, .ref ke, .ref kd, .ref ks, .ref ka, .int (iI (es)), .int (iI (sk)), .int (iI (so)), .int (iI (lo))]))] := ⟨rfl, rfl, rfl, rfl, rfl, trivial⟩
  refine vx_calli (vx_runV (As := [.int (iI (((sn : Nat) : Int))), .int (iI (((tn : Nat) : Int)))]) (rest := [.int (iI (0)), .ref po]) ⟨hx, hb, hml, hown, hts⟩ (m_X5_stock_ok l hst D cs kr la ia na b4 b6 b8 b10 sh it lc dy pct lr sr lf itf lnf sn tn kn hi kl ke kd ks ka ld fd fk fv es sk so lo (hsh) (hit) (hitf) (hsn) (htn) (hln)) (cwV 2 hts (gV w_679 w_680 w_681 w_1 w_682) rfl rfl rfl (by decide +kernel) ⟨Nat.le_of_ble_eq_true rfl, Nat.le_of_ble_eq_true rfl⟩) (PE_V hK hN hE hS (fun _ h => False.elim h) hP hD [1, 2, 3, 4, 5] rfl pk1 rfl rfl) rfl rfl hl.1 rfl (lv_room (Nat.le_of_ble_eq_true rfl)) dL_stock_5 ⟨Nat.le_of_ble_eq_true rfl, Nat.le_of_ble_eq_true rfl⟩) hS (fun _ _ h => False.elim h) (fun _ h => False.elim h) (fun _ _ h => False.elim h) (fun E ce q9 u t H1 locs1 ht hvm hpx hBX hz1 hk1 hS1 hce hcv hcl => ?_) (fun r u t H locs ht hvm hw hB hz1 hk1 hS => ?_)
  · exact absurd (hpx.1) hpx.2
  obtain ⟨hc2, hw⟩ := hw
  subst hw
  have hP := P_kept hP hk1
  refine my_i2l hx hb dL_stock_8 (by omega) ?_
  refine my_last0 hx hb hK hP hD hS 0 rfl dL_stock_9 (fun H locs hP hD hS => ?_)
  have hP : va_P D vwCl [(po, .inl (cs 4, 1, .inr (.inl (vp_updL ov 0 (lI (sk)))))), (kr, .inr (5, [.ref la, .ref ia, .ref na, .ref b4, .ref b6, .ref b8, .ref b10, .int (iI (((sh : Nat) : Int))), .int (iI (((it : Nat) : Int))), .int (iI (lc)), .int (iI (((dy : Nat) : Int))), .int (iI (pct)), .int (iI (lr)), .int (iI (sr))])), (la, arI cs 4 lf), (ia, arQ cs 2 5 itf), (na, arQ cs 3 20 lnf), (kn, .inr (3, [.ref hi, .int (iI (ld)), .int (iI (fd)), .int (iI (fk)), .int (iI (fv)), .ref kl, .ref ke, .ref kd, .ref ks, .ref ka, .int (iI (es)), .int (iI (sk)), .int (iI (so)), .int (iI (lo))]))] H := hP
  have hD : va_D A [(po, .inl (cs 4, 1, .inr (.inl (vp_updL ov 0 (lI (sk)))))), (kr, .inr (5, [.ref la, .ref ia, .ref na, .ref b4, .ref b6, .ref b8, .ref b10, .int (iI (((sh : Nat) : Int))), .int (iI (((it : Nat) : Int))), .int (iI (lc)), .int (iI (((dy : Nat) : Int))), .int (iI (pct)), .int (iI (lr)), .int (iI (sr))])), (la, arI cs 4 lf), (ia, arQ cs 2 5 itf), (na, arQ cs 3 20 lnf), (kn, .inr (3, [.ref hi, .int (iI (ld)), .int (iI (fd)), .int (iI (fk)), .int (iI (fv)), .ref kl, .ref ke, .ref kd, .ref ks, .ref ka, .int (iI (es)), .int (iI (sk)), .int (iI (so)), .int (iI (lo))]))] := hD
  refine lv_goto (tgt := 21) hx hb dL_stock_10 (by decide) ?_
  refine lv_iconst (v := iI (0)) hx hb dL_stock_21 rfl ?_
  subst hAe
  refine W.widen (k := 3) (n := 18) (by omega) (by omega) ?_
  have hres : iI (0) = iI (0) := congrArg iI (by
      rfl)
  exact W.iret hx hb hr (fun t ht hW => ⟨⟨_, (), rfl, hres, by show va_P D vwCl _ t.heap; rw [ht]; exact hP⟩, hS.F ht⟩) hS.2.2 dL_stock_22

abbrev ws_L_sold : List Cond := Cond.codeWith yL_sold cL_sold 5 (some .int) [(0, 10, 13, 25), (0, 10, 17, 50)] :: ALL
set_option maxHeartbeats 4000000 in
set_option maxRecDepth 100000 in
theorem m_L_sold_no_t (l : Launch) (hst : l.stackTraces = false) (D : va_G) (cs : Nat → ClassId) (kr la ia na b4 b6 b8 b10 sh it : Nat) (lc : Int) (dy : Nat) (pct lr sr : Int) (lf : Nat → Int) (itf : Nat → Option Nat) (lnf : Nat → Option Nat) (zs zi : Int) (po : Nat) (ov : Nat → Int64) (hsh : sh ≤ 4) (hit : it ≤ 5) (hitf : ∀ j, j < it → itf j ≠ none) (hzs : -2147483648 ≤ zs ∧ zs < 2147483648) (hzi : -2147483648 ≤ zi ∧ zi < 2147483648) (hno : cdL sh it lnf zs zi ≠ 0) : Met l yL_sold ws_L_sold ({ frames := 9, cells := 3, slots := 18, locals := 149 }) (va_Pc [.ref kr, .int (iI (zs)), .int (iI (zi)), .ref po] (PE D cs [(po, .inl (cs 4, 1, .inr (.inl ov))), (kr, .inr (5, [.ref la, .ref ia, .ref na, .ref b4, .ref b6, .ref b8, .ref b10, .int (iI (((sh : Nat) : Int))), .int (iI (((it : Nat) : Int))), .int (iI (lc)), .int (iI (((dy : Nat) : Int))), .int (iI (pct)), .int (iI (lr)), .int (iI (sr))])), (la, arI cs 4 lf), (ia, arQ cs 2 5 itf), (na, arQ cs 3 20 lnf)] noA)) (va_Qi (fun r (_ : Unit) => r = iI (hkI [1, 2] (cdL sh it lnf zs zi))) (fun _ _ => True) noA) 3 18 noA := by
  refine va_MetW (cc := cL_sold) (maxL := 5) (ret := some .int) (hh := [(0, 10, 13, 25), (0, 10, 17, 50)]) (by decide +kernel) rfl ?_
  intro p e s m args below meth c s₁ B hml hv
  obtain ⟨rfl, ⟨hP, hK, hD, hN⟩, hE⟩ := hv
  have hx := B.exec
  have hb := B.bytes
  have hr := B.returns
  have hts : ∀ w ∈ ALL, w.before _ s = true := fun w h => atoms_spec (ws := ws_L_sold) B.pre w (List.mem_cons_of_mem _ h)
  have hown : s.vm.findClass RL = some m.cls := findClass_of_methodNamed B.named
  have hlocks := B.notSynchronized
  have htab : c.exceptionTable.toList = tableOf [(0, 10, 13, 25), (0, 10, 17, 50)] := vx_table (x := yL_sold) B (atoms_spec (ws := ws_L_sold) B.pre _ List.mem_cons_self)
  have hS : va_S noA s.heap s.heap [] := va_S.rf
  generalize inW [(po, .inl (cs 4, 1, .inr (.inl ov))), (kr, .inr (5, [.ref la, .ref ia, .ref na, .ref b4, .ref b6, .ref b8, .ref b10, .int (iI (((sh : Nat) : Int))), .int (iI (((it : Nat) : Int))), .int (iI (lc)), .int (iI (((dy : Nat) : Int))), .int (iI (pct)), .int (iI (lr)), .int (iI (sr))])), (la, arI cs 4 lf), (ia, arQ cs 2 5 itf), (na, arQ cs 3 20 lnf)] = A at hD
  have hl := lv_entry ([.ref kr, .int (iI (zs)), .int (iI (zi)), .ref po]) (n := 5) (Nat.le_of_ble_eq_true rfl)
  rw [lg_entry_eq]
  generalize (lg_sl ([.ref kr, .int (iI (zs)), .int (iI (zi)), .ref po]) ++ List.replicate (5 - (lg_sl ([.ref kr, .int (iI (zs)), .int (iI (zi)), .ref po])).length) Slot.unset).toArray = ls at hl ⊢
  have hl : lv_has ls 5 [(0, .ref kr), (1, .int (iI (zs))), (2, .int (iI (zi))), (3, .ref po)] := hl
  have hH := rfl (a := s.heap)
  refine lv_aload_n hx hb dL_sold_0 rfl (lv_at hl 3 rfl) ?_
  refine lv_iconst (v := iI (0)) hx hb dL_sold_1 rfl ?_
  refine lv_aload_n hx hb dL_sold_2 rfl (lv_at hl 0 rfl) ?_
  refine lv_iload_n hx hb dL_sold_3 rfl (lv_at hl 1 rfl) ?_
  refine lv_iload_n hx hb dL_sold_4 rfl (lv_at hl 2 rfl) ?_
  have pk1 : picks [(po, .inl (cs 4, 1, .inr (.inl ov))), (kr, .inr (5, [.ref la, .ref ia, .ref na, .ref b4, .ref b6, .ref b8, .ref b10, .int (iI (((sh : Nat) : Int))), .int (iI (((it : Nat) : Int))), .int (iI (lc)), .int (iI (((dy : Nat) : Int))), .int (iI (pct)), .int (iI (lr)), .int (iI (sr))])), (la, arI cs 4 lf), (ia, arQ cs 2 5 itf), (na, arQ cs 3 20 lnf)] [1, 2, 3, 4] [(kr, .inr (5, [.ref la, .ref ia, .ref na, .ref b4, .ref b6, .ref b8, .ref b10, .int (iI (((sh : Nat) : Int))), .int (iI (((it : Nat) : Int))), .int (iI (lc)), .int (iI (((dy : Nat) : Int))), .int (iI (pct)), .int (iI (lr)), .int (iI (sr))])), (la, arI cs 4 lf), (ia, arQ cs 2 5 itf), (na, arQ cs 3 20 lnf)] := ⟨rfl, rfl, rfl, rfl, trivial⟩
  refine vx_calli (vx_runV (As := [.int (iI (zs)), .int (iI (zi))]) (rest := [.int (iI (0)), .ref po]) ⟨hx, hb, hml, hown, hts⟩ (m_X5_sold_no l hst D cs kr la ia na b4 b6 b8 b10 sh it lc dy pct lr sr lf itf lnf zs zi (hsh) (hit) (hitf) (hzs) (hzi) (hno)) (cwV 2 hts (gV w_776 w_777 w_778 w_1 w_779) rfl rfl rfl (by decide +kernel) ⟨Nat.le_of_ble_eq_true rfl, Nat.le_of_ble_eq_true rfl⟩) (PE_V hK hN hE hS (fun _ h => False.elim h) hP hD [1, 2, 3, 4] rfl pk1 rfl rfl) rfl rfl hl.1 rfl (lv_room (Nat.le_of_ble_eq_true rfl)) dL_sold_5 ⟨Nat.le_of_ble_eq_true rfl, Nat.le_of_ble_eq_true rfl⟩) hS (fun _ _ h => False.elim h) (fun _ h => False.elim h) (fun _ _ h => False.elim h) (fun E ce q9 u t H1 locs1 ht hvm hpx hBX hz1 hk1 hS1 hce hcv hcl => ?_) (fun r u t H locs ht hvm hw hB hz1 hk1 hS => ?_)
  · have h9 : u = cdL sh it lnf zs zi := hpx.1
    have hS := hS1
    have hcd : cdL sh it lnf zs zi = 2 ∨ cdL sh it lnf zs zi = 1 := by
      revert hno
      (try unfold cdL); (try unfold cdS); (try unfold cdC)
      (repeat' split) <;> simp
    have hEu := hBX
    have hP := P_kept hP hk1
    rcases hcd with hc3 | hcd
    · have hE3 : E = "java/util/NoSuchElementException" := by have h8 : E = exN u := hEu; rw [h8, h9, hc3]; rfl
      subst hE3
      refine vx_catch (name := "java/util/NoSuchElementException") hown [⟨0, 10, 13, 25⟩] ⟨0, 10, 17, 50⟩ [] (htab.trans rfl) (fun z hz => by
          simp only [List.mem_cons, List.not_mem_nil, or_false] at hz
          rcases hz with rfl
          · exact Or.inr ⟨by decide, "java/lang/IndexOutOfBoundsException", hts _ w_266, hE.2.2.2.2.2 _ (List.mem_of_getElem? (i := 10) rfl)⟩) rfl (by decide) (hts _ w_455) (hE.use _ (List.mem_append_right _ (List.mem_map.mpr ⟨_, List.mem_of_getElem? (i := 1) rfl, rfl⟩))) hce hcv hcl ?_
      refine lv_astore (lv' := [(4, .ref q9), (0, .ref kr), (1, .int (iI (zs))), (2, .int (iI (zi))), (3, .ref po)]) hx hb dL_sold_17 hl (by decide) rfl (fun ls hl => ?_)
      refine lv_iconst (v := iI (2)) hx hb dL_sold_19 rfl ?_
      refine W.widen (k := 3) (n := 18) (by omega) (by omega) ?_
      have hres : iI (2) = iI (hkI [1, 2] (cdL sh it lnf zs zi)) := congrArg iI (by
          rw [hc3]; rfl)
      exact W.iret hx hb hr (fun t ht hW => ⟨⟨_, (), rfl, hres, trivial⟩, hS.F ht⟩) hS.2.2 dL_sold_20
    have hc3 := hcd
    have hE3 : E = "java/lang/IndexOutOfBoundsException" := by have h8 : E = exN u := hEu; rw [h8, h9, hc3]; rfl
    subst hE3
    refine vx_catch (name := "java/lang/IndexOutOfBoundsException") hown [] ⟨0, 10, 13, 25⟩ [⟨0, 10, 17, 50⟩] (htab.trans rfl) (fun z hz => by cases hz) rfl (by decide) (hts _ w_266) (hE.use _ (List.mem_append_right _ (List.mem_map.mpr ⟨_, List.mem_of_getElem? (i := 0) rfl, rfl⟩))) hce hcv hcl ?_
    refine lv_astore (lv' := [(4, .ref q9), (0, .ref kr), (1, .int (iI (zs))), (2, .int (iI (zi))), (3, .ref po)]) hx hb dL_sold_13 hl (by decide) rfl (fun ls hl => ?_)
    refine lv_iconst (v := iI (1)) hx hb dL_sold_15 rfl ?_
    refine W.widen (k := 3) (n := 18) (by omega) (by omega) ?_
    have hres : iI (1) = iI (hkI [1, 2] (cdL sh it lnf zs zi)) := congrArg iI (by
        rw [hc3]; rfl)
    exact W.iret hx hb hr (fun t ht hW => ⟨⟨_, (), rfl, hres, trivial⟩, hS.F ht⟩) hS.2.2 dL_sold_16
  obtain ⟨hc2, hw⟩ := hw
  subst hw
  have hP := P_kept hP hk1
  exact absurd hc2 hno

set_option maxHeartbeats 4000000 in
set_option maxRecDepth 100000 in
theorem m_L_sold_ok_r (l : Launch) (hst : l.stackTraces = false) (D : va_G) (cs : Nat → ClassId) (kr la ia na b4 b6 b8 b10 sh it : Nat) (lc : Int) (dy : Nat) (pct lr sr : Int) (lf : Nat → Int) (itf : Nat → Option Nat) (lnf : Nat → Option Nat) (sn tn : Nat) (kn hi kl ke kd ks ka : Nat) (ld fd fk fv es sk so lo : Int) (po : Nat) (ov : Nat → Int64) (hsh : sh ≤ 4) (hit : it ≤ 5) (hitf : ∀ j, j < it → itf j ≠ none) (hsn : sn < sh) (htn : tn < it) (hln : lnf (sn * 5 + tn) = some kn) (hrr : -2147483648 ≤ so ∧ so < 2147483648) : Met l yL_sold ws_L_sold ({ frames := 9, cells := 3, slots := 18, locals := 149 }) (va_Pc [.ref kr, .int (iI (((sn : Nat) : Int))), .int (iI (((tn : Nat) : Int))), .ref po] (PE D cs [(po, .inl (cs 4, 1, .inr (.inl ov))), (kr, .inr (5, [.ref la, .ref ia, .ref na, .ref b4, .ref b6, .ref b8, .ref b10, .int (iI (((sh : Nat) : Int))), .int (iI (((it : Nat) : Int))), .int (iI (lc)), .int (iI (((dy : Nat) : Int))), .int (iI (pct)), .int (iI (lr)), .int (iI (sr))])), (la, arI cs 4 lf), (ia, arQ cs 2 5 itf), (na, arQ cs 3 20 lnf), (kn, .inr (3, [.ref hi, .int (iI (ld)), .int (iI (fd)), .int (iI (fk)), .int (iI (fv)), .ref kl, .ref ke, .ref kd, .ref ks, .ref ka, .int (iI (es)), .int (iI (sk)), .int (iI (so)), .int (iI (lo))]))] (inW [(po, .inl (cs 4, 1, .inr (.inl ov))), (kr, .inr (5, [.ref la, .ref ia, .ref na, .ref b4, .ref b6, .ref b8, .ref b10, .int (iI (((sh : Nat) : Int))), .int (iI (((it : Nat) : Int))), .int (iI (lc)), .int (iI (((dy : Nat) : Int))), .int (iI (pct)), .int (iI (lr)), .int (iI (sr))])), (la, arI cs 4 lf), (ia, arQ cs 2 5 itf), (na, arQ cs 3 20 lnf), (kn, .inr (3, [.ref hi, .int (iI (ld)), .int (iI (fd)), .int (iI (fk)), .int (iI (fv)), .ref kl, .ref ke, .ref kd, .ref ks, .ref ka, .int (iI (es)), .int (iI (sk)), .int (iI (so)), .int (iI (lo))]))]))) (va_Qi (fun r (_ : Unit) => r = iI (0)) (fun _ t => va_P D vwCl [(po, .inl (cs 4, 1, .inr (.inl (vp_updL ov 0 (lI (so)))))), (kr, .inr (5, [.ref la, .ref ia, .ref na, .ref b4, .ref b6, .ref b8, .ref b10, .int (iI (((sh : Nat) : Int))), .int (iI (((it : Nat) : Int))), .int (iI (lc)), .int (iI (((dy : Nat) : Int))), .int (iI (pct)), .int (iI (lr)), .int (iI (sr))])), (la, arI cs 4 lf), (ia, arQ cs 2 5 itf), (na, arQ cs 3 20 lnf), (kn, .inr (3, [.ref hi, .int (iI (ld)), .int (iI (fd)), .int (iI (fk)), .int (iI (fv)), .ref kl, .ref ke, .ref kd, .ref ks, .ref ka, .int (iI (es)), .int (iI (sk)), .int (iI (so)), .int (iI (lo))]))] t.heap) (inW [(po, .inl (cs 4, 1, .inr (.inl ov))), (kr, .inr (5, [.ref la, .ref ia, .ref na, .ref b4, .ref b6, .ref b8, .ref b10, .int (iI (((sh : Nat) : Int))), .int (iI (((it : Nat) : Int))), .int (iI (lc)), .int (iI (((dy : Nat) : Int))), .int (iI (pct)), .int (iI (lr)), .int (iI (sr))])), (la, arI cs 4 lf), (ia, arQ cs 2 5 itf), (na, arQ cs 3 20 lnf), (kn, .inr (3, [.ref hi, .int (iI (ld)), .int (iI (fd)), .int (iI (fk)), .int (iI (fv)), .ref kl, .ref ke, .ref kd, .ref ks, .ref ka, .int (iI (es)), .int (iI (sk)), .int (iI (so)), .int (iI (lo))]))])) 3 18 (inW [(po, .inl (cs 4, 1, .inr (.inl ov))), (kr, .inr (5, [.ref la, .ref ia, .ref na, .ref b4, .ref b6, .ref b8, .ref b10, .int (iI (((sh : Nat) : Int))), .int (iI (((it : Nat) : Int))), .int (iI (lc)), .int (iI (((dy : Nat) : Int))), .int (iI (pct)), .int (iI (lr)), .int (iI (sr))])), (la, arI cs 4 lf), (ia, arQ cs 2 5 itf), (na, arQ cs 3 20 lnf), (kn, .inr (3, [.ref hi, .int (iI (ld)), .int (iI (fd)), .int (iI (fk)), .int (iI (fv)), .ref kl, .ref ke, .ref kd, .ref ks, .ref ka, .int (iI (es)), .int (iI (sk)), .int (iI (so)), .int (iI (lo))]))]) := by
  refine va_MetW (cc := cL_sold) (maxL := 5) (ret := some .int) (hh := [(0, 10, 13, 25), (0, 10, 17, 50)]) (by decide +kernel) rfl ?_
  intro p e s m args below meth c s₁ B hml hv
  obtain ⟨rfl, ⟨hP, hK, hD, hN⟩, hE⟩ := hv
  have hx := B.exec
  have hb := B.bytes
  have hr := B.returns
  have hts : ∀ w ∈ ALL, w.before _ s = true := fun w h => atoms_spec (ws := ws_L_sold) B.pre w (List.mem_cons_of_mem _ h)
  have hown : s.vm.findClass RL = some m.cls := findClass_of_methodNamed B.named
  have hlocks := B.notSynchronized
  have htab : c.exceptionTable.toList = tableOf [(0, 10, 13, 25), (0, 10, 17, 50)] := vx_table (x := yL_sold) B (atoms_spec (ws := ws_L_sold) B.pre _ List.mem_cons_self)
  generalize hAe : inW [(po, .inl (cs 4, 1, .inr (.inl ov))), (kr, .inr (5, [.ref la, .ref ia, .ref na, .ref b4, .ref b6, .ref b8, .ref b10, .int (iI (((sh : Nat) : Int))), .int (iI (((it : Nat) : Int))), .int (iI (lc)), .int (iI (((dy : Nat) : Int))), .int (iI (pct)), .int (iI (lr)), .int (iI (sr))])), (la, arI cs 4 lf), (ia, arQ cs 2 5 itf), (na, arQ cs 3 20 lnf), (kn, .inr (3, [.ref hi, .int (iI (ld)), .int (iI (fd)), .int (iI (fk)), .int (iI (fv)), .ref kl, .ref ke, .ref kd, .ref ks, .ref ka, .int (iI (es)), .int (iI (sk)), .int (iI (so)), .int (iI (lo))]))] = A at hD hE ⊢
  have hS : va_S A s.heap s.heap [] := va_S.rf
  have hl := lv_entry ([.ref kr, .int (iI (((sn : Nat) : Int))), .int (iI (((tn : Nat) : Int))), .ref po]) (n := 5) (Nat.le_of_ble_eq_true rfl)
  rw [lg_entry_eq]
  generalize (lg_sl ([.ref kr, .int (iI (((sn : Nat) : Int))), .int (iI (((tn : Nat) : Int))), .ref po]) ++ List.replicate (5 - (lg_sl ([.ref kr, .int (iI (((sn : Nat) : Int))), .int (iI (((tn : Nat) : Int))), .ref po])).length) Slot.unset).toArray = ls at hl ⊢
  have hl : lv_has ls 5 [(0, .ref kr), (1, .int (iI (((sn : Nat) : Int)))), (2, .int (iI (((tn : Nat) : Int)))), (3, .ref po)] := hl
  have hH := rfl (a := s.heap)
  refine lv_aload_n hx hb dL_sold_0 rfl (lv_at hl 3 rfl) ?_
  refine lv_iconst (v := iI (0)) hx hb dL_sold_1 rfl ?_
  refine lv_aload_n hx hb dL_sold_2 rfl (lv_at hl 0 rfl) ?_
  refine lv_iload_n hx hb dL_sold_3 rfl (lv_at hl 1 rfl) ?_
  refine lv_iload_n hx hb dL_sold_4 rfl (lv_at hl 2 rfl) ?_
  have pk1 : picks [(po, .inl (cs 4, 1, .inr (.inl ov))), (kr, .inr (5, [.ref la, .ref ia, .ref na, .ref b4, .ref b6, .ref b8, .ref b10, .int (iI (((sh : Nat) : Int))), .int (iI (((it : Nat) : Int))), .int (iI (lc)), .int (iI (((dy : Nat) : Int))), .int (iI (pct)), .int (iI (lr)), .int (iI (sr))])), (la, arI cs 4 lf), (ia, arQ cs 2 5 itf), (na, arQ cs 3 20 lnf), (kn, .inr (3, [.ref hi, .int (iI (ld)), .int (iI (fd)), .int (iI (fk)), .int (iI (fv)), .ref kl, .ref ke, .ref kd, .ref ks, .ref ka, .int (iI (es)), .int (iI (sk)), .int (iI (so)), .int (iI (lo))]))] [1, 2, 3, 4, 5] [(kr, .inr (5, [.ref la, .ref ia, .ref na, .ref b4, .ref b6, .ref b8, .ref b10, .int (iI (((sh : Nat) : Int))), .int (iI (((it : Nat) : Int))), .int (iI (lc)), .int (iI (((dy : Nat) : Int))), .int (iI (pct)), .int (iI (lr)), .int (iI (sr))])), (la, arI cs 4 lf), (ia, arQ cs 2 5 itf), (na, arQ cs 3 20 lnf), (kn, .inr (3, [.ref hi, .int (iI (ld)), .int (iI (fd)), .int (iI (fk)), .int (iI (fv)), .ref kl, .ref ke, .ref kd, .ref ks, .ref ka, .int (iI (es)), .int (iI (sk)), .int (iI (so)), .int (iI (lo))]))] := ⟨rfl, rfl, rfl, rfl, rfl, trivial⟩
  refine vx_calli (vx_runV (As := [.int (iI (((sn : Nat) : Int))), .int (iI (((tn : Nat) : Int)))]) (rest := [.int (iI (0)), .ref po]) ⟨hx, hb, hml, hown, hts⟩ (m_X5_sold_ok l hst D cs kr la ia na b4 b6 b8 b10 sh it lc dy pct lr sr lf itf lnf sn tn kn hi kl ke kd ks ka ld fd fk fv es sk so lo (hsh) (hit) (hitf) (hsn) (htn) (hln)) (cwV 2 hts (gV w_776 w_777 w_778 w_1 w_779) rfl rfl rfl (by decide +kernel) ⟨Nat.le_of_ble_eq_true rfl, Nat.le_of_ble_eq_true rfl⟩) (PE_V hK hN hE hS (fun _ h => False.elim h) hP hD [1, 2, 3, 4, 5] rfl pk1 rfl rfl) rfl rfl hl.1 rfl (lv_room (Nat.le_of_ble_eq_true rfl)) dL_sold_5 ⟨Nat.le_of_ble_eq_true rfl, Nat.le_of_ble_eq_true rfl⟩) hS (fun _ _ h => False.elim h) (fun _ h => False.elim h) (fun _ _ h => False.elim h) (fun E ce q9 u t H1 locs1 ht hvm hpx hBX hz1 hk1 hS1 hce hcv hcl => ?_) (fun r u t H locs ht hvm hw hB hz1 hk1 hS => ?_)
  · exact absurd (hpx.1) hpx.2
  obtain ⟨hc2, hw⟩ := hw
  subst hw
  have hP := P_kept hP hk1
  refine my_i2l hx hb dL_sold_8 (by omega) ?_
  refine my_last0 hx hb hK hP hD hS 0 rfl dL_sold_9 (fun H locs hP hD hS => ?_)
  have hP : va_P D vwCl [(po, .inl (cs 4, 1, .inr (.inl (vp_updL ov 0 (lI (so)))))), (kr, .inr (5, [.ref la, .ref ia, .ref na, .ref b4, .ref b6, .ref b8, .ref b10, .int (iI (((sh : Nat) : Int))), .int (iI (((it : Nat) : Int))), .int (iI (lc)), .int (iI (((dy : Nat) : Int))), .int (iI (pct)), .int (iI (lr)), .int (iI (sr))])), (la, arI cs 4 lf), (ia, arQ cs 2 5 itf), (na, arQ cs 3 20 lnf), (kn, .inr (3, [.ref hi, .int (iI (ld)), .int (iI (fd)), .int (iI (fk)), .int (iI (fv)), .ref kl, .ref ke, .ref kd, .ref ks, .ref ka, .int (iI (es)), .int (iI (sk)), .int (iI (so)), .int (iI (lo))]))] H := hP
  have hD : va_D A [(po, .inl (cs 4, 1, .inr (.inl (vp_updL ov 0 (lI (so)))))), (kr, .inr (5, [.ref la, .ref ia, .ref na, .ref b4, .ref b6, .ref b8, .ref b10, .int (iI (((sh : Nat) : Int))), .int (iI (((it : Nat) : Int))), .int (iI (lc)), .int (iI (((dy : Nat) : Int))), .int (iI (pct)), .int (iI (lr)), .int (iI (sr))])), (la, arI cs 4 lf), (ia, arQ cs 2 5 itf), (na, arQ cs 3 20 lnf), (kn, .inr (3, [.ref hi, .int (iI (ld)), .int (iI (fd)), .int (iI (fk)), .int (iI (fv)), .ref kl, .ref ke, .ref kd, .ref ks, .ref ka, .int (iI (es)), .int (iI (sk)), .int (iI (so)), .int (iI (lo))]))] := hD
  refine lv_goto (tgt := 21) hx hb dL_sold_10 (by decide) ?_
  refine lv_iconst (v := iI (0)) hx hb dL_sold_21 rfl ?_
  subst hAe
  refine W.widen (k := 3) (n := 18) (by omega) (by omega) ?_
  have hres : iI (0) = iI (0) := congrArg iI (by
      rfl)
  exact W.iret hx hb hr (fun t ht hW => ⟨⟨_, (), rfl, hres, by show va_P D vwCl _ t.heap; rw [ht]; exact hP⟩, hS.F ht⟩) hS.2.2 dL_sold_22

abbrev ws_L_lost : List Cond := Cond.codeWith yL_lost cL_lost 5 (some .int) [(0, 10, 13, 25), (0, 10, 17, 50)] :: ALL
set_option maxHeartbeats 4000000 in
set_option maxRecDepth 100000 in
theorem m_L_lost_no_t (l : Launch) (hst : l.stackTraces = false) (D : va_G) (cs : Nat → ClassId) (kr la ia na b4 b6 b8 b10 sh it : Nat) (lc : Int) (dy : Nat) (pct lr sr : Int) (lf : Nat → Int) (itf : Nat → Option Nat) (lnf : Nat → Option Nat) (zs zi : Int) (po : Nat) (ov : Nat → Int64) (hsh : sh ≤ 4) (hit : it ≤ 5) (hitf : ∀ j, j < it → itf j ≠ none) (hzs : -2147483648 ≤ zs ∧ zs < 2147483648) (hzi : -2147483648 ≤ zi ∧ zi < 2147483648) (hno : cdL sh it lnf zs zi ≠ 0) : Met l yL_lost ws_L_lost ({ frames := 9, cells := 3, slots := 18, locals := 149 }) (va_Pc [.ref kr, .int (iI (zs)), .int (iI (zi)), .ref po] (PE D cs [(po, .inl (cs 4, 1, .inr (.inl ov))), (kr, .inr (5, [.ref la, .ref ia, .ref na, .ref b4, .ref b6, .ref b8, .ref b10, .int (iI (((sh : Nat) : Int))), .int (iI (((it : Nat) : Int))), .int (iI (lc)), .int (iI (((dy : Nat) : Int))), .int (iI (pct)), .int (iI (lr)), .int (iI (sr))])), (la, arI cs 4 lf), (ia, arQ cs 2 5 itf), (na, arQ cs 3 20 lnf)] noA)) (va_Qi (fun r (_ : Unit) => r = iI (hkI [1, 2] (cdL sh it lnf zs zi))) (fun _ _ => True) noA) 3 18 noA := by
  refine va_MetW (cc := cL_lost) (maxL := 5) (ret := some .int) (hh := [(0, 10, 13, 25), (0, 10, 17, 50)]) (by decide +kernel) rfl ?_
  intro p e s m args below meth c s₁ B hml hv
  obtain ⟨rfl, ⟨hP, hK, hD, hN⟩, hE⟩ := hv
  have hx := B.exec
  have hb := B.bytes
  have hr := B.returns
  have hts : ∀ w ∈ ALL, w.before _ s = true := fun w h => atoms_spec (ws := ws_L_lost) B.pre w (List.mem_cons_of_mem _ h)
  have hown : s.vm.findClass RL = some m.cls := findClass_of_methodNamed B.named
  have hlocks := B.notSynchronized
  have htab : c.exceptionTable.toList = tableOf [(0, 10, 13, 25), (0, 10, 17, 50)] := vx_table (x := yL_lost) B (atoms_spec (ws := ws_L_lost) B.pre _ List.mem_cons_self)
  have hS : va_S noA s.heap s.heap [] := va_S.rf
  generalize inW [(po, .inl (cs 4, 1, .inr (.inl ov))), (kr, .inr (5, [.ref la, .ref ia, .ref na, .ref b4, .ref b6, .ref b8, .ref b10, .int (iI (((sh : Nat) : Int))), .int (iI (((it : Nat) : Int))), .int (iI (lc)), .int (iI (((dy : Nat) : Int))), .int (iI (pct)), .int (iI (lr)), .int (iI (sr))])), (la, arI cs 4 lf), (ia, arQ cs 2 5 itf), (na, arQ cs 3 20 lnf)] = A at hD
  have hl := lv_entry ([.ref kr, .int (iI (zs)), .int (iI (zi)), .ref po]) (n := 5) (Nat.le_of_ble_eq_true rfl)
  rw [lg_entry_eq]
  generalize (lg_sl ([.ref kr, .int (iI (zs)), .int (iI (zi)), .ref po]) ++ List.replicate (5 - (lg_sl ([.ref kr, .int (iI (zs)), .int (iI (zi)), .ref po])).length) Slot.unset).toArray = ls at hl ⊢
  have hl : lv_has ls 5 [(0, .ref kr), (1, .int (iI (zs))), (2, .int (iI (zi))), (3, .ref po)] := hl
  have hH := rfl (a := s.heap)
  refine lv_aload_n hx hb dL_lost_0 rfl (lv_at hl 3 rfl) ?_
  refine lv_iconst (v := iI (0)) hx hb dL_lost_1 rfl ?_
  refine lv_aload_n hx hb dL_lost_2 rfl (lv_at hl 0 rfl) ?_
  refine lv_iload_n hx hb dL_lost_3 rfl (lv_at hl 1 rfl) ?_
  refine lv_iload_n hx hb dL_lost_4 rfl (lv_at hl 2 rfl) ?_
  have pk1 : picks [(po, .inl (cs 4, 1, .inr (.inl ov))), (kr, .inr (5, [.ref la, .ref ia, .ref na, .ref b4, .ref b6, .ref b8, .ref b10, .int (iI (((sh : Nat) : Int))), .int (iI (((it : Nat) : Int))), .int (iI (lc)), .int (iI (((dy : Nat) : Int))), .int (iI (pct)), .int (iI (lr)), .int (iI (sr))])), (la, arI cs 4 lf), (ia, arQ cs 2 5 itf), (na, arQ cs 3 20 lnf)] [1, 2, 3, 4] [(kr, .inr (5, [.ref la, .ref ia, .ref na, .ref b4, .ref b6, .ref b8, .ref b10, .int (iI (((sh : Nat) : Int))), .int (iI (((it : Nat) : Int))), .int (iI (lc)), .int (iI (((dy : Nat) : Int))), .int (iI (pct)), .int (iI (lr)), .int (iI (sr))])), (la, arI cs 4 lf), (ia, arQ cs 2 5 itf), (na, arQ cs 3 20 lnf)] := ⟨rfl, rfl, rfl, rfl, trivial⟩
  refine vx_calli (vx_runV (As := [.int (iI (zs)), .int (iI (zi))]) (rest := [.int (iI (0)), .ref po]) ⟨hx, hb, hml, hown, hts⟩ (m_X5_lost_no l hst D cs kr la ia na b4 b6 b8 b10 sh it lc dy pct lr sr lf itf lnf zs zi (hsh) (hit) (hitf) (hzs) (hzi) (hno)) (cwV 2 hts (gV w_783 w_784 w_785 w_1 w_786) rfl rfl rfl (by decide +kernel) ⟨Nat.le_of_ble_eq_true rfl, Nat.le_of_ble_eq_true rfl⟩) (PE_V hK hN hE hS (fun _ h => False.elim h) hP hD [1, 2, 3, 4] rfl pk1 rfl rfl) rfl rfl hl.1 rfl (lv_room (Nat.le_of_ble_eq_true rfl)) dL_lost_5 ⟨Nat.le_of_ble_eq_true rfl, Nat.le_of_ble_eq_true rfl⟩) hS (fun _ _ h => False.elim h) (fun _ h => False.elim h) (fun _ _ h => False.elim h) (fun E ce q9 u t H1 locs1 ht hvm hpx hBX hz1 hk1 hS1 hce hcv hcl => ?_) (fun r u t H locs ht hvm hw hB hz1 hk1 hS => ?_)
  · have h9 : u = cdL sh it lnf zs zi := hpx.1
    have hS := hS1
    have hcd : cdL sh it lnf zs zi = 2 ∨ cdL sh it lnf zs zi = 1 := by
      revert hno
      (try unfold cdL); (try unfold cdS); (try unfold cdC)
      (repeat' split) <;> simp
    have hEu := hBX
    have hP := P_kept hP hk1
    rcases hcd with hc3 | hcd
    · have hE3 : E = "java/util/NoSuchElementException" := by have h8 : E = exN u := hEu; rw [h8, h9, hc3]; rfl
      subst hE3
      refine vx_catch (name := "java/util/NoSuchElementException") hown [⟨0, 10, 13, 25⟩] ⟨0, 10, 17, 50⟩ [] (htab.trans rfl) (fun z hz => by
          simp only [List.mem_cons, List.not_mem_nil, or_false] at hz
          rcases hz with rfl
          · exact Or.inr ⟨by decide, "java/lang/IndexOutOfBoundsException", hts _ w_266, hE.2.2.2.2.2 _ (List.mem_of_getElem? (i := 10) rfl)⟩) rfl (by decide) (hts _ w_455) (hE.use _ (List.mem_append_right _ (List.mem_map.mpr ⟨_, List.mem_of_getElem? (i := 1) rfl, rfl⟩))) hce hcv hcl ?_
      refine lv_astore (lv' := [(4, .ref q9), (0, .ref kr), (1, .int (iI (zs))), (2, .int (iI (zi))), (3, .ref po)]) hx hb dL_lost_17 hl (by decide) rfl (fun ls hl => ?_)
      refine lv_iconst (v := iI (2)) hx hb dL_lost_19 rfl ?_
      refine W.widen (k := 3) (n := 18) (by omega) (by omega) ?_
      have hres : iI (2) = iI (hkI [1, 2] (cdL sh it lnf zs zi)) := congrArg iI (by
          rw [hc3]; rfl)
      exact W.iret hx hb hr (fun t ht hW => ⟨⟨_, (), rfl, hres, trivial⟩, hS.F ht⟩) hS.2.2 dL_lost_20
    have hc3 := hcd
    have hE3 : E = "java/lang/IndexOutOfBoundsException" := by have h8 : E = exN u := hEu; rw [h8, h9, hc3]; rfl
    subst hE3
    refine vx_catch (name := "java/lang/IndexOutOfBoundsException") hown [] ⟨0, 10, 13, 25⟩ [⟨0, 10, 17, 50⟩] (htab.trans rfl) (fun z hz => by cases hz) rfl (by decide) (hts _ w_266) (hE.use _ (List.mem_append_right _ (List.mem_map.mpr ⟨_, List.mem_of_getElem? (i := 0) rfl, rfl⟩))) hce hcv hcl ?_
    refine lv_astore (lv' := [(4, .ref q9), (0, .ref kr), (1, .int (iI (zs))), (2, .int (iI (zi))), (3, .ref po)]) hx hb dL_lost_13 hl (by decide) rfl (fun ls hl => ?_)
    refine lv_iconst (v := iI (1)) hx hb dL_lost_15 rfl ?_
    refine W.widen (k := 3) (n := 18) (by omega) (by omega) ?_
    have hres : iI (1) = iI (hkI [1, 2] (cdL sh it lnf zs zi)) := congrArg iI (by
        rw [hc3]; rfl)
    exact W.iret hx hb hr (fun t ht hW => ⟨⟨_, (), rfl, hres, trivial⟩, hS.F ht⟩) hS.2.2 dL_lost_16
  obtain ⟨hc2, hw⟩ := hw
  subst hw
  have hP := P_kept hP hk1
  exact absurd hc2 hno

set_option maxHeartbeats 4000000 in
set_option maxRecDepth 100000 in
theorem m_L_lost_ok_r (l : Launch) (hst : l.stackTraces = false) (D : va_G) (cs : Nat → ClassId) (kr la ia na b4 b6 b8 b10 sh it : Nat) (lc : Int) (dy : Nat) (pct lr sr : Int) (lf : Nat → Int) (itf : Nat → Option Nat) (lnf : Nat → Option Nat) (sn tn : Nat) (kn hi kl ke kd ks ka : Nat) (ld fd fk fv es sk so lo : Int) (po : Nat) (ov : Nat → Int64) (hsh : sh ≤ 4) (hit : it ≤ 5) (hitf : ∀ j, j < it → itf j ≠ none) (hsn : sn < sh) (htn : tn < it) (hln : lnf (sn * 5 + tn) = some kn) (hrr : -2147483648 ≤ lo ∧ lo < 2147483648) : Met l yL_lost ws_L_lost ({ frames := 9, cells := 3, slots := 18, locals := 149 }) (va_Pc [.ref kr, .int (iI (((sn : Nat) : Int))), .int (iI (((tn : Nat) : Int))), .ref po] (PE D cs [(po, .inl (cs 4, 1, .inr (.inl ov))), (kr, .inr (5, [.ref la, .ref ia, .ref na, .ref b4, .ref b6, .ref b8, .ref b10, .int (iI (((sh : Nat) : Int))), .int (iI (((it : Nat) : Int))), .int (iI (lc)), .int (iI (((dy : Nat) : Int))), .int (iI (pct)), .int (iI (lr)), .int (iI (sr))])), (la, arI cs 4 lf), (ia, arQ cs 2 5 itf), (na, arQ cs 3 20 lnf), (kn, .inr (3, [.ref hi, .int (iI (ld)), .int (iI (fd)), .int (iI (fk)), .int (iI (fv)), .ref kl, .ref ke, .ref kd, .ref ks, .ref ka, .int (iI (es)), .int (iI (sk)), .int (iI (so)), .int (iI (lo))]))] (inW [(po, .inl (cs 4, 1, .inr (.inl ov))), (kr, .inr (5, [.ref la, .ref ia, .ref na, .ref b4, .ref b6, .ref b8, .ref b10, .int (iI (((sh : Nat) : Int))), .int (iI (((it : Nat) : Int))), .int (iI (lc)), .int (iI (((dy : Nat) : Int))), .int (iI (pct)), .int (iI (lr)), .int (iI (sr))])), (la, arI cs 4 lf), (ia, arQ cs 2 5 itf), (na, arQ cs 3 20 lnf), (kn, .inr (3, [.ref hi, .int (iI (ld)), .int (iI (fd)), .int (iI (fk)), .int (iI (fv)), .ref kl, .ref ke, .ref kd, .ref ks, .ref ka, .int (iI (es)), .int (iI (sk)), .int (iI (so)), .int (iI (lo))]))]))) (va_Qi (fun r (_ : Unit) => r = iI (0)) (fun _ t => va_P D vwCl [(po, .inl (cs 4, 1, .inr (.inl (vp_updL ov 0 (lI (lo)))))), (kr, .inr (5, [.ref la, .ref ia, .ref na, .ref b4, .ref b6, .ref b8, .ref b10, .int (iI (((sh : Nat) : Int))), .int (iI (((it : Nat) : Int))), .int (iI (lc)), .int (iI (((dy : Nat) : Int))), .int (iI (pct)), .int (iI (lr)), .int (iI (sr))])), (la, arI cs 4 lf), (ia, arQ cs 2 5 itf), (na, arQ cs 3 20 lnf), (kn, .inr (3, [.ref hi, .int (iI (ld)), .int (iI (fd)), .int (iI (fk)), .int (iI (fv)), .ref kl, .ref ke, .ref kd, .ref ks, .ref ka, .int (iI (es)), .int (iI (sk)), .int (iI (so)), .int (iI (lo))]))] t.heap) (inW [(po, .inl (cs 4, 1, .inr (.inl ov))), (kr, .inr (5, [.ref la, .ref ia, .ref na, .ref b4, .ref b6, .ref b8, .ref b10, .int (iI (((sh : Nat) : Int))), .int (iI (((it : Nat) : Int))), .int (iI (lc)), .int (iI (((dy : Nat) : Int))), .int (iI (pct)), .int (iI (lr)), .int (iI (sr))])), (la, arI cs 4 lf), (ia, arQ cs 2 5 itf), (na, arQ cs 3 20 lnf), (kn, .inr (3, [.ref hi, .int (iI (ld)), .int (iI (fd)), .int (iI (fk)), .int (iI (fv)), .ref kl, .ref ke, .ref kd, .ref ks, .ref ka, .int (iI (es)), .int (iI (sk)), .int (iI (so)), .int (iI (lo))]))])) 3 18 (inW [(po, .inl (cs 4, 1, .inr (.inl ov))), (kr, .inr (5, [.ref la, .ref ia, .ref na, .ref b4, .ref b6, .ref b8, .ref b10, .int (iI (((sh : Nat) : Int))), .int (iI (((it : Nat) : Int))), .int (iI (lc)), .int (iI (((dy : Nat) : Int))), .int (iI (pct)), .int (iI (lr)), .int (iI (sr))])), (la, arI cs 4 lf), (ia, arQ cs 2 5 itf), (na, arQ cs 3 20 lnf), (kn, .inr (3, [.ref hi, .int (iI (ld)), .int (iI (fd)), .int (iI (fk)), .int (iI (fv)), .ref kl, .ref ke, .ref kd, .ref ks, .ref ka, .int (iI (es)), .int (iI (sk)), .int (iI (so)), .int (iI (lo))]))]) := by
  refine va_MetW (cc := cL_lost) (maxL := 5) (ret := some .int) (hh := [(0, 10, 13, 25), (0, 10, 17, 50)]) (by decide +kernel) rfl ?_
  intro p e s m args below meth c s₁ B hml hv
  obtain ⟨rfl, ⟨hP, hK, hD, hN⟩, hE⟩ := hv
  have hx := B.exec
  have hb := B.bytes
  have hr := B.returns
  have hts : ∀ w ∈ ALL, w.before _ s = true := fun w h => atoms_spec (ws := ws_L_lost) B.pre w (List.mem_cons_of_mem _ h)
  have hown : s.vm.findClass RL = some m.cls := findClass_of_methodNamed B.named
  have hlocks := B.notSynchronized
  have htab : c.exceptionTable.toList = tableOf [(0, 10, 13, 25), (0, 10, 17, 50)] := vx_table (x := yL_lost) B (atoms_spec (ws := ws_L_lost) B.pre _ List.mem_cons_self)
  generalize hAe : inW [(po, .inl (cs 4, 1, .inr (.inl ov))), (kr, .inr (5, [.ref la, .ref ia, .ref na, .ref b4, .ref b6, .ref b8, .ref b10, .int (iI (((sh : Nat) : Int))), .int (iI (((it : Nat) : Int))), .int (iI (lc)), .int (iI (((dy : Nat) : Int))), .int (iI (pct)), .int (iI (lr)), .int (iI (sr))])), (la, arI cs 4 lf), (ia, arQ cs 2 5 itf), (na, arQ cs 3 20 lnf), (kn, .inr (3, [.ref hi, .int (iI (ld)), .int (iI (fd)), .int (iI (fk)), .int (iI (fv)), .ref kl, .ref ke, .ref kd, .ref ks, .ref ka, .int (iI (es)), .int (iI (sk)), .int (iI (so)), .int (iI (lo))]))] = A at hD hE ⊢
  have hS : va_S A s.heap s.heap [] := va_S.rf
  have hl := lv_entry ([.ref kr, .int (iI (((sn : Nat) : Int))), .int (iI (((tn : Nat) : Int))), .ref po]) (n := 5) (Nat.le_of_ble_eq_true rfl)
  rw [lg_entry_eq]
  generalize (lg_sl ([.ref kr, .int (iI (((sn : Nat) : Int))), .int (iI (((tn : Nat) : Int))), .ref po]) ++ List.replicate (5 - (lg_sl ([.ref kr, .int (iI (((sn : Nat) : Int))), .int (iI (((tn : Nat) : Int))), .ref po])).length) Slot.unset).toArray = ls at hl ⊢
  have hl : lv_has ls 5 [(0, .ref kr), (1, .int (iI (((sn : Nat) : Int)))), (2, .int (iI (((tn : Nat) : Int)))), (3, .ref po)] := hl
  have hH := rfl (a := s.heap)
  refine lv_aload_n hx hb dL_lost_0 rfl (lv_at hl 3 rfl) ?_
  refine lv_iconst (v := iI (0)) hx hb dL_lost_1 rfl ?_
  refine lv_aload_n hx hb dL_lost_2 rfl (lv_at hl 0 rfl) ?_
  refine lv_iload_n hx hb dL_lost_3 rfl (lv_at hl 1 rfl) ?_
  refine lv_iload_n hx hb dL_lost_4 rfl (lv_at hl 2 rfl) ?_
  have pk1 : picks [(po, .inl (cs 4, 1, .inr (.inl ov))), (kr, .inr (5, [.ref la, .ref ia, .ref na, .ref b4, .ref b6, .ref b8, .ref b10, .int (iI (((sh : Nat) : Int))), .int (iI (((it : Nat) : Int))), .int (iI (lc)), .int (iI (((dy : Nat) : Int))), .int (iI (pct)), .int (iI (lr)), .int (iI (sr))])), (la, arI cs 4 lf), (ia, arQ cs 2 5 itf), (na, arQ cs 3 20 lnf), (kn, .inr (3, [.ref hi, .int (iI (ld)), .int (iI (fd)), .int (iI (fk)), .int (iI (fv)), .ref kl, .ref ke, .ref kd, .ref ks, .ref ka, .int (iI (es)), .int (iI (sk)), .int (iI (so)), .int (iI (lo))]))] [1, 2, 3, 4, 5] [(kr, .inr (5, [.ref la, .ref ia, .ref na, .ref b4, .ref b6, .ref b8, .ref b10, .int (iI (((sh : Nat) : Int))), .int (iI (((it : Nat) : Int))), .int (iI (lc)), .int (iI (((dy : Nat) : Int))), .int (iI (pct)), .int (iI (lr)), .int (iI (sr))])), (la, arI cs 4 lf), (ia, arQ cs 2 5 itf), (na, arQ cs 3 20 lnf), (kn, .inr (3, [.ref hi, .int (iI (ld)), .int (iI (fd)), .int (iI (fk)), .int (iI (fv)), .ref kl, .ref ke, .ref kd, .ref ks, .ref ka, .int (iI (es)), .int (iI (sk)), .int (iI (so)), .int (iI (lo))]))] := ⟨rfl, rfl, rfl, rfl, rfl, trivial⟩
  refine vx_calli (vx_runV (As := [.int (iI (((sn : Nat) : Int))), .int (iI (((tn : Nat) : Int)))]) (rest := [.int (iI (0)), .ref po]) ⟨hx, hb, hml, hown, hts⟩ (m_X5_lost_ok l hst D cs kr la ia na b4 b6 b8 b10 sh it lc dy pct lr sr lf itf lnf sn tn kn hi kl ke kd ks ka ld fd fk fv es sk so lo (hsh) (hit) (hitf) (hsn) (htn) (hln)) (cwV 2 hts (gV w_783 w_784 w_785 w_1 w_786) rfl rfl rfl (by decide +kernel) ⟨Nat.le_of_ble_eq_true rfl, Nat.le_of_ble_eq_true rfl⟩) (PE_V hK hN hE hS (fun _ h => False.elim h) hP hD [1, 2, 3, 4, 5] rfl pk1 rfl rfl) rfl rfl hl.1 rfl (lv_room (Nat.le_of_ble_eq_true rfl)) dL_lost_5 ⟨Nat.le_of_ble_eq_true rfl, Nat.le_of_ble_eq_true rfl⟩) hS (fun _ _ h => False.elim h) (fun _ h => False.elim h) (fun _ _ h => False.elim h) (fun E ce q9 u t H1 locs1 ht hvm hpx hBX hz1 hk1 hS1 hce hcv hcl => ?_) (fun r u t H locs ht hvm hw hB hz1 hk1 hS => ?_)
  · exact absurd (hpx.1) hpx.2
  obtain ⟨hc2, hw⟩ := hw
  subst hw
  have hP := P_kept hP hk1
  refine my_i2l hx hb dL_lost_8 (by omega) ?_
  refine my_last0 hx hb hK hP hD hS 0 rfl dL_lost_9 (fun H locs hP hD hS => ?_)
  have hP : va_P D vwCl [(po, .inl (cs 4, 1, .inr (.inl (vp_updL ov 0 (lI (lo)))))), (kr, .inr (5, [.ref la, .ref ia, .ref na, .ref b4, .ref b6, .ref b8, .ref b10, .int (iI (((sh : Nat) : Int))), .int (iI (((it : Nat) : Int))), .int (iI (lc)), .int (iI (((dy : Nat) : Int))), .int (iI (pct)), .int (iI (lr)), .int (iI (sr))])), (la, arI cs 4 lf), (ia, arQ cs 2 5 itf), (na, arQ cs 3 20 lnf), (kn, .inr (3, [.ref hi, .int (iI (ld)), .int (iI (fd)), .int (iI (fk)), .int (iI (fv)), .ref kl, .ref ke, .ref kd, .ref ks, .ref ka, .int (iI (es)), .int (iI (sk)), .int (iI (so)), .int (iI (lo))]))] H := hP
  have hD : va_D A [(po, .inl (cs 4, 1, .inr (.inl (vp_updL ov 0 (lI (lo)))))), (kr, .inr (5, [.ref la, .ref ia, .ref na, .ref b4, .ref b6, .ref b8, .ref b10, .int (iI (((sh : Nat) : Int))), .int (iI (((it : Nat) : Int))), .int (iI (lc)), .int (iI (((dy : Nat) : Int))), .int (iI (pct)), .int (iI (lr)), .int (iI (sr))])), (la, arI cs 4 lf), (ia, arQ cs 2 5 itf), (na, arQ cs 3 20 lnf), (kn, .inr (3, [.ref hi, .int (iI (ld)), .int (iI (fd)), .int (iI (fk)), .int (iI (fv)), .ref kl, .ref ke, .ref kd, .ref ks, .ref ka, .int (iI (es)), .int (iI (sk)), .int (iI (so)), .int (iI (lo))]))] := hD
  refine lv_goto (tgt := 21) hx hb dL_lost_10 (by decide) ?_
  refine lv_iconst (v := iI (0)) hx hb dL_lost_21 rfl ?_
  subst hAe
  refine W.widen (k := 3) (n := 18) (by omega) (by omega) ?_
  have hres : iI (0) = iI (0) := congrArg iI (by
      rfl)
  exact W.iret hx hb hr (fun t ht hW => ⟨⟨_, (), rfl, hres, by show va_P D vwCl _ t.heap; rw [ht]; exact hP⟩, hS.F ht⟩) hS.2.2 dL_lost_22

abbrev ws_L_demandToday : List Cond := Cond.codeWith yL_demandToday cL_demandToday 5 (some .int) [(0, 10, 13, 25), (0, 10, 17, 50)] :: ALL
set_option maxHeartbeats 4000000 in
set_option maxRecDepth 100000 in
theorem m_L_demandToday_no_t (l : Launch) (hst : l.stackTraces = false) (D : va_G) (cs : Nat → ClassId) (kr la ia na b4 b6 b8 b10 sh it : Nat) (lc : Int) (dy : Nat) (pct lr sr : Int) (lf : Nat → Int) (itf : Nat → Option Nat) (lnf : Nat → Option Nat) (zs zi : Int) (po : Nat) (ov : Nat → Int64) (hsh : sh ≤ 4) (hit : it ≤ 5) (hitf : ∀ j, j < it → itf j ≠ none) (hzs : -2147483648 ≤ zs ∧ zs < 2147483648) (hzi : -2147483648 ≤ zi ∧ zi < 2147483648) (hno : cdL sh it lnf zs zi ≠ 0) : Met l yL_demandToday ws_L_demandToday ({ frames := 9, cells := 3, slots := 18, locals := 149 }) (va_Pc [.ref kr, .int (iI (zs)), .int (iI (zi)), .ref po] (PE D cs [(po, .inl (cs 4, 1, .inr (.inl ov))), (kr, .inr (5, [.ref la, .ref ia, .ref na, .ref b4, .ref b6, .ref b8, .ref b10, .int (iI (((sh : Nat) : Int))), .int (iI (((it : Nat) : Int))), .int (iI (lc)), .int (iI (((dy : Nat) : Int))), .int (iI (pct)), .int (iI (lr)), .int (iI (sr))])), (la, arI cs 4 lf), (ia, arQ cs 2 5 itf), (na, arQ cs 3 20 lnf)] noA)) (va_Qi (fun r (_ : Unit) => r = iI (hkI [1, 2] (cdL sh it lnf zs zi))) (fun _ _ => True) noA) 3 18 noA := by
  refine va_MetW (cc := cL_demandToday) (maxL := 5) (ret := some .int) (hh := [(0, 10, 13, 25), (0, 10, 17, 50)]) (by decide +kernel) rfl ?_
  intro p e s m args below meth c s₁ B hml hv
  obtain ⟨rfl, ⟨hP, hK, hD, hN⟩, hE⟩ := hv
  have hx := B.exec
  have hb := B.bytes
  have hr := B.returns
  have hts : ∀ w ∈ ALL, w.before _ s = true := fun w h => atoms_spec (ws := ws_L_demandToday) B.pre w (List.mem_cons_of_mem _ h)
  have hown : s.vm.findClass RL = some m.cls := findClass_of_methodNamed B.named
  have hlocks := B.notSynchronized
  have htab : c.exceptionTable.toList = tableOf [(0, 10, 13, 25), (0, 10, 17, 50)] := vx_table (x := yL_demandToday) B (atoms_spec (ws := ws_L_demandToday) B.pre _ List.mem_cons_self)
  have hS : va_S noA s.heap s.heap [] := va_S.rf
  generalize inW [(po, .inl (cs 4, 1, .inr (.inl ov))), (kr, .inr (5, [.ref la, .ref ia, .ref na, .ref b4, .ref b6, .ref b8, .ref b10, .int (iI (((sh : Nat) : Int))), .int (iI (((it : Nat) : Int))), .int (iI (lc)), .int (iI (((dy : Nat) : Int))), .int (iI (pct)), .int (iI (lr)), .int (iI (sr))])), (la, arI cs 4 lf), (ia, arQ cs 2 5 itf), (na, arQ cs 3 20 lnf)] = A at hD
  have hl := lv_entry ([.ref kr, .int (iI (zs)), .int (iI (zi)), .ref po]) (n := 5) (Nat.le_of_ble_eq_true rfl)
  rw [lg_entry_eq]
  generalize (lg_sl ([.ref kr, .int (iI (zs)), .int (iI (zi)), .ref po]) ++ List.replicate (5 - (lg_sl ([.ref kr, .int (iI (zs)), .int (iI (zi)), .ref po])).length) Slot.unset).toArray = ls at hl ⊢
  have hl : lv_has ls 5 [(0, .ref kr), (1, .int (iI (zs))), (2, .int (iI (zi))), (3, .ref po)] := hl
  have hH := rfl (a := s.heap)
  refine lv_aload_n hx hb dL_demandToday_0 rfl (lv_at hl 3 rfl) ?_
  refine lv_iconst (v := iI (0)) hx hb dL_demandToday_1 rfl ?_
  refine lv_aload_n hx hb dL_demandToday_2 rfl (lv_at hl 0 rfl) ?_
  refine lv_iload_n hx hb dL_demandToday_3 rfl (lv_at hl 1 rfl) ?_
  refine lv_iload_n hx hb dL_demandToday_4 rfl (lv_at hl 2 rfl) ?_
  have pk1 : picks [(po, .inl (cs 4, 1, .inr (.inl ov))), (kr, .inr (5, [.ref la, .ref ia, .ref na, .ref b4, .ref b6, .ref b8, .ref b10, .int (iI (((sh : Nat) : Int))), .int (iI (((it : Nat) : Int))), .int (iI (lc)), .int (iI (((dy : Nat) : Int))), .int (iI (pct)), .int (iI (lr)), .int (iI (sr))])), (la, arI cs 4 lf), (ia, arQ cs 2 5 itf), (na, arQ cs 3 20 lnf)] [1, 2, 3, 4] [(kr, .inr (5, [.ref la, .ref ia, .ref na, .ref b4, .ref b6, .ref b8, .ref b10, .int (iI (((sh : Nat) : Int))), .int (iI (((it : Nat) : Int))), .int (iI (lc)), .int (iI (((dy : Nat) : Int))), .int (iI (pct)), .int (iI (lr)), .int (iI (sr))])), (la, arI cs 4 lf), (ia, arQ cs 2 5 itf), (na, arQ cs 3 20 lnf)] := ⟨rfl, rfl, rfl, rfl, trivial⟩
  refine vx_calli (vx_runV (As := [.int (iI (zs)), .int (iI (zi))]) (rest := [.int (iI (0)), .ref po]) ⟨hx, hb, hml, hown, hts⟩ (m_X5_demandToday_no l hst D cs kr la ia na b4 b6 b8 b10 sh it lc dy pct lr sr lf itf lnf zs zi (hsh) (hit) (hitf) (hzs) (hzi) (hno)) (cwV 2 hts (gV w_618 w_619 w_620 w_1 w_621) rfl rfl rfl (by decide +kernel) ⟨Nat.le_of_ble_eq_true rfl, Nat.le_of_ble_eq_true rfl⟩) (PE_V hK hN hE hS (fun _ h => False.elim h) hP hD [1, 2, 3, 4] rfl pk1 rfl rfl) rfl rfl hl.1 rfl (lv_room (Nat.le_of_ble_eq_true rfl)) dL_demandToday_5 ⟨Nat.le_of_ble_eq_true rfl, Nat.le_of_ble_eq_true rfl⟩) hS (fun _ _ h => False.elim h) (fun _ h => False.elim h) (fun _ _ h => False.elim h) (fun E ce q9 u t H1 locs1 ht hvm hpx hBX hz1 hk1 hS1 hce hcv hcl => ?_) (fun r u t H locs ht hvm hw hB hz1 hk1 hS => ?_)
  · have h9 : u = cdL sh it lnf zs zi := hpx.1
    have hS := hS1
    have hcd : cdL sh it lnf zs zi = 2 ∨ cdL sh it lnf zs zi = 1 := by
      revert hno
      (try unfold cdL); (try unfold cdS); (try unfold cdC)
      (repeat' split) <;> simp
    have hEu := hBX
    have hP := P_kept hP hk1
    rcases hcd with hc3 | hcd
    · have hE3 : E = "java/util/NoSuchElementException" := by have h8 : E = exN u := hEu; rw [h8, h9, hc3]; rfl
      subst hE3
      refine vx_catch (name := "java/util/NoSuchElementException") hown [⟨0, 10, 13, 25⟩] ⟨0, 10, 17, 50⟩ [] (htab.trans rfl) (fun z hz => by
          simp only [List.mem_cons, List.not_mem_nil, or_false] at hz
          rcases hz with rfl
          · exact Or.inr ⟨by decide, "java/lang/IndexOutOfBoundsException", hts _ w_266, hE.2.2.2.2.2 _ (List.mem_of_getElem? (i := 10) rfl)⟩) rfl (by decide) (hts _ w_455) (hE.use _ (List.mem_append_right _ (List.mem_map.mpr ⟨_, List.mem_of_getElem? (i := 1) rfl, rfl⟩))) hce hcv hcl ?_
      refine lv_astore (lv' := [(4, .ref q9), (0, .ref kr), (1, .int (iI (zs))), (2, .int (iI (zi))), (3, .ref po)]) hx hb dL_demandToday_17 hl (by decide) rfl (fun ls hl => ?_)
      refine lv_iconst (v := iI (2)) hx hb dL_demandToday_19 rfl ?_
      refine W.widen (k := 3) (n := 18) (by omega) (by omega) ?_
      have hres : iI (2) = iI (hkI [1, 2] (cdL sh it lnf zs zi)) := congrArg iI (by
          rw [hc3]; rfl)
      exact W.iret hx hb hr (fun t ht hW => ⟨⟨_, (), rfl, hres, trivial⟩, hS.F ht⟩) hS.2.2 dL_demandToday_20
    have hc3 := hcd
    have hE3 : E = "java/lang/IndexOutOfBoundsException" := by have h8 : E = exN u := hEu; rw [h8, h9, hc3]; rfl
    subst hE3
    refine vx_catch (name := "java/lang/IndexOutOfBoundsException") hown [] ⟨0, 10, 13, 25⟩ [⟨0, 10, 17, 50⟩] (htab.trans rfl) (fun z hz => by cases hz) rfl (by decide) (hts _ w_266) (hE.use _ (List.mem_append_right _ (List.mem_map.mpr ⟨_, List.mem_of_getElem? (i := 0) rfl, rfl⟩))) hce hcv hcl ?_
    refine lv_astore (lv' := [(4, .ref q9), (0, .ref kr), (1, .int (iI (zs))), (2, .int (iI (zi))), (3, .ref po)]) hx hb dL_demandToday_13 hl (by decide) rfl (fun ls hl => ?_)
    refine lv_iconst (v := iI (1)) hx hb dL_demandToday_15 rfl ?_
    refine W.widen (k := 3) (n := 18) (by omega) (by omega) ?_
    have hres : iI (1) = iI (hkI [1, 2] (cdL sh it lnf zs zi)) := congrArg iI (by
        rw [hc3]; rfl)
    exact W.iret hx hb hr (fun t ht hW => ⟨⟨_, (), rfl, hres, trivial⟩, hS.F ht⟩) hS.2.2 dL_demandToday_16
  obtain ⟨hc2, hw⟩ := hw
  subst hw
  have hP := P_kept hP hk1
  exact absurd hc2 hno

set_option maxHeartbeats 4000000 in
set_option maxRecDepth 100000 in
theorem m_L_demandToday_ok_r (l : Launch) (hst : l.stackTraces = false) (D : va_G) (cs : Nat → ClassId) (kr la ia na b4 b6 b8 b10 sh it : Nat) (lc : Int) (dy : Nat) (pct lr sr : Int) (lf : Nat → Int) (itf : Nat → Option Nat) (lnf : Nat → Option Nat) (sn tn : Nat) (kn hi kl ke kd ks ka : Nat) (ld fd fk fv es sk so lo : Int) (ud : Nat) (dm : Nat → Int) (po : Nat) (ov : Nat → Int64) (hsh : sh ≤ 4) (hit : it ≤ 5) (hitf : ∀ j, j < it → itf j ≠ none) (hsn : sn < sh) (htn : tn < it) (hln : lnf (sn * 5 + tn) = some kn) (hd : dy < 1000) (hrr : -2147483648 ≤ (dm dy) ∧ (dm dy) < 2147483648) : Met l yL_demandToday ws_L_demandToday ({ frames := 9, cells := 3, slots := 18, locals := 149 }) (va_Pc [.ref kr, .int (iI (((sn : Nat) : Int))), .int (iI (((tn : Nat) : Int))), .ref po] (PE D cs [(po, .inl (cs 4, 1, .inr (.inl ov))), (kr, .inr (5, [.ref la, .ref ia, .ref na, .ref b4, .ref b6, .ref b8, .ref b10, .int (iI (((sh : Nat) : Int))), .int (iI (((it : Nat) : Int))), .int (iI (lc)), .int (iI (((dy : Nat) : Int))), .int (iI (pct)), .int (iI (lr)), .int (iI (sr))])), (la, arI cs 4 lf), (ia, arQ cs 2 5 itf), (na, arQ cs 3 20 lnf), (kn, .inr (3, [.ref hi, .int (iI (ld)), .int (iI (fd)), .int (iI (fk)), .int (iI (fv)), .ref kl, .ref ke, .ref kd, .ref ks, .ref ka, .int (iI (es)), .int (iI (sk)), .int (iI (so)), .int (iI (lo))])), (kd, .inr (0, [.ref ud])), (ud, arI cs 1005 dm)] (inW [(po, .inl (cs 4, 1, .inr (.inl ov))), (kr, .inr (5, [.ref la, .ref ia, .ref na, .ref b4, .ref b6, .ref b8, .ref b10, .int (iI (((sh : Nat) : Int))), .int (iI (((it : Nat) : Int))), .int (iI (lc)), .int (iI (((dy : Nat) : Int))), .int (iI (pct)), .int (iI (lr)), .int (iI (sr))])), (la, arI cs 4 lf), (ia, arQ cs 2 5 itf), (na, arQ cs 3 20 lnf), (kn, .inr (3, [.ref hi, .int (iI (ld)), .int (iI (fd)), .int (iI (fk)), .int (iI (fv)), .ref kl, .ref ke, .ref kd, .ref ks, .ref ka, .int (iI (es)), .int (iI (sk)), .int (iI (so)), .int (iI (lo))])), (kd, .inr (0, [.ref ud])), (ud, arI cs 1005 dm)]))) (va_Qi (fun r (_ : Unit) => r = iI (0)) (fun _ t => va_P D vwCl [(po, .inl (cs 4, 1, .inr (.inl (vp_updL ov 0 (lI (dm dy)))))), (kr, .inr (5, [.ref la, .ref ia, .ref na, .ref b4, .ref b6, .ref b8, .ref b10, .int (iI (((sh : Nat) : Int))), .int (iI (((it : Nat) : Int))), .int (iI (lc)), .int (iI (((dy : Nat) : Int))), .int (iI (pct)), .int (iI (lr)), .int (iI (sr))])), (la, arI cs 4 lf), (ia, arQ cs 2 5 itf), (na, arQ cs 3 20 lnf), (kn, .inr (3, [.ref hi, .int (iI (ld)), .int (iI (fd)), .int (iI (fk)), .int (iI (fv)), .ref kl, .ref ke, .ref kd, .ref ks, .ref ka, .int (iI (es)), .int (iI (sk)), .int (iI (so)), .int (iI (lo))])), (kd, .inr (0, [.ref ud])), (ud, arI cs 1005 dm)] t.heap) (inW [(po, .inl (cs 4, 1, .inr (.inl ov))), (kr, .inr (5, [.ref la, .ref ia, .ref na, .ref b4, .ref b6, .ref b8, .ref b10, .int (iI (((sh : Nat) : Int))), .int (iI (((it : Nat) : Int))), .int (iI (lc)), .int (iI (((dy : Nat) : Int))), .int (iI (pct)), .int (iI (lr)), .int (iI (sr))])), (la, arI cs 4 lf), (ia, arQ cs 2 5 itf), (na, arQ cs 3 20 lnf), (kn, .inr (3, [.ref hi, .int (iI (ld)), .int (iI (fd)), .int (iI (fk)), .int (iI (fv)), .ref kl, .ref ke, .ref kd, .ref ks, .ref ka, .int (iI (es)), .int (iI (sk)), .int (iI (so)), .int (iI (lo))])), (kd, .inr (0, [.ref ud])), (ud, arI cs 1005 dm)])) 3 18 (inW [(po, .inl (cs 4, 1, .inr (.inl ov))), (kr, .inr (5, [.ref la, .ref ia, .ref na, .ref b4, .ref b6, .ref b8, .ref b10, .int (iI (((sh : Nat) : Int))), .int (iI (((it : Nat) : Int))), .int (iI (lc)), .int (iI (((dy : Nat) : Int))), .int (iI (pct)), .int (iI (lr)), .int (iI (sr))])), (la, arI cs 4 lf), (ia, arQ cs 2 5 itf), (na, arQ cs 3 20 lnf), (kn, .inr (3, [.ref hi, .int (iI (ld)), .int (iI (fd)), .int (iI (fk)), .int (iI (fv)), .ref kl, .ref ke, .ref kd, .ref ks, .ref ka, .int (iI (es)), .int (iI (sk)), .int (iI (so)), .int (iI (lo))])), (kd, .inr (0, [.ref ud])), (ud, arI cs 1005 dm)]) := by
  refine va_MetW (cc := cL_demandToday) (maxL := 5) (ret := some .int) (hh := [(0, 10, 13, 25), (0, 10, 17, 50)]) (by decide +kernel) rfl ?_
  intro p e s m args below meth c s₁ B hml hv
  obtain ⟨rfl, ⟨hP, hK, hD, hN⟩, hE⟩ := hv
  have hx := B.exec
  have hb := B.bytes
  have hr := B.returns
  have hts : ∀ w ∈ ALL, w.before _ s = true := fun w h => atoms_spec (ws := ws_L_demandToday) B.pre w (List.mem_cons_of_mem _ h)
  have hown : s.vm.findClass RL = some m.cls := findClass_of_methodNamed B.named
  have hlocks := B.notSynchronized
  have htab : c.exceptionTable.toList = tableOf [(0, 10, 13, 25), (0, 10, 17, 50)] := vx_table (x := yL_demandToday) B (atoms_spec (ws := ws_L_demandToday) B.pre _ List.mem_cons_self)
  generalize hAe : inW [(po, .inl (cs 4, 1, .inr (.inl ov))), (kr, .inr (5, [.ref la, .ref ia, .ref na, .ref b4, .ref b6, .ref b8, .ref b10, .int (iI (((sh : Nat) : Int))), .int (iI (((it : Nat) : Int))), .int (iI (lc)), .int (iI (((dy : Nat) : Int))), .int (iI (pct)), .int (iI (lr)), .int (iI (sr))])), (la, arI cs 4 lf), (ia, arQ cs 2 5 itf), (na, arQ cs 3 20 lnf), (kn, .inr (3, [.ref hi, .int (iI (ld)), .int (iI (fd)), .int (iI (fk)), .int (iI (fv)), .ref kl, .ref ke, .ref kd, .ref ks, .ref ka, .int (iI (es)), .int (iI (sk)), .int (iI (so)), .int (iI (lo))])), (kd, .inr (0, [.ref ud])), (ud, arI cs 1005 dm)] = A at hD hE ⊢
  have hS : va_S A s.heap s.heap [] := va_S.rf
  have hl := lv_entry ([.ref kr, .int (iI (((sn : Nat) : Int))), .int (iI (((tn : Nat) : Int))), .ref po]) (n := 5) (Nat.le_of_ble_eq_true rfl)
  rw [lg_entry_eq]
  generalize (lg_sl ([.ref kr, .int (iI (((sn : Nat) : Int))), .int (iI (((tn : Nat) : Int))), .ref po]) ++ List.replicate (5 - (lg_sl ([.ref kr, .int (iI (((sn : Nat) : Int))), .int (iI (((tn : Nat) : Int))), .ref po])).length) Slot.unset).toArray = ls at hl ⊢
  have hl : lv_has ls 5 [(0, .ref kr), (1, .int (iI (((sn : Nat) : Int)))), (2, .int (iI (((tn : Nat) : Int)))), (3, .ref po)] := hl
  have hH := rfl (a := s.heap)
  refine lv_aload_n hx hb dL_demandToday_0 rfl (lv_at hl 3 rfl) ?_
  refine lv_iconst (v := iI (0)) hx hb dL_demandToday_1 rfl ?_
  refine lv_aload_n hx hb dL_demandToday_2 rfl (lv_at hl 0 rfl) ?_
  refine lv_iload_n hx hb dL_demandToday_3 rfl (lv_at hl 1 rfl) ?_
  refine lv_iload_n hx hb dL_demandToday_4 rfl (lv_at hl 2 rfl) ?_
  have pk1 : picks [(po, .inl (cs 4, 1, .inr (.inl ov))), (kr, .inr (5, [.ref la, .ref ia, .ref na, .ref b4, .ref b6, .ref b8, .ref b10, .int (iI (((sh : Nat) : Int))), .int (iI (((it : Nat) : Int))), .int (iI (lc)), .int (iI (((dy : Nat) : Int))), .int (iI (pct)), .int (iI (lr)), .int (iI (sr))])), (la, arI cs 4 lf), (ia, arQ cs 2 5 itf), (na, arQ cs 3 20 lnf), (kn, .inr (3, [.ref hi, .int (iI (ld)), .int (iI (fd)), .int (iI (fk)), .int (iI (fv)), .ref kl, .ref ke, .ref kd, .ref ks, .ref ka, .int (iI (es)), .int (iI (sk)), .int (iI (so)), .int (iI (lo))])), (kd, .inr (0, [.ref ud])), (ud, arI cs 1005 dm)] [1, 2, 3, 4, 5, 6, 7] [(kr, .inr (5, [.ref la, .ref ia, .ref na, .ref b4, .ref b6, .ref b8, .ref b10, .int (iI (((sh : Nat) : Int))), .int (iI (((it : Nat) : Int))), .int (iI (lc)), .int (iI (((dy : Nat) : Int))), .int (iI (pct)), .int (iI (lr)), .int (iI (sr))])), (la, arI cs 4 lf), (ia, arQ cs 2 5 itf), (na, arQ cs 3 20 lnf), (kn, .inr (3, [.ref hi, .int (iI (ld)), .int (iI (fd)), .int (iI (fk)), .int (iI (fv)), .ref kl, .ref ke, .ref kd, .ref ks, .ref ka, .int (iI (es)), .int (iI (sk)), .int (iI (so)), .int (iI (lo))])), (kd, .inr (0, [.ref ud])), (ud, arI cs 1005 dm)] := ⟨rfl, rfl, rfl, rfl, rfl, rfl, rfl, trivial⟩
  refine vx_calli (vx_runV (As := [.int (iI (((sn : Nat) : Int))), .int (iI (((tn : Nat) : Int)))]) (rest := [.int (iI (0)), .ref po]) ⟨hx, hb, hml, hown, hts⟩ (m_X5_demandToday_ok l hst D cs kr la ia na b4 b6 b8 b10 sh it lc dy pct lr sr lf itf lnf sn tn kn hi kl ke kd ks ka ld fd fk fv es sk so lo ud dm (hsh) (hit) (hitf) (hsn) (htn) (hln) (hd)) (cwV 2 hts (gV w_618 w_619 w_620 w_1 w_621) rfl rfl rfl (by decide +kernel) ⟨Nat.le_of_ble_eq_true rfl, Nat.le_of_ble_eq_true rfl⟩) (PE_V hK hN hE hS (fun _ h => False.elim h) hP hD [1, 2, 3, 4, 5, 6, 7] rfl pk1 rfl rfl) rfl rfl hl.1 rfl (lv_room (Nat.le_of_ble_eq_true rfl)) dL_demandToday_5 ⟨Nat.le_of_ble_eq_true rfl, Nat.le_of_ble_eq_true rfl⟩) hS (fun _ _ h => False.elim h) (fun _ h => False.elim h) (fun _ _ h => False.elim h) (fun E ce q9 u t H1 locs1 ht hvm hpx hBX hz1 hk1 hS1 hce hcv hcl => ?_) (fun r u t H locs ht hvm hw hB hz1 hk1 hS => ?_)
  · exact absurd (hpx.1) hpx.2
  obtain ⟨hc2, hw⟩ := hw
  subst hw
  have hP := P_kept hP hk1
  refine my_i2l hx hb dL_demandToday_8 (by omega) ?_
  refine my_last0 hx hb hK hP hD hS 0 rfl dL_demandToday_9 (fun H locs hP hD hS => ?_)
  have hP : va_P D vwCl [(po, .inl (cs 4, 1, .inr (.inl (vp_updL ov 0 (lI (dm dy)))))), (kr, .inr (5, [.ref la, .ref ia, .ref na, .ref b4, .ref b6, .ref b8, .ref b10, .int (iI (((sh : Nat) : Int))), .int (iI (((it : Nat) : Int))), .int (iI (lc)), .int (iI (((dy : Nat) : Int))), .int (iI (pct)), .int (iI (lr)), .int (iI (sr))])), (la, arI cs 4 lf), (ia, arQ cs 2 5 itf), (na, arQ cs 3 20 lnf), (kn, .inr (3, [.ref hi, .int (iI (ld)), .int (iI (fd)), .int (iI (fk)), .int (iI (fv)), .ref kl, .ref ke, .ref kd, .ref ks, .ref ka, .int (iI (es)), .int (iI (sk)), .int (iI (so)), .int (iI (lo))])), (kd, .inr (0, [.ref ud])), (ud, arI cs 1005 dm)] H := hP
  have hD : va_D A [(po, .inl (cs 4, 1, .inr (.inl (vp_updL ov 0 (lI (dm dy)))))), (kr, .inr (5, [.ref la, .ref ia, .ref na, .ref b4, .ref b6, .ref b8, .ref b10, .int (iI (((sh : Nat) : Int))), .int (iI (((it : Nat) : Int))), .int (iI (lc)), .int (iI (((dy : Nat) : Int))), .int (iI (pct)), .int (iI (lr)), .int (iI (sr))])), (la, arI cs 4 lf), (ia, arQ cs 2 5 itf), (na, arQ cs 3 20 lnf), (kn, .inr (3, [.ref hi, .int (iI (ld)), .int (iI (fd)), .int (iI (fk)), .int (iI (fv)), .ref kl, .ref ke, .ref kd, .ref ks, .ref ka, .int (iI (es)), .int (iI (sk)), .int (iI (so)), .int (iI (lo))])), (kd, .inr (0, [.ref ud])), (ud, arI cs 1005 dm)] := hD
  refine lv_goto (tgt := 21) hx hb dL_demandToday_10 (by decide) ?_
  refine lv_iconst (v := iI (0)) hx hb dL_demandToday_21 rfl ?_
  subst hAe
  refine W.widen (k := 3) (n := 18) (by omega) (by omega) ?_
  have hres : iI (0) = iI (0) := congrArg iI (by
      rfl)
  exact W.iret hx hb hr (fun t ht hW => ⟨⟨_, (), rfl, hres, by show va_P D vwCl _ t.heap; rw [ht]; exact hP⟩, hS.F ht⟩) hS.2.2 dL_demandToday_22

abbrev ws_L_safety : List Cond := Cond.codeWith yL_safety cL_safety 5 (some .int) [(0, 10, 13, 25), (0, 10, 17, 50)] :: ALL
set_option maxHeartbeats 4000000 in
set_option maxRecDepth 100000 in
theorem m_L_safety_no_t (l : Launch) (hst : l.stackTraces = false) (D : va_G) (cs : Nat → ClassId) (kr la ia na b4 b6 b8 b10 sh it : Nat) (lc : Int) (dy : Nat) (pct lr sr : Int) (lf : Nat → Int) (itf : Nat → Option Nat) (lnf : Nat → Option Nat) (zs zi : Int) (po : Nat) (ov : Nat → Int64) (hsh : sh ≤ 4) (hit : it ≤ 5) (hitf : ∀ j, j < it → itf j ≠ none) (hzs : -2147483648 ≤ zs ∧ zs < 2147483648) (hzi : -2147483648 ≤ zi ∧ zi < 2147483648) (hno : cdL sh it lnf zs zi ≠ 0) : Met l yL_safety ws_L_safety ({ frames := 9, cells := 3, slots := 18, locals := 149 }) (va_Pc [.ref kr, .int (iI (zs)), .int (iI (zi)), .ref po] (PE D cs [(po, .inl (cs 4, 1, .inr (.inl ov))), (kr, .inr (5, [.ref la, .ref ia, .ref na, .ref b4, .ref b6, .ref b8, .ref b10, .int (iI (((sh : Nat) : Int))), .int (iI (((it : Nat) : Int))), .int (iI (lc)), .int (iI (((dy : Nat) : Int))), .int (iI (pct)), .int (iI (lr)), .int (iI (sr))])), (la, arI cs 4 lf), (ia, arQ cs 2 5 itf), (na, arQ cs 3 20 lnf)] noA)) (va_Qi (fun r (_ : Unit) => r = iI (hkI [1, 2] (cdL sh it lnf zs zi))) (fun _ _ => True) noA) 3 18 noA := by
  refine va_MetW (cc := cL_safety) (maxL := 5) (ret := some .int) (hh := [(0, 10, 13, 25), (0, 10, 17, 50)]) (by decide +kernel) rfl ?_
  intro p e s m args below meth c s₁ B hml hv
  obtain ⟨rfl, ⟨hP, hK, hD, hN⟩, hE⟩ := hv
  have hx := B.exec
  have hb := B.bytes
  have hr := B.returns
  have hts : ∀ w ∈ ALL, w.before _ s = true := fun w h => atoms_spec (ws := ws_L_safety) B.pre w (List.mem_cons_of_mem _ h)
  have hown : s.vm.findClass RL = some m.cls := findClass_of_methodNamed B.named
  have hlocks := B.notSynchronized
  have htab : c.exceptionTable.toList = tableOf [(0, 10, 13, 25), (0, 10, 17, 50)] := vx_table (x := yL_safety) B (atoms_spec (ws := ws_L_safety) B.pre _ List.mem_cons_self)
  have hS : va_S noA s.heap s.heap [] := va_S.rf
  generalize inW [(po, .inl (cs 4, 1, .inr (.inl ov))), (kr, .inr (5, [.ref la, .ref ia, .ref na, .ref b4, .ref b6, .ref b8, .ref b10, .int (iI (((sh : Nat) : Int))), .int (iI (((it : Nat) : Int))), .int (iI (lc)), .int (iI (((dy : Nat) : Int))), .int (iI (pct)), .int (iI (lr)), .int (iI (sr))])), (la, arI cs 4 lf), (ia, arQ cs 2 5 itf), (na, arQ cs 3 20 lnf)] = A at hD
  have hl := lv_entry ([.ref kr, .int (iI (zs)), .int (iI (zi)), .ref po]) (n := 5) (Nat.le_of_ble_eq_true rfl)
  rw [lg_entry_eq]
  generalize (lg_sl ([.ref kr, .int (iI (zs)), .int (iI (zi)), .ref po]) ++ List.replicate (5 - (lg_sl ([.ref kr, .int (iI (zs)), .int (iI (zi)), .ref po])).length) Slot.unset).toArray = ls at hl ⊢
  have hl : lv_has ls 5 [(0, .ref kr), (1, .int (iI (zs))), (2, .int (iI (zi))), (3, .ref po)] := hl
  have hH := rfl (a := s.heap)
  refine lv_aload_n hx hb dL_safety_0 rfl (lv_at hl 3 rfl) ?_
  refine lv_iconst (v := iI (0)) hx hb dL_safety_1 rfl ?_
  refine lv_aload_n hx hb dL_safety_2 rfl (lv_at hl 0 rfl) ?_
  refine lv_iload_n hx hb dL_safety_3 rfl (lv_at hl 1 rfl) ?_
  refine lv_iload_n hx hb dL_safety_4 rfl (lv_at hl 2 rfl) ?_
  have pk1 : picks [(po, .inl (cs 4, 1, .inr (.inl ov))), (kr, .inr (5, [.ref la, .ref ia, .ref na, .ref b4, .ref b6, .ref b8, .ref b10, .int (iI (((sh : Nat) : Int))), .int (iI (((it : Nat) : Int))), .int (iI (lc)), .int (iI (((dy : Nat) : Int))), .int (iI (pct)), .int (iI (lr)), .int (iI (sr))])), (la, arI cs 4 lf), (ia, arQ cs 2 5 itf), (na, arQ cs 3 20 lnf)] [1, 2, 3, 4] [(kr, .inr (5, [.ref la, .ref ia, .ref na, .ref b4, .ref b6, .ref b8, .ref b10, .int (iI (((sh : Nat) : Int))), .int (iI (((it : Nat) : Int))), .int (iI (lc)), .int (iI (((dy : Nat) : Int))), .int (iI (pct)), .int (iI (lr)), .int (iI (sr))])), (la, arI cs 4 lf), (ia, arQ cs 2 5 itf), (na, arQ cs 3 20 lnf)] := ⟨rfl, rfl, rfl, rfl, trivial⟩
  refine vx_calli (vx_runV (As := [.int (iI (zs)), .int (iI (zi))]) (rest := [.int (iI (0)), .ref po]) ⟨hx, hb, hml, hown, hts⟩ (m_X5_safety_no l hst D cs kr la ia na b4 b6 b8 b10 sh it lc dy pct lr sr lf itf lnf zs zi (hsh) (hit) (hitf) (hzs) (hzi) (hno)) (cwV 2 hts (gV w_671 w_672 w_673 w_1 w_674) rfl rfl rfl (by decide +kernel) ⟨Nat.le_of_ble_eq_true rfl, Nat.le_of_ble_eq_true rfl⟩) (PE_V hK hN hE hS (fun _ h => False.elim h) hP hD [1, 2, 3, 4] rfl pk1 rfl rfl) rfl rfl hl.1 rfl (lv_room (Nat.le_of_ble_eq_true rfl)) dL_safety_5 ⟨Nat.le_of_ble_eq_true rfl, Nat.le_of_ble_eq_true rfl⟩) hS (fun _ _ h => False.elim h) (fun _ h => False.elim h) (fun _ _ h => False.elim h) (fun E ce q9 u t H1 locs1 ht hvm hpx hBX hz1 hk1 hS1 hce hcv hcl => ?_) (fun r u t H locs ht hvm hw hB hz1 hk1 hS => ?_)
  · have h9 : u = cdL sh it lnf zs zi := hpx.1
    have hS := hS1
    have hcd : cdL sh it lnf zs zi = 2 ∨ cdL sh it lnf zs zi = 1 := by
      revert hno
      (try unfold cdL); (try unfold cdS); (try unfold cdC)
      (repeat' split) <;> simp
    have hEu := hBX
    have hP := P_kept hP hk1
    rcases hcd with hc3 | hcd
    · have hE3 : E = "java/util/NoSuchElementException" := by have h8 : E = exN u := hEu; rw [h8, h9, hc3]; rfl
      subst hE3
      refine vx_catch (name := "java/util/NoSuchElementException") hown [⟨0, 10, 13, 25⟩] ⟨0, 10, 17, 50⟩ [] (htab.trans rfl) (fun z hz => by
          simp only [List.mem_cons, List.not_mem_nil, or_false] at hz
          rcases hz with rfl
          · exact Or.inr ⟨by decide, "java/lang/IndexOutOfBoundsException", hts _ w_266, hE.2.2.2.2.2 _ (List.mem_of_getElem? (i := 10) rfl)⟩) rfl (by decide) (hts _ w_455) (hE.use _ (List.mem_append_right _ (List.mem_map.mpr ⟨_, List.mem_of_getElem? (i := 1) rfl, rfl⟩))) hce hcv hcl ?_
      refine lv_astore (lv' := [(4, .ref q9), (0, .ref kr), (1, .int (iI (zs))), (2, .int (iI (zi))), (3, .ref po)]) hx hb dL_safety_17 hl (by decide) rfl (fun ls hl => ?_)
      refine lv_iconst (v := iI (2)) hx hb dL_safety_19 rfl ?_
      refine W.widen (k := 3) (n := 18) (by omega) (by omega) ?_
      have hres : iI (2) = iI (hkI [1, 2] (cdL sh it lnf zs zi)) := congrArg iI (by
          rw [hc3]; rfl)
      exact W.iret hx hb hr (fun t ht hW => ⟨⟨_, (), rfl, hres, trivial⟩, hS.F ht⟩) hS.2.2 dL_safety_20
    have hc3 := hcd
    have hE3 : E = "java/lang/IndexOutOfBoundsException" := by have h8 : E = exN u := hEu; rw [h8, h9, hc3]; rfl
    subst hE3
    refine vx_catch (name := "java/lang/IndexOutOfBoundsException") hown [] ⟨0, 10, 13, 25⟩ [⟨0, 10, 17, 50⟩] (htab.trans rfl) (fun z hz => by cases hz) rfl (by decide) (hts _ w_266) (hE.use _ (List.mem_append_right _ (List.mem_map.mpr ⟨_, List.mem_of_getElem? (i := 0) rfl, rfl⟩))) hce hcv hcl ?_
    refine lv_astore (lv' := [(4, .ref q9), (0, .ref kr), (1, .int (iI (zs))), (2, .int (iI (zi))), (3, .ref po)]) hx hb dL_safety_13 hl (by decide) rfl (fun ls hl => ?_)
    refine lv_iconst (v := iI (1)) hx hb dL_safety_15 rfl ?_
    refine W.widen (k := 3) (n := 18) (by omega) (by omega) ?_
    have hres : iI (1) = iI (hkI [1, 2] (cdL sh it lnf zs zi)) := congrArg iI (by
        rw [hc3]; rfl)
    exact W.iret hx hb hr (fun t ht hW => ⟨⟨_, (), rfl, hres, trivial⟩, hS.F ht⟩) hS.2.2 dL_safety_16
  obtain ⟨hc2, hw⟩ := hw
  subst hw
  have hP := P_kept hP hk1
  exact absurd hc2 hno

set_option maxHeartbeats 4000000 in
set_option maxRecDepth 100000 in
theorem m_L_safety_ok_r (l : Launch) (hst : l.stackTraces = false) (D : va_G) (cs : Nat → ClassId) (kr la ia na b4 b6 b8 b10 sh it : Nat) (lc : Int) (dy : Nat) (pct lr sr : Int) (lf : Nat → Int) (itf : Nat → Option Nat) (lnf : Nat → Option Nat) (sn tn : Nat) (kn hi kl ke kd ks ka : Nat) (ld fd fk fv es sk so lo : Int) (ef : Nat → Int) (po : Nat) (ov : Nat → Int64) (hsh : sh ≤ 4) (hit : it ≤ 5) (hitf : ∀ j, j < it → itf j ≠ none) (hsn : sn < sh) (htn : tn < it) (hln : lnf (sn * 5 + tn) = some kn) (hef : ∀ j, 0 ≤ ef j ∧ ef j ≤ 1000) (hes : 0 ≤ es ∧ es ≤ 1000) (hpc : 1 ≤ pct ∧ pct ≤ 100) (hrr : -2147483648 ≤ (sfI ef es pct 0 21) ∧ (sfI ef es pct 0 21) < 2147483648) : Met l yL_safety ws_L_safety ({ frames := 9, cells := 3, slots := 18, locals := 149 }) (va_Pc [.ref kr, .int (iI (((sn : Nat) : Int))), .int (iI (((tn : Nat) : Int))), .ref po] (PE D cs [(po, .inl (cs 4, 1, .inr (.inl ov))), (kr, .inr (5, [.ref la, .ref ia, .ref na, .ref b4, .ref b6, .ref b8, .ref b10, .int (iI (((sh : Nat) : Int))), .int (iI (((it : Nat) : Int))), .int (iI (lc)), .int (iI (((dy : Nat) : Int))), .int (iI (pct)), .int (iI (lr)), .int (iI (sr))])), (la, arI cs 4 lf), (ia, arQ cs 2 5 itf), (na, arQ cs 3 20 lnf), (kn, .inr (3, [.ref hi, .int (iI (ld)), .int (iI (fd)), .int (iI (fk)), .int (iI (fv)), .ref kl, .ref ke, .ref kd, .ref ks, .ref ka, .int (iI (es)), .int (iI (sk)), .int (iI (so)), .int (iI (lo))])), (ke, arI cs 21 ef)] (inW [(po, .inl (cs 4, 1, .inr (.inl ov))), (kr, .inr (5, [.ref la, .ref ia, .ref na, .ref b4, .ref b6, .ref b8, .ref b10, .int (iI (((sh : Nat) : Int))), .int (iI (((it : Nat) : Int))), .int (iI (lc)), .int (iI (((dy : Nat) : Int))), .int (iI (pct)), .int (iI (lr)), .int (iI (sr))])), (la, arI cs 4 lf), (ia, arQ cs 2 5 itf), (na, arQ cs 3 20 lnf), (kn, .inr (3, [.ref hi, .int (iI (ld)), .int (iI (fd)), .int (iI (fk)), .int (iI (fv)), .ref kl, .ref ke, .ref kd, .ref ks, .ref ka, .int (iI (es)), .int (iI (sk)), .int (iI (so)), .int (iI (lo))])), (ke, arI cs 21 ef)]))) (va_Qi (fun r (_ : Unit) => r = iI (0)) (fun _ t => va_P D vwCl [(po, .inl (cs 4, 1, .inr (.inl (vp_updL ov 0 (lI (sfI ef es pct 0 21)))))), (kr, .inr (5, [.ref la, .ref ia, .ref na, .ref b4, .ref b6, .ref b8, .ref b10, .int (iI (((sh : Nat) : Int))), .int (iI (((it : Nat) : Int))), .int (iI (lc)), .int (iI (((dy : Nat) : Int))), .int (iI (pct)), .int (iI (lr)), .int (iI (sr))])), (la, arI cs 4 lf), (ia, arQ cs 2 5 itf), (na, arQ cs 3 20 lnf), (kn, .inr (3, [.ref hi, .int (iI (ld)), .int (iI (fd)), .int (iI (fk)), .int (iI (fv)), .ref kl, .ref ke, .ref kd, .ref ks, .ref ka, .int (iI (es)), .int (iI (sk)), .int (iI (so)), .int (iI (lo))])), (ke, arI cs 21 ef)] t.heap) (inW [(po, .inl (cs 4, 1, .inr (.inl ov))), (kr, .inr (5, [.ref la, .ref ia, .ref na, .ref b4, .ref b6, .ref b8, .ref b10, .int (iI (((sh : Nat) : Int))), .int (iI (((it : Nat) : Int))), .int (iI (lc)), .int (iI (((dy : Nat) : Int))), .int (iI (pct)), .int (iI (lr)), .int (iI (sr))])), (la, arI cs 4 lf), (ia, arQ cs 2 5 itf), (na, arQ cs 3 20 lnf), (kn, .inr (3, [.ref hi, .int (iI (ld)), .int (iI (fd)), .int (iI (fk)), .int (iI (fv)), .ref kl, .ref ke, .ref kd, .ref ks, .ref ka, .int (iI (es)), .int (iI (sk)), .int (iI (so)), .int (iI (lo))])), (ke, arI cs 21 ef)])) 3 18 (inW [(po, .inl (cs 4, 1, .inr (.inl ov))), (kr, .inr (5, [.ref la, .ref ia, .ref na, .ref b4, .ref b6, .ref b8, .ref b10, .int (iI (((sh : Nat) : Int))), .int (iI (((it : Nat) : Int))), .int (iI (lc)), .int (iI (((dy : Nat) : Int))), .int (iI (pct)), .int (iI (lr)), .int (iI (sr))])), (la, arI cs 4 lf), (ia, arQ cs 2 5 itf), (na, arQ cs 3 20 lnf), (kn, .inr (3, [.ref hi, .int (iI (ld)), .int (iI (fd)), .int (iI (fk)), .int (iI (fv)), .ref kl, .ref ke, .ref kd, .ref ks, .ref ka, .int (iI (es)), .int (iI (sk)), .int (iI (so)), .int (iI (lo))])), (ke, arI cs 21 ef)]) := by
  refine va_MetW (cc := cL_safety) (maxL := 5) (ret := some .int) (hh := [(0, 10, 13, 25), (0, 10, 17, 50)]) (by decide +kernel) rfl ?_
  intro p e s m args below meth c s₁ B hml hv
  obtain ⟨rfl, ⟨hP, hK, hD, hN⟩, hE⟩ := hv
  have hx := B.exec
  have hb := B.bytes
  have hr := B.returns
  have hts : ∀ w ∈ ALL, w.before _ s = true := fun w h => atoms_spec (ws := ws_L_safety) B.pre w (List.mem_cons_of_mem _ h)
  have hown : s.vm.findClass RL = some m.cls := findClass_of_methodNamed B.named
  have hlocks := B.notSynchronized
  have htab : c.exceptionTable.toList = tableOf [(0, 10, 13, 25), (0, 10, 17, 50)] := vx_table (x := yL_safety) B (atoms_spec (ws := ws_L_safety) B.pre _ List.mem_cons_self)
  generalize hAe : inW [(po, .inl (cs 4, 1, .inr (.inl ov))), (kr, .inr (5, [.ref la, .ref ia, .ref na, .ref b4, .ref b6, .ref b8, .ref b10, .int (iI (((sh : Nat) : Int))), .int (iI (((it : Nat) : Int))), .int (iI (lc)), .int (iI (((dy : Nat) : Int))), .int (iI (pct)), .int (iI (lr)), .int (iI (sr))])), (la, arI cs 4 lf), (ia, arQ cs 2 5 itf), (na, arQ cs 3 20 lnf), (kn, .inr (3, [.ref hi, .int (iI (ld)), .int (iI (fd)), .int (iI (fk)), .int (iI (fv)), .ref kl, .ref ke, .ref kd, .ref ks, .ref ka, .int (iI (es)), .int (iI (sk)), .int (iI (so)), .int (iI (lo))])), (ke, arI cs 21 ef)] = A at hD hE ⊢
  have hS : va_S A s.heap s.heap [] := va_S.rf
  have hl := lv_entry ([.ref kr, .int (iI (((sn : Nat) : Int))), .int (iI (((tn : Nat) : Int))), .ref po]) (n := 5) (Nat.le_of_ble_eq_true rfl)
  rw [lg_entry_eq]
  generalize (lg_sl ([.ref kr, .int (iI (((sn : Nat) : Int))), .int (iI (((tn : Nat) : Int))), .ref po]) ++ List.replicate (5 - (lg_sl ([.ref kr, .int (iI (((sn : Nat) : Int))), .int (iI (((tn : Nat) : Int))), .ref po])).length) Slot.unset).toArray = ls at hl ⊢
  have hl : lv_has ls 5 [(0, .ref kr), (1, .int (iI (((sn : Nat) : Int)))), (2, .int (iI (((tn : Nat) : Int)))), (3, .ref po)] := hl
  have hH := rfl (a := s.heap)
  refine lv_aload_n hx hb dL_safety_0 rfl (lv_at hl 3 rfl) ?_
  refine lv_iconst (v := iI (0)) hx hb dL_safety_1 rfl ?_
  refine lv_aload_n hx hb dL_safety_2 rfl (lv_at hl 0 rfl) ?_
  refine lv_iload_n hx hb dL_safety_3 rfl (lv_at hl 1 rfl) ?_
  refine lv_iload_n hx hb dL_safety_4 rfl (lv_at hl 2 rfl) ?_
  have pk1 : picks [(po, .inl (cs 4, 1, .inr (.inl ov))), (kr, .inr (5, [.ref la, .ref ia, .ref na, .ref b4, .ref b6, .ref b8, .ref b10, .int (iI (((sh : Nat) : Int))), .int (iI (((it : Nat) : Int))), .int (iI (lc)), .int (iI (((dy : Nat) : Int))), .int (iI (pct)), .int (iI (lr)), .int (iI (sr))])), (la, arI cs 4 lf), (ia, arQ cs 2 5 itf), (na, arQ cs 3 20 lnf), (kn, .inr (3, [.ref hi, .int (iI (ld)), .int (iI (fd)), .int (iI (fk)), .int (iI (fv)), .ref kl, .ref ke, .ref kd, .ref ks, .ref ka, .int (iI (es)), .int (iI (sk)), .int (iI (so)), .int (iI (lo))])), (ke, arI cs 21 ef)] [1, 2, 3, 4, 5, 6] [(kr, .inr (5, [.ref la, .ref ia, .ref na, .ref b4, .ref b6, .ref b8, .ref b10, .int (iI (((sh : Nat) : Int))), .int (iI (((it : Nat) : Int))), .int (iI (lc)), .int (iI (((dy : Nat) : Int))), .int (iI (pct)), .int (iI (lr)), .int (iI (sr))])), (la, arI cs 4 lf), (ia, arQ cs 2 5 itf), (na, arQ cs 3 20 lnf), (kn, .inr (3, [.ref hi, .int (iI (ld)), .int (iI (fd)), .int (iI (fk)), .int (iI (fv)), .ref kl, .ref ke, .ref kd, .ref ks, .ref ka, .int (iI (es)), .int (iI (sk)), .int (iI (so)), .int (iI (lo))])), (ke, arI cs 21 ef)] := ⟨rfl, rfl, rfl, rfl, rfl, rfl, trivial⟩
  refine vx_calli (vx_runV (As := [.int (iI (((sn : Nat) : Int))), .int (iI (((tn : Nat) : Int)))]) (rest := [.int (iI (0)), .ref po]) ⟨hx, hb, hml, hown, hts⟩ (m_X5_safety_ok l hst D cs kr la ia na b4 b6 b8 b10 sh it lc dy pct lr sr lf itf lnf sn tn kn hi kl ke kd ks ka ld fd fk fv es sk so lo ef (hsh) (hit) (hitf) (hsn) (htn) (hln) (hef) (hes) (hpc)) (cwV 2 hts (gV w_671 w_672 w_673 w_1 w_674) rfl rfl rfl (by decide +kernel) ⟨Nat.le_of_ble_eq_true rfl, Nat.le_of_ble_eq_true rfl⟩) (PE_V hK hN hE hS (fun _ h => False.elim h) hP hD [1, 2, 3, 4, 5, 6] rfl pk1 rfl rfl) rfl rfl hl.1 rfl (lv_room (Nat.le_of_ble_eq_true rfl)) dL_safety_5 ⟨Nat.le_of_ble_eq_true rfl, Nat.le_of_ble_eq_true rfl⟩) hS (fun _ _ h => False.elim h) (fun _ h => False.elim h) (fun _ _ h => False.elim h) (fun E ce q9 u t H1 locs1 ht hvm hpx hBX hz1 hk1 hS1 hce hcv hcl => ?_) (fun r u t H locs ht hvm hw hB hz1 hk1 hS => ?_)
  · exact absurd (hpx.1) hpx.2
  obtain ⟨hc2, hw⟩ := hw
  subst hw
  have hP := P_kept hP hk1
  refine my_i2l hx hb dL_safety_8 (by omega) ?_
  refine my_last0 hx hb hK hP hD hS 0 rfl dL_safety_9 (fun H locs hP hD hS => ?_)
  have hP : va_P D vwCl [(po, .inl (cs 4, 1, .inr (.inl (vp_updL ov 0 (lI (sfI ef es pct 0 21)))))), (kr, .inr (5, [.ref la, .ref ia, .ref na, .ref b4, .ref b6, .ref b8, .ref b10, .int (iI (((sh : Nat) : Int))), .int (iI (((it : Nat) : Int))), .int (iI (lc)), .int (iI (((dy : Nat) : Int))), .int (iI (pct)), .int (iI (lr)), .int (iI (sr))])), (la, arI cs 4 lf), (ia, arQ cs 2 5 itf), (na, arQ cs 3 20 lnf), (kn, .inr (3, [.ref hi, .int (iI (ld)), .int (iI (fd)), .int (iI (fk)), .int (iI (fv)), .ref kl, .ref ke, .ref kd, .ref ks, .ref ka, .int (iI (es)), .int (iI (sk)), .int (iI (so)), .int (iI (lo))])), (ke, arI cs 21 ef)] H := hP
  have hD : va_D A [(po, .inl (cs 4, 1, .inr (.inl (vp_updL ov 0 (lI (sfI ef es pct 0 21)))))), (kr, .inr (5, [.ref la, .ref ia, .ref na, .ref b4, .ref b6, .ref b8, .ref b10, .int (iI (((sh : Nat) : Int))), .int (iI (((it : Nat) : Int))), .int (iI (lc)), .int (iI (((dy : Nat) : Int))), .int (iI (pct)), .int (iI (lr)), .int (iI (sr))])), (la, arI cs 4 lf), (ia, arQ cs 2 5 itf), (na, arQ cs 3 20 lnf), (kn, .inr (3, [.ref hi, .int (iI (ld)), .int (iI (fd)), .int (iI (fk)), .int (iI (fv)), .ref kl, .ref ke, .ref kd, .ref ks, .ref ka, .int (iI (es)), .int (iI (sk)), .int (iI (so)), .int (iI (lo))])), (ke, arI cs 21 ef)] := hD
  refine lv_goto (tgt := 21) hx hb dL_safety_10 (by decide) ?_
  refine lv_iconst (v := iI (0)) hx hb dL_safety_21 rfl ?_
  subst hAe
  refine W.widen (k := 3) (n := 18) (by omega) (by omega) ?_
  have hres : iI (0) = iI (0) := congrArg iI (by
      rfl)
  exact W.iret hx hb hr (fun t ht hW => ⟨⟨_, (), rfl, hres, by show va_P D vwCl _ t.heap; rw [ht]; exact hP⟩, hS.F ht⟩) hS.2.2 dL_safety_22

abbrev ws_L_stockByJournal : List Cond := Cond.codeWith yL_stockByJournal cL_stockByJournal 5 (some .int) [(0, 10, 13, 25), (0, 10, 17, 50)] :: ALL
set_option maxHeartbeats 4000000 in
set_option maxRecDepth 100000 in
theorem m_L_stockByJournal_no_t (l : Launch) (hst : l.stackTraces = false) (D : va_G) (cs : Nat → ClassId) (kr la ia na b4 b6 b8 b10 sh it : Nat) (lc : Int) (dy : Nat) (pct lr sr : Int) (lf : Nat → Int) (itf : Nat → Option Nat) (lnf : Nat → Option Nat) (zs zi : Int) (po : Nat) (ov : Nat → Int64) (hsh : sh ≤ 4) (hit : it ≤ 5) (hitf : ∀ j, j < it → itf j ≠ none) (hzs : -2147483648 ≤ zs ∧ zs < 2147483648) (hzi : -2147483648 ≤ zi ∧ zi < 2147483648) (hno : cdL sh it lnf zs zi ≠ 0) : Met l yL_stockByJournal ws_L_stockByJournal ({ frames := 9, cells := 3, slots := 18, locals := 149 }) (va_Pc [.ref kr, .int (iI (zs)), .int (iI (zi)), .ref po] (PE D cs [(po, .inl (cs 4, 1, .inr (.inl ov))), (kr, .inr (5, [.ref la, .ref ia, .ref na, .ref b4, .ref b6, .ref b8, .ref b10, .int (iI (((sh : Nat) : Int))), .int (iI (((it : Nat) : Int))), .int (iI (lc)), .int (iI (((dy : Nat) : Int))), .int (iI (pct)), .int (iI (lr)), .int (iI (sr))])), (la, arI cs 4 lf), (ia, arQ cs 2 5 itf), (na, arQ cs 3 20 lnf)] noA)) (va_Qi (fun r (_ : Unit) => r = iI (hkI [1, 2] (cdL sh it lnf zs zi))) (fun _ _ => True) noA) 3 18 noA := by
  refine va_MetW (cc := cL_stockByJournal) (maxL := 5) (ret := some .int) (hh := [(0, 10, 13, 25), (0, 10, 17, 50)]) (by decide +kernel) rfl ?_
  intro p e s m args below meth c s₁ B hml hv
  obtain ⟨rfl, ⟨hP, hK, hD, hN⟩, hE⟩ := hv
  have hx := B.exec
  have hb := B.bytes
  have hr := B.returns
  have hts : ∀ w ∈ ALL, w.before _ s = true := fun w h => atoms_spec (ws := ws_L_stockByJournal) B.pre w (List.mem_cons_of_mem _ h)
  have hown : s.vm.findClass RL = some m.cls := findClass_of_methodNamed B.named
  have hlocks := B.notSynchronized
  have htab : c.exceptionTable.toList = tableOf [(0, 10, 13, 25), (0, 10, 17, 50)] := vx_table (x := yL_stockByJournal) B (atoms_spec (ws := ws_L_stockByJournal) B.pre _ List.mem_cons_self)
  have hS : va_S noA s.heap s.heap [] := va_S.rf
  generalize inW [(po, .inl (cs 4, 1, .inr (.inl ov))), (kr, .inr (5, [.ref la, .ref ia, .ref na, .ref b4, .ref b6, .ref b8, .ref b10, .int (iI (((sh : Nat) : Int))), .int (iI (((it : Nat) : Int))), .int (iI (lc)), .int (iI (((dy : Nat) : Int))), .int (iI (pct)), .int (iI (lr)), .int (iI (sr))])), (la, arI cs 4 lf), (ia, arQ cs 2 5 itf), (na, arQ cs 3 20 lnf)] = A at hD
  have hl := lv_entry ([.ref kr, .int (iI (zs)), .int (iI (zi)), .ref po]) (n := 5) (Nat.le_of_ble_eq_true rfl)
  rw [lg_entry_eq]
  generalize (lg_sl ([.ref kr, .int (iI (zs)), .int (iI (zi)), .ref po]) ++ List.replicate (5 - (lg_sl ([.ref kr, .int (iI (zs)), .int (iI (zi)), .ref po])).length) Slot.unset).toArray = ls at hl ⊢
  have hl : lv_has ls 5 [(0, .ref kr), (1, .int (iI (zs))), (2, .int (iI (zi))), (3, .ref po)] := hl
  have hH := rfl (a := s.heap)
  refine lv_aload_n hx hb dL_stockByJournal_0 rfl (lv_at hl 3 rfl) ?_
  refine lv_iconst (v := iI (0)) hx hb dL_stockByJournal_1 rfl ?_
  refine lv_aload_n hx hb dL_stockByJournal_2 rfl (lv_at hl 0 rfl) ?_
  refine lv_iload_n hx hb dL_stockByJournal_3 rfl (lv_at hl 1 rfl) ?_
  refine lv_iload_n hx hb dL_stockByJournal_4 rfl (lv_at hl 2 rfl) ?_
  have pk1 : picks [(po, .inl (cs 4, 1, .inr (.inl ov))), (kr, .inr (5, [.ref la, .ref ia, .ref na, .ref b4, .ref b6, .ref b8, .ref b10, .int (iI (((sh : Nat) : Int))), .int (iI (((it : Nat) : Int))), .int (iI (lc)), .int (iI (((dy : Nat) : Int))), .int (iI (pct)), .int (iI (lr)), .int (iI (sr))])), (la, arI cs 4 lf), (ia, arQ cs 2 5 itf), (na, arQ cs 3 20 lnf)] [1, 2, 3, 4] [(kr, .inr (5, [.ref la, .ref ia, .ref na, .ref b4, .ref b6, .ref b8, .ref b10, .int (iI (((sh : Nat) : Int))), .int (iI (((it : Nat) : Int))), .int (iI (lc)), .int (iI (((dy : Nat) : Int))), .int (iI (pct)), .int (iI (lr)), .int (iI (sr))])), (la, arI cs 4 lf), (ia, arQ cs 2 5 itf), (na, arQ cs 3 20 lnf)] := ⟨rfl, rfl, rfl, rfl, trivial⟩
  refine vx_calli (vx_runV (As := [.int (iI (zs)), .int (iI (zi))]) (rest := [.int (iI (0)), .ref po]) ⟨hx, hb, hml, hown, hts⟩ (m_X5_stockByJournal_no l hst D cs kr la ia na b4 b6 b8 b10 sh it lc dy pct lr sr lf itf lnf zs zi (hsh) (hit) (hitf) (hzs) (hzi) (hno)) (cwV 2 hts (gV w_686 w_687 w_688 w_1 w_689) rfl rfl rfl (by decide +kernel) ⟨Nat.le_of_ble_eq_true rfl, Nat.le_of_ble_eq_true rfl⟩) (PE_V hK hN hE hS (fun _ h => False.elim h) hP hD [1, 2, 3, 4] rfl pk1 rfl rfl) rfl rfl hl.1 rfl (lv_room (Nat.le_of_ble_eq_true rfl)) dL_stockByJournal_5 ⟨Nat.le_of_ble_eq_true rfl, Nat.le_of_ble_eq_true rfl⟩) hS (fun _ _ h => False.elim h) (fun _ h => False.elim h) (fun _ _ h => False.elim h) (fun E ce q9 u t H1 locs1 ht hvm hpx hBX hz1 hk1 hS1 hce hcv hcl => ?_) (fun r u t H locs ht hvm hw hB hz1 hk1 hS => ?_)
  · have h9 : u = cdL sh it lnf zs zi := hpx.1
    have hS := hS1
    have hcd : cdL sh it lnf zs zi = 2 ∨ cdL sh it lnf zs zi = 1 := by
      revert hno
      (try unfold cdL); (try unfold cdS); (try unfold cdC)
      (repeat' split) <;> simp
    have hEu := hBX
    have hP := P_kept hP hk1
    rcases hcd with hc3 | hcd
    · have hE3 : E = "java/util/NoSuchElementException" := by have h8 : E = exN u := hEu; rw [h8, h9, hc3]; rfl
      subst hE3
      refine vx_catch (name := "java/util/NoSuchElementException") hown [⟨0, 10, 13, 25⟩] ⟨0, 10, 17, 50⟩ [] (htab.trans rfl) (fun z hz => by
          simp only [List.mem_cons, List.not_mem_nil, or_false] at hz
          rcases hz with rfl
          · exact Or.inr ⟨by decide, "java/lang/IndexOutOfBoundsException", hts _ w_266, hE.2.2.2.2.2 _ (List.mem_of_getElem? (i := 10) rfl)⟩) rfl (by decide) (hts _ w_455) (hE.use _ (List.mem_append_right _ (List.mem_map.mpr ⟨_, List.mem_of_getElem? (i := 1) rfl, rfl⟩))) hce hcv hcl ?_
      refine lv_astore (lv' := [(4, .ref q9), (0, .ref kr), (1, .int (iI (zs))), (2, .int (iI (zi))), (3, .ref po)]) hx hb dL_stockByJournal_17 hl (by decide) rfl (fun ls hl => ?_)
      refine lv_iconst (v := iI (2)) hx hb dL_stockByJournal_19 rfl ?_
      refine W.widen (k := 3) (n := 18) (by omega) (by omega) ?_
      have hres : iI (2) = iI (hkI [1, 2] (cdL sh it lnf zs zi)) := congrArg iI (by
          rw [hc3]; rfl)
      exact W.iret hx hb hr (fun t ht hW => ⟨⟨_, (), rfl, hres, trivial⟩, hS.F ht⟩) hS.2.2 dL_stockByJournal_20
    have hc3 := hcd
    have hE3 : E = "java/lang/IndexOutOfBoundsException" := by have h8 : E = exN u := hEu; rw [h8, h9, hc3]; rfl
    subst hE3
    refine vx_catch (name := "java/lang/IndexOutOfBoundsException") hown [] ⟨0, 10, 13, 25⟩ [⟨0, 10, 17, 50⟩] (htab.trans rfl) (fun z hz => by cases hz) rfl (by decide) (hts _ w_266) (hE.use _ (List.mem_append_right _ (List.mem_map.mpr ⟨_, List.mem_of_getElem? (i := 0) rfl, rfl⟩))) hce hcv hcl ?_
    refine lv_astore (lv' := [(4, .ref q9), (0, .ref kr), (1, .int (iI (zs))), (2, .int (iI (zi))), (3, .ref po)]) hx hb dL_stockByJournal_13 hl (by decide) rfl (fun ls hl => ?_)
    refine lv_iconst (v := iI (1)) hx hb dL_stockByJournal_15 rfl ?_
    refine W.widen (k := 3) (n := 18) (by omega) (by omega) ?_
    have hres : iI (1) = iI (hkI [1, 2] (cdL sh it lnf zs zi)) := congrArg iI (by
        rw [hc3]; rfl)
    exact W.iret hx hb hr (fun t ht hW => ⟨⟨_, (), rfl, hres, trivial⟩, hS.F ht⟩) hS.2.2 dL_stockByJournal_16
  obtain ⟨hc2, hw⟩ := hw
  subst hw
  have hP := P_kept hP hk1
  exact absurd hc2 hno

set_option maxHeartbeats 4000000 in
set_option maxRecDepth 100000 in
theorem m_L_stockByJournal_ok_r (l : Launch) (hst : l.stackTraces = false) (D : va_G) (cs : Nat → ClassId) (kr la ia na b4 b6 b8 b10 sh it : Nat) (lc : Int) (dy : Nat) (pct lr sr : Int) (lf : Nat → Int) (itf : Nat → Option Nat) (lnf : Nat → Option Nat) (sn tn : Nat) (kn hi kl ke kd ks ka : Nat) (ld fd fk fv es sk so lo : Int) (ua uls : Nat) (ar sl : Nat → Int) (po : Nat) (ov : Nat → Int64) (hsh : sh ≤ 4) (hit : it ≤ 5) (hitf : ∀ j, j < it → itf j ≠ none) (hsn : sn < sh) (htn : tn < it) (hln : lnf (sn * 5 + tn) = some kn) (hd : dy < 1000) (hrr : -2147483648 ≤ (fk + smI ar (dy + 1) - smI sl (dy + 1)) ∧ (fk + smI ar (dy + 1) - smI sl (dy + 1)) < 2147483648) : Met l yL_stockByJournal ws_L_stockByJournal ({ frames := 9, cells := 3, slots := 18, locals := 149 }) (va_Pc [.ref kr, .int (iI (((sn : Nat) : Int))), .int (iI (((tn : Nat) : Int))), .ref po] (PE D cs [(po, .inl (cs 4, 1, .inr (.inl ov))), (kr, .inr (5, [.ref la, .ref ia, .ref na, .ref b4, .ref b6, .ref b8, .ref b10, .int (iI (((sh : Nat) : Int))), .int (iI (((it : Nat) : Int))), .int (iI (lc)), .int (iI (((dy : Nat) : Int))), .int (iI (pct)), .int (iI (lr)), .int (iI (sr))])), (la, arI cs 4 lf), (ia, arQ cs 2 5 itf), (na, arQ cs 3 20 lnf), (kn, .inr (3, [.ref hi, .int (iI (ld)), .int (iI (fd)), .int (iI (fk)), .int (iI (fv)), .ref kl, .ref ke, .ref kd, .ref ks, .ref ka, .int (iI (es)), .int (iI (sk)), .int (iI (so)), .int (iI (lo))])), (ka, .inr (0, [.ref ua])), (ua, arI cs 1005 ar), (ks, .inr (0, [.ref uls])), (uls, arI cs 1005 sl)] (inW [(po, .inl (cs 4, 1, .inr (.inl ov))), (kr, .inr (5, [.ref la, .ref ia, .ref na, .ref b4, .ref b6, .ref b8, .ref b10, .int (iI (((sh : Nat) : Int))), .int (iI (((it : Nat) : Int))), .int (iI (lc)), .int (iI (((dy : Nat) : Int))), .int (iI (pct)), .int (iI (lr)), .int (iI (sr))])), (la, arI cs 4 lf), (ia, arQ cs 2 5 itf), (na, arQ cs 3 20 lnf), (kn, .inr (3, [.ref hi, .int (iI (ld)), .int (iI (fd)), .int (iI (fk)), .int (iI (fv)), .ref kl, .ref ke, .ref kd, .ref ks, .ref ka, .int (iI (es)), .int (iI (sk)), .int (iI (so)), .int (iI (lo))])), (ka, .inr (0, [.ref ua])), (ua, arI cs 1005 ar), (ks, .inr (0, [.ref uls])), (uls, arI cs 1005 sl)]))) (va_Qi (fun r (_ : Unit) => r = iI (0)) (fun _ t => va_P D vwCl [(po, .inl (cs 4, 1, .inr (.inl (vp_updL ov 0 (lI (fk + smI ar (dy + 1) - smI sl (dy + 1))))))), (kr, .inr (5, [.ref la, .ref ia, .ref na, .ref b4, .ref b6, .ref b8, .ref b10, .int (iI (((sh : Nat) : Int))), .int (iI (((it : Nat) : Int))), .int (iI (lc)), .int (iI (((dy : Nat) : Int))), .int (iI (pct)), .int (iI (lr)), .int (iI (sr))])), (la, arI cs 4 lf), (ia, arQ cs 2 5 itf), (na, arQ cs 3 20 lnf), (kn, .inr (3, [.ref hi, .int (iI (ld)), .int (iI (fd)), .int (iI (fk)), .int (iI (fv)), .ref kl, .ref ke, .ref kd, .ref ks, .ref ka, .int (iI (es)), .int (iI (sk)), .int (iI (so)), .int (iI (lo))])), (ka, .inr (0, [.ref ua])), (ua, arI cs 1005 ar), (ks, .inr (0, [.ref uls])), (uls, arI cs 1005 sl)] t.heap) (inW [(po, .inl (cs 4, 1, .inr (.inl ov))), (kr, .inr (5, [.ref la, .ref ia, .ref na, .ref b4, .ref b6, .ref b8, .ref b10, .int (iI (((sh : Nat) : Int))), .int (iI (((it : Nat) : Int))), .int (iI (lc)), .int (iI (((dy : Nat) : Int))), .int (iI (pct)), .int (iI (lr)), .int (iI (sr))])), (la, arI cs 4 lf), (ia, arQ cs 2 5 itf), (na, arQ cs 3 20 lnf), (kn, .inr (3, [.ref hi, .int (iI (ld)), .int (iI (fd)), .int (iI (fk)), .int (iI (fv)), .ref kl, .ref ke, .ref kd, .ref ks, .ref ka, .int (iI (es)), .int (iI (sk)), .int (iI (so)), .int (iI (lo))])), (ka, .inr (0, [.ref ua])), (ua, arI cs 1005 ar), (ks, .inr (0, [.ref uls])), (uls, arI cs 1005 sl)])) 3 18 (inW [(po, .inl (cs 4, 1, .inr (.inl ov))), (kr, .inr (5, [.ref la, .ref ia, .ref na, .ref b4, .ref b6, .ref b8, .ref b10, .int (iI (((sh : Nat) : Int))), .int (iI (((it : Nat) : Int))), .int (iI (lc)), .int (iI (((dy : Nat) : Int))), .int (iI (pct)), .int (iI (lr)), .int (iI (sr))])), (la, arI cs 4 lf), (ia, arQ cs 2 5 itf), (na, arQ cs 3 20 lnf), (kn, .inr (3, [.ref hi, .int (iI (ld)), .int (iI (fd)), .int (iI (fk)), .int (iI (fv)), .ref kl, .ref ke, .ref kd, .ref ks, .ref ka, .int (iI (es)), .int (iI (sk)), .int (iI (so)), .int (iI (lo))])), (ka, .inr (0, [.ref ua])), (ua, arI cs 1005 ar), (ks, .inr (0, [.ref uls])), (uls, arI cs 1005 sl)]) := by
  refine va_MetW (cc := cL_stockByJournal) (maxL := 5) (ret := some .int) (hh := [(0, 10, 13, 25), (0, 10, 17, 50)]) (by decide +kernel) rfl ?_
  intro p e s m args below meth c s₁ B hml hv
  obtain ⟨rfl, ⟨hP, hK, hD, hN⟩, hE⟩ := hv
  have hx := B.exec
  have hb := B.bytes
  have hr := B.returns
  have hts : ∀ w ∈ ALL, w.before _ s = true := fun w h => atoms_spec (ws := ws_L_stockByJournal) B.pre w (List.mem_cons_of_mem _ h)
  have hown : s.vm.findClass RL = some m.cls := findClass_of_methodNamed B.named
  have hlocks := B.notSynchronized
  have htab : c.exceptionTable.toList = tableOf [(0, 10, 13, 25), (0, 10, 17, 50)] := vx_table (x := yL_stockByJournal) B (atoms_spec (ws := ws_L_stockByJournal) B.pre _ List.mem_cons_self)
  generalize hAe : inW [(po, .inl (cs 4, 1, .inr (.inl ov))), (kr, .inr (5, [.ref la, .ref ia, .ref na, .ref b4, .ref b6, .ref b8, .ref b10, .int (iI (((sh : Nat) : Int))), .int (iI (((it : Nat) : Int))), .int (iI (lc)), .int (iI (((dy : Nat) : Int))), .int (iI (pct)), .int (iI (lr)), .int (iI (sr))])), (la, arI cs 4 lf), (ia, arQ cs 2 5 itf), (na, arQ cs 3 20 lnf), (kn, .inr (3, [.ref hi, .int (iI (ld)), .int (iI (fd)), .int (iI (fk)), .int (iI (fv)), .ref kl, .ref ke, .ref kd, .ref ks, .ref ka, .int (iI (es)), .int (iI (sk)), .int (iI (so)), .int (iI (lo))])), (ka, .inr (0, [.ref ua])), (ua, arI cs 1005 ar), (ks, .inr (0, [.ref uls])), (uls, arI cs 1005 sl)] = A at hD hE ⊢
  have hS : va_S A s.heap s.heap [] := va_S.rf
  have hl := lv_entry ([.ref kr, .int (iI (((sn : Nat) : Int))), .int (iI (((tn : Nat) : Int))), .ref po]) (n := 5) (Nat.le_of_ble_eq_true rfl)
  rw [lg_entry_eq]
  generalize (lg_sl ([.ref kr, .int (iI (((sn : Nat) : Int))), .int (iI (((tn : Nat) : Int))), .ref po]) ++ List.replicate (5 - (lg_sl ([.ref kr, .int (iI (((sn : Nat) : Int))), .int (iI (((tn : Nat) : Int))), .ref po])).length) Slot.unset).toArray = ls at hl ⊢
  have hl : lv_has ls 5 [(0, .ref kr), (1, .int (iI (((sn : Nat) : Int)))), (2, .int (iI (((tn : Nat) : Int)))), (3, .ref po)] := hl
  have hH := rfl (a := s.heap)
  refine lv_aload_n hx hb dL_stockByJournal_0 rfl (lv_at hl 3 rfl) ?_
  refine lv_iconst (v := iI (0)) hx hb dL_stockByJournal_1 rfl ?_
  refine lv_aload_n hx hb dL_stockByJournal_2 rfl (lv_at hl 0 rfl) ?_
  refine lv_iload_n hx hb dL_stockByJournal_3 rfl (lv_at hl 1 rfl) ?_
  refine lv_iload_n hx hb dL_stockByJournal_4 rfl (lv_at hl 2 rfl) ?_
  have pk1 : picks [(po, .inl (cs 4, 1, .inr (.inl ov))), (kr, .inr (5, [.ref la, .ref ia, .ref na, .ref b4, .ref b6, .ref b8, .ref b10, .int (iI (((sh : Nat) : Int))), .int (iI (((it : Nat) : Int))), .int (iI (lc)), .int (iI (((dy : Nat) : Int))), .int (iI (pct)), .int (iI (lr)), .int (iI (sr))])), (la, arI cs 4 lf), (ia, arQ cs 2 5 itf), (na, arQ cs 3 20 lnf), (kn, .inr (3, [.ref hi, .int (iI (ld)), .int (iI (fd)), .int (iI (fk)), .int (iI (fv)), .ref kl, .ref ke, .ref kd, .ref ks, .ref ka, .int (iI (es)), .int (iI (sk)), .int (iI (so)), .int (iI (lo))])), (ka, .inr (0, [.ref ua])), (ua, arI cs 1005 ar), (ks, .inr (0, [.ref uls])), (uls, arI cs 1005 sl)] [1, 2, 3, 4, 5, 6, 7, 8, 9] [(kr, .inr (5, [.ref la, .ref ia, .ref na, .ref b4, .ref b6, .ref b8, .ref b10, .int (iI (((sh : Nat) : Int))), .int (iI (((it : Nat) : Int))), .int (iI (lc)), .int (iI (((dy : Nat) : Int))), .int (iI (pct)), .int (iI (lr)), .int (iI (sr))])), (la, arI cs 4 lf), (ia, arQ cs 2 5 itf), (na, arQ cs 3 20 lnf), (kn, .inr (3, [.ref hi, .int (iI (ld)), .int (iI (fd)), .int (iI (fk)), .int (iI (fv)), .ref kl, .ref ke, .ref kd, .ref ks, .ref ka, .int (iI (es)), .int (iI (sk)), .int (iI (so)), .int (iI (lo))])), (ka, .inr (0, [.ref ua])), (ua, arI cs 1005 ar), (ks, .inr (0, [.ref uls])), (uls, arI cs 1005 sl)] := ⟨rfl, rfl, rfl, rfl, rfl, rfl, rfl, rfl, rfl, trivial⟩
  refine vx_calli (vx_runV (As := [.int (iI (((sn : Nat) : Int))), .int (iI (((tn : Nat) : Int)))]) (rest := [.int (iI (0)), .ref po]) ⟨hx, hb, hml, hown, hts⟩ (m_X5_stockByJournal_ok l hst D cs kr la ia na b4 b6 b8 b10 sh it lc dy pct lr sr lf itf lnf sn tn kn hi kl ke kd ks ka ld fd fk fv es sk so lo ua uls ar sl (hsh) (hit) (hitf) (hsn) (htn) (hln) (hd)) (cwV 2 hts (gV w_686 w_687 w_688 w_1 w_689) rfl rfl rfl (by decide +kernel) ⟨Nat.le_of_ble_eq_true rfl, Nat.le_of_ble_eq_true rfl⟩) (PE_V hK hN hE hS (fun _ h => False.elim h) hP hD [1, 2, 3, 4, 5, 6, 7, 8, 9] rfl pk1 rfl rfl) rfl rfl hl.1 rfl (lv_room (Nat.le_of_ble_eq_true rfl)) dL_stockByJournal_5 ⟨Nat.le_of_ble_eq_true rfl, Nat.le_of_ble_eq_true rfl⟩) hS (fun _ _ h => False.elim h) (fun _ h => False.elim h) (fun _ _ h => False.elim h) (fun E ce q9 u t H1 locs1 ht hvm hpx hBX hz1 hk1 hS1 hce hcv hcl => ?_) (fun r u t H locs ht hvm hw hB hz1 hk1 hS => ?_)
  · exact absurd (hpx.1) hpx.2
  obtain ⟨hc2, hw⟩ := hw
  subst hw
  have hP := P_kept hP hk1
  refine my_i2l hx hb dL_stockByJournal_8 (by omega) ?_
  refine my_last0 hx hb hK hP hD hS 0 rfl dL_stockByJournal_9 (fun H locs hP hD hS => ?_)
  have hP : va_P D vwCl [(po, .inl (cs 4, 1, .inr (.inl (vp_updL ov 0 (lI (fk + smI ar (dy + 1) - smI sl (dy + 1))))))), (kr, .inr (5, [.ref la, .ref ia, .ref na, .ref b4, .ref b6, .ref b8, .ref b10, .int (iI (((sh : Nat) : Int))), .int (iI (((it : Nat) : Int))), .int (iI (lc)), .int (iI (((dy : Nat) : Int))), .int (iI (pct)), .int (iI (lr)), .int (iI (sr))])), (la, arI cs 4 lf), (ia, arQ cs 2 5 itf), (na, arQ cs 3 20 lnf), (kn, .inr (3, [.ref hi, .int (iI (ld)), .int (iI (fd)), .int (iI (fk)), .int (iI (fv)), .ref kl, .ref ke, .ref kd, .ref ks, .ref ka, .int (iI (es)), .int (iI (sk)), .int (iI (so)), .int (iI (lo))])), (ka, .inr (0, [.ref ua])), (ua, arI cs 1005 ar), (ks, .inr (0, [.ref uls])), (uls, arI cs 1005 sl)] H := hP
  have hD : va_D A [(po, .inl (cs 4, 1, .inr (.inl (vp_updL ov 0 (lI (fk + smI ar (dy + 1) - smI sl (dy + 1))))))), (kr, .inr (5, [.ref la, .ref ia, .ref na, .ref b4, .ref b6, .ref b8, .ref b10, .int (iI (((sh : Nat) : Int))), .int (iI (((it : Nat) : Int))), .int (iI (lc)), .int (iI (((dy : Nat) : Int))), .int (iI (pct)), .int (iI (lr)), .int (iI (sr))])), (la, arI cs 4 lf), (ia, arQ cs 2 5 itf), (na, arQ cs 3 20 lnf), (kn, .inr (3, [.ref hi, .int (iI (ld)), .int (iI (fd)), .int (iI (fk)), .int (iI (fv)), .ref kl, .ref ke, .ref kd, .ref ks, .ref ka, .int (iI (es)), .int (iI (sk)), .int (iI (so)), .int (iI (lo))])), (ka, .inr (0, [.ref ua])), (ua, arI cs 1005 ar), (ks, .inr (0, [.ref uls])), (uls, arI cs 1005 sl)] := hD
  refine lv_goto (tgt := 21) hx hb dL_stockByJournal_10 (by decide) ?_
  refine lv_iconst (v := iI (0)) hx hb dL_stockByJournal_21 rfl ?_
  subst hAe
  refine W.widen (k := 3) (n := 18) (by omega) (by omega) ?_
  have hres : iI (0) = iI (0) := congrArg iI (by
      rfl)
  exact W.iret hx hb hr (fun t ht hW => ⟨⟨_, (), rfl, hres, by show va_P D vwCl _ t.heap; rw [ht]; exact hP⟩, hS.F ht⟩) hS.2.2 dL_stockByJournal_22

abbrev ws_L_onWay : List Cond := Cond.codeWith yL_onWay cL_onWay 5 (some .int) [(0, 10, 13, 25), (0, 10, 17, 50)] :: ALL
set_option maxHeartbeats 4000000 in
set_option maxRecDepth 100000 in
theorem m_L_onWay_no_t (l : Launch) (hst : l.stackTraces = false) (D : va_G) (cs : Nat → ClassId) (kr la ia na b4 b6 b8 b10 sh it : Nat) (lc : Int) (dy : Nat) (pct lr sr : Int) (lf : Nat → Int) (itf : Nat → Option Nat) (lnf : Nat → Option Nat) (zs zi : Int) (po : Nat) (ov : Nat → Int64) (hsh : sh ≤ 4) (hit : it ≤ 5) (hitf : ∀ j, j < it → itf j ≠ none) (hzs : -2147483648 ≤ zs ∧ zs < 2147483648) (hzi : -2147483648 ≤ zi ∧ zi < 2147483648) (hno : cdL sh it lnf zs zi ≠ 0) : Met l yL_onWay ws_L_onWay ({ frames := 9, cells := 3, slots := 18, locals := 149 }) (va_Pc [.ref kr, .int (iI (zs)), .int (iI (zi)), .ref po] (PE D cs [(po, .inl (cs 4, 1, .inr (.inl ov))), (kr, .inr (5, [.ref la, .ref ia, .ref na, .ref b4, .ref b6, .ref b8, .ref b10, .int (iI (((sh : Nat) : Int))), .int (iI (((it : Nat) : Int))), .int (iI (lc)), .int (iI (((dy : Nat) : Int))), .int (iI (pct)), .int (iI (lr)), .int (iI (sr))])), (la, arI cs 4 lf), (ia, arQ cs 2 5 itf), (na, arQ cs 3 20 lnf)] noA)) (va_Qi (fun r (_ : Unit) => r = iI (hkI [1, 2] (cdL sh it lnf zs zi))) (fun _ _ => True) noA) 3 18 noA := by
  refine va_MetW (cc := cL_onWay) (maxL := 5) (ret := some .int) (hh := [(0, 10, 13, 25), (0, 10, 17, 50)]) (by decide +kernel) rfl ?_
  intro p e s m args below meth c s₁ B hml hv
  obtain ⟨rfl, ⟨hP, hK, hD, hN⟩, hE⟩ := hv
  have hx := B.exec
  have hb := B.bytes
  have hr := B.returns
  have hts : ∀ w ∈ ALL, w.before _ s = true := fun w h => atoms_spec (ws := ws_L_onWay) B.pre w (List.mem_cons_of_mem _ h)
  have hown : s.vm.findClass RL = some m.cls := findClass_of_methodNamed B.named
  have hlocks := B.notSynchronized
  have htab : c.exceptionTable.toList = tableOf [(0, 10, 13, 25), (0, 10, 17, 50)] := vx_table (x := yL_onWay) B (atoms_spec (ws := ws_L_onWay) B.pre _ List.mem_cons_self)
  have hS : va_S noA s.heap s.heap [] := va_S.rf
  generalize inW [(po, .inl (cs 4, 1, .inr (.inl ov))), (kr, .inr (5, [.ref la, .ref ia, .ref na, .ref b4, .ref b6, .ref b8, .ref b10, .int (iI (((sh : Nat) : Int))), .int (iI (((it : Nat) : Int))), .int (iI (lc)), .int (iI (((dy : Nat) : Int))), .int (iI (pct)), .int (iI (lr)), .int (iI (sr))])), (la, arI cs 4 lf), (ia, arQ cs 2 5 itf), (na, arQ cs 3 20 lnf)] = A at hD
  have hl := lv_entry ([.ref kr, .int (iI (zs)), .int (iI (zi)), .ref po]) (n := 5) (Nat.le_of_ble_eq_true rfl)
  rw [lg_entry_eq]
  generalize (lg_sl ([.ref kr, .int (iI (zs)), .int (iI (zi)), .ref po]) ++ List.replicate (5 - (lg_sl ([.ref kr, .int (iI (zs)), .int (iI (zi)), .ref po])).length) Slot.unset).toArray = ls at hl ⊢
  have hl : lv_has ls 5 [(0, .ref kr), (1, .int (iI (zs))), (2, .int (iI (zi))), (3, .ref po)] := hl
  have hH := rfl (a := s.heap)
  refine lv_aload_n hx hb dL_onWay_0 rfl (lv_at hl 3 rfl) ?_
  refine lv_iconst (v := iI (0)) hx hb dL_onWay_1 rfl ?_
  refine lv_aload_n hx hb dL_onWay_2 rfl (lv_at hl 0 rfl) ?_
  refine lv_iload_n hx hb dL_onWay_3 rfl (lv_at hl 1 rfl) ?_
  refine lv_iload_n hx hb dL_onWay_4 rfl (lv_at hl 2 rfl) ?_
  have pk1 : picks [(po, .inl (cs 4, 1, .inr (.inl ov))), (kr, .inr (5, [.ref la, .ref ia, .ref na, .ref b4, .ref b6, .ref b8, .ref b10, .int (iI (((sh : Nat) : Int))), .int (iI (((it : Nat) : Int))), .int (iI (lc)), .int (iI (((dy : Nat) : Int))), .int (iI (pct)), .int (iI (lr)), .int (iI (sr))])), (la, arI cs 4 lf), (ia, arQ cs 2 5 itf), (na, arQ cs 3 20 lnf)] [1, 2, 3, 4] [(kr, .inr (5, [.ref la, .ref ia, .ref na, .ref b4, .ref b6, .ref b8, .ref b10, .int (iI (((sh : Nat) : Int))), .int (iI (((it : Nat) : Int))), .int (iI (lc)), .int (iI (((dy : Nat) : Int))), .int (iI (pct)), .int (iI (lr)), .int (iI (sr))])), (la, arI cs 4 lf), (ia, arQ cs 2 5 itf), (na, arQ cs 3 20 lnf)] := ⟨rfl, rfl, rfl, rfl, trivial⟩
  refine vx_calli (vx_runV (As := [.int (iI (zs)), .int (iI (zi))]) (rest := [.int (iI (0)), .ref po]) ⟨hx, hb, hml, hown, hts⟩ (m_X5_onWay_no l hst D cs kr la ia na b4 b6 b8 b10 sh it lc dy pct lr sr lf itf lnf zs zi (hsh) (hit) (hitf) (hzs) (hzi) (hno)) (cwV 2 hts (gV w_701 w_702 w_703 w_1 w_704) rfl rfl rfl (by decide +kernel) ⟨Nat.le_of_ble_eq_true rfl, Nat.le_of_ble_eq_true rfl⟩) (PE_V hK hN hE hS (fun _ h => False.elim h) hP hD [1, 2, 3, 4] rfl pk1 rfl rfl) rfl rfl hl.1 rfl (lv_room (Nat.le_of_ble_eq_true rfl)) dL_onWay_5 ⟨Nat.le_of_ble_eq_true rfl, Nat.le_of_ble_eq_true rfl⟩) hS (fun _ _ h => False.elim h) (fun _ h => False.elim h) (fun _ _ h => False.elim h) (fun E ce q9 u t H1 locs1 ht hvm hpx hBX hz1 hk1 hS1 hce hcv hcl => ?_) (fun r u t H locs ht hvm hw hB hz1 hk1 hS => ?_)
  · have h9 : u = cdL sh it lnf zs zi := hpx.1
    have hS := hS1
    have hcd : cdL sh it lnf zs zi = 2 ∨ cdL sh it lnf zs zi = 1 := by
      revert hno
      (try unfold cdL); (try unfold cdS); (try unfold cdC)
      (repeat' split) <;> simp
    have hEu := hBX
    have hP := P_kept hP hk1
    rcases hcd with hc3 | hcd
    · have hE3 : E = "java/util/NoSuchElementException" := by have h8 : E = exN u := hEu; rw [h8, h9, hc3]; rfl
      subst hE3
      refine vx_catch (name := "java/util/NoSuchElementException") hown [⟨0, 10, 13, 25⟩] ⟨0, 10, 17, 50⟩ [] (htab.trans rfl) (fun z hz => by
          simp only [List.mem_cons, List.not_mem_nil, or_false] at hz
          rcases hz with rfl
          · exact Or.inr ⟨by decide, "java/lang/IndexOutOfBoundsException", hts _ w_266, hE.2.2.2.2.2 _ (List.mem_of_getElem? (i := 10) rfl)⟩) rfl (by decide) (hts _ w_455) (hE.use _ (List.mem_append_right _ (List.mem_map.mpr ⟨_, List.mem_of_getElem? (i := 1) rfl, rfl⟩))) hce hcv hcl ?_
      refine lv_astore (lv' := [(4, .ref q9), (0, .ref kr), (1, .int (iI (zs))), (2, .int (iI (zi))), (3, .ref po)]) hx hb dL_onWay_17 hl (by decide) rfl (fun ls hl => ?_)
      refine lv_iconst (v := iI (2)) hx hb dL_onWay_19 rfl ?_
      refine W.widen (k := 3) (n := 18) (by omega) (by omega) ?_
      have hres : iI (2) = iI (hkI [1, 2] (cdL sh it lnf zs zi)) := congrArg iI (by
          rw [hc3]; rfl)
      exact W.iret hx hb hr (fun t ht hW => ⟨⟨_, (), rfl, hres, trivial⟩, hS.F ht⟩) hS.2.2 dL_onWay_20
    have hc3 := hcd
    have hE3 : E = "java/lang/IndexOutOfBoundsException" := by have h8 : E = exN u := hEu; rw [h8, h9, hc3]; rfl
    subst hE3
    refine vx_catch (name := "java/lang/IndexOutOfBoundsException") hown [] ⟨0, 10, 13, 25⟩ [⟨0, 10, 17, 50⟩] (htab.trans rfl) (fun z hz => by cases hz) rfl (by decide) (hts _ w_266) (hE.use _ (List.mem_append_right _ (List.mem_map.mpr ⟨_, List.mem_of_getElem? (i := 0) rfl, rfl⟩))) hce hcv hcl ?_
    refine lv_astore (lv' := [(4, .ref q9), (0, .ref kr), (1, .int (iI (zs))), (2, .int (iI (zi))), (3, .ref po)]) hx hb dL_onWay_13 hl (by decide) rfl (fun ls hl => ?_)
    refine lv_iconst (v := iI (1)) hx hb dL_onWay_15 rfl ?_
    refine W.widen (k := 3) (n := 18) (by omega) (by omega) ?_
    have hres : iI (1) = iI (hkI [1, 2] (cdL sh it lnf zs zi)) := congrArg iI (by
        rw [hc3]; rfl)
    exact W.iret hx hb hr (fun t ht hW => ⟨⟨_, (), rfl, hres, trivial⟩, hS.F ht⟩) hS.2.2 dL_onWay_16
  obtain ⟨hc2, hw⟩ := hw
  subst hw
  have hP := P_kept hP hk1
  exact absurd hc2 hno

set_option maxHeartbeats 4000000 in
set_option maxRecDepth 100000 in
theorem m_L_onWay_ok_r (l : Launch) (hst : l.stackTraces = false) (D : va_G) (cs : Nat → ClassId) (kr la ia na b4 b6 b8 b10 sh it : Nat) (lc : Int) (dy : Nat) (pct lr sr : Int) (lf : Nat → Int) (itf : Nat → Option Nat) (lnf : Nat → Option Nat) (sn tn : Nat) (kn hi kl ke kd ks ka : Nat) (ld fd fk fv es sk so lo : Int) (ua : Nat) (ar : Nat → Int) (po : Nat) (ov : Nat → Int64) (hsh : sh ≤ 4) (hit : it ≤ 5) (hitf : ∀ j, j < it → itf j ≠ none) (hsn : sn < sh) (htn : tn < it) (hln : lnf (sn * 5 + tn) = some kn) (hd : dy < 1000) (hrr : -2147483648 ≤ (duI ar dy) ∧ (duI ar dy) < 2147483648) : Met l yL_onWay ws_L_onWay ({ frames := 9, cells := 3, slots := 18, locals := 149 }) (va_Pc [.ref kr, .int (iI (((sn : Nat) : Int))), .int (iI (((tn : Nat) : Int))), .ref po] (PE D cs [(po, .inl (cs 4, 1, .inr (.inl ov))), (kr, .inr (5, [.ref la, .ref ia, .ref na, .ref b4, .ref b6, .ref b8, .ref b10, .int (iI (((sh : Nat) : Int))), .int (iI (((it : Nat) : Int))), .int (iI (lc)), .int (iI (((dy : Nat) : Int))), .int (iI (pct)), .int (iI (lr)), .int (iI (sr))])), (la, arI cs 4 lf), (ia, arQ cs 2 5 itf), (na, arQ cs 3 20 lnf), (kn, .inr (3, [.ref hi, .int (iI (ld)), .int (iI (fd)), .int (iI (fk)), .int (iI (fv)), .ref kl, .ref ke, .ref kd, .ref ks, .ref ka, .int (iI (es)), .int (iI (sk)), .int (iI (so)), .int (iI (lo))])), (ka, .inr (0, [.ref ua])), (ua, arI cs 1005 ar)] (inW [(po, .inl (cs 4, 1, .inr (.inl ov))), (kr, .inr (5, [.ref la, .ref ia, .ref na, .ref b4, .ref b6, .ref b8, .ref b10, .int (iI (((sh : Nat) : Int))), .int (iI (((it : Nat) : Int))), .int (iI (lc)), .int (iI (((dy : Nat) : Int))), .int (iI (pct)), .int (iI (lr)), .int (iI (sr))])), (la, arI cs 4 lf), (ia, arQ cs 2 5 itf), (na, arQ cs 3 20 lnf), (kn, .inr (3, [.ref hi, .int (iI (ld)), .int (iI (fd)), .int (iI (fk)), .int (iI (fv)), .ref kl, .ref ke, .ref kd, .ref ks, .ref ka, .int (iI (es)), .int (iI (sk)), .int (iI (so)), .int (iI (lo))])), (ka, .inr (0, [.ref ua])), (ua, arI cs 1005 ar)]))) (va_Qi (fun r (_ : Unit) => r = iI (0)) (fun _ t => va_P D vwCl [(po, .inl (cs 4, 1, .inr (.inl (vp_updL ov 0 (lI (duI ar dy)))))), (kr, .inr (5, [.ref la, .ref ia, .ref na, .ref b4, .ref b6, .ref b8, .ref b10, .int (iI (((sh : Nat) : Int))), .int (iI (((it : Nat) : Int))), .int (iI (lc)), .int (iI (((dy : Nat) : Int))), .int (iI (pct)), .int (iI (lr)), .int (iI (sr))])), (la, arI cs 4 lf), (ia, arQ cs 2 5 itf), (na, arQ cs 3 20 lnf), (kn, .inr (3, [.ref hi, .int (iI (ld)), .int (iI (fd)), .int (iI (fk)), .int (iI (fv)), .ref kl, .ref ke, .ref kd, .ref ks, .ref ka, .int (iI (es)), .int (iI (sk)), .int (iI (so)), .int (iI (lo))])), (ka, .inr (0, [.ref ua])), (ua, arI cs 1005 ar)] t.heap) (inW [(po, .inl (cs 4, 1, .inr (.inl ov))), (kr, .inr (5, [.ref la, .ref ia, .ref na, .ref b4, .ref b6, .ref b8, .ref b10, .int (iI (((sh : Nat) : Int))), .int (iI (((it : Nat) : Int))), .int (iI (lc)), .int (iI (((dy : Nat) : Int))), .int (iI (pct)), .int (iI (lr)), .int (iI (sr))])), (la, arI cs 4 lf), (ia, arQ cs 2 5 itf), (na, arQ cs 3 20 lnf), (kn, .inr (3, [.ref hi, .int (iI (ld)), .int (iI (fd)), .int (iI (fk)), .int (iI (fv)), .ref kl, .ref ke, .ref kd, .ref ks, .ref ka, .int (iI (es)), .int (iI (sk)), .int (iI (so)), .int (iI (lo))])), (ka, .inr (0, [.ref ua])), (ua, arI cs 1005 ar)])) 3 18 (inW [(po, .inl (cs 4, 1, .inr (.inl ov))), (kr, .inr (5, [.ref la, .ref ia, .ref na, .ref b4, .ref b6, .ref b8, .ref b10, .int (iI (((sh : Nat) : Int))), .int (iI (((it : Nat) : Int))), .int (iI (lc)), .int (iI (((dy : Nat) : Int))), .int (iI (pct)), .int (iI (lr)), .int (iI (sr))])), (la, arI cs 4 lf), (ia, arQ cs 2 5 itf), (na, arQ cs 3 20 lnf), (kn, .inr (3, [.ref hi, .int (iI (ld)), .int (iI (fd)), .int (iI (fk)), .int (iI (fv)), .ref kl, .ref ke, .ref kd, .ref ks, .ref ka, .int (iI (es)), .int (iI (sk)), .int (iI (so)), .int (iI (lo))])), (ka, .inr (0, [.ref ua])), (ua, arI cs 1005 ar)]) := by
  refine va_MetW (cc := cL_onWay) (maxL := 5) (ret := some .int) (hh := [(0, 10, 13, 25), (0, 10, 17, 50)]) (by decide +kernel) rfl ?_
  intro p e s m args below meth c s₁ B hml hv
  obtain ⟨rfl, ⟨hP, hK, hD, hN⟩, hE⟩ := hv
  have hx := B.exec
  have hb := B.bytes
  have hr := B.returns
  have hts : ∀ w ∈ ALL, w.before _ s = true := fun w h => atoms_spec (ws := ws_L_onWay) B.pre w (List.mem_cons_of_mem _ h)
  have hown : s.vm.findClass RL = some m.cls := findClass_of_methodNamed B.named
  have hlocks := B.notSynchronized
  have htab : c.exceptionTable.toList = tableOf [(0, 10, 13, 25), (0, 10, 17, 50)] := vx_table (x := yL_onWay) B (atoms_spec (ws := ws_L_onWay) B.pre _ List.mem_cons_self)
  generalize hAe : inW [(po, .inl (cs 4, 1, .inr (.inl ov))), (kr, .inr (5, [.ref la, .ref ia, .ref na, .ref b4, .ref b6, .ref b8, .ref b10, .int (iI (((sh : Nat) : Int))), .int (iI (((it : Nat) : Int))), .int (iI (lc)), .int (iI (((dy : Nat) : Int))), .int (iI (pct)), .int (iI (lr)), .int (iI (sr))])), (la, arI cs 4 lf), (ia, arQ cs 2 5 itf), (na, arQ cs 3 20 lnf), (kn, .inr (3, [.ref hi, .int (iI (ld)), .int (iI (fd)), .int (iI (fk)), .int (iI (fv)), .ref kl, .ref ke, .ref kd, .ref ks, .ref ka, .int (iI (es)), .int (iI (sk)), .int (iI (so)), .int (iI (lo))])), (ka, .inr (0, [.ref ua])), (ua, arI cs 1005 ar)] = A at hD hE ⊢
  have hS : va_S A s.heap s.heap [] := va_S.rf
  have hl := lv_entry ([.ref kr, .int (iI (((sn : Nat) : Int))), .int (iI (((tn : Nat) : Int))), .ref po]) (n := 5) (Nat.le_of_ble_eq_true rfl)
  rw [lg_entry_eq]
  generalize (lg_sl ([.ref kr, .int (iI (((sn : Nat) : Int))), .int (iI (((tn : Nat) : Int))), .ref po]) ++ List.replicate (5 - (lg_sl ([.ref kr, .int (iI (((sn : Nat) : Int))), .int (iI (((tn : Nat) : Int))), .ref po])).length) Slot.unset).toArray = ls at hl ⊢
  have hl : lv_has ls 5 [(0, .ref kr), (1, .int (iI (((sn : Nat) : Int)))), (2, .int (iI (((tn : Nat) : Int)))), (3, .ref po)] := hl
  have hH := rfl (a := s.heap)
  refine lv_aload_n hx hb dL_onWay_0 rfl (lv_at hl 3 rfl) ?_
  refine lv_iconst (v := iI (0)) hx hb dL_onWay_1 rfl ?_
  refine lv_aload_n hx hb dL_onWay_2 rfl (lv_at hl 0 rfl) ?_
  refine lv_iload_n hx hb dL_onWay_3 rfl (lv_at hl 1 rfl) ?_
  refine lv_iload_n hx hb dL_onWay_4 rfl (lv_at hl 2 rfl) ?_
  have pk1 : picks [(po, .inl (cs 4, 1, .inr (.inl ov))), (kr, .inr (5, [.ref la, .ref ia, .ref na, .ref b4, .ref b6, .ref b8, .ref b10, .int (iI (((sh : Nat) : Int))), .int (iI (((it : Nat) : Int))), .int (iI (lc)), .int (iI (((dy : Nat) : Int))), .int (iI (pct)), .int (iI (lr)), .int (iI (sr))])), (la, arI cs 4 lf), (ia, arQ cs 2 5 itf), (na, arQ cs 3 20 lnf), (kn, .inr (3, [.ref hi, .int (iI (ld)), .int (iI (fd)), .int (iI (fk)), .int (iI (fv)), .ref kl, .ref ke, .ref kd, .ref ks, .ref ka, .int (iI (es)), .int (iI (sk)), .int (iI (so)), .int (iI (lo))])), (ka, .inr (0, [.ref ua])), (ua, arI cs 1005 ar)] [1, 2, 3, 4, 5, 6, 7] [(kr, .inr (5, [.ref la, .ref ia, .ref na, .ref b4, .ref b6, .ref b8, .ref b10, .int (iI (((sh : Nat) : Int))), .int (iI (((it : Nat) : Int))), .int (iI (lc)), .int (iI (((dy : Nat) : Int))), .int (iI (pct)), .int (iI (lr)), .int (iI (sr))])), (la, arI cs 4 lf), (ia, arQ cs 2 5 itf), (na, arQ cs 3 20 lnf), (kn, .inr (3, [.ref hi, .int (iI (ld)), .int (iI (fd)), .int (iI (fk)), .int (iI (fv)), .ref kl, .ref ke, .ref kd, .ref ks, .ref ka, .int (iI (es)), .int (iI (sk)), .int (iI (so)), .int (iI (lo))])), (ka, .inr (0, [.ref ua])), (ua, arI cs 1005 ar)] := ⟨rfl, rfl, rfl, rfl, rfl, rfl, rfl, trivial⟩
  refine vx_calli (vx_runV (As := [.int (iI (((sn : Nat) : Int))), .int (iI (((tn : Nat) : Int)))]) (rest := [.int (iI (0)), .ref po]) ⟨hx, hb, hml, hown, hts⟩ (m_X5_onWay_ok l hst D cs kr la ia na b4 b6 b8 b10 sh it lc dy pct lr sr lf itf lnf sn tn kn hi kl ke kd ks ka ld fd fk fv es sk so lo ua ar (hsh) (hit) (hitf) (hsn) (htn) (hln) (hd)) (cwV 2 hts (gV w_701 w_702 w_703 w_1 w_704) rfl rfl rfl (by decide +kernel) ⟨Nat.le_of_ble_eq_true rfl, Nat.le_of_ble_eq_true rfl⟩) (PE_V hK hN hE hS (fun _ h => False.elim h) hP hD [1, 2, 3, 4, 5, 6, 7] rfl pk1 rfl rfl) rfl rfl hl.1 rfl (lv_room (Nat.le_of_ble_eq_true rfl)) dL_onWay_5 ⟨Nat.le_of_ble_eq_true rfl, Nat.le_of_ble_eq_true rfl⟩) hS (fun _ _ h => False.elim h) (fun _ h => False.elim h) (fun _ _ h => False.elim h) (fun E ce q9 u t H1 locs1 ht hvm hpx hBX hz1 hk1 hS1 hce hcv hcl => ?_) (fun r u t H locs ht hvm hw hB hz1 hk1 hS => ?_)
  · exact absurd (hpx.1) hpx.2
  obtain ⟨hc2, hw⟩ := hw
  subst hw
  have hP := P_kept hP hk1
  refine my_i2l hx hb dL_onWay_8 (by omega) ?_
  refine my_last0 hx hb hK hP hD hS 0 rfl dL_onWay_9 (fun H locs hP hD hS => ?_)
  have hP : va_P D vwCl [(po, .inl (cs 4, 1, .inr (.inl (vp_updL ov 0 (lI (duI ar dy)))))), (kr, .inr (5, [.ref la, .ref ia, .ref na, .ref b4, .ref b6, .ref b8, .ref b10, .int (iI (((sh : Nat) : Int))), .int (iI (((it : Nat) : Int))), .int (iI (lc)), .int (iI (((dy : Nat) : Int))), .int (iI (pct)), .int (iI (lr)), .int (iI (sr))])), (la, arI cs 4 lf), (ia, arQ cs 2 5 itf), (na, arQ cs 3 20 lnf), (kn, .inr (3, [.ref hi, .int (iI (ld)), .int (iI (fd)), .int (iI (fk)), .int (iI (fv)), .ref kl, .ref ke, .ref kd, .ref ks, .ref ka, .int (iI (es)), .int (iI (sk)), .int (iI (so)), .int (iI (lo))])), (ka, .inr (0, [.ref ua])), (ua, arI cs 1005 ar)] H := hP
  have hD : va_D A [(po, .inl (cs 4, 1, .inr (.inl (vp_updL ov 0 (lI (duI ar dy)))))), (kr, .inr (5, [.ref la, .ref ia, .ref na, .ref b4, .ref b6, .ref b8, .ref b10, .int (iI (((sh : Nat) : Int))), .int (iI (((it : Nat) : Int))), .int (iI (lc)), .int (iI (((dy : Nat) : Int))), .int (iI (pct)), .int (iI (lr)), .int (iI (sr))])), (la, arI cs 4 lf), (ia, arQ cs 2 5 itf), (na, arQ cs 3 20 lnf), (kn, .inr (3, [.ref hi, .int (iI (ld)), .int (iI (fd)), .int (iI (fk)), .int (iI (fv)), .ref kl, .ref ke, .ref kd, .ref ks, .ref ka, .int (iI (es)), .int (iI (sk)), .int (iI (so)), .int (iI (lo))])), (ka, .inr (0, [.ref ua])), (ua, arI cs 1005 ar)] := hD
  refine lv_goto (tgt := 21) hx hb dL_onWay_10 (by decide) ?_
  refine lv_iconst (v := iI (0)) hx hb dL_onWay_21 rfl ?_
  subst hAe
  refine W.widen (k := 3) (n := 18) (by omega) (by omega) ?_
  have hres : iI (0) = iI (0) := congrArg iI (by
      rfl)
  exact W.iret hx hb hr (fun t ht hW => ⟨⟨_, (), rfl, hres, by show va_P D vwCl _ t.heap; rw [ht]; exact hP⟩, hS.F ht⟩) hS.2.2 dL_onWay_22

abbrev ws_L_need : List Cond := Cond.codeWith yL_need cL_need 5 (some .int) [(0, 10, 13, 25), (0, 10, 17, 50)] :: ALL
set_option maxHeartbeats 4000000 in
set_option maxRecDepth 100000 in
theorem m_L_need_no_t (l : Launch) (hst : l.stackTraces = false) (D : va_G) (cs : Nat → ClassId) (kr la ia na b4 b6 b8 b10 sh it : Nat) (lc : Int) (dy : Nat) (pct lr sr : Int) (lf : Nat → Int) (itf : Nat → Option Nat) (lnf : Nat → Option Nat) (zs zi : Int) (po : Nat) (ov : Nat → Int64) (hsh : sh ≤ 4) (hit : it ≤ 5) (hitf : ∀ j, j < it → itf j ≠ none) (hzs : -2147483648 ≤ zs ∧ zs < 2147483648) (hzi : -2147483648 ≤ zi ∧ zi < 2147483648) (hno : cdL sh it lnf zs zi ≠ 0) : Met l yL_need ws_L_need ({ frames := 9, cells := 3, slots := 18, locals := 149 }) (va_Pc [.ref kr, .int (iI (zs)), .int (iI (zi)), .ref po] (PE D cs [(po, .inl (cs 4, 1, .inr (.inl ov))), (kr, .inr (5, [.ref la, .ref ia, .ref na, .ref b4, .ref b6, .ref b8, .ref b10, .int (iI (((sh : Nat) : Int))), .int (iI (((it : Nat) : Int))), .int (iI (lc)), .int (iI (((dy : Nat) : Int))), .int (iI (pct)), .int (iI (lr)), .int (iI (sr))])), (la, arI cs 4 lf), (ia, arQ cs 2 5 itf), (na, arQ cs 3 20 lnf)] noA)) (va_Qi (fun r (_ : Unit) => r = iI (hkI [1, 2] (cdL sh it lnf zs zi))) (fun _ _ => True) noA) 3 18 noA := by
  refine va_MetW (cc := cL_need) (maxL := 5) (ret := some .int) (hh := [(0, 10, 13, 25), (0, 10, 17, 50)]) (by decide +kernel) rfl ?_
  intro p e s m args below meth c s₁ B hml hv
  obtain ⟨rfl, ⟨hP, hK, hD, hN⟩, hE⟩ := hv
  have hx := B.exec
  have hb := B.bytes
  have hr := B.returns
  have hts : ∀ w ∈ ALL, w.before _ s = true := fun w h => atoms_spec (ws := ws_L_need) B.pre w (List.mem_cons_of_mem _ h)
  have hown : s.vm.findClass RL = some m.cls := findClass_of_methodNamed B.named
  have hlocks := B.notSynchronized
  have htab : c.exceptionTable.toList = tableOf [(0, 10, 13, 25), (0, 10, 17, 50)] := vx_table (x := yL_need) B (atoms_spec (ws := ws_L_need) B.pre _ List.mem_cons_self)
  have hS : va_S noA s.heap s.heap [] := va_S.rf
  generalize inW [(po, .inl (cs 4, 1, .inr (.inl ov))), (kr, .inr (5, [.ref la, .ref ia, .ref na, .ref b4, .ref b6, .ref b8, .ref b10, .int (iI (((sh : Nat) : Int))), .int (iI (((it : Nat) : Int))), .int (iI (lc)), .int (iI (((dy : Nat) : Int))), .int (iI (pct)), .int (iI (lr)), .int (iI (sr))])), (la, arI cs 4 lf), (ia, arQ cs 2 5 itf), (na, arQ cs 3 20 lnf)] = A at hD
  have hl := lv_entry ([.ref kr, .int (iI (zs)), .int (iI (zi)), .ref po]) (n := 5) (Nat.le_of_ble_eq_true rfl)
  rw [lg_entry_eq]
  generalize (lg_sl ([.ref kr, .int (iI (zs)), .int (iI (zi)), .ref po]) ++ List.replicate (5 - (lg_sl ([.ref kr, .int (iI (zs)), .int (iI (zi)), .ref po])).length) Slot.unset).toArray = ls at hl ⊢
  have hl : lv_has ls 5 [(0, .ref kr), (1, .int (iI (zs))), (2, .int (iI (zi))), (3, .ref po)] := hl
  have hH := rfl (a := s.heap)
  refine lv_aload_n hx hb dL_need_0 rfl (lv_at hl 3 rfl) ?_
  refine lv_iconst (v := iI (0)) hx hb dL_need_1 rfl ?_
  refine lv_aload_n hx hb dL_need_2 rfl (lv_at hl 0 rfl) ?_
  refine lv_iload_n hx hb dL_need_3 rfl (lv_at hl 1 rfl) ?_
  refine lv_iload_n hx hb dL_need_4 rfl (lv_at hl 2 rfl) ?_
  have pk1 : picks [(po, .inl (cs 4, 1, .inr (.inl ov))), (kr, .inr (5, [.ref la, .ref ia, .ref na, .ref b4, .ref b6, .ref b8, .ref b10, .int (iI (((sh : Nat) : Int))), .int (iI (((it : Nat) : Int))), .int (iI (lc)), .int (iI (((dy : Nat) : Int))), .int (iI (pct)), .int (iI (lr)), .int (iI (sr))])), (la, arI cs 4 lf), (ia, arQ cs 2 5 itf), (na, arQ cs 3 20 lnf)] [1, 2, 3, 4] [(kr, .inr (5, [.ref la, .ref ia, .ref na, .ref b4, .ref b6, .ref b8, .ref b10, .int (iI (((sh : Nat) : Int))), .int (iI (((it : Nat) : Int))), .int (iI (lc)), .int (iI (((dy : Nat) : Int))), .int (iI (pct)), .int (iI (lr)), .int (iI (sr))])), (la, arI cs 4 lf), (ia, arQ cs 2 5 itf), (na, arQ cs 3 20 lnf)] := ⟨rfl, rfl, rfl, rfl, trivial⟩
  refine vx_calli (vx_runV (As := [.int (iI (zs)), .int (iI (zi))]) (rest := [.int (iI (0)), .ref po]) ⟨hx, hb, hml, hown, hts⟩ (m_X5_need_no l hst D cs kr la ia na b4 b6 b8 b10 sh it lc dy pct lr sr lf itf lnf zs zi (hsh) (hit) (hitf) (hzs) (hzi) (hno)) (cwV 2 hts (gV w_720 w_721 w_722 w_1 w_723) rfl rfl rfl (by decide +kernel) ⟨Nat.le_of_ble_eq_true rfl, Nat.le_of_ble_eq_true rfl⟩) (PE_V hK hN hE hS (fun _ h => False.elim h) hP hD [1, 2, 3, 4] rfl pk1 rfl rfl) rfl rfl hl.1 rfl (lv_room (Nat.le_of_ble_eq_true rfl)) dL_need_5 ⟨Nat.le_of_ble_eq_true rfl, Nat.le_of_ble_eq_true rfl⟩) hS (fun _ _ h => False.elim h) (fun _ h => False.elim h) (fun _ _ h => False.elim h) (fun E ce q9 u t H1 locs1 ht hvm hpx hBX hz1 hk1 hS1 hce hcv hcl => ?_) (fun r u t H locs ht hvm hw hB hz1 hk1 hS => ?_)
  · have h9 : u = cdL sh it lnf zs zi := hpx.1
    have hS := hS1
    have hcd : cdL sh it lnf zs zi = 2 ∨ cdL sh it lnf zs zi = 1 := by
      revert hno
      (try unfold cdL); (try unfold cdS); (try unfold cdC)
      (repeat' split) <;> simp
    have hEu := hBX
    have hP := P_kept hP hk1
    rcases hcd with hc3 | hcd
    · have hE3 : E = "java/util/NoSuchElementException" := by have h8 : E = exN u := hEu; rw [h8, h9, hc3]; rfl
      subst hE3
      refine vx_catch (name := "java/util/NoSuchElementException") hown [⟨0, 10, 13, 25⟩] ⟨0, 10, 17, 50⟩ [] (htab.trans rfl) (fun z hz => by
          simp only [List.mem_cons, List.not_mem_nil, or_false] at hz
          rcases hz with rfl
          · exact Or.inr ⟨by decide, "java/lang/IndexOutOfBoundsException", hts _ w_266, hE.2.2.2.2.2 _ (List.mem_of_getElem? (i := 10) rfl)⟩) rfl (by decide) (hts _ w_455) (hE.use _ (List.mem_append_right _ (List.mem_map.mpr ⟨_, List.mem_of_getElem? (i := 1) rfl, rfl⟩))) hce hcv hcl ?_
      refine lv_astore (lv' := [(4, .ref q9), (0, .ref kr), (1, .int (iI (zs))), (2, .int (iI (zi))), (3, .ref po)]) hx hb dL_need_17 hl (by decide) rfl (fun ls hl => ?_)
      refine lv_iconst (v := iI (2)) hx hb dL_need_19 rfl ?_
      refine W.widen (k := 3) (n := 18) (by omega) (by omega) ?_
      have hres : iI (2) = iI (hkI [1, 2] (cdL sh it lnf zs zi)) := congrArg iI (by
          rw [hc3]; rfl)
      exact W.iret hx hb hr (fun t ht hW => ⟨⟨_, (), rfl, hres, trivial⟩, hS.F ht⟩) hS.2.2 dL_need_20
    have hc3 := hcd
    have hE3 : E = "java/lang/IndexOutOfBoundsException" := by have h8 : E = exN u := hEu; rw [h8, h9, hc3]; rfl
    subst hE3
    refine vx_catch (name := "java/lang/IndexOutOfBoundsException") hown [] ⟨0, 10, 13, 25⟩ [⟨0, 10, 17, 50⟩] (htab.trans rfl) (fun z hz => by cases hz) rfl (by decide) (hts _ w_266) (hE.use _ (List.mem_append_right _ (List.mem_map.mpr ⟨_, List.mem_of_getElem? (i := 0) rfl, rfl⟩))) hce hcv hcl ?_
    refine lv_astore (lv' := [(4, .ref q9), (0, .ref kr), (1, .int (iI (zs))), (2, .int (iI (zi))), (3, .ref po)]) hx hb dL_need_13 hl (by decide) rfl (fun ls hl => ?_)
    refine lv_iconst (v := iI (1)) hx hb dL_need_15 rfl ?_
    refine W.widen (k := 3) (n := 18) (by omega) (by omega) ?_
    have hres : iI (1) = iI (hkI [1, 2] (cdL sh it lnf zs zi)) := congrArg iI (by
        rw [hc3]; rfl)
    exact W.iret hx hb hr (fun t ht hW => ⟨⟨_, (), rfl, hres, trivial⟩, hS.F ht⟩) hS.2.2 dL_need_16
  obtain ⟨hc2, hw⟩ := hw
  subst hw
  have hP := P_kept hP hk1
  exact absurd hc2 hno

set_option maxHeartbeats 4000000 in
set_option maxRecDepth 100000 in
theorem m_L_need_ok_r (l : Launch) (hst : l.stackTraces = false) (D : va_G) (cs : Nat → ClassId) (kr la ia na b4 b6 b8 b10 sh it : Nat) (lc : Int) (dy : Nat) (pct lr sr : Int) (lf : Nat → Int) (itf : Nat → Option Nat) (lnf : Nat → Option Nat) (sn tn : Nat) (kn hi kl ke kd ks ka : Nat) (fd fk fv es sk so lo : Int) (ldn us ua : Nat) (lev : Int) (se ef ar : Nat → Int) (po : Nat) (ov : Nat → Int64) (hsh : sh ≤ 4) (hit : it ≤ 5) (hitf : ∀ j, j < it → itf j ≠ none) (hsn : sn < sh) (htn : tn < it) (hln : lnf (sn * 5 + tn) = some kn) (hlev : 0 ≤ lev ∧ lev ≤ 9990000) (hse : ∀ w, 100 ≤ se w ∧ se w ≤ 5000) (hef : ∀ j, 0 ≤ ef j ∧ ef j ≤ 1000) (hes : 0 ≤ es ∧ es ≤ 1000) (hpc : 1 ≤ pct ∧ pct ≤ 100) (hd : dy < 1000) (hld : ldn ≤ 5) (hsk : 0 ≤ sk ∧ sk ≤ 100000000) (hdu : 0 ≤ duI ar dy ∧ duI ar dy ≤ 100000000) (hrr : -2147483648 ≤ (ndI lev se ef es pct sk ar dy ldn) ∧ (ndI lev se ef es pct sk ar dy ldn) < 2147483648) : Met l yL_need ws_L_need ({ frames := 9, cells := 3, slots := 18, locals := 149 }) (va_Pc [.ref kr, .int (iI (((sn : Nat) : Int))), .int (iI (((tn : Nat) : Int))), .ref po] (PE D cs [(po, .inl (cs 4, 1, .inr (.inl ov))), (kr, .inr (5, [.ref la, .ref ia, .ref na, .ref b4, .ref b6, .ref b8, .ref b10, .int (iI (((sh : Nat) : Int))), .int (iI (((it : Nat) : Int))), .int (iI (lc)), .int (iI (((dy : Nat) : Int))), .int (iI (pct)), .int (iI (lr)), .int (iI (sr))])), (la, arI cs 4 lf), (ia, arQ cs 2 5 itf), (na, arQ cs 3 20 lnf), (kn, .inr (3, [.ref hi, .int (iI (((ldn : Nat) : Int))), .int (iI (fd)), .int (iI (fk)), .int (iI (fv)), .ref kl, .ref ke, .ref kd, .ref ks, .ref ka, .int (iI (es)), .int (iI (sk)), .int (iI (so)), .int (iI (lo))])), (kl, .inr (2, [.ref us, .int (iI (lev))])), (us, arI cs 7 se), (ke, arI cs 21 ef), (ka, .inr (0, [.ref ua])), (ua, arI cs 1005 ar)] (inW [(po, .inl (cs 4, 1, .inr (.inl ov))), (kr, .inr (5, [.ref la, .ref ia, .ref na, .ref b4, .ref b6, .ref b8, .ref b10, .int (iI (((sh : Nat) : Int))), .int (iI (((it : Nat) : Int))), .int (iI (lc)), .int (iI (((dy : Nat) : Int))), .int (iI (pct)), .int (iI (lr)), .int (iI (sr))])), (la, arI cs 4 lf), (ia, arQ cs 2 5 itf), (na, arQ cs 3 20 lnf), (kn, .inr (3, [.ref hi, .int (iI (((ldn : Nat) : Int))), .int (iI (fd)), .int (iI (fk)), .int (iI (fv)), .ref kl, .ref ke, .ref kd, .ref ks, .ref ka, .int (iI (es)), .int (iI (sk)), .int (iI (so)), .int (iI (lo))])), (kl, .inr (2, [.ref us, .int (iI (lev))])), (us, arI cs 7 se), (ke, arI cs 21 ef), (ka, .inr (0, [.ref ua])), (ua, arI cs 1005 ar)]))) (va_Qi (fun r (_ : Unit) => r = iI (0)) (fun _ t => va_P D vwCl [(po, .inl (cs 4, 1, .inr (.inl (vp_updL ov 0 (lI (ndI lev se ef es pct sk ar dy ldn)))))), (kr, .inr (5, [.ref la, .ref ia, .ref na, .ref b4, .ref b6, .ref b8, .ref b10, .int (iI (((sh : Nat) : Int))), .int (iI (((it : Nat) : Int))), .int (iI (lc)), .int (iI (((dy : Nat) : Int))), .int (iI (pct)), .int (iI (lr)), .int (iI (sr))])), (la, arI cs 4 lf), (ia, arQ cs 2 5 itf), (na, arQ cs 3 20 lnf), (kn, .inr (3, [.ref hi, .int (iI (((ldn : Nat) : Int))), .int (iI (fd)), .int (iI (fk)), .int (iI (fv)), .ref kl, .ref ke, .ref kd, .ref ks, .ref ka, .int (iI (es)), .int (iI (sk)), .int (iI (so)), .int (iI (lo))])), (kl, .inr (2, [.ref us, .int (iI (lev))])), (us, arI cs 7 se), (ke, arI cs 21 ef), (ka, .inr (0, [.ref ua])), (ua, arI cs 1005 ar)] t.heap) (inW [(po, .inl (cs 4, 1, .inr (.inl ov))), (kr, .inr (5, [.ref la, .ref ia, .ref na, .ref b4, .ref b6, .ref b8, .ref b10, .int (iI (((sh : Nat) : Int))), .int (iI (((it : Nat) : Int))), .int (iI (lc)), .int (iI (((dy : Nat) : Int))), .int (iI (pct)), .int (iI (lr)), .int (iI (sr))])), (la, arI cs 4 lf), (ia, arQ cs 2 5 itf), (na, arQ cs 3 20 lnf), (kn, .inr (3, [.ref hi, .int (iI (((ldn : Nat) : Int))), .int (iI (fd)), .int (iI (fk)), .int (iI (fv)), .ref kl, .ref ke, .ref kd, .ref ks, .ref ka, .int (iI (es)), .int (iI (sk)), .int (iI (so)), .int (iI (lo))])), (kl, .inr (2, [.ref us, .int (iI (lev))])), (us, arI cs 7 se), (ke, arI cs 21 ef), (ka, .inr (0, [.ref ua])), (ua, arI cs 1005 ar)])) 3 18 (inW [(po, .inl (cs 4, 1, .inr (.inl ov))), (kr, .inr (5, [.ref la, .ref ia, .ref na, .ref b4, .ref b6, .ref b8, .ref b10, .int (iI (((sh : Nat) : Int))), .int (iI (((it : Nat) : Int))), .int (iI (lc)), .int (iI (((dy : Nat) : Int))), .int (iI (pct)), .int (iI (lr)), .int (iI (sr))])), (la, arI cs 4 lf), (ia, arQ cs 2 5 itf), (na, arQ cs 3 20 lnf), (kn, .inr (3, [.ref hi, .int (iI (((ldn : Nat) : Int))), .int (iI (fd)), .int (iI (fk)), .int (iI (fv)), .ref kl, .ref ke, .ref kd, .ref ks, .ref ka, .int (iI (es)), .int (iI (sk)), .int (iI (so)), .int (iI (lo))])), (kl, .inr (2, [.ref us, .int (iI (lev))])), (us, arI cs 7 se), (ke, arI cs 21 ef), (ka, .inr (0, [.ref ua])), (ua, arI cs 1005 ar)]) := by
  refine va_MetW (cc := cL_need) (maxL := 5) (ret := some .int) (hh := [(0, 10, 13, 25), (0, 10, 17, 50)]) (by decide +kernel) rfl ?_
  intro p e s m args below meth c s₁ B hml hv
  obtain ⟨rfl, ⟨hP, hK, hD, hN⟩, hE⟩ := hv
  have hx := B.exec
  have hb := B.bytes
  have hr := B.returns
  have hts : ∀ w ∈ ALL, w.before _ s = true := fun w h => atoms_spec (ws := ws_L_need) B.pre w (List.mem_cons_of_mem _ h)
  have hown : s.vm.findClass RL = some m.cls := findClass_of_methodNamed B.named
  have hlocks := B.notSynchronized
  have htab : c.exceptionTable.toList = tableOf [(0, 10, 13, 25), (0, 10, 17, 50)] := vx_table (x := yL_need) B (atoms_spec (ws := ws_L_need) B.pre _ List.mem_cons_self)
  generalize hAe : inW [(po, .inl (cs 4, 1, .inr (.inl ov))), (kr, .inr (5, [.ref la, .ref ia, .ref na, .ref b4, .ref b6, .ref b8, .ref b10, .int (iI (((sh : Nat) : Int))), .int (iI (((it : Nat) : Int))), .int (iI (lc)), .int (iI (((dy : Nat) : Int))), .int (iI (pct)), .int (iI (lr)), .int (iI (sr))])), (la, arI cs 4 lf), (ia, arQ cs 2 5 itf), (na, arQ cs 3 20 lnf), (kn, .inr (3, [.ref hi, .int (iI (((ldn : Nat) : Int))), .int (iI (fd)), .int (iI (fk)), .int (iI (fv)), .ref kl, .ref ke, .ref kd, .ref ks, .ref ka, .int (iI (es)), .int (iI (sk)), .int (iI (so)), .int (iI (lo))])), (kl, .inr (2, [.ref us, .int (iI (lev))])), (us, arI cs 7 se), (ke, arI cs 21 ef), (ka, .inr (0, [.ref ua])), (ua, arI cs 1005 ar)] = A at hD hE ⊢
  have hS : va_S A s.heap s.heap [] := va_S.rf
  have hl := lv_entry ([.ref kr, .int (iI (((sn : Nat) : Int))), .int (iI (((tn : Nat) : Int))), .ref po]) (n := 5) (Nat.le_of_ble_eq_true rfl)
  rw [lg_entry_eq]
  generalize (lg_sl ([.ref kr, .int (iI (((sn : Nat) : Int))), .int (iI (((tn : Nat) : Int))), .ref po]) ++ List.replicate (5 - (lg_sl ([.ref kr, .int (iI (((sn : Nat) : Int))), .int (iI (((tn : Nat) : Int))), .ref po])).length) Slot.unset).toArray = ls at hl ⊢
  have hl : lv_has ls 5 [(0, .ref kr), (1, .int (iI (((sn : Nat) : Int)))), (2, .int (iI (((tn : Nat) : Int)))), (3, .ref po)] := hl
  have hH := rfl (a := s.heap)
  refine lv_aload_n hx hb dL_need_0 rfl (lv_at hl 3 rfl) ?_
  refine lv_iconst (v := iI (0)) hx hb dL_need_1 rfl ?_
  refine lv_aload_n hx hb dL_need_2 rfl (lv_at hl 0 rfl) ?_
  refine lv_iload_n hx hb dL_need_3 rfl (lv_at hl 1 rfl) ?_
  refine lv_iload_n hx hb dL_need_4 rfl (lv_at hl 2 rfl) ?_
  have pk1 : picks [(po, .inl (cs 4, 1, .inr (.inl ov))), (kr, .inr (5, [.ref la, .ref ia, .ref na, .ref b4, .ref b6, .ref b8, .ref b10, .int (iI (((sh : Nat) : Int))), .int (iI (((it : Nat) : Int))), .int (iI (lc)), .int (iI (((dy : Nat) : Int))), .int (iI (pct)), .int (iI (lr)), .int (iI (sr))])), (la, arI cs 4 lf), (ia, arQ cs 2 5 itf), (na, arQ cs 3 20 lnf), (kn, .inr (3, [.ref hi, .int (iI (((ldn : Nat) : Int))), .int (iI (fd)), .int (iI (fk)), .int (iI (fv)), .ref kl, .ref ke, .ref kd, .ref ks, .ref ka, .int (iI (es)), .int (iI (sk)), .int (iI (so)), .int (iI (lo))])), (kl, .inr (2, [.ref us, .int (iI (lev))])), (us, arI cs 7 se), (ke, arI cs 21 ef), (ka, .inr (0, [.ref ua])), (ua, arI cs 1005 ar)] [1, 2, 3, 4, 5, 6, 7, 8, 9, 10] [(kr, .inr (5, [.ref la, .ref ia, .ref na, .ref b4, .ref b6, .ref b8, .ref b10, .int (iI (((sh : Nat) : Int))), .int (iI (((it : Nat) : Int))), .int (iI (lc)), .int (iI (((dy : Nat) : Int))), .int (iI (pct)), .int (iI (lr)), .int (iI (sr))])), (la, arI cs 4 lf), (ia, arQ cs 2 5 itf), (na, arQ cs 3 20 lnf), (kn, .inr (3, [.ref hi, .int (iI (((ldn : Nat) : Int))), .int (iI (fd)), .int (iI (fk)), .int (iI (fv)), .ref kl, .ref ke, .ref kd, .ref ks, .ref ka, .int (iI (es)), .int (iI (sk)), .int (iI (so)), .int (iI (lo))])), (kl, .inr (2, [.ref us, .int (iI (lev))])), (us, arI cs 7 se), (ke, arI cs 21 ef), (ka, .inr (0, [.ref ua])), (ua, arI cs 1005 ar)] := ⟨rfl, rfl, rfl, rfl, rfl, rfl, rfl, rfl, rfl, rfl, trivial⟩
  refine vx_calli (vx_runV (As := [.int (iI (((sn : Nat) : Int))), .int (iI (((tn : Nat) : Int)))]) (rest := [.int (iI (0)), .ref po]) ⟨hx, hb, hml, hown, hts⟩ (m_X5_need_ok l hst D cs kr la ia na b4 b6 b8 b10 sh it lc dy pct lr sr lf itf lnf sn tn kn hi kl ke kd ks ka fd fk fv es sk so lo ldn us ua lev se ef ar (hsh) (hit) (hitf) (hsn) (htn) (hln) (hlev) (hse) (hef) (hes) (hpc) (hd) (hld) (hsk) (hdu)) (cwV 2 hts (gV w_720 w_721 w_722 w_1 w_723) rfl rfl rfl (by decide +kernel) ⟨Nat.le_of_ble_eq_true rfl, Nat.le_of_ble_eq_true rfl⟩) (PE_V hK hN hE hS (fun _ h => False.elim h) hP hD [1, 2, 3, 4, 5, 6, 7, 8, 9, 10] rfl pk1 rfl rfl) rfl rfl hl.1 rfl (lv_room (Nat.le_of_ble_eq_true rfl)) dL_need_5 ⟨Nat.le_of_ble_eq_true rfl, Nat.le_of_ble_eq_true rfl⟩) hS (fun _ _ h => False.elim h) (fun _ h => False.elim h) (fun _ _ h => False.elim h) (fun E ce q9 u t H1 locs1 ht hvm hpx hBX hz1 hk1 hS1 hce hcv hcl => ?_) (fun r u t H locs ht hvm hw hB hz1 hk1 hS => ?_)
  · exact absurd (hpx.1) hpx.2
  obtain ⟨hc2, hw⟩ := hw
  subst hw
  have hP := P_kept hP hk1
  refine my_i2l hx hb dL_need_8 (by omega) ?_
  refine my_last0 hx hb hK hP hD hS 0 rfl dL_need_9 (fun H locs hP hD hS => ?_)
  have hP : va_P D vwCl [(po, .inl (cs 4, 1, .inr (.inl (vp_updL ov 0 (lI (ndI lev se ef es pct sk ar dy ldn)))))), (kr, .inr (5, [.ref la, .ref ia, .ref na, .ref b4, .ref b6, .ref b8, .ref b10, .int (iI (((sh : Nat) : Int))), .int (iI (((it : Nat) : Int))), .int (iI (lc)), .int (iI (((dy : Nat) : Int))), .int (iI (pct)), .int (iI (lr)), .int (iI (sr))])), (la, arI cs 4 lf), (ia, arQ cs 2 5 itf), (na, arQ cs 3 20 lnf), (kn, .inr (3, [.ref hi, .int (iI (((ldn : Nat) : Int))), .int (iI (fd)), .int (iI (fk)), .int (iI (fv)), .ref kl, .ref ke, .ref kd, .ref ks, .ref ka, .int (iI (es)), .int (iI (sk)), .int (iI (so)), .int (iI (lo))])), (kl, .inr (2, [.ref us, .int (iI (lev))])), (us, arI cs 7 se), (ke, arI cs 21 ef), (ka, .inr (0, [.ref ua])), (ua, arI cs 1005 ar)] H := hP
  have hD : va_D A [(po, .inl (cs 4, 1, .inr (.inl (vp_updL ov 0 (lI (ndI lev se ef es pct sk ar dy ldn)))))), (kr, .inr (5, [.ref la, .ref ia, .ref na, .ref b4, .ref b6, .ref b8, .ref b10, .int (iI (((sh : Nat) : Int))), .int (iI (((it : Nat) : Int))), .int (iI (lc)), .int (iI (((dy : Nat) : Int))), .int (iI (pct)), .int (iI (lr)), .int (iI (sr))])), (la, arI cs 4 lf), (ia, arQ cs 2 5 itf), (na, arQ cs 3 20 lnf), (kn, .inr (3, [.ref hi, .int (iI (((ldn : Nat) : Int))), .int (iI (fd)), .int (iI (fk)), .int (iI (fv)), .ref kl, .ref ke, .ref kd, .ref ks, .ref ka, .int (iI (es)), .int (iI (sk)), .int (iI (so)), .int (iI (lo))])), (kl, .inr (2, [.ref us, .int (iI (lev))])), (us, arI cs 7 se), (ke, arI cs 21 ef), (ka, .inr (0, [.ref ua])), (ua, arI cs 1005 ar)] := hD
  refine lv_goto (tgt := 21) hx hb dL_need_10 (by decide) ?_
  refine lv_iconst (v := iI (0)) hx hb dL_need_21 rfl ?_
  subst hAe
  refine W.widen (k := 3) (n := 18) (by omega) (by omega) ?_
  have hres : iI (0) = iI (0) := congrArg iI (by
      rfl)
  exact W.iret hx hb hr (fun t ht hW => ⟨⟨_, (), rfl, hres, by show va_P D vwCl _ t.heap; rw [ht]; exact hP⟩, hS.F ht⟩) hS.2.2 dL_need_22

abbrev ws_L_request : List Cond := Cond.codeWith yL_request cL_request 5 (some .int) [(0, 10, 13, 25), (0, 10, 17, 50)] :: ALL
set_option maxHeartbeats 4000000 in
set_option maxRecDepth 100000 in
theorem m_L_request_no_t (l : Launch) (hst : l.stackTraces = false) (D : va_G) (cs : Nat → ClassId) (kr la ia na b4 b6 b8 b10 sh it : Nat) (lc : Int) (dy : Nat) (pct lr sr : Int) (lf : Nat → Int) (itf : Nat → Option Nat) (lnf : Nat → Option Nat) (zs zi : Int) (po : Nat) (ov : Nat → Int64) (hsh : sh ≤ 4) (hit : it ≤ 5) (hitf : ∀ j, j < it → itf j ≠ none) (hzs : -2147483648 ≤ zs ∧ zs < 2147483648) (hzi : -2147483648 ≤ zi ∧ zi < 2147483648) (hno : cdL sh it lnf zs zi ≠ 0) : Met l yL_request ws_L_request ({ frames := 9, cells := 3, slots := 18, locals := 149 }) (va_Pc [.ref kr, .int (iI (zs)), .int (iI (zi)), .ref po] (PE D cs [(po, .inl (cs 4, 1, .inr (.inl ov))), (kr, .inr (5, [.ref la, .ref ia, .ref na, .ref b4, .ref b6, .ref b8, .ref b10, .int (iI (((sh : Nat) : Int))), .int (iI (((it : Nat) : Int))), .int (iI (lc)), .int (iI (((dy : Nat) : Int))), .int (iI (pct)), .int (iI (lr)), .int (iI (sr))])), (la, arI cs 4 lf), (ia, arQ cs 2 5 itf), (na, arQ cs 3 20 lnf)] noA)) (va_Qi (fun r (_ : Unit) => r = iI (hkI [1, 2] (cdL sh it lnf zs zi))) (fun _ _ => True) noA) 3 18 noA := by
  refine va_MetW (cc := cL_request) (maxL := 5) (ret := some .int) (hh := [(0, 10, 13, 25), (0, 10, 17, 50)]) (by decide +kernel) rfl ?_
  intro p e s m args below meth c s₁ B hml hv
  obtain ⟨rfl, ⟨hP, hK, hD, hN⟩, hE⟩ := hv
  have hx := B.exec
  have hb := B.bytes
  have hr := B.returns
  have hts : ∀ w ∈ ALL, w.before _ s = true := fun w h => atoms_spec (ws := ws_L_request) B.pre w (List.mem_cons_of_mem _ h)
  have hown : s.vm.findClass RL = some m.cls := findClass_of_methodNamed B.named
  have hlocks := B.notSynchronized
  have htab : c.exceptionTable.toList = tableOf [(0, 10, 13, 25), (0, 10, 17, 50)] := vx_table (x := yL_request) B (atoms_spec (ws := ws_L_request) B.pre _ List.mem_cons_self)
  have hS : va_S noA s.heap s.heap [] := va_S.rf
  generalize inW [(po, .inl (cs 4, 1, .inr (.inl ov))), (kr, .inr (5, [.ref la, .ref ia, .ref na, .ref b4, .ref b6, .ref b8, .ref b10, .int (iI (((sh : Nat) : Int))), .int (iI (((it : Nat) : Int))), .int (iI (lc)), .int (iI (((dy : Nat) : Int))), .int (iI (pct)), .int (iI (lr)), .int (iI (sr))])), (la, arI cs 4 lf), (ia, arQ cs 2 5 itf), (na, arQ cs 3 20 lnf)] = A at hD
  have hl := lv_entry ([.ref kr, .int (iI (zs)), .int (iI (zi)), .ref po]) (n := 5) (Nat.le_of_ble_eq_true rfl)
  rw [lg_entry_eq]
  generalize (lg_sl ([.ref kr, .int (iI (zs)), .int (iI (zi)), .ref po]) ++ List.replicate (5 - (lg_sl ([.ref kr, .int (iI (zs)), .int (iI (zi)), .ref po])).length) Slot.unset).toArray = ls at hl ⊢
  have hl : lv_has ls 5 [(0, .ref kr), (1, .int (iI (zs))), (2, .int (iI (zi))), (3, .ref po)] := hl
  have hH := rfl (a := s.heap)
  refine lv_aload_n hx hb dL_request_0 rfl (lv_at hl 3 rfl) ?_
  refine lv_iconst (v := iI (0)) hx hb dL_request_1 rfl ?_
  refine lv_aload_n hx hb dL_request_2 rfl (lv_at hl 0 rfl) ?_
  refine lv_iload_n hx hb dL_request_3 rfl (lv_at hl 1 rfl) ?_
  refine lv_iload_n hx hb dL_request_4 rfl (lv_at hl 2 rfl) ?_
  have pk1 : picks [(po, .inl (cs 4, 1, .inr (.inl ov))), (kr, .inr (5, [.ref la, .ref ia, .ref na, .ref b4, .ref b6, .ref b8, .ref b10, .int (iI (((sh : Nat) : Int))), .int (iI (((it : Nat) : Int))), .int (iI (lc)), .int (iI (((dy : Nat) : Int))), .int (iI (pct)), .int (iI (lr)), .int (iI (sr))])), (la, arI cs 4 lf), (ia, arQ cs 2 5 itf), (na, arQ cs 3 20 lnf)] [1, 2, 3, 4] [(kr, .inr (5, [.ref la, .ref ia, .ref na, .ref b4, .ref b6, .ref b8, .ref b10, .int (iI (((sh : Nat) : Int))), .int (iI (((it : Nat) : Int))), .int (iI (lc)), .int (iI (((dy : Nat) : Int))), .int (iI (pct)), .int (iI (lr)), .int (iI (sr))])), (la, arI cs 4 lf), (ia, arQ cs 2 5 itf), (na, arQ cs 3 20 lnf)] := ⟨rfl, rfl, rfl, rfl, trivial⟩
  refine vx_calli (vx_runV (As := [.int (iI (zs)), .int (iI (zi))]) (rest := [.int (iI (0)), .ref po]) ⟨hx, hb, hml, hown, hts⟩ (m_X5_request_no l hst D cs kr la ia na b4 b6 b8 b10 sh it lc dy pct lr sr lf itf lnf zs zi (hsh) (hit) (hitf) (hzs) (hzi) (hno)) (cwV 2 hts (gV w_728 w_729 w_730 w_1 w_731) rfl rfl rfl (by decide +kernel) ⟨Nat.le_of_ble_eq_true rfl, Nat.le_of_ble_eq_true rfl⟩) (PE_V hK hN hE hS (fun _ h => False.elim h) hP hD [1, 2, 3, 4] rfl pk1 rfl rfl) rfl rfl hl.1 rfl (lv_room (Nat.le_of_ble_eq_true rfl)) dL_request_5 ⟨Nat.le_of_ble_eq_true rfl, Nat.le_of_ble_eq_true rfl⟩) hS (fun _ _ h => False.elim h) (fun _ h => False.elim h) (fun _ _ h => False.elim h) (fun E ce q9 u t H1 locs1 ht hvm hpx hBX hz1 hk1 hS1 hce hcv hcl => ?_) (fun r u t H locs ht hvm hw hB hz1 hk1 hS => ?_)
  · have h9 : u = cdL sh it lnf zs zi := hpx.1
    have hS := hS1
    have hcd : cdL sh it lnf zs zi = 2 ∨ cdL sh it lnf zs zi = 1 := by
      revert hno
      (try unfold cdL); (try unfold cdS); (try unfold cdC)
      (repeat' split) <;> simp
    have hEu := hBX
    have hP := P_kept hP hk1
    rcases hcd with hc3 | hcd
    · have hE3 : E = "java/util/NoSuchElementException" := by have h8 : E = exN u := hEu; rw [h8, h9, hc3]; rfl
      subst hE3
      refine vx_catch (name := "java/util/NoSuchElementException") hown [⟨0, 10, 13, 25⟩] ⟨0, 10, 17, 50⟩ [] (htab.trans rfl) (fun z hz => by
          simp only [List.mem_cons, List.not_mem_nil, or_false] at hz
          rcases hz with rfl
          · exact Or.inr ⟨by decide, "java/lang/IndexOutOfBoundsException", hts _ w_266, hE.2.2.2.2.2 _ (List.mem_of_getElem? (i := 10) rfl)⟩) rfl (by decide) (hts _ w_455) (hE.use _ (List.mem_append_right _ (List.mem_map.mpr ⟨_, List.mem_of_getElem? (i := 1) rfl, rfl⟩))) hce hcv hcl ?_
      refine lv_astore (lv' := [(4, .ref q9), (0, .ref kr), (1, .int (iI (zs))), (2, .int (iI (zi))), (3, .ref po)]) hx hb dL_request_17 hl (by decide) rfl (fun ls hl => ?_)
      refine lv_iconst (v := iI (2)) hx hb dL_request_19 rfl ?_
      refine W.widen (k := 3) (n := 18) (by omega) (by omega) ?_
      have hres : iI (2) = iI (hkI [1, 2] (cdL sh it lnf zs zi)) := congrArg iI (by
          rw [hc3]; rfl)
      exact W.iret hx hb hr (fun t ht hW => ⟨⟨_, (), rfl, hres, trivial⟩, hS.F ht⟩) hS.2.2 dL_request_20
    have hc3 := hcd
    have hE3 : E = "java/lang/IndexOutOfBoundsException" := by have h8 : E = exN u := hEu; rw [h8, h9, hc3]; rfl
    subst hE3
    refine vx_catch (name := "java/lang/IndexOutOfBoundsException") hown [] ⟨0, 10, 13, 25⟩ [⟨0, 10, 17, 50⟩] (htab.trans rfl) (fun z hz => by cases hz) rfl (by decide) (hts _ w_266) (hE.use _ (List.mem_append_right _ (List.mem_map.mpr ⟨_, List.mem_of_getElem? (i := 0) rfl, rfl⟩))) hce hcv hcl ?_
    refine lv_astore (lv' := [(4, .ref q9), (0, .ref kr), (1, .int (iI (zs))), (2, .int (iI (zi))), (3, .ref po)]) hx hb dL_request_13 hl (by decide) rfl (fun ls hl => ?_)
    refine lv_iconst (v := iI (1)) hx hb dL_request_15 rfl ?_
    refine W.widen (k := 3) (n := 18) (by omega) (by omega) ?_
    have hres : iI (1) = iI (hkI [1, 2] (cdL sh it lnf zs zi)) := congrArg iI (by
        rw [hc3]; rfl)
    exact W.iret hx hb hr (fun t ht hW => ⟨⟨_, (), rfl, hres, trivial⟩, hS.F ht⟩) hS.2.2 dL_request_16
  obtain ⟨hc2, hw⟩ := hw
  subst hw
  have hP := P_kept hP hk1
  exact absurd hc2 hno

set_option maxHeartbeats 4000000 in
set_option maxRecDepth 100000 in
theorem m_L_request_ok_r (l : Launch) (hst : l.stackTraces = false) (D : va_G) (cs : Nat → ClassId) (kr la ia na b4 b6 b8 b10 sh it : Nat) (lc : Int) (dy : Nat) (pct lr sr : Int) (lf : Nat → Int) (itf : Nat → Option Nat) (lnf : Nat → Option Nat) (sn tn : Nat) (kn hi kl ke kd ks ka : Nat) (fd fk fv es sk so lo : Int) (ldn us ua : Nat) (lev : Int) (se ef ar : Nat → Int) (ti go pr : Nat) (pk fs st : Int) (po : Nat) (ov : Nat → Int64) (hsh : sh ≤ 4) (hit : it ≤ 5) (hitf : ∀ j, j < it → itf j ≠ none) (hsn : sn < sh) (htn : tn < it) (hln : lnf (sn * 5 + tn) = some kn) (hlev : 0 ≤ lev ∧ lev ≤ 9990000) (hse : ∀ w, 100 ≤ se w ∧ se w ≤ 5000) (hef : ∀ j, 0 ≤ ef j ∧ ef j ≤ 1000) (hes : 0 ≤ es ∧ es ≤ 1000) (hpc : 1 ≤ pct ∧ pct ≤ 100) (hd : dy < 1000) (hld : ldn ≤ 5) (hsk : 0 ≤ sk ∧ sk ≤ 100000000) (hdu : 0 ≤ duI ar dy ∧ duI ar dy ≤ 100000000) (hp : 0 < pk ∧ pk ≤ 50) (hrr : -2147483648 ≤ (rqI (ndI lev se ef es pct sk ar dy ldn) pk) ∧ (rqI (ndI lev se ef es pct sk ar dy ldn) pk) < 2147483648) : Met l yL_request ws_L_request ({ frames := 9, cells := 3, slots := 18, locals := 149 }) (va_Pc [.ref kr, .int (iI (((sn : Nat) : Int))), .int (iI (((tn : Nat) : Int))), .ref po] (PE D cs [(po, .inl (cs 4, 1, .inr (.inl ov))), (kr, .inr (5, [.ref la, .ref ia, .ref na, .ref b4, .ref b6, .ref b8, .ref b10, .int (iI (((sh : Nat) : Int))), .int (iI (((it : Nat) : Int))), .int (iI (lc)), .int (iI (((dy : Nat) : Int))), .int (iI (pct)), .int (iI (lr)), .int (iI (sr))])), (la, arI cs 4 lf), (ia, arQ cs 2 5 itf), (na, arQ cs 3 20 lnf), (kn, .inr (3, [.ref hi, .int (iI (((ldn : Nat) : Int))), .int (iI (fd)), .int (iI (fk)), .int (iI (fv)), .ref kl, .ref ke, .ref kd, .ref ks, .ref ka, .int (iI (es)), .int (iI (sk)), .int (iI (so)), .int (iI (lo))])), (kl, .inr (2, [.ref us, .int (iI (lev))])), (us, arI cs 7 se), (ke, arI cs 21 ef), (ka, .inr (0, [.ref ua])), (ua, arI cs 1005 ar), (hi, .inr (1, [.int (iI (pk)), .int (iI (fs)), .ref ti, .ref go, .ref pr, .int (iI (st))]))] (inW [(po, .inl (cs 4, 1, .inr (.inl ov))), (kr, .inr (5, [.ref la, .ref ia, .ref na, .ref b4, .ref b6, .ref b8, .ref b10, .int (iI (((sh : Nat) : Int))), .int (iI (((it : Nat) : Int))), .int (iI (lc)), .int (iI (((dy : Nat) : Int))), .int (iI (pct)), .int (iI (lr)), .int (iI (sr))])), (la, arI cs 4 lf), (ia, arQ cs 2 5 itf), (na, arQ cs 3 20 lnf), (kn, .inr (3, [.ref hi, .int (iI (((ldn : Nat) : Int))), .int (iI (fd)), .int (iI (fk)), .int (iI (fv)), .ref kl, .ref ke, .ref kd, .ref ks, .ref ka, .int (iI (es)), .int (iI (sk)), .int (iI (so)), .int (iI (lo))])), (kl, .inr (2, [.ref us, .int (iI (lev))])), (us, arI cs 7 se), (ke, arI cs 21 ef), (ka, .inr (0, [.ref ua])), (ua, arI cs 1005 ar), (hi, .inr (1, [.int (iI (pk)), .int (iI (fs)), .ref ti, .ref go, .ref pr, .int (iI (st))]))]))) (va_Qi (fun r (_ : Unit) => r = iI (0)) (fun _ t => va_P D vwCl [(po, .inl (cs 4, 1, .inr (.inl (vp_updL ov 0 (lI (rqI (ndI lev se ef es pct sk ar dy ldn) pk)))))), (kr, .inr (5, [.ref la, .ref ia, .ref na, .ref b4, .ref b6, .ref b8, .ref b10, .int (iI (((sh : Nat) : Int))), .int (iI (((it : Nat) : Int))), .int (iI (lc)), .int (iI (((dy : Nat) : Int))), .int (iI (pct)), .int (iI (lr)), .int (iI (sr))])), (la, arI cs 4 lf), (ia, arQ cs 2 5 itf), (na, arQ cs 3 20 lnf), (kn, .inr (3, [.ref hi, .int (iI (((ldn : Nat) : Int))), .int (iI (fd)), .int (iI (fk)), .int (iI (fv)), .ref kl, .ref ke, .ref kd, .ref ks, .ref ka, .int (iI (es)), .int (iI (sk)), .int (iI (so)), .int (iI (lo))])), (kl, .inr (2, [.ref us, .int (iI (lev))])), (us, arI cs 7 se), (ke, arI cs 21 ef), (ka, .inr (0, [.ref ua])), (ua, arI cs 1005 ar), (hi, .inr (1, [.int (iI (pk)), .int (iI (fs)), .ref ti, .ref go, .ref pr, .int (iI (st))]))] t.heap) (inW [(po, .inl (cs 4, 1, .inr (.inl ov))), (kr, .inr (5, [.ref la, .ref ia, .ref na, .ref b4, .ref b6, .ref b8, .ref b10, .int (iI (((sh : Nat) : Int))), .int (iI (((it : Nat) : Int))), .int (iI (lc)), .int (iI (((dy : Nat) : Int))), .int (iI (pct)), .int (iI (lr)), .int (iI (sr))])), (la, arI cs 4 lf), (ia, arQ cs 2 5 itf), (na, arQ cs 3 20 lnf), (kn, .inr (3, [.ref hi, .int (iI (((ldn : Nat) : Int))), .int (iI (fd)), .int (iI (fk)), .int (iI (fv)), .ref kl, .ref ke, .ref kd, .ref ks, .ref ka, .int (iI (es)), .int (iI (sk)), .int (iI (so)), .int (iI (lo))])), (kl, .inr (2, [.ref us, .int (iI (lev))])), (us, arI cs 7 se), (ke, arI cs 21 ef), (ka, .inr (0, [.ref ua])), (ua, arI cs 1005 ar), (hi, .inr (1, [.int (iI (pk)), .int (iI (fs)), .ref ti, .ref go, .ref pr, .int (iI (st))]))])) 3 18 (inW [(po, .inl (cs 4, 1, .inr (.inl ov))), (kr, .inr (5, [.ref la, .ref ia, .ref na, .ref b4, .ref b6, .ref b8, .ref b10, .int (iI (((sh : Nat) : Int))), .int (iI (((it : Nat) : Int))), .int (iI (lc)), .int (iI (((dy : Nat) : Int))), .int (iI (pct)), .int (iI (lr)), .int (iI (sr))])), (la, arI cs 4 lf), (ia, arQ cs 2 5 itf), (na, arQ cs 3 20 lnf), (kn, .inr (3, [.ref hi, .int (iI (((ldn : Nat) : Int))), .int (iI (fd)), .int (iI (fk)), .int (iI (fv)), .ref kl, .ref ke, .ref kd, .ref ks, .ref ka, .int (iI (es)), .int (iI (sk)), .int (iI (so)), .int (iI (lo))])), (kl, .inr (2, [.ref us, .int (iI (lev))])), (us, arI cs 7 se), (ke, arI cs 21 ef), (ka, .inr (0, [.ref ua])), (ua, arI cs 1005 ar), (hi, .inr (1, [.int (iI (pk)), .int (iI (fs)), .ref ti, .ref go, .ref pr, .int (iI (st))]))]) := by
  refine va_MetW (cc := cL_request) (maxL := 5) (ret := some .int) (hh := [(0, 10, 13, 25), (0, 10, 17, 50)]) (by decide +kernel) rfl ?_
  intro p e s m args below meth c s₁ B hml hv
  obtain ⟨rfl, ⟨hP, hK, hD, hN⟩, hE⟩ := hv
  have hx := B.exec
  have hb := B.bytes
  have hr := B.returns
  have hts : ∀ w ∈ ALL, w.before _ s = true := fun w h => atoms_spec (ws := ws_L_request) B.pre w (List.mem_cons_of_mem _ h)
  have hown : s.vm.findClass RL = some m.cls := findClass_of_methodNamed B.named
  have hlocks := B.notSynchronized
  have htab : c.exceptionTable.toList = tableOf [(0, 10, 13, 25), (0, 10, 17, 50)] := vx_table (x := yL_request) B (atoms_spec (ws := ws_L_request) B.pre _ List.mem_cons_self)
  generalize hAe : inW [(po, .inl (cs 4, 1, .inr (.inl ov))), (kr, .inr (5, [.ref la, .ref ia, .ref na, .ref b4, .ref b6, .ref b8, .ref b10, .int (iI (((sh : Nat) : Int))), .int (iI (((it : Nat) : Int))), .int (iI (lc)), .int (iI (((dy : Nat) : Int))), .int (iI (pct)), .int (iI (lr)), .int (iI (sr))])), (la, arI cs 4 lf), (ia, arQ cs 2 5 itf), (na, arQ cs 3 20 lnf), (kn, .inr (3, [.ref hi, .int (iI (((ldn : Nat) : Int))), .int (iI (fd)), .int (iI (fk)), .int (iI (fv)), .ref kl, .ref ke, .ref kd, .ref ks, .ref ka, .int (iI (es)), .int (iI (sk)), .int (iI (so)), .int (iI (lo))])), (kl, .inr (2, [.ref us, .int (iI (lev))])), (us, arI cs 7 se), (ke, arI cs 21 ef), (ka, .inr (0, [.ref ua])), (ua, arI cs 1005 ar), (hi, .inr (1, [.int (iI (pk)), .int (iI (fs)), .ref ti, .ref go, .ref pr, .int (iI (st))]))] = A at hD hE ⊢
  have hS : va_S A s.heap s.heap [] := va_S.rf
  have hl := lv_entry ([.ref kr, .int (iI (((sn : Nat) : Int))), .int (iI (((tn : Nat) : Int))), .ref po]) (n := 5) (Nat.le_of_ble_eq_true rfl)
  rw [lg_entry_eq]
  generalize (lg_sl ([.ref kr, .int (iI (((sn : Nat) : Int))), .int (iI (((tn : Nat) : Int))), .ref po]) ++ List.replicate (5 - (lg_sl ([.ref kr, .int (iI (((sn : Nat) : Int))), .int (iI (((tn : Nat) : Int))), .ref po])).length) Slot.unset).toArray = ls at hl ⊢
  have hl : lv_has ls 5 [(0, .ref kr), (1, .int (iI (((sn : Nat) : Int)))), (2, .int (iI (((tn : Nat) : Int)))), (3, .ref po)] := hl
  have hH := rfl (a := s.heap)
  refine lv_aload_n hx hb dL_request_0 rfl (lv_at hl 3 rfl) ?_
  refine lv_iconst (v := iI (0)) hx hb dL_request_1 rfl ?_
  refine lv_aload_n hx hb dL_request_2 rfl (lv_at hl 0 rfl) ?_
  refine lv_iload_n hx hb dL_request_3 rfl (lv_at hl 1 rfl) ?_
  refine lv_iload_n hx hb dL_request_4 rfl (lv_at hl 2 rfl) ?_
  have pk1 : picks [(po, .inl (cs 4, 1, .inr (.inl ov))), (kr, .inr (5, [.ref la, .ref ia, .ref na, .ref b4, .ref b6, .ref b8, .ref b10, .int (iI (((sh : Nat) : Int))), .int (iI (((it : Nat) : Int))), .int (iI (lc)), .int (iI (((dy : Nat) : Int))), .int (iI (pct)), .int (iI (lr)), .int (iI (sr))])), (la, arI cs 4 lf), (ia, arQ cs 2 5 itf), (na, arQ cs 3 20 lnf), (kn, .inr (3, [.ref hi, .int (iI (((ldn : Nat) : Int))), .int (iI (fd)), .int (iI (fk)), .int (iI (fv)), .ref kl, .ref ke, .ref kd, .ref ks, .ref ka, .int (iI (es)), .int (iI (sk)), .int (iI (so)), .int (iI (lo))])), (kl, .inr (2, [.ref us, .int (iI (lev))])), (us, arI cs 7 se), (ke, arI cs 21 ef), (ka, .inr (0, [.ref ua])), (ua, arI cs 1005 ar), (hi, .inr (1, [.int (iI (pk)), .int (iI (fs)), .ref ti, .ref go, .ref pr, .int (iI (st))]))] [1, 2, 3, 4, 5, 6, 7, 8, 9, 10, 11] [(kr, .inr (5, [.ref la, .ref ia, .ref na, .ref b4, .ref b6, .ref b8, .ref b10, .int (iI (((sh : Nat) : Int))), .int (iI (((it : Nat) : Int))), .int (iI (lc)), .int (iI (((dy : Nat) : Int))), .int (iI (pct)), .int (iI (lr)), .int (iI (sr))])), (la, arI cs 4 lf), (ia, arQ cs 2 5 itf), (na, arQ cs 3 20 lnf), (kn, .inr (3, [.ref hi, .int (iI (((ldn : Nat) : Int))), .int (iI (fd)), .int (iI (fk)), .int (iI (fv)), .ref kl, .ref ke, .ref kd, .ref ks, .ref ka, .int (iI (es)), .int (iI (sk)), .int (iI (so)), .int (iI (lo))])), (kl, .inr (2, [.ref us, .int (iI (lev))])), (us, arI cs 7 se), (ke, arI cs 21 ef), (ka, .inr (0, [.ref ua])), (ua, arI cs 1005 ar), (hi, .inr (1, [.int (iI (pk)), .int (iI (fs)), .ref ti, .ref go, .ref pr, .int (iI (st))]))] := ⟨rfl, rfl, rfl, rfl, rfl, rfl, rfl, rfl, rfl, rfl, rfl, trivial⟩
  refine vx_calli (vx_runV (As := [.int (iI (((sn : Nat) : Int))), .int (iI (((tn : Nat) : Int)))]) (rest := [.int (iI (0)), .ref po]) ⟨hx, hb, hml, hown, hts⟩ (m_X5_request_ok l hst D cs kr la ia na b4 b6 b8 b10 sh it lc dy pct lr sr lf itf lnf sn tn kn hi kl ke kd ks ka fd fk fv es sk so lo ldn us ua lev se ef ar ti go pr pk fs st (hsh) (hit) (hitf) (hsn) (htn) (hln) (hlev) (hse) (hef) (hes) (hpc) (hd) (hld) (hsk) (hdu) (hp)) (cwV 2 hts (gV w_728 w_729 w_730 w_1 w_731) rfl rfl rfl (by decide +kernel) ⟨Nat.le_of_ble_eq_true rfl, Nat.le_of_ble_eq_true rfl⟩) (PE_V hK hN hE hS (fun _ h => False.elim h) hP hD [1, 2, 3, 4, 5, 6, 7, 8, 9, 10, 11] rfl pk1 rfl rfl) rfl rfl hl.1 rfl (lv_room (Nat.le_of_ble_eq_true rfl)) dL_request_5 ⟨Nat.le_of_ble_eq_true rfl, Nat.le_of_ble_eq_true rfl⟩) hS (fun _ _ h => False.elim h) (fun _ h => False.elim h) (fun _ _ h => False.elim h) (fun E ce q9 u t H1 locs1 ht hvm hpx hBX hz1 hk1 hS1 hce hcv hcl => ?_) (fun r u t H locs ht hvm hw hB hz1 hk1 hS => ?_)
  · exact absurd (hpx.1) hpx.2
  obtain ⟨hc2, hw⟩ := hw
  subst hw
  have hP := P_kept hP hk1
  refine my_i2l hx hb dL_request_8 (by omega) ?_
  refine my_last0 hx hb hK hP hD hS 0 rfl dL_request_9 (fun H locs hP hD hS => ?_)
  have hP : va_P D vwCl [(po, .inl (cs 4, 1, .inr (.inl (vp_updL ov 0 (lI (rqI (ndI lev se ef es pct sk ar dy ldn) pk)))))), (kr, .inr (5, [.ref la, .ref ia, .ref na, .ref b4, .ref b6, .ref b8, .ref b10, .int (iI (((sh : Nat) : Int))), .int (iI (((it : Nat) : Int))), .int (iI (lc)), .int (iI (((dy : Nat) : Int))), .int (iI (pct)), .int (iI (lr)), .int (iI (sr))])), (la, arI cs 4 lf), (ia, arQ cs 2 5 itf), (na, arQ cs 3 20 lnf), (kn, .inr (3, [.ref hi, .int (iI (((ldn : Nat) : Int))), .int (iI (fd)), .int (iI (fk)), .int (iI (fv)), .ref kl, .ref ke, .ref kd, .ref ks, .ref ka, .int (iI (es)), .int (iI (sk)), .int (iI (so)), .int (iI (lo))])), (kl, .inr (2, [.ref us, .int (iI (lev))])), (us, arI cs 7 se), (ke, arI cs 21 ef), (ka, .inr (0, [.ref ua])), (ua, arI cs 1005 ar), (hi, .inr (1, [.int (iI (pk)), .int (iI (fs)), .ref ti, .ref go, .ref pr, .int (iI (st))]))] H := hP
  have hD : va_D A [(po, .inl (cs 4, 1, .inr (.inl (vp_updL ov 0 (lI (rqI (ndI lev se ef es pct sk ar dy ldn) pk)))))), (kr, .inr (5, [.ref la, .ref ia, .ref na, .ref b4, .ref b6, .ref b8, .ref b10, .int (iI (((sh : Nat) : Int))), .int (iI (((it : Nat) : Int))), .int (iI (lc)), .int (iI (((dy : Nat) : Int))), .int (iI (pct)), .int (iI (lr)), .int (iI (sr))])), (la, arI cs 4 lf), (ia, arQ cs 2 5 itf), (na, arQ cs 3 20 lnf), (kn, .inr (3, [.ref hi, .int (iI (((ldn : Nat) : Int))), .int (iI (fd)), .int (iI (fk)), .int (iI (fv)), .ref kl, .ref ke, .ref kd, .ref ks, .ref ka, .int (iI (es)), .int (iI (sk)), .int (iI (so)), .int (iI (lo))])), (kl, .inr (2, [.ref us, .int (iI (lev))])), (us, arI cs 7 se), (ke, arI cs 21 ef), (ka, .inr (0, [.ref ua])), (ua, arI cs 1005 ar), (hi, .inr (1, [.int (iI (pk)), .int (iI (fs)), .ref ti, .ref go, .ref pr, .int (iI (st))]))] := hD
  refine lv_goto (tgt := 21) hx hb dL_request_10 (by decide) ?_
  refine lv_iconst (v := iI (0)) hx hb dL_request_21 rfl ?_
  subst hAe
  refine W.widen (k := 3) (n := 18) (by omega) (by omega) ?_
  have hres : iI (0) = iI (0) := congrArg iI (by
      rfl)
  exact W.iret hx hb hr (fun t ht hW => ⟨⟨_, (), rfl, hres, by show va_P D vwCl _ t.heap; rw [ht]; exact hP⟩, hS.F ht⟩) hS.2.2 dL_request_22

abbrev ws_L_levelByDays : List Cond := Cond.codeWith yL_levelByDays cL_levelByDays 5 (some .int) [(0, 10, 13, 25), (0, 10, 17, 50)] :: ALL
set_option maxHeartbeats 4000000 in
set_option maxRecDepth 100000 in
theorem m_L_levelByDays_no_t (l : Launch) (hst : l.stackTraces = false) (D : va_G) (cs : Nat → ClassId) (kr la ia na b4 b6 b8 b10 sh it : Nat) (lc : Int) (dy : Nat) (pct lr sr : Int) (lf : Nat → Int) (itf : Nat → Option Nat) (lnf : Nat → Option Nat) (zs zi : Int) (po : Nat) (ov : Nat → Int64) (hsh : sh ≤ 4) (hit : it ≤ 5) (hitf : ∀ j, j < it → itf j ≠ none) (hzs : -2147483648 ≤ zs ∧ zs < 2147483648) (hzi : -2147483648 ≤ zi ∧ zi < 2147483648) (hno : cdL sh it lnf zs zi ≠ 0) : Met l yL_levelByDays ws_L_levelByDays ({ frames := 9, cells := 3, slots := 18, locals := 151 }) (va_Pc [.ref kr, .int (iI (zs)), .int (iI (zi)), .ref po] (PE D cs [(po, .inl (cs 4, 1, .inr (.inl ov))), (kr, .inr (5, [.ref la, .ref ia, .ref na, .ref b4, .ref b6, .ref b8, .ref b10, .int (iI (((sh : Nat) : Int))), .int (iI (((it : Nat) : Int))), .int (iI (lc)), .int (iI (((dy : Nat) : Int))), .int (iI (pct)), .int (iI (lr)), .int (iI (sr))])), (la, arI cs 4 lf), (ia, arQ cs 2 5 itf), (na, arQ cs 3 20 lnf)] noA)) (va_Qi (fun r (_ : Unit) => r = iI (hkI [1, 2] (cdL sh it lnf zs zi))) (fun _ _ => True) noA) 3 18 noA := by
  refine va_MetW (cc := cL_levelByDays) (maxL := 5) (ret := some .int) (hh := [(0, 10, 13, 25), (0, 10, 17, 50)]) (by decide +kernel) rfl ?_
  intro p e s m args below meth c s₁ B hml hv
  obtain ⟨rfl, ⟨hP, hK, hD, hN⟩, hE⟩ := hv
  have hx := B.exec
  have hb := B.bytes
  have hr := B.returns
  have hts : ∀ w ∈ ALL, w.before _ s = true := fun w h => atoms_spec (ws := ws_L_levelByDays) B.pre w (List.mem_cons_of_mem _ h)
  have hown : s.vm.findClass RL = some m.cls := findClass_of_methodNamed B.named
  have hlocks := B.notSynchronized
  have htab : c.exceptionTable.toList = tableOf [(0, 10, 13, 25), (0, 10, 17, 50)] := vx_table (x := yL_levelByDays) B (atoms_spec (ws := ws_L_levelByDays) B.pre _ List.mem_cons_self)
  have hS : va_S noA s.heap s.heap [] := va_S.rf
  generalize inW [(po, .inl (cs 4, 1, .inr (.inl ov))), (kr, .inr (5, [.ref la, .ref ia, .ref na, .ref b4, .ref b6, .ref b8, .ref b10, .int (iI (((sh : Nat) : Int))), .int (iI (((it : Nat) : Int))), .int (iI (lc)), .int (iI (((dy : Nat) : Int))), .int (iI (pct)), .int (iI (lr)), .int (iI (sr))])), (la, arI cs 4 lf), (ia, arQ cs 2 5 itf), (na, arQ cs 3 20 lnf)] = A at hD
  have hl := lv_entry ([.ref kr, .int (iI (zs)), .int (iI (zi)), .ref po]) (n := 5) (Nat.le_of_ble_eq_true rfl)
  rw [lg_entry_eq]
  generalize (lg_sl ([.ref kr, .int (iI (zs)), .int (iI (zi)), .ref po]) ++ List.replicate (5 - (lg_sl ([.ref kr, .int (iI (zs)), .int (iI (zi)), .ref po])).length) Slot.unset).toArray = ls at hl ⊢
  have hl : lv_has ls 5 [(0, .ref kr), (1, .int (iI (zs))), (2, .int (iI (zi))), (3, .ref po)] := hl
  have hH := rfl (a := s.heap)
  refine lv_aload_n hx hb dL_levelByDays_0 rfl (lv_at hl 3 rfl) ?_
  refine lv_iconst (v := iI (0)) hx hb dL_levelByDays_1 rfl ?_
  refine lv_aload_n hx hb dL_levelByDays_2 rfl (lv_at hl 0 rfl) ?_
  refine lv_iload_n hx hb dL_levelByDays_3 rfl (lv_at hl 1 rfl) ?_
  refine lv_iload_n hx hb dL_levelByDays_4 rfl (lv_at hl 2 rfl) ?_
  have pk1 : picks [(po, .inl (cs 4, 1, .inr (.inl ov))), (kr, .inr (5, [.ref la, .ref ia, .ref na, .ref b4, .ref b6, .ref b8, .ref b10, .int (iI (((sh : Nat) : Int))), .int (iI (((it : Nat) : Int))), .int (iI (lc)), .int (iI (((dy : Nat) : Int))), .int (iI (pct)), .int (iI (lr)), .int (iI (sr))])), (la, arI cs 4 lf), (ia, arQ cs 2 5 itf), (na, arQ cs 3 20 lnf)] [1, 2, 3, 4] [(kr, .inr (5, [.ref la, .ref ia, .ref na, .ref b4, .ref b6, .ref b8, .ref b10, .int (iI (((sh : Nat) : Int))), .int (iI (((it : Nat) : Int))), .int (iI (lc)), .int (iI (((dy : Nat) : Int))), .int (iI (pct)), .int (iI (lr)), .int (iI (sr))])), (la, arI cs 4 lf), (ia, arQ cs 2 5 itf), (na, arQ cs 3 20 lnf)] := ⟨rfl, rfl, rfl, rfl, trivial⟩
  refine vx_calli (vx_runV (As := [.int (iI (zs)), .int (iI (zi))]) (rest := [.int (iI (0)), .ref po]) ⟨hx, hb, hml, hown, hts⟩ (m_X5_levelByDays_no l hst D cs kr la ia na b4 b6 b8 b10 sh it lc dy pct lr sr lf itf lnf zs zi (hsh) (hit) (hitf) (hzs) (hzi) (hno)) (cwV 2 hts (gV w_632 w_633 w_634 w_1 w_635) rfl rfl rfl (by decide +kernel) ⟨Nat.le_of_ble_eq_true rfl, Nat.le_of_ble_eq_true rfl⟩) (PE_V hK hN hE hS (fun _ h => False.elim h) hP hD [1, 2, 3, 4] rfl pk1 rfl rfl) rfl rfl hl.1 rfl (lv_room (Nat.le_of_ble_eq_true rfl)) dL_levelByDays_5 ⟨Nat.le_of_ble_eq_true rfl, Nat.le_of_ble_eq_true rfl⟩) hS (fun _ _ h => False.elim h) (fun _ h => False.elim h) (fun _ _ h => False.elim h) (fun E ce q9 u t H1 locs1 ht hvm hpx hBX hz1 hk1 hS1 hce hcv hcl => ?_) (fun r u t H locs ht hvm hw hB hz1 hk1 hS => ?_)
  · have h9 : u = cdL sh it lnf zs zi := hpx.1
    have hS := hS1
    have hcd : cdL sh it lnf zs zi = 2 ∨ cdL sh it lnf zs zi = 1 := by
      revert hno
      (try unfold cdL); (try unfold cdS); (try unfold cdC)
      (repeat' split) <;> simp
    have hEu := hBX
    have hP := P_kept hP hk1
    rcases hcd with hc3 | hcd
    · have hE3 : E = "java/util/NoSuchElementException" := by have h8 : E = exN u := hEu; rw [h8, h9, hc3]; rfl
      subst hE3
      refine vx_catch (name := "java/util/NoSuchElementException") hown [⟨0, 10, 13, 25⟩] ⟨0, 10, 17, 50⟩ [] (htab.trans rfl) (fun z hz => by
          simp only [List.mem_cons, List.not_mem_nil, or_false] at hz
          rcases hz with rfl
          · exact Or.inr ⟨by decide, "java/lang/IndexOutOfBoundsException", hts _ w_266, hE.2.2.2.2.2 _ (List.mem_of_getElem? (i := 10) rfl)⟩) rfl (by decide) (hts _ w_455) (hE.use _ (List.mem_append_right _ (List.mem_map.mpr ⟨_, List.mem_of_getElem? (i := 1) rfl, rfl⟩))) hce hcv hcl ?_
      refine lv_astore (lv' := [(4, .ref q9), (0, .ref kr), (1, .int (iI (zs))), (2, .int (iI (zi))), (3, .ref po)]) hx hb dL_levelByDays_17 hl (by decide) rfl (fun ls hl => ?_)
      refine lv_iconst (v := iI (2)) hx hb dL_levelByDays_19 rfl ?_
      refine W.widen (k := 3) (n := 18) (by omega) (by omega) ?_
      have hres : iI (2) = iI (hkI [1, 2] (cdL sh it lnf zs zi)) := congrArg iI (by
          rw [hc3]; rfl)
      exact W.iret hx hb hr (fun t ht hW => ⟨⟨_, (), rfl, hres, trivial⟩, hS.F ht⟩) hS.2.2 dL_levelByDays_20
    have hc3 := hcd
    have hE3 : E = "java/lang/IndexOutOfBoundsException" := by have h8 : E = exN u := hEu; rw [h8, h9, hc3]; rfl
    subst hE3
    refine vx_catch (name := "java/lang/IndexOutOfBoundsException") hown [] ⟨0, 10, 13, 25⟩ [⟨0, 10, 17, 50⟩] (htab.trans rfl) (fun z hz => by cases hz) rfl (by decide) (hts _ w_266) (hE.use _ (List.mem_append_right _ (List.mem_map.mpr ⟨_, List.mem_of_getElem? (i := 0) rfl, rfl⟩))) hce hcv hcl ?_
    refine lv_astore (lv' := [(4, .ref q9), (0, .ref kr), (1, .int (iI (zs))), (2, .int (iI (zi))), (3, .ref po)]) hx hb dL_levelByDays_13 hl (by decide) rfl (fun ls hl => ?_)
    refine lv_iconst (v := iI (1)) hx hb dL_levelByDays_15 rfl ?_
    refine W.widen (k := 3) (n := 18) (by omega) (by omega) ?_
    have hres : iI (1) = iI (hkI [1, 2] (cdL sh it lnf zs zi)) := congrArg iI (by
        rw [hc3]; rfl)
    exact W.iret hx hb hr (fun t ht hW => ⟨⟨_, (), rfl, hres, trivial⟩, hS.F ht⟩) hS.2.2 dL_levelByDays_16
  obtain ⟨hc2, hw⟩ := hw
  subst hw
  have hP := P_kept hP hk1
  exact absurd hc2 hno

set_option maxHeartbeats 4000000 in
set_option maxRecDepth 100000 in
theorem m_L_levelByDays_ok_r (l : Launch) (hst : l.stackTraces = false) (D : va_G) (cs : Nat → ClassId) (kr la ia na b4 b6 b8 b10 sh it : Nat) (lc : Int) (dy : Nat) (pct lr sr : Int) (lf : Nat → Int) (itf : Nat → Option Nat) (lnf : Nat → Option Nat) (sn tn : Nat) (kn hi kl ke kd ks ka : Nat) (ld fk fv es sk so lo : Int) (ti go pr : Nat) (pk fs st : Int) (fdn upr ud ur ulr usr : Nat) (rv : Int) (fpr dm rse lrf srf : Nat → Int) (po : Nat) (ov : Nat → Int64) (hsh : sh ≤ 4) (hit : it ≤ 5) (hitf : ∀ j, j < it → itf j ≠ none) (hsn : sn < sh) (htn : tn < it) (hln : lnf (sn * 5 + tn) = some kn) (hd : dy < 1000) (hfp : ∀ j, 0 ≤ fpr j ∧ fpr j ≤ 1) (hfv : 0 ≤ fv ∧ fv ≤ 9990000) (hfd : fdn ≤ dy) (hdm : ∀ j, 0 ≤ dm j ∧ dm j ≤ 999) (hlrf : ∀ j, 0 ≤ lrf j ∧ lrf j ≤ 100) (hsrf : ∀ j, 0 ≤ srf j ∧ srf j ≤ 100) (hrr : -2147483648 ≤ ((rpS fv fpr dm lrf srf fdn (dy - fdn)).1) ∧ ((rpS fv fpr dm lrf srf fdn (dy - fdn)).1) < 2147483648) : Met l yL_levelByDays ws_L_levelByDays ({ frames := 9, cells := 3, slots := 18, locals := 151 }) (va_Pc [.ref kr, .int (iI (((sn : Nat) : Int))), .int (iI (((tn : Nat) : Int))), .ref po] (PE D cs [(po, .inl (cs 4, 1, .inr (.inl ov))), (kr, .inr (5, [.ref la, .ref ia, .ref na, .ref b4, .ref b6, .ref b8, .ref b10, .int (iI (((sh : Nat) : Int))), .int (iI (((it : Nat) : Int))), .int (iI (lc)), .int (iI (((dy : Nat) : Int))), .int (iI (pct)), .int (iI (lr)), .int (iI (sr))])), (la, arI cs 4 lf), (ia, arQ cs 2 5 itf), (na, arQ cs 3 20 lnf), (kn, .inr (3, [.ref hi, .int (iI (ld)), .int (iI (((fdn : Nat) : Int))), .int (iI (fk)), .int (iI (fv)), .ref kl, .ref ke, .ref kd, .ref ks, .ref ka, .int (iI (es)), .int (iI (sk)), .int (iI (so)), .int (iI (lo))])), (hi, .inr (1, [.int (iI (pk)), .int (iI (fs)), .ref ti, .ref go, .ref pr, .int (iI (st))])), (pr, .inr (0, [.ref upr])), (upr, arI cs 1005 fpr), (kd, .inr (0, [.ref ud])), (ud, arI cs 1005 dm), (b8, .inr (2, [.ref ur, .int (iI (rv))])), (ur, arI cs 7 rse), (b4, .inr (0, [.ref ulr])), (ulr, arI cs 1005 lrf), (b6, .inr (0, [.ref usr])), (usr, arI cs 1005 srf)] (inW [(po, .inl (cs 4, 1, .inr (.inl ov))), (kr, .inr (5, [.ref la, .ref ia, .ref na, .ref b4, .ref b6, .ref b8, .ref b10, .int (iI (((sh : Nat) : Int))), .int (iI (((it : Nat) : Int))), .int (iI (lc)), .int (iI (((dy : Nat) : Int))), .int (iI (pct)), .int (iI (lr)), .int (iI (sr))])), (la, arI cs 4 lf), (ia, arQ cs 2 5 itf), (na, arQ cs 3 20 lnf), (kn, .inr (3, [.ref hi, .int (iI (ld)), .int (iI (((fdn : Nat) : Int))), .int (iI (fk)), .int (iI (fv)), .ref kl, .ref ke, .ref kd, .ref ks, .ref ka, .int (iI (es)), .int (iI (sk)), .int (iI (so)), .int (iI (lo))])), (hi, .inr (1, [.int (iI (pk)), .int (iI (fs)), .ref ti, .ref go, .ref pr, .int (iI (st))])), (pr, .inr (0, [.ref upr])), (upr, arI cs 1005 fpr), (kd, .inr (0, [.ref ud])), (ud, arI cs 1005 dm), (b8, .inr (2, [.ref ur, .int (iI (rv))])), (ur, arI cs 7 rse), (b4, .inr (0, [.ref ulr])), (ulr, arI cs 1005 lrf), (b6, .inr (0, [.ref usr])), (usr, arI cs 1005 srf)]))) (va_Qi (fun r (_ : Unit) => r = iI (0)) (fun _ t => va_P D vwCl [(po, .inl (cs 4, 1, .inr (.inl (vp_updL ov 0 (lI ((rpS fv fpr dm lrf srf fdn (dy - fdn)).1)))))), (kr, .inr (5, [.ref la, .ref ia, .ref na, .ref b4, .ref b6, .ref b8, .ref b10, .int (iI (((sh : Nat) : Int))), .int (iI (((it : Nat) : Int))), .int (iI (lc)), .int (iI (((dy : Nat) : Int))), .int (iI (pct)), .int (iI (lr)), .int (iI (sr))])), (la, arI cs 4 lf), (ia, arQ cs 2 5 itf), (na, arQ cs 3 20 lnf), (kn, .inr (3, [.ref hi, .int (iI (ld)), .int (iI (((fdn : Nat) : Int))), .int (iI (fk)), .int (iI (fv)), .ref kl, .ref ke, .ref kd, .ref ks, .ref ka, .int (iI (es)), .int (iI (sk)), .int (iI (so)), .int (iI (lo))])), (hi, .inr (1, [.int (iI (pk)), .int (iI (fs)), .ref ti, .ref go, .ref pr, .int (iI (st))])), (pr, .inr (0, [.ref upr])), (upr, arI cs 1005 fpr), (kd, .inr (0, [.ref ud])), (ud, arI cs 1005 dm), (b8, .inr (2, [.ref ur, .int (iI ((rpS fv fpr dm lrf srf fdn (dy - fdn)).1))])), (ur, arI cs 7 ((rpS fv fpr dm lrf srf fdn (dy - fdn)).2)), (b4, .inr (0, [.ref ulr])), (ulr, arI cs 1005 lrf), (b6, .inr (0, [.ref usr])), (usr, arI cs 1005 srf)] t.heap) (inW [(po, .inl (cs 4, 1, .inr (.inl ov))), (kr, .inr (5, [.ref la, .ref ia, .ref na, .ref b4, .ref b6, .ref b8, .ref b10, .int (iI (((sh : Nat) : Int))), .int (iI (((it : Nat) : Int))), .int (iI (lc)), .int (iI (((dy : Nat) : Int))), .int (iI (pct)), .int (iI (lr)), .int (iI (sr))])), (la, arI cs 4 lf), (ia, arQ cs 2 5 itf), (na, arQ cs 3 20 lnf), (kn, .inr (3, [.ref hi, .int (iI (ld)), .int (iI (((fdn : Nat) : Int))), .int (iI (fk)), .int (iI (fv)), .ref kl, .ref ke, .ref kd, .ref ks, .ref ka, .int (iI (es)), .int (iI (sk)), .int (iI (so)), .int (iI (lo))])), (hi, .inr (1, [.int (iI (pk)), .int (iI (fs)), .ref ti, .ref go, .ref pr, .int (iI (st))])), (pr, .inr (0, [.ref upr])), (upr, arI cs 1005 fpr), (kd, .inr (0, [.ref ud])), (ud, arI cs 1005 dm), (b8, .inr (2, [.ref ur, .int (iI (rv))])), (ur, arI cs 7 rse), (b4, .inr (0, [.ref ulr])), (ulr, arI cs 1005 lrf), (b6, .inr (0, [.ref usr])), (usr, arI cs 1005 srf)])) 3 18 (inW [(po, .inl (cs 4, 1, .inr (.inl ov))), (kr, .inr (5, [.ref la, .ref ia, .ref na, .ref b4, .ref b6, .ref b8, .ref b10, .int (iI (((sh : Nat) : Int))), .int (iI (((it : Nat) : Int))), .int (iI (lc)), .int (iI (((dy : Nat) : Int))), .int (iI (pct)), .int (iI (lr)), .int (iI (sr))])), (la, arI cs 4 lf), (ia, arQ cs 2 5 itf), (na, arQ cs 3 20 lnf), (kn, .inr (3, [.ref hi, .int (iI (ld)), .int (iI (((fdn : Nat) : Int))), .int (iI (fk)), .int (iI (fv)), .ref kl, .ref ke, .ref kd, .ref ks, .ref ka, .int (iI (es)), .int (iI (sk)), .int (iI (so)), .int (iI (lo))])), (hi, .inr (1, [.int (iI (pk)), .int (iI (fs)), .ref ti, .ref go, .ref pr, .int (iI (st))])), (pr, .inr (0, [.ref upr])), (upr, arI cs 1005 fpr), (kd, .inr (0, [.ref ud])), (ud, arI cs 1005 dm), (b8, .inr (2, [.ref ur, .int (iI (rv))])), (ur, arI cs 7 rse), (b4, .inr (0, [.ref ulr])), (ulr, arI cs 1005 lrf), (b6, .inr (0, [.ref usr])), (usr, arI cs 1005 srf)]) := by
  refine va_MetW (cc := cL_levelByDays) (maxL := 5) (ret := some .int) (hh := [(0, 10, 13, 25), (0, 10, 17, 50)]) (by decide +kernel) rfl ?_
  intro p e s m args below meth c s₁ B hml hv
  obtain ⟨rfl, ⟨hP, hK, hD, hN⟩, hE⟩ := hv
  have hx := B.exec
  have hb := B.bytes
  have hr := B.returns
  have hts : ∀ w ∈ ALL, w.before _ s = true := fun w h => atoms_spec (ws := ws_L_levelByDays) B.pre w (List.mem_cons_of_mem _ h)
  have hown : s.vm.findClass RL = some m.cls := findClass_of_methodNamed B.named
  have hlocks := B.notSynchronized
  have htab : c.exceptionTable.toList = tableOf [(0, 10, 13, 25), (0, 10, 17, 50)] := vx_table (x := yL_levelByDays) B (atoms_spec (ws := ws_L_levelByDays) B.pre _ List.mem_cons_self)
  generalize hAe : inW [(po, .inl (cs 4, 1, .inr (.inl ov))), (kr, .inr (5, [.ref la, .ref ia, .ref na, .ref b4, .ref b6, .ref b8, .ref b10, .int (iI (((sh : Nat) : Int))), .int (iI (((it : Nat) : Int))), .int (iI (lc)), .int (iI (((dy : Nat) : Int))), .int (iI (pct)), .int (iI (lr)), .int (iI (sr))])), (la, arI cs 4 lf), (ia, arQ cs 2 5 itf), (na, arQ cs 3 20 lnf), (kn, .inr (3, [.ref hi, .int (iI (ld)), .int (iI (((fdn : Nat) : Int))), .int (iI (fk)), .int (iI (fv)), .ref kl, .ref ke, .ref kd, .ref ks, .ref ka, .int (iI (es)), .int (iI (sk)), .int (iI (so)), .int (iI (lo))])), (hi, .inr (1, [.int (iI (pk)), .int (iI (fs)), .ref ti, .ref go, .ref pr, .int (iI (st))])), (pr, .inr (0, [.ref upr])), (upr, arI cs 1005 fpr), (kd, .inr (0, [.ref ud])), (ud, arI cs 1005 dm), (b8, .inr (2, [.ref ur, .int (iI (rv))])), (ur, arI cs 7 rse), (b4, .inr (0, [.ref ulr])), (ulr, arI cs 1005 lrf), (b6, .inr (0, [.ref usr])), (usr, arI cs 1005 srf)] = A at hD hE ⊢
  have hS : va_S A s.heap s.heap [] := va_S.rf
  have hl := lv_entry ([.ref kr, .int (iI (((sn : Nat) : Int))), .int (iI (((tn : Nat) : Int))), .ref po]) (n := 5) (Nat.le_of_ble_eq_true rfl)
  rw [lg_entry_eq]
  generalize (lg_sl ([.ref kr, .int (iI (((sn : Nat) : Int))), .int (iI (((tn : Nat) : Int))), .ref po]) ++ List.replicate (5 - (lg_sl ([.ref kr, .int (iI (((sn : Nat) : Int))), .int (iI (((tn : Nat) : Int))), .ref po])).length) Slot.unset).toArray = ls at hl ⊢
  have hl : lv_has ls 5 [(0, .ref kr), (1, .int (iI (((sn : Nat) : Int)))), (2, .int (iI (((tn : Nat) : Int)))), (3, .ref po)] := hl
  have hH := rfl (a := s.heap)
  refine lv_aload_n hx hb dL_levelByDays_0 rfl (lv_at hl 3 rfl) ?_
  refine lv_iconst (v := iI (0)) hx hb dL_levelByDays_1 rfl ?_
  refine lv_aload_n hx hb dL_levelByDays_2 rfl (lv_at hl 0 rfl) ?_
  refine lv_iload_n hx hb dL_levelByDays_3 rfl (lv_at hl 1 rfl) ?_
  refine lv_iload_n hx hb dL_levelByDays_4 rfl (lv_at hl 2 rfl) ?_
  have pk1 : picks [(po, .inl (cs 4, 1, .inr (.inl ov))), (kr, .inr (5, [.ref la, .ref ia, .ref na, .ref b4, .ref b6, .ref b8, .ref b10, .int (iI (((sh : Nat) : Int))), .int (iI (((it : Nat) : Int))), .int (iI (lc)), .int (iI (((dy : Nat) : Int))), .int (iI (pct)), .int (iI (lr)), .int (iI (sr))])), (la, arI cs 4 lf), (ia, arQ cs 2 5 itf), (na, arQ cs 3 20 lnf), (kn, .inr (3, [.ref hi, .int (iI (ld)), .int (iI (((fdn : Nat) : Int))), .int (iI (fk)), .int (iI (fv)), .ref kl, .ref ke, .ref kd, .ref ks, .ref ka, .int (iI (es)), .int (iI (sk)), .int (iI (so)), .int (iI (lo))])), (hi, .inr (1, [.int (iI (pk)), .int (iI (fs)), .ref ti, .ref go, .ref pr, .int (iI (st))])), (pr, .inr (0, [.ref upr])), (upr, arI cs 1005 fpr), (kd, .inr (0, [.ref ud])), (ud, arI cs 1005 dm), (b8, .inr (2, [.ref ur, .int (iI (rv))])), (ur, arI cs 7 rse), (b4, .inr (0, [.ref ulr])), (ulr, arI cs 1005 lrf), (b6, .inr (0, [.ref usr])), (usr, arI cs 1005 srf)] [1, 2, 3, 4, 5, 6, 7, 8, 9, 10, 11, 12, 13, 14, 15, 16] [(kr, .inr (5, [.ref la, .ref ia, .ref na, .ref b4, .ref b6, .ref b8, .ref b10, .int (iI (((sh : Nat) : Int))), .int (iI (((it : Nat) : Int))), .int (iI (lc)), .int (iI (((dy : Nat) : Int))), .int (iI (pct)), .int (iI (lr)), .int (iI (sr))])), (la, arI cs 4 lf), (ia, arQ cs 2 5 itf), (na, arQ cs 3 20 lnf), (kn, .inr (3, [.ref hi, .int (iI (ld)), .int (iI (((fdn : Nat) : Int))), .int (iI (fk)), .int (iI (fv)), .ref kl, .ref ke, .ref kd, .ref ks, .ref ka, .int (iI (es)), .int (iI (sk)), .int (iI (so)), .int (iI (lo))])), (hi, .inr (1, [.int (iI (pk)), .int (iI (fs)), .ref ti, .ref go, .ref pr, .int (iI (st))])), (pr, .inr (0, [.ref upr])), (upr, arI cs 1005 fpr), (kd, .inr (0, [.ref ud])), (ud, arI cs 1005 dm), (b8, .inr (2, [.ref ur, .int (iI (rv))])), (ur, arI cs 7 rse), (b4, .inr (0, [.ref ulr])), (ulr, arI cs 1005 lrf), (b6, .inr (0, [.ref usr])), (usr, arI cs 1005 srf)] := ⟨rfl, rfl, rfl, rfl, rfl, rfl, rfl, rfl, rfl, rfl, rfl, rfl, rfl, rfl, rfl, rfl, trivial⟩
  refine vx_calli (vx_runV (As := [.int (iI (((sn : Nat) : Int))), .int (iI (((tn : Nat) : Int)))]) (rest := [.int (iI (0)), .ref po]) ⟨hx, hb, hml, hown, hts⟩ (m_X5_levelByDays_ok l hst D cs kr la ia na b4 b6 b8 b10 sh it lc dy pct lr sr lf itf lnf sn tn kn hi kl ke kd ks ka ld fk fv es sk so lo ti go pr pk fs st fdn upr ud ur ulr usr rv fpr dm rse lrf srf (hsh) (hit) (hitf) (hsn) (htn) (hln) (hd) (hfp) (hfv) (hfd) (hdm) (hlrf) (hsrf)) (cwV 2 hts (gV w_632 w_633 w_634 w_1 w_635) rfl rfl rfl (by decide +kernel) ⟨Nat.le_of_ble_eq_true rfl, Nat.le_of_ble_eq_true rfl⟩) (PE_V hK hN hE hS (fun q h => inW_sub hD [1, 2, 3, 4, 5, 6, 7, 8, 9, 10, 11, 12, 13, 14, 15, 16] pk1 q h) hP hD [1, 2, 3, 4, 5, 6, 7, 8, 9, 10, 11, 12, 13, 14, 15, 16] rfl pk1 rfl rfl) rfl rfl hl.1 rfl (lv_room (Nat.le_of_ble_eq_true rfl)) dL_levelByDays_5 ⟨Nat.le_of_ble_eq_true rfl, Nat.le_of_ble_eq_true rfl⟩) hS (fun q _ h => inW_sub hD [1, 2, 3, 4, 5, 6, 7, 8, 9, 10, 11, 12, 13, 14, 15, 16] pk1 q h) (fun q h => inW_sub hD [1, 2, 3, 4, 5, 6, 7, 8, 9, 10, 11, 12, 13, 14, 15, 16] pk1 q h) (fun q _ h => inW_sub hD [1, 2, 3, 4, 5, 6, 7, 8, 9, 10, 11, 12, 13, 14, 15, 16] pk1 q h) (fun E ce q9 u t H1 locs1 ht hvm hpx hBX hz1 hk1 hS1 hce hcv hcl => ?_) (fun r u t H locs ht hvm hw hB hz1 hk1 hS => ?_)
  · exact absurd (hpx.1) hpx.2
  obtain ⟨hc2, hw⟩ := hw
  subst hw
  rw [ht] at hB
  obtain ⟨hP, hD⟩ := my_join (W1 := [(kr, .inr (5, [.ref la, .ref ia, .ref na, .ref b4, .ref b6, .ref b8, .ref b10, .int (iI (((sh : Nat) : Int))), .int (iI (((it : Nat) : Int))), .int (iI (lc)), .int (iI (((dy : Nat) : Int))), .int (iI (pct)), .int (iI (lr)), .int (iI (sr))])), (la, arI cs 4 lf), (ia, arQ cs 2 5 itf), (na, arQ cs 3 20 lnf), (kn, .inr (3, [.ref hi, .int (iI (ld)), .int (iI (((fdn : Nat) : Int))), .int (iI (fk)), .int (iI (fv)), .ref kl, .ref ke, .ref kd, .ref ks, .ref ka, .int (iI (es)), .int (iI (sk)), .int (iI (so)), .int (iI (lo))])), (hi, .inr (1, [.int (iI (pk)), .int (iI (fs)), .ref ti, .ref go, .ref pr, .int (iI (st))])), (pr, .inr (0, [.ref upr])), (upr, arI cs 1005 fpr), (kd, .inr (0, [.ref ud])), (ud, arI cs 1005 dm), (b8, .inr (2, [.ref ur, .int (iI ((rpS fv fpr dm lrf srf fdn (dy - fdn)).1))])), (ur, arI cs 7 ((rpS fv fpr dm lrf srf fdn (dy - fdn)).2)), (b4, .inr (0, [.ref ulr])), (ulr, arI cs 1005 lrf), (b6, .inr (0, [.ref usr])), (usr, arI cs 1005 srf)]) hP hD [1, 2, 3, 4, 5, 6, 7, 8, 9, 10, 11, 12, 13, 14, 15, 16] rfl pk1 rfl hk1 hB
  have hP : va_P D vwCl [(po, .inl (cs 4, 1, .inr (.inl ov))), (kr, .inr (5, [.ref la, .ref ia, .ref na, .ref b4, .ref b6, .ref b8, .ref b10, .int (iI (((sh : Nat) : Int))), .int (iI (((it : Nat) : Int))), .int (iI (lc)), .int (iI (((dy : Nat) : Int))), .int (iI (pct)), .int (iI (lr)), .int (iI (sr))])), (la, arI cs 4 lf), (ia, arQ cs 2 5 itf), (na, arQ cs 3 20 lnf), (kn, .inr (3, [.ref hi, .int (iI (ld)), .int (iI (((fdn : Nat) : Int))), .int (iI (fk)), .int (iI (fv)), .ref kl, .ref ke, .ref kd, .ref ks, .ref ka, .int (iI (es)), .int (iI (sk)), .int (iI (so)), .int (iI (lo))])), (hi, .inr (1, [.int (iI (pk)), .int (iI (fs)), .ref ti, .ref go, .ref pr, .int (iI (st))])), (pr, .inr (0, [.ref upr])), (upr, arI cs 1005 fpr), (kd, .inr (0, [.ref ud])), (ud, arI cs 1005 dm), (b8, .inr (2, [.ref ur, .int (iI ((rpS fv fpr dm lrf srf fdn (dy - fdn)).1))])), (ur, arI cs 7 ((rpS fv fpr dm lrf srf fdn (dy - fdn)).2)), (b4, .inr (0, [.ref ulr])), (ulr, arI cs 1005 lrf), (b6, .inr (0, [.ref usr])), (usr, arI cs 1005 srf)] H := hP
  have hD : va_D A [(po, .inl (cs 4, 1, .inr (.inl ov))), (kr, .inr (5, [.ref la, .ref ia, .ref na, .ref b4, .ref b6, .ref b8, .ref b10, .int (iI (((sh : Nat) : Int))), .int (iI (((it : Nat) : Int))), .int (iI (lc)), .int (iI (((dy : Nat) : Int))), .int (iI (pct)), .int (iI (lr)), .int (iI (sr))])), (la, arI cs 4 lf), (ia, arQ cs 2 5 itf), (na, arQ cs 3 20 lnf), (kn, .inr (3, [.ref hi, .int (iI (ld)), .int (iI (((fdn : Nat) : Int))), .int (iI (fk)), .int (iI (fv)), .ref kl, .ref ke, .ref kd, .ref ks, .ref ka, .int (iI (es)), .int (iI (sk)), .int (iI (so)), .int (iI (lo))])), (hi, .inr (1, [.int (iI (pk)), .int (iI (fs)), .ref ti, .ref go, .ref pr, .int (iI (st))])), (pr, .inr (0, [.ref upr])), (upr, arI cs 1005 fpr), (kd, .inr (0, [.ref ud])), (ud, arI cs 1005 dm), (b8, .inr (2, [.ref ur, .int (iI ((rpS fv fpr dm lrf srf fdn (dy - fdn)).1))])), (ur, arI cs 7 ((rpS fv fpr dm lrf srf fdn (dy - fdn)).2)), (b4, .inr (0, [.ref ulr])), (ulr, arI cs 1005 lrf), (b6, .inr (0, [.ref usr])), (usr, arI cs 1005 srf)] := hD
  refine my_i2l hx hb dL_levelByDays_8 (by omega) ?_
  refine my_last0 hx hb hK hP hD hS 0 rfl dL_levelByDays_9 (fun H locs hP hD hS => ?_)
  have hP : va_P D vwCl [(po, .inl (cs 4, 1, .inr (.inl (vp_updL ov 0 (lI ((rpS fv fpr dm lrf srf fdn (dy - fdn)).1)))))), (kr, .inr (5, [.ref la, .ref ia, .ref na, .ref b4, .ref b6, .ref b8, .ref b10, .int (iI (((sh : Nat) : Int))), .int (iI (((it : Nat) : Int))), .int (iI (lc)), .int (iI (((dy : Nat) : Int))), .int (iI (pct)), .int (iI (lr)), .int (iI (sr))])), (la, arI cs 4 lf), (ia, arQ cs 2 5 itf), (na, arQ cs 3 20 lnf), (kn, .inr (3, [.ref hi, .int (iI (ld)), .int (iI (((fdn : Nat) : Int))), .int (iI (fk)), .int (iI (fv)), .ref kl, .ref ke, .ref kd, .ref ks, .ref ka, .int (iI (es)), .int (iI (sk)), .int (iI (so)), .int (iI (lo))])), (hi, .inr (1, [.int (iI (pk)), .int (iI (fs)), .ref ti, .ref go, .ref pr, .int (iI (st))])), (pr, .inr (0, [.ref upr])), (upr, arI cs 1005 fpr), (kd, .inr (0, [.ref ud])), (ud, arI cs 1005 dm), (b8, .inr (2, [.ref ur, .int (iI ((rpS fv fpr dm lrf srf fdn (dy - fdn)).1))])), (ur, arI cs 7 ((rpS fv fpr dm lrf srf fdn (dy - fdn)).2)), (b4, .inr (0, [.ref ulr])), (ulr, arI cs 1005 lrf), (b6, .inr (0, [.ref usr])), (usr, arI cs 1005 srf)] H := hP
  have hD : va_D A [(po, .inl (cs 4, 1, .inr (.inl (vp_updL ov 0 (lI ((rpS fv fpr dm lrf srf fdn (dy - fdn)).1)))))), (kr, .inr (5, [.ref la, .ref ia, .ref na, .ref b4, .ref b6, .ref b8, .ref b10, .int (iI (((sh : Nat) : Int))), .int (iI (((it : Nat) : Int))), .int (iI (lc)), .int (iI (((dy : Nat) : Int))), .int (iI (pct)), .int (iI (lr)), .int (iI (sr))])), (la, arI cs 4 lf), (ia, arQ cs 2 5 itf), (na, arQ cs 3 20 lnf), (kn, .inr (3, [.ref hi, .int (iI (ld)), .int (iI (((fdn : Nat) : Int))), .int (iI (fk)), .int (iI (fv)), .ref kl, .ref ke, .ref kd, .ref ks, .ref ka, .int (iI (es)), .int (iI (sk)), .int (iI (so)), .int (iI (lo))])), (hi, .inr (1, [.int (iI (pk)), .int (iI (fs)), .ref ti, .ref go, .ref pr, .int (iI (st))])), (pr, .inr (0, [.ref upr])), (upr, arI cs 1005 fpr), (kd, .inr (0, [.ref ud])), (ud, arI cs 1005 dm), (b8, .inr (2, [.ref ur, .int (iI ((rpS fv fpr dm lrf srf fdn (dy - fdn)).1))])), (ur, arI cs 7 ((rpS fv fpr dm lrf srf fdn (dy - fdn)).2)), (b4, .inr (0, [.ref ulr])), (ulr, arI cs 1005 lrf), (b6, .inr (0, [.ref usr])), (usr, arI cs 1005 srf)] := hD
  refine lv_goto (tgt := 21) hx hb dL_levelByDays_10 (by decide) ?_
  refine lv_iconst (v := iI (0)) hx hb dL_levelByDays_21 rfl ?_
  subst hAe
  refine W.widen (k := 3) (n := 18) (by omega) (by omega) ?_
  have hres : iI (0) = iI (0) := congrArg iI (by
      rfl)
  exact W.iret hx hb hr (fun t ht hW => ⟨⟨_, (), rfl, hres, by show va_P D vwCl _ t.heap; rw [ht]; exact hP⟩, hS.F ht⟩) hS.2.2 dL_levelByDays_22

abbrev ws_L_share : List Cond := Cond.codeWith yL_share cL_share 5 (some .int) [(0, 10, 13, 25), (0, 10, 17, 50)] :: ALL
set_option maxHeartbeats 4000000 in
set_option maxRecDepth 100000 in
theorem m_L_share_no_t (l : Launch) (hst : l.stackTraces = false) (D : va_G) (cs : Nat → ClassId) (kr la ia na b4 b6 b8 b10 sh it : Nat) (lc : Int) (dy : Nat) (pct lr sr : Int) (lf : Nat → Int) (itf : Nat → Option Nat) (lnf : Nat → Option Nat) (zs zi : Int) (po : Nat) (ov : Nat → Int64) (hsh : sh ≤ 4) (hit : it ≤ 5) (hitf : ∀ j, j < it → itf j ≠ none) (hzs : -2147483648 ≤ zs ∧ zs < 2147483648) (hzi : -2147483648 ≤ zi ∧ zi < 2147483648) (hno : cdL sh it lnf zs zi ≠ 0) : Met l yL_share ws_L_share ({ frames := 9, cells := 3, slots := 18, locals := 149 }) (va_Pc [.ref kr, .int (iI (zs)), .int (iI (zi)), .ref po] (PE D cs [(po, .inl (cs 4, 1, .inr (.inl ov))), (kr, .inr (5, [.ref la, .ref ia, .ref na, .ref b4, .ref b6, .ref b8, .ref b10, .int (iI (((sh : Nat) : Int))), .int (iI (((it : Nat) : Int))), .int (iI (lc)), .int (iI (((dy : Nat) : Int))), .int (iI (pct)), .int (iI (lr)), .int (iI (sr))])), (la, arI cs 4 lf), (ia, arQ cs 2 5 itf), (na, arQ cs 3 20 lnf)] noA)) (va_Qi (fun r (_ : Unit) => r = iI (hkI [1, 2] (cdL sh it lnf zs zi))) (fun _ _ => True) noA) 3 18 noA := by
  refine va_MetW (cc := cL_share) (maxL := 5) (ret := some .int) (hh := [(0, 10, 13, 25), (0, 10, 17, 50)]) (by decide +kernel) rfl ?_
  intro p e s m args below meth c s₁ B hml hv
  obtain ⟨rfl, ⟨hP, hK, hD, hN⟩, hE⟩ := hv
  have hx := B.exec
  have hb := B.bytes
  have hr := B.returns
  have hts : ∀ w ∈ ALL, w.before _ s = true := fun w h => atoms_spec (ws := ws_L_share) B.pre w (List.mem_cons_of_mem _ h)
  have hown : s.vm.findClass RL = some m.cls := findClass_of_methodNamed B.named
  have hlocks := B.notSynchronized
  have htab : c.exceptionTable.toList = tableOf [(0, 10, 13, 25), (0, 10, 17, 50)] := vx_table (x := yL_share) B (atoms_spec (ws := ws_L_share) B.pre _ List.mem_cons_self)
  have hS : va_S noA s.heap s.heap [] := va_S.rf
  generalize inW [(po, .inl (cs 4, 1, .inr (.inl ov))), (kr, .inr (5, [.ref la, .ref ia, .ref na, .ref b4, .ref b6, .ref b8, .ref b10, .int (iI (((sh : Nat) : Int))), .int (iI (((it : Nat) : Int))), .int (iI (lc)), .int (iI (((dy : Nat) : Int))), .int (iI (pct)), .int (iI (lr)), .int (iI (sr))])), (la, arI cs 4 lf), (ia, arQ cs 2 5 itf), (na, arQ cs 3 20 lnf)] = A at hD
  have hl := lv_entry ([.ref kr, .int (iI (zs)), .int (iI (zi)), .ref po]) (n := 5) (Nat.le_of_ble_eq_true rfl)
  rw [lg_entry_eq]
  generalize (lg_sl ([.ref kr, .int (iI (zs)), .int (iI (zi)), .ref po]) ++ List.replicate (5 - (lg_sl ([.ref kr, .int (iI (zs)), .int (iI (zi)), .ref po])).length) Slot.unset).toArray = ls at hl ⊢
  have hl : lv_has ls 5 [(0, .ref kr), (1, .int (iI (zs))), (2, .int (iI (zi))), (3, .ref po)] := hl
  have hH := rfl (a := s.heap)
  refine lv_aload_n hx hb dL_share_0 rfl (lv_at hl 3 rfl) ?_
  refine lv_iconst (v := iI (0)) hx hb dL_share_1 rfl ?_
  refine lv_aload_n hx hb dL_share_2 rfl (lv_at hl 0 rfl) ?_
  refine lv_iload_n hx hb dL_share_3 rfl (lv_at hl 1 rfl) ?_
  refine lv_iload_n hx hb dL_share_4 rfl (lv_at hl 2 rfl) ?_
  have pk1 : picks [(po, .inl (cs 4, 1, .inr (.inl ov))), (kr, .inr (5, [.ref la, .ref ia, .ref na, .ref b4, .ref b6, .ref b8, .ref b10, .int (iI (((sh : Nat) : Int))), .int (iI (((it : Nat) : Int))), .int (iI (lc)), .int (iI (((dy : Nat) : Int))), .int (iI (pct)), .int (iI (lr)), .int (iI (sr))])), (la, arI cs 4 lf), (ia, arQ cs 2 5 itf), (na, arQ cs 3 20 lnf)] [1, 2, 3, 4] [(kr, .inr (5, [.ref la, .ref ia, .ref na, .ref b4, .ref b6, .ref b8, .ref b10, .int (iI (((sh : Nat) : Int))), .int (iI (((it : Nat) : Int))), .int (iI (lc)), .int (iI (((dy : Nat) : Int))), .int (iI (pct)), .int (iI (lr)), .int (iI (sr))])), (la, arI cs 4 lf), (ia, arQ cs 2 5 itf), (na, arQ cs 3 20 lnf)] := ⟨rfl, rfl, rfl, rfl, trivial⟩
  refine vx_calli (vx_runV (As := [.int (iI (zs)), .int (iI (zi))]) (rest := [.int (iI (0)), .ref po]) ⟨hx, hb, hml, hown, hts⟩ (m_X5_share_no l hst D cs kr la ia na b4 b6 b8 b10 sh it lc dy pct lr sr lf itf lnf zs zi (hsh) (hit) (hitf) (hzs) (hzi) (hno)) (cwV 2 hts (gV w_735 w_736 w_737 w_1 w_738) rfl rfl rfl (by decide +kernel) ⟨Nat.le_of_ble_eq_true rfl, Nat.le_of_ble_eq_true rfl⟩) (PE_V hK hN hE hS (fun _ h => False.elim h) hP hD [1, 2, 3, 4] rfl pk1 rfl rfl) rfl rfl hl.1 rfl (lv_room (Nat.le_of_ble_eq_true rfl)) dL_share_5 ⟨Nat.le_of_ble_eq_true rfl, Nat.le_of_ble_eq_true rfl⟩) hS (fun _ _ h => False.elim h) (fun _ h => False.elim h) (fun _ _ h => False.elim h) (fun E ce q9 u t H1 locs1 ht hvm hpx hBX hz1 hk1 hS1 hce hcv hcl => ?_) (fun r u t H locs ht hvm hw hB hz1 hk1 hS => ?_)
  · have h9 : u = cdL sh it lnf zs zi := hpx.1
    have hS := hS1
    have hcd : cdL sh it lnf zs zi = 2 ∨ cdL sh it lnf zs zi = 1 := by
      revert hno
      (try unfold cdL); (try unfold cdS); (try unfold cdC)
      (repeat' split) <;> simp
    have hEu := hBX
    have hP := P_kept hP hk1
    rcases hcd with hc3 | hcd
    · have hE3 : E = "java/util/NoSuchElementException" := by have h8 : E = exN u := hEu; rw [h8, h9, hc3]; rfl
      subst hE3
      refine vx_catch (name := "java/util/NoSuchElementException") hown [⟨0, 10, 13, 25⟩] ⟨0, 10, 17, 50⟩ [] (htab.trans rfl) (fun z hz => by
          simp only [List.mem_cons, List.not_mem_nil, or_false] at hz
          rcases hz with rfl
          · exact Or.inr ⟨by decide, "java/lang/IndexOutOfBoundsException", hts _ w_266, hE.2.2.2.2.2 _ (List.mem_of_getElem? (i := 10) rfl)⟩) rfl (by decide) (hts _ w_455) (hE.use _ (List.mem_append_right _ (List.mem_map.mpr ⟨_, List.mem_of_getElem? (i := 1) rfl, rfl⟩))) hce hcv hcl ?_
      refine lv_astore (lv' := [(4, .ref q9), (0, .ref kr), (1, .int (iI (zs))), (2, .int (iI (zi))), (3, .ref po)]) hx hb dL_share_17 hl (by decide) rfl (fun ls hl => ?_)
      refine lv_iconst (v := iI (2)) hx hb dL_share_19 rfl ?_
      refine W.widen (k := 3) (n := 18) (by omega) (by omega) ?_
      have hres : iI (2) = iI (hkI [1, 2] (cdL sh it lnf zs zi)) := congrArg iI (by
          rw [hc3]; rfl)
      exact W.iret hx hb hr (fun t ht hW => ⟨⟨_, (), rfl, hres, trivial⟩, hS.F ht⟩) hS.2.2 dL_share_20
    have hc3 := hcd
    have hE3 : E = "java/lang/IndexOutOfBoundsException" := by have h8 : E = exN u := hEu; rw [h8, h9, hc3]; rfl
    subst hE3
    refine vx_catch (name := "java/lang/IndexOutOfBoundsException") hown [] ⟨0, 10, 13, 25⟩ [⟨0, 10, 17, 50⟩] (htab.trans rfl) (fun z hz => by cases hz) rfl (by decide) (hts _ w_266) (hE.use _ (List.mem_append_right _ (List.mem_map.mpr ⟨_, List.mem_of_getElem? (i := 0) rfl, rfl⟩))) hce hcv hcl ?_
    refine lv_astore (lv' := [(4, .ref q9), (0, .ref kr), (1, .int (iI (zs))), (2, .int (iI (zi))), (3, .ref po)]) hx hb dL_share_13 hl (by decide) rfl (fun ls hl => ?_)
    refine lv_iconst (v := iI (1)) hx hb dL_share_15 rfl ?_
    refine W.widen (k := 3) (n := 18) (by omega) (by omega) ?_
    have hres : iI (1) = iI (hkI [1, 2] (cdL sh it lnf zs zi)) := congrArg iI (by
        rw [hc3]; rfl)
    exact W.iret hx hb hr (fun t ht hW => ⟨⟨_, (), rfl, hres, trivial⟩, hS.F ht⟩) hS.2.2 dL_share_16
  obtain ⟨hc2, hw⟩ := hw
  subst hw
  have hP := P_kept hP hk1
  exact absurd hc2 hno

set_option maxHeartbeats 4000000 in
set_option maxRecDepth 100000 in
theorem m_L_share_ok_r (l : Launch) (hst : l.stackTraces = false) (D : va_G) (cs : Nat → ClassId) (kr la ia na b4 b6 b8 b10 sh it : Nat) (lc : Int) (dy : Nat) (pct lr sr : Int) (ulr usr ur uq ug : Nat) (lf lrf srf rse rq gv : Nat → Int) (rv pn : Int) (IA LA : Nat → Nat → Nat) (cr : Nat → Bool) (IR : Nat → IT) (LR : Nat → LT) (sn tn : Nat) (po : Nat) (ov : Nat → Int64) (hsh : sh ≤ 4) (hit : it ≤ 5) (hsn : sn < sh) (htn : tn < it) (hcr : cr (sn * 5 + tn) = true) (hd : dy < 1000) (hpc : 1 ≤ pct ∧ pct ≤ 100) (hlk : ∀ s, lOK dy (LR (s * 5 + tn))) (hik : iOK (IR tn)) (hrr : -2147483648 ≤ (ctI (rqA dy pct cr IR LR tn sh) (ist (IR tn) / ipk (IR tn)) sn 32 0 (rqA dy pct cr IR LR tn sh sn)) ∧ (ctI (rqA dy pct cr IR LR tn sh) (ist (IR tn) / ipk (IR tn)) sn 32 0 (rqA dy pct cr IR LR tn sh sn)) < 2147483648) : Met l yL_share ws_L_share ({ frames := 9, cells := 3, slots := 18, locals := 149 }) (va_Pc [.ref kr, .int (iI (((sn : Nat) : Int))), .int (iI (((tn : Nat) : Int))), .ref po] (PE D cs ([(po, .inl (cs 4, 1, .inr (.inl ov))), (kr, .inr (5, [.ref la, .ref ia, .ref na, .ref b4, .ref b6, .ref b8, .ref b10, .int (iI (((sh : Nat) : Int))), .int (iI (((it : Nat) : Int))), .int (iI (lc)), .int (iI (((dy : Nat) : Int))), .int (iI (pct)), .int (iI (lr)), .int (iI (sr))])), (la, arI cs 4 lf), (ia, arQ cs 2 5 (itq it IA)), (na, arQ cs 3 20 (lnq cr LA)), (b4, .inr (0, [.ref ulr])), (ulr, arI cs 1005 lrf), (b6, .inr (0, [.ref usr])), (usr, arI cs 1005 srf), (b8, .inr (2, [.ref ur, .int (iI (rv))])), (ur, arI cs 7 rse), (b10, .inr (4, [.ref uq, .ref ug, .int (iI (pn))])), (uq, arI cs 4 rq), (ug, arI cs 4 gv)] ++ (aW cs IA LA it cr IR LR)) (inW ([(po, .inl (cs 4, 1, .inr (.inl ov))), (kr, .inr (5, [.ref la, .ref ia, .ref na, .ref b4, .ref b6, .ref b8, .ref b10, .int (iI (((sh : Nat) : Int))), .int (iI (((it : Nat) : Int))), .int (iI (lc)), .int (iI (((dy : Nat) : Int))), .int (iI (pct)), .int (iI (lr)), .int (iI (sr))])), (la, arI cs 4 lf), (ia, arQ cs 2 5 (itq it IA)), (na, arQ cs 3 20 (lnq cr LA)), (b4, .inr (0, [.ref ulr])), (ulr, arI cs 1005 lrf), (b6, .inr (0, [.ref usr])), (usr, arI cs 1005 srf), (b8, .inr (2, [.ref ur, .int (iI (rv))])), (ur, arI cs 7 rse), (b10, .inr (4, [.ref uq, .ref ug, .int (iI (pn))])), (uq, arI cs 4 rq), (ug, arI cs 4 gv)] ++ (aW cs IA LA it cr IR LR))))) (va_Qi (fun r (_ : Unit) => r = iI (0)) (fun _ t => va_P D vwCl ([(po, .inl (cs 4, 1, .inr (.inl (vp_updL ov 0 (lI (ctI (rqA dy pct cr IR LR tn sh) (ist (IR tn) / ipk (IR tn)) sn 32 0 (rqA dy pct cr IR LR tn sh sn))))))), (kr, .inr (5, [.ref la, .ref ia, .ref na, .ref b4, .ref b6, .ref b8, .ref b10, .int (iI (((sh : Nat) : Int))), .int (iI (((it : Nat) : Int))), .int (iI (lc)), .int (iI (((dy : Nat) : Int))), .int (iI (pct)), .int (iI (lr)), .int (iI (sr))])), (la, arI cs 4 lf), (ia, arQ cs 2 5 (itq it IA)), (na, arQ cs 3 20 (lnq cr LA)), (b4, .inr (0, [.ref ulr])), (ulr, arI cs 1005 lrf), (b6, .inr (0, [.ref usr])), (usr, arI cs 1005 srf), (b8, .inr (2, [.ref ur, .int (iI (rv))])), (ur, arI cs 7 rse), (b10, .inr (4, [.ref uq, .ref ug, .int (iI (ist (IR tn) / ipk (IR tn)))])), (uq, arI cs 4 (rqA dy pct cr IR LR tn sh)), (ug, arI cs 4 gv)] ++ (aW cs IA LA it cr IR LR)) t.heap) (inW ([(po, .inl (cs 4, 1, .inr (.inl ov))), (kr, .inr (5, [.ref la, .ref ia, .ref na, .ref b4, .ref b6, .ref b8, .ref b10, .int (iI (((sh : Nat) : Int))), .int (iI (((it : Nat) : Int))), .int (iI (lc)), .int (iI (((dy : Nat) : Int))), .int (iI (pct)), .int (iI (lr)), .int (iI (sr))])), (la, arI cs 4 lf), (ia, arQ cs 2 5 (itq it IA)), (na, arQ cs 3 20 (lnq cr LA)), (b4, .inr (0, [.ref ulr])), (ulr, arI cs 1005 lrf), (b6, .inr (0, [.ref usr])), (usr, arI cs 1005 srf), (b8, .inr (2, [.ref ur, .int (iI (rv))])), (ur, arI cs 7 rse), (b10, .inr (4, [.ref uq, .ref ug, .int (iI (pn))])), (uq, arI cs 4 rq), (ug, arI cs 4 gv)] ++ (aW cs IA LA it cr IR LR)))) 3 18 (inW ([(po, .inl (cs 4, 1, .inr (.inl ov))), (kr, .inr (5, [.ref la, .ref ia, .ref na, .ref b4, .ref b6, .ref b8, .ref b10, .int (iI (((sh : Nat) : Int))), .int (iI (((it : Nat) : Int))), .int (iI (lc)), .int (iI (((dy : Nat) : Int))), .int (iI (pct)), .int (iI (lr)), .int (iI (sr))])), (la, arI cs 4 lf), (ia, arQ cs 2 5 (itq it IA)), (na, arQ cs 3 20 (lnq cr LA)), (b4, .inr (0, [.ref ulr])), (ulr, arI cs 1005 lrf), (b6, .inr (0, [.ref usr])), (usr, arI cs 1005 srf), (b8, .inr (2, [.ref ur, .int (iI (rv))])), (ur, arI cs 7 rse), (b10, .inr (4, [.ref uq, .ref ug, .int (iI (pn))])), (uq, arI cs 4 rq), (ug, arI cs 4 gv)] ++ (aW cs IA LA it cr IR LR))) := by
  refine va_MetW (cc := cL_share) (maxL := 5) (ret := some .int) (hh := [(0, 10, 13, 25), (0, 10, 17, 50)]) (by decide +kernel) rfl ?_
  intro p e s m args below meth c s₁ B hml hv
  obtain ⟨rfl, ⟨hP, hK, hD, hN⟩, hE⟩ := hv
  have hx := B.exec
  have hb := B.bytes
  have hr := B.returns
  have hts : ∀ w ∈ ALL, w.before _ s = true := fun w h => atoms_spec (ws := ws_L_share) B.pre w (List.mem_cons_of_mem _ h)
  have hown : s.vm.findClass RL = some m.cls := findClass_of_methodNamed B.named
  have hlocks := B.notSynchronized
  have htab : c.exceptionTable.toList = tableOf [(0, 10, 13, 25), (0, 10, 17, 50)] := vx_table (x := yL_share) B (atoms_spec (ws := ws_L_share) B.pre _ List.mem_cons_self)
  generalize hAe : inW ([(po, .inl (cs 4, 1, .inr (.inl ov))), (kr, .inr (5, [.ref la, .ref ia, .ref na, .ref b4, .ref b6, .ref b8, .ref b10, .int (iI (((sh : Nat) : Int))), .int (iI (((it : Nat) : Int))), .int (iI (lc)), .int (iI (((dy : Nat) : Int))), .int (iI (pct)), .int (iI (lr)), .int (iI (sr))])), (la, arI cs 4 lf), (ia, arQ cs 2 5 (itq it IA)), (na, arQ cs 3 20 (lnq cr LA)), (b4, .inr (0, [.ref ulr])), (ulr, arI cs 1005 lrf), (b6, .inr (0, [.ref usr])), (usr, arI cs 1005 srf), (b8, .inr (2, [.ref ur, .int (iI (rv))])), (ur, arI cs 7 rse), (b10, .inr (4, [.ref uq, .ref ug, .int (iI (pn))])), (uq, arI cs 4 rq), (ug, arI cs 4 gv)] ++ (aW cs IA LA it cr IR LR)) = A at hD hE ⊢
  have hS : va_S A s.heap s.heap [] := va_S.rf
  have hl := lv_entry ([.ref kr, .int (iI (((sn : Nat) : Int))), .int (iI (((tn : Nat) : Int))), .ref po]) (n := 5) (Nat.le_of_ble_eq_true rfl)
  rw [lg_entry_eq]
  generalize (lg_sl ([.ref kr, .int (iI (((sn : Nat) : Int))), .int (iI (((tn : Nat) : Int))), .ref po]) ++ List.replicate (5 - (lg_sl ([.ref kr, .int (iI (((sn : Nat) : Int))), .int (iI (((tn : Nat) : Int))), .ref po])).length) Slot.unset).toArray = ls at hl ⊢
  have hl : lv_has ls 5 [(0, .ref kr), (1, .int (iI (((sn : Nat) : Int)))), (2, .int (iI (((tn : Nat) : Int)))), (3, .ref po)] := hl
  have hH := rfl (a := s.heap)
  refine lv_aload_n hx hb dL_share_0 rfl (lv_at hl 3 rfl) ?_
  refine lv_iconst (v := iI (0)) hx hb dL_share_1 rfl ?_
  refine lv_aload_n hx hb dL_share_2 rfl (lv_at hl 0 rfl) ?_
  refine lv_iload_n hx hb dL_share_3 rfl (lv_at hl 1 rfl) ?_
  refine lv_iload_n hx hb dL_share_4 rfl (lv_at hl 2 rfl) ?_
  refine vx_calli (vx_runV (As := [.int (iI (((sn : Nat) : Int))), .int (iI (((tn : Nat) : Int)))]) (rest := [.int (iI (0)), .ref po]) ⟨hx, hb, hml, hown, hts⟩ (m_X5_share_ok l hst D cs kr la ia na b4 b6 b8 b10 sh it lc dy pct lr sr ulr usr ur uq ug lf lrf srf rse rq gv rv pn IA LA cr IR LR sn tn (hsh) (hit) (hsn) (htn) (hcr) (hd) (hpc) (hlk) (hik)) (cwV 2 hts (gV w_735 w_736 w_737 w_1 w_738) rfl rfl rfl (by decide +kernel) ⟨Nat.le_of_ble_eq_true rfl, Nat.le_of_ble_eq_true rfl⟩) (PE_Va hK hN hE hS (fun q h => inW_suba (D_R (E := [(po, .inl (cs 4, 1, .inr (.inl ov)))]) (Wc := ([(kr, .inr (5, [.ref la, .ref ia, .ref na, .ref b4, .ref b6, .ref b8, .ref b10, .int (iI (((sh : Nat) : Int))), .int (iI (((it : Nat) : Int))), .int (iI (lc)), .int (iI (((dy : Nat) : Int))), .int (iI (pct)), .int (iI (lr)), .int (iI (sr))])), (la, arI cs 4 lf), (ia, arQ cs 2 5 (itq it IA)), (na, arQ cs 3 20 (lnq cr LA)), (b4, .inr (0, [.ref ulr])), (ulr, arI cs 1005 lrf), (b6, .inr (0, [.ref usr])), (usr, arI cs 1005 srf), (b8, .inr (2, [.ref ur, .int (iI (rv))])), (ur, arI cs 7 rse), (b10, .inr (4, [.ref uq, .ref ug, .int (iI (pn))])), (uq, arI cs 4 rq), (ug, arI cs 4 gv)] ++ (aW cs IA LA it cr IR LR))) hD) q h) (P_R (E := [(po, .inl (cs 4, 1, .inr (.inl ov)))]) (Wc := ([(kr, .inr (5, [.ref la, .ref ia, .ref na, .ref b4, .ref b6, .ref b8, .ref b10, .int (iI (((sh : Nat) : Int))), .int (iI (((it : Nat) : Int))), .int (iI (lc)), .int (iI (((dy : Nat) : Int))), .int (iI (pct)), .int (iI (lr)), .int (iI (sr))])), (la, arI cs 4 lf), (ia, arQ cs 2 5 (itq it IA)), (na, arQ cs 3 20 (lnq cr LA)), (b4, .inr (0, [.ref ulr])), (ulr, arI cs 1005 lrf), (b6, .inr (0, [.ref usr])), (usr, arI cs 1005 srf), (b8, .inr (2, [.ref ur, .int (iI (rv))])), (ur, arI cs 7 rse), (b10, .inr (4, [.ref uq, .ref ug, .int (iI (pn))])), (uq, arI cs 4 rq), (ug, arI cs 4 gv)] ++ (aW cs IA LA it cr IR LR))) hP) (D_R (E := [(po, .inl (cs 4, 1, .inr (.inl ov)))]) (Wc := ([(kr, .inr (5, [.ref la, .ref ia, .ref na, .ref b4, .ref b6, .ref b8, .ref b10, .int (iI (((sh : Nat) : Int))), .int (iI (((it : Nat) : Int))), .int (iI (lc)), .int (iI (((dy : Nat) : Int))), .int (iI (pct)), .int (iI (lr)), .int (iI (sr))])), (la, arI cs 4 lf), (ia, arQ cs 2 5 (itq it IA)), (na, arQ cs 3 20 (lnq cr LA)), (b4, .inr (0, [.ref ulr])), (ulr, arI cs 1005 lrf), (b6, .inr (0, [.ref usr])), (usr, arI cs 1005 srf), (b8, .inr (2, [.ref ur, .int (iI (rv))])), (ur, arI cs 7 rse), (b10, .inr (4, [.ref uq, .ref ug, .int (iI (pn))])), (uq, arI cs 4 rq), (ug, arI cs 4 gv)] ++ (aW cs IA LA it cr IR LR))) hD) rfl rfl) rfl rfl hl.1 rfl (lv_room (Nat.le_of_ble_eq_true rfl)) dL_share_5 ⟨Nat.le_of_ble_eq_true rfl, Nat.le_of_ble_eq_true rfl⟩) hS (fun q _ h => inW_suba (D_R (E := [(po, .inl (cs 4, 1, .inr (.inl ov)))]) (Wc := ([(kr, .inr (5, [.ref la, .ref ia, .ref na, .ref b4, .ref b6, .ref b8, .ref b10, .int (iI (((sh : Nat) : Int))), .int (iI (((it : Nat) : Int))), .int (iI (lc)), .int (iI (((dy : Nat) : Int))), .int (iI (pct)), .int (iI (lr)), .int (iI (sr))])), (la, arI cs 4 lf), (ia, arQ cs 2 5 (itq it IA)), (na, arQ cs 3 20 (lnq cr LA)), (b4, .inr (0, [.ref ulr])), (ulr, arI cs 1005 lrf), (b6, .inr (0, [.ref usr])), (usr, arI cs 1005 srf), (b8, .inr (2, [.ref ur, .int (iI (rv))])), (ur, arI cs 7 rse), (b10, .inr (4, [.ref uq, .ref ug, .int (iI (pn))])), (uq, arI cs 4 rq), (ug, arI cs 4 gv)] ++ (aW cs IA LA it cr IR LR))) hD) q h) (fun q h => inW_suba (D_R (E := [(po, .inl (cs 4, 1, .inr (.inl ov)))]) (Wc := ([(kr, .inr (5, [.ref la, .ref ia, .ref na, .ref b4, .ref b6, .ref b8, .ref b10, .int (iI (((sh : Nat) : Int))), .int (iI (((it : Nat) : Int))), .int (iI (lc)), .int (iI (((dy : Nat) : Int))), .int (iI (pct)), .int (iI (lr)), .int (iI (sr))])), (la, arI cs 4 lf), (ia, arQ cs 2 5 (itq it IA)), (na, arQ cs 3 20 (lnq cr LA)), (b4, .inr (0, [.ref ulr])), (ulr, arI cs 1005 lrf), (b6, .inr (0, [.ref usr])), (usr, arI cs 1005 srf), (b8, .inr (2, [.ref ur, .int (iI (rv))])), (ur, arI cs 7 rse), (b10, .inr (4, [.ref uq, .ref ug, .int (iI (pn))])), (uq, arI cs 4 rq), (ug, arI cs 4 gv)] ++ (aW cs IA LA it cr IR LR))) hD) q h) (fun q _ h => inW_suba (D_R (E := [(po, .inl (cs 4, 1, .inr (.inl ov)))]) (Wc := ([(kr, .inr (5, [.ref la, .ref ia, .ref na, .ref b4, .ref b6, .ref b8, .ref b10, .int (iI (((sh : Nat) : Int))), .int (iI (((it : Nat) : Int))), .int (iI (lc)), .int (iI (((dy : Nat) : Int))), .int (iI (pct)), .int (iI (lr)), .int (iI (sr))])), (la, arI cs 4 lf), (ia, arQ cs 2 5 (itq it IA)), (na, arQ cs 3 20 (lnq cr LA)), (b4, .inr (0, [.ref ulr])), (ulr, arI cs 1005 lrf), (b6, .inr (0, [.ref usr])), (usr, arI cs 1005 srf), (b8, .inr (2, [.ref ur, .int (iI (rv))])), (ur, arI cs 7 rse), (b10, .inr (4, [.ref uq, .ref ug, .int (iI (pn))])), (uq, arI cs 4 rq), (ug, arI cs 4 gv)] ++ (aW cs IA LA it cr IR LR))) hD) q h) (fun E ce q9 u t H1 locs1 ht hvm hpx hBX hz1 hk1 hS1 hce hcv hcl => ?_) (fun r u t H locs ht hvm hw hB hz1 hk1 hS => ?_)
  · exact absurd (hpx.1) hpx.2
  obtain ⟨hc2, hw⟩ := hw
  subst hw
  rw [ht] at hB
  obtain ⟨hP, hD⟩ := my_joinE (E := [(po, .inl (cs 4, 1, .inr (.inl ov)))]) (Wc := ([(kr, .inr (5, [.ref la, .ref ia, .ref na, .ref b4, .ref b6, .ref b8, .ref b10, .int (iI (((sh : Nat) : Int))), .int (iI (((it : Nat) : Int))), .int (iI (lc)), .int (iI (((dy : Nat) : Int))), .int (iI (pct)), .int (iI (lr)), .int (iI (sr))])), (la, arI cs 4 lf), (ia, arQ cs 2 5 (itq it IA)), (na, arQ cs 3 20 (lnq cr LA)), (b4, .inr (0, [.ref ulr])), (ulr, arI cs 1005 lrf), (b6, .inr (0, [.ref usr])), (usr, arI cs 1005 srf), (b8, .inr (2, [.ref ur, .int (iI (rv))])), (ur, arI cs 7 rse), (b10, .inr (4, [.ref uq, .ref ug, .int (iI (pn))])), (uq, arI cs 4 rq), (ug, arI cs 4 gv)] ++ (aW cs IA LA it cr IR LR))) (W2 := ([(kr, .inr (5, [.ref la, .ref ia, .ref na, .ref b4, .ref b6, .ref b8, .ref b10, .int (iI (((sh : Nat) : Int))), .int (iI (((it : Nat) : Int))), .int (iI (lc)), .int (iI (((dy : Nat) : Int))), .int (iI (pct)), .int (iI (lr)), .int (iI (sr))])), (la, arI cs 4 lf), (ia, arQ cs 2 5 (itq it IA)), (na, arQ cs 3 20 (lnq cr LA)), (b4, .inr (0, [.ref ulr])), (ulr, arI cs 1005 lrf), (b6, .inr (0, [.ref usr])), (usr, arI cs 1005 srf), (b8, .inr (2, [.ref ur, .int (iI (rv))])), (ur, arI cs 7 rse), (b10, .inr (4, [.ref uq, .ref ug, .int (iI (ist (IR tn) / ipk (IR tn)))])), (uq, arI cs 4 (rqA dy pct cr IR LR tn sh)), (ug, arI cs 4 gv)] ++ (aW cs IA LA it cr IR LR))) hP hD (fst_ap rfl aW_fst) hk1 hB
  have hP : va_P D vwCl ([(po, .inl (cs 4, 1, .inr (.inl ov))), (kr, .inr (5, [.ref la, .ref ia, .ref na, .ref b4, .ref b6, .ref b8, .ref b10, .int (iI (((sh : Nat) : Int))), .int (iI (((it : Nat) : Int))), .int (iI (lc)), .int (iI (((dy : Nat) : Int))), .int (iI (pct)), .int (iI (lr)), .int (iI (sr))])), (la, arI cs 4 lf), (ia, arQ cs 2 5 (itq it IA)), (na, arQ cs 3 20 (lnq cr LA)), (b4, .inr (0, [.ref ulr])), (ulr, arI cs 1005 lrf), (b6, .inr (0, [.ref usr])), (usr, arI cs 1005 srf), (b8, .inr (2, [.ref ur, .int (iI (rv))])), (ur, arI cs 7 rse), (b10, .inr (4, [.ref uq, .ref ug, .int (iI (ist (IR tn) / ipk (IR tn)))])), (uq, arI cs 4 (rqA dy pct cr IR LR tn sh)), (ug, arI cs 4 gv)] ++ (aW cs IA LA it cr IR LR)) H := hP
  have hD : va_D A ([(po, .inl (cs 4, 1, .inr (.inl ov))), (kr, .inr (5, [.ref la, .ref ia, .ref na, .ref b4, .ref b6, .ref b8, .ref b10, .int (iI (((sh : Nat) : Int))), .int (iI (((it : Nat) : Int))), .int (iI (lc)), .int (iI (((dy : Nat) : Int))), .int (iI (pct)), .int (iI (lr)), .int (iI (sr))])), (la, arI cs 4 lf), (ia, arQ cs 2 5 (itq it IA)), (na, arQ cs 3 20 (lnq cr LA)), (b4, .inr (0, [.ref ulr])), (ulr, arI cs 1005 lrf), (b6, .inr (0, [.ref usr])), (usr, arI cs 1005 srf), (b8, .inr (2, [.ref ur, .int (iI (rv))])), (ur, arI cs 7 rse), (b10, .inr (4, [.ref uq, .ref ug, .int (iI (ist (IR tn) / ipk (IR tn)))])), (uq, arI cs 4 (rqA dy pct cr IR LR tn sh)), (ug, arI cs 4 gv)] ++ (aW cs IA LA it cr IR LR)) := hD
  refine my_i2l hx hb dL_share_8 (by omega) ?_
  refine my_last0 hx hb hK hP hD hS 0 rfl dL_share_9 (fun H locs hP hD hS => ?_)
  have hP : va_P D vwCl ([(po, .inl (cs 4, 1, .inr (.inl (vp_updL ov 0 (lI (ctI (rqA dy pct cr IR LR tn sh) (ist (IR tn) / ipk (IR tn)) sn 32 0 (rqA dy pct cr IR LR tn sh sn))))))), (kr, .inr (5, [.ref la, .ref ia, .ref na, .ref b4, .ref b6, .ref b8, .ref b10, .int (iI (((sh : Nat) : Int))), .int (iI (((it : Nat) : Int))), .int (iI (lc)), .int (iI (((dy : Nat) : Int))), .int (iI (pct)), .int (iI (lr)), .int (iI (sr))])), (la, arI cs 4 lf), (ia, arQ cs 2 5 (itq it IA)), (na, arQ cs 3 20 (lnq cr LA)), (b4, .inr (0, [.ref ulr])), (ulr, arI cs 1005 lrf), (b6, .inr (0, [.ref usr])), (usr, arI cs 1005 srf), (b8, .inr (2, [.ref ur, .int (iI (rv))])), (ur, arI cs 7 rse), (b10, .inr (4, [.ref uq, .ref ug, .int (iI (ist (IR tn) / ipk (IR tn)))])), (uq, arI cs 4 (rqA dy pct cr IR LR tn sh)), (ug, arI cs 4 gv)] ++ (aW cs IA LA it cr IR LR)) H := hP
  have hD : va_D A ([(po, .inl (cs 4, 1, .inr (.inl (vp_updL ov 0 (lI (ctI (rqA dy pct cr IR LR tn sh) (ist (IR tn) / ipk (IR tn)) sn 32 0 (rqA dy pct cr IR LR tn sh sn))))))), (kr, .inr (5, [.ref la, .ref ia, .ref na, .ref b4, .ref b6, .ref b8, .ref b10, .int (iI (((sh : Nat) : Int))), .int (iI (((it : Nat) : Int))), .int (iI (lc)), .int (iI (((dy : Nat) : Int))), .int (iI (pct)), .int (iI (lr)), .int (iI (sr))])), (la, arI cs 4 lf), (ia, arQ cs 2 5 (itq it IA)), (na, arQ cs 3 20 (lnq cr LA)), (b4, .inr (0, [.ref ulr])), (ulr, arI cs 1005 lrf), (b6, .inr (0, [.ref usr])), (usr, arI cs 1005 srf), (b8, .inr (2, [.ref ur, .int (iI (rv))])), (ur, arI cs 7 rse), (b10, .inr (4, [.ref uq, .ref ug, .int (iI (ist (IR tn) / ipk (IR tn)))])), (uq, arI cs 4 (rqA dy pct cr IR LR tn sh)), (ug, arI cs 4 gv)] ++ (aW cs IA LA it cr IR LR)) := hD
  refine lv_goto (tgt := 21) hx hb dL_share_10 (by decide) ?_
  refine lv_iconst (v := iI (0)) hx hb dL_share_21 rfl ?_
  subst hAe
  refine W.widen (k := 3) (n := 18) (by omega) (by omega) ?_
  have hres : iI (0) = iI (0) := congrArg iI (by
      rfl)
  exact W.iret hx hb hr (fun t ht hW => ⟨⟨_, (), rfl, hres, by show va_P D vwCl _ t.heap; rw [ht]; exact hP⟩, hS.F ht⟩) hS.2.2 dL_share_22

abbrev ws_L_shareByPacks : List Cond := Cond.codeWith yL_shareByPacks cL_shareByPacks 5 (some .int) [(0, 10, 13, 25), (0, 10, 17, 50)] :: ALL
set_option maxHeartbeats 4000000 in
set_option maxRecDepth 100000 in
theorem m_L_shareByPacks_no_t (l : Launch) (hst : l.stackTraces = false) (D : va_G) (cs : Nat → ClassId) (kr la ia na b4 b6 b8 b10 sh it : Nat) (lc : Int) (dy : Nat) (pct lr sr : Int) (lf : Nat → Int) (itf : Nat → Option Nat) (lnf : Nat → Option Nat) (zs zi : Int) (po : Nat) (ov : Nat → Int64) (hsh : sh ≤ 4) (hit : it ≤ 5) (hitf : ∀ j, j < it → itf j ≠ none) (hzs : -2147483648 ≤ zs ∧ zs < 2147483648) (hzi : -2147483648 ≤ zi ∧ zi < 2147483648) (hno : cdL sh it lnf zs zi ≠ 0) : Met l yL_shareByPacks ws_L_shareByPacks ({ frames := 9, cells := 3, slots := 18, locals := 149 }) (va_Pc [.ref kr, .int (iI (zs)), .int (iI (zi)), .ref po] (PE D cs [(po, .inl (cs 4, 1, .inr (.inl ov))), (kr, .inr (5, [.ref la, .ref ia, .ref na, .ref b4, .ref b6, .ref b8, .ref b10, .int (iI (((sh : Nat) : Int))), .int (iI (((it : Nat) : Int))), .int (iI (lc)), .int (iI (((dy : Nat) : Int))), .int (iI (pct)), .int (iI (lr)), .int (iI (sr))])), (la, arI cs 4 lf), (ia, arQ cs 2 5 itf), (na, arQ cs 3 20 lnf)] noA)) (va_Qi (fun r (_ : Unit) => r = iI (hkI [1, 2] (cdL sh it lnf zs zi))) (fun _ _ => True) noA) 3 18 noA := by
  refine va_MetW (cc := cL_shareByPacks) (maxL := 5) (ret := some .int) (hh := [(0, 10, 13, 25), (0, 10, 17, 50)]) (by decide +kernel) rfl ?_
  intro p e s m args below meth c s₁ B hml hv
  obtain ⟨rfl, ⟨hP, hK, hD, hN⟩, hE⟩ := hv
  have hx := B.exec
  have hb := B.bytes
  have hr := B.returns
  have hts : ∀ w ∈ ALL, w.before _ s = true := fun w h => atoms_spec (ws := ws_L_shareByPacks) B.pre w (List.mem_cons_of_mem _ h)
  have hown : s.vm.findClass RL = some m.cls := findClass_of_methodNamed B.named
  have hlocks := B.notSynchronized
  have htab : c.exceptionTable.toList = tableOf [(0, 10, 13, 25), (0, 10, 17, 50)] := vx_table (x := yL_shareByPacks) B (atoms_spec (ws := ws_L_shareByPacks) B.pre _ List.mem_cons_self)
  have hS : va_S noA s.heap s.heap [] := va_S.rf
  generalize inW [(po, .inl (cs 4, 1, .inr (.inl ov))), (kr, .inr (5, [.ref la, .ref ia, .ref na, .ref b4, .ref b6, .ref b8, .ref b10, .int (iI (((sh : Nat) : Int))), .int (iI (((it : Nat) : Int))), .int (iI (lc)), .int (iI (((dy : Nat) : Int))), .int (iI (pct)), .int (iI (lr)), .int (iI (sr))])), (la, arI cs 4 lf), (ia, arQ cs 2 5 itf), (na, arQ cs 3 20 lnf)] = A at hD
  have hl := lv_entry ([.ref kr, .int (iI (zs)), .int (iI (zi)), .ref po]) (n := 5) (Nat.le_of_ble_eq_true rfl)
  rw [lg_entry_eq]
  generalize (lg_sl ([.ref kr, .int (iI (zs)), .int (iI (zi)), .ref po]) ++ List.replicate (5 - (lg_sl ([.ref kr, .int (iI (zs)), .int (iI (zi)), .ref po])).length) Slot.unset).toArray = ls at hl ⊢
  have hl : lv_has ls 5 [(0, .ref kr), (1, .int (iI (zs))), (2, .int (iI (zi))), (3, .ref po)] := hl
  have hH := rfl (a := s.heap)
  refine lv_aload_n hx hb dL_shareByPacks_0 rfl (lv_at hl 3 rfl) ?_
  refine lv_iconst (v := iI (0)) hx hb dL_shareByPacks_1 rfl ?_
  refine lv_aload_n hx hb dL_shareByPacks_2 rfl (lv_at hl 0 rfl) ?_
  refine lv_iload_n hx hb dL_shareByPacks_3 rfl (lv_at hl 1 rfl) ?_
  refine lv_iload_n hx hb dL_shareByPacks_4 rfl (lv_at hl 2 rfl) ?_
  have pk1 : picks [(po, .inl (cs 4, 1, .inr (.inl ov))), (kr, .inr (5, [.ref la, .ref ia, .ref na, .ref b4, .ref b6, .ref b8, .ref b10, .int (iI (((sh : Nat) : Int))), .int (iI (((it : Nat) : Int))), .int (iI (lc)), .int (iI (((dy : Nat) : Int))), .int (iI (pct)), .int (iI (lr)), .int (iI (sr))])), (la, arI cs 4 lf), (ia, arQ cs 2 5 itf), (na, arQ cs 3 20 lnf)] [1, 2, 3, 4] [(kr, .inr (5, [.ref la, .ref ia, .ref na, .ref b4, .ref b6, .ref b8, .ref b10, .int (iI (((sh : Nat) : Int))), .int (iI (((it : Nat) : Int))), .int (iI (lc)), .int (iI (((dy : Nat) : Int))), .int (iI (pct)), .int (iI (lr)), .int (iI (sr))])), (la, arI cs 4 lf), (ia, arQ cs 2 5 itf), (na, arQ cs 3 20 lnf)] := ⟨rfl, rfl, rfl, rfl, trivial⟩
  refine vx_calli (vx_runV (As := [.int (iI (zs)), .int (iI (zi))]) (rest := [.int (iI (0)), .ref po]) ⟨hx, hb, hml, hown, hts⟩ (m_X5_shareByPacks_no l hst D cs kr la ia na b4 b6 b8 b10 sh it lc dy pct lr sr lf itf lnf zs zi (hsh) (hit) (hitf) (hzs) (hzi) (hno)) (cwV 2 hts (gV w_742 w_743 w_744 w_1 w_745) rfl rfl rfl (by decide +kernel) ⟨Nat.le_of_ble_eq_true rfl, Nat.le_of_ble_eq_true rfl⟩) (PE_V hK hN hE hS (fun _ h => False.elim h) hP hD [1, 2, 3, 4] rfl pk1 rfl rfl) rfl rfl hl.1 rfl (lv_room (Nat.le_of_ble_eq_true rfl)) dL_shareByPacks_5 ⟨Nat.le_of_ble_eq_true rfl, Nat.le_of_ble_eq_true rfl⟩) hS (fun _ _ h => False.elim h) (fun _ h => False.elim h) (fun _ _ h => False.elim h) (fun E ce q9 u t H1 locs1 ht hvm hpx hBX hz1 hk1 hS1 hce hcv hcl => ?_) (fun r u t H locs ht hvm hw hB hz1 hk1 hS => ?_)
  · have h9 : u = cdL sh it lnf zs zi := hpx.1
    have hS := hS1
    have hcd : cdL sh it lnf zs zi = 2 ∨ cdL sh it lnf zs zi = 1 := by
      revert hno
      (try unfold cdL); (try unfold cdS); (try unfold cdC)
      (repeat' split) <;> simp
    have hEu := hBX
    have hP := P_kept hP hk1
    rcases hcd with hc3 | hcd
    · have hE3 : E = "java/util/NoSuchElementException" := by have h8 : E = exN u := hEu; rw [h8, h9, hc3]; rfl
      subst hE3
      refine vx_catch (name := "java/util/NoSuchElementException") hown [⟨0, 10, 13, 25⟩] ⟨0, 10, 17, 50⟩ [] (htab.trans rfl) (fun z hz => by
          simp only [List.mem_cons, List.not_mem_nil, or_false] at hz
          rcases hz with rfl
          · exact Or.inr ⟨by decide, "java/lang/IndexOutOfBoundsException", hts _ w_266, hE.2.2.2.2.2 _ (List.mem_of_getElem? (i := 10) rfl)⟩) rfl (by decide) (hts _ w_455) (hE.use _ (List.mem_append_right _ (List.mem_map.mpr ⟨_, List.mem_of_getElem? (i := 1) rfl, rfl⟩))) hce hcv hcl ?_
      refine lv_astore (lv' := [(4, .ref q9), (0, .ref kr), (1, .int (iI (zs))), (2, .int (iI (zi))), (3, .ref po)]) hx hb dL_shareByPacks_17 hl (by decide) rfl (fun ls hl => ?_)
      refine lv_iconst (v := iI (2)) hx hb dL_shareByPacks_19 rfl ?_
      refine W.widen (k := 3) (n := 18) (by omega) (by omega) ?_
      have hres : iI (2) = iI (hkI [1, 2] (cdL sh it lnf zs zi)) := congrArg iI (by
          rw [hc3]; rfl)
      exact W.iret hx hb hr (fun t ht hW => ⟨⟨_, (), rfl, hres, trivial⟩, hS.F ht⟩) hS.2.2 dL_shareByPacks_20
    have hc3 := hcd
    have hE3 : E = "java/lang/IndexOutOfBoundsException" := by have h8 : E = exN u := hEu; rw [h8, h9, hc3]; rfl
    subst hE3
    refine vx_catch (name := "java/lang/IndexOutOfBoundsException") hown [] ⟨0, 10, 13, 25⟩ [⟨0, 10, 17, 50⟩] (htab.trans rfl) (fun z hz => by cases hz) rfl (by decide) (hts _ w_266) (hE.use _ (List.mem_append_right _ (List.mem_map.mpr ⟨_, List.mem_of_getElem? (i := 0) rfl, rfl⟩))) hce hcv hcl ?_
    refine lv_astore (lv' := [(4, .ref q9), (0, .ref kr), (1, .int (iI (zs))), (2, .int (iI (zi))), (3, .ref po)]) hx hb dL_shareByPacks_13 hl (by decide) rfl (fun ls hl => ?_)
    refine lv_iconst (v := iI (1)) hx hb dL_shareByPacks_15 rfl ?_
    refine W.widen (k := 3) (n := 18) (by omega) (by omega) ?_
    have hres : iI (1) = iI (hkI [1, 2] (cdL sh it lnf zs zi)) := congrArg iI (by
        rw [hc3]; rfl)
    exact W.iret hx hb hr (fun t ht hW => ⟨⟨_, (), rfl, hres, trivial⟩, hS.F ht⟩) hS.2.2 dL_shareByPacks_16
  obtain ⟨hc2, hw⟩ := hw
  subst hw
  have hP := P_kept hP hk1
  exact absurd hc2 hno

set_option maxHeartbeats 4000000 in
set_option maxRecDepth 100000 in
theorem m_L_shareByPacks_ok_r (l : Launch) (hst : l.stackTraces = false) (D : va_G) (cs : Nat → ClassId) (kr la ia na b4 b6 b8 b10 sh it : Nat) (lc : Int) (dy : Nat) (pct lr sr : Int) (ulr usr ur uq ug : Nat) (lf lrf srf rse rq gv : Nat → Int) (rv pn : Int) (IA LA : Nat → Nat → Nat) (cr : Nat → Bool) (IR : Nat → IT) (LR : Nat → LT) (sn tn : Nat) (po : Nat) (ov : Nat → Int64) (hsh : sh ≤ 4) (hit : it ≤ 5) (hsn : sn < sh) (htn : tn < it) (hcr : cr (sn * 5 + tn) = true) (hd : dy < 1000) (hpc : 1 ≤ pct ∧ pct ≤ 100) (hlk : ∀ s, lOK dy (LR (s * 5 + tn))) (hik : iOK (IR tn)) (hrr : -2147483648 ≤ (grI (rqA dy pct cr IR LR tn sh) (ist (IR tn) / ipk (IR tn)).toNat sn) ∧ (grI (rqA dy pct cr IR LR tn sh) (ist (IR tn) / ipk (IR tn)).toNat sn) < 2147483648) : Met l yL_shareByPacks ws_L_shareByPacks ({ frames := 9, cells := 3, slots := 18, locals := 149 }) (va_Pc [.ref kr, .int (iI (((sn : Nat) : Int))), .int (iI (((tn : Nat) : Int))), .ref po] (PE D cs ([(po, .inl (cs 4, 1, .inr (.inl ov))), (kr, .inr (5, [.ref la, .ref ia, .ref na, .ref b4, .ref b6, .ref b8, .ref b10, .int (iI (((sh : Nat) : Int))), .int (iI (((it : Nat) : Int))), .int (iI (lc)), .int (iI (((dy : Nat) : Int))), .int (iI (pct)), .int (iI (lr)), .int (iI (sr))])), (la, arI cs 4 lf), (ia, arQ cs 2 5 (itq it IA)), (na, arQ cs 3 20 (lnq cr LA)), (b4, .inr (0, [.ref ulr])), (ulr, arI cs 1005 lrf), (b6, .inr (0, [.ref usr])), (usr, arI cs 1005 srf), (b8, .inr (2, [.ref ur, .int (iI (rv))])), (ur, arI cs 7 rse), (b10, .inr (4, [.ref uq, .ref ug, .int (iI (pn))])), (uq, arI cs 4 rq), (ug, arI cs 4 gv)] ++ (aW cs IA LA it cr IR LR)) (inW ([(po, .inl (cs 4, 1, .inr (.inl ov))), (kr, .inr (5, [.ref la, .ref ia, .ref na, .ref b4, .ref b6, .ref b8, .ref b10, .int (iI (((sh : Nat) : Int))), .int (iI (((it : Nat) : Int))), .int (iI (lc)), .int (iI (((dy : Nat) : Int))), .int (iI (pct)), .int (iI (lr)), .int (iI (sr))])), (la, arI cs 4 lf), (ia, arQ cs 2 5 (itq it IA)), (na, arQ cs 3 20 (lnq cr LA)), (b4, .inr (0, [.ref ulr])), (ulr, arI cs 1005 lrf), (b6, .inr (0, [.ref usr])), (usr, arI cs 1005 srf), (b8, .inr (2, [.ref ur, .int (iI (rv))])), (ur, arI cs 7 rse), (b10, .inr (4, [.ref uq, .ref ug, .int (iI (pn))])), (uq, arI cs 4 rq), (ug, arI cs 4 gv)] ++ (aW cs IA LA it cr IR LR))))) (va_Qi (fun r (_ : Unit) => r = iI (0)) (fun _ t => va_P D vwCl ([(po, .inl (cs 4, 1, .inr (.inl (vp_updL ov 0 (lI (grI (rqA dy pct cr IR LR tn sh) (ist (IR tn) / ipk (IR tn)).toNat sn)))))), (kr, .inr (5, [.ref la, .ref ia, .ref na, .ref b4, .ref b6, .ref b8, .ref b10, .int (iI (((sh : Nat) : Int))), .int (iI (((it : Nat) : Int))), .int (iI (lc)), .int (iI (((dy : Nat) : Int))), .int (iI (pct)), .int (iI (lr)), .int (iI (sr))])), (la, arI cs 4 lf), (ia, arQ cs 2 5 (itq it IA)), (na, arQ cs 3 20 (lnq cr LA)), (b4, .inr (0, [.ref ulr])), (ulr, arI cs 1005 lrf), (b6, .inr (0, [.ref usr])), (usr, arI cs 1005 srf), (b8, .inr (2, [.ref ur, .int (iI (rv))])), (ur, arI cs 7 rse), (b10, .inr (4, [.ref uq, .ref ug, .int (iI (ist (IR tn) / ipk (IR tn)))])), (uq, arI cs 4 (rqA dy pct cr IR LR tn sh)), (ug, arI cs 4 (grI (rqA dy pct cr IR LR tn sh) (ist (IR tn) / ipk (IR tn)).toNat))] ++ (aW cs IA LA it cr IR LR)) t.heap) (inW ([(po, .inl (cs 4, 1, .inr (.inl ov))), (kr, .inr (5, [.ref la, .ref ia, .ref na, .ref b4, .ref b6, .ref b8, .ref b10, .int (iI (((sh : Nat) : Int))), .int (iI (((it : Nat) : Int))), .int (iI (lc)), .int (iI (((dy : Nat) : Int))), .int (iI (pct)), .int (iI (lr)), .int (iI (sr))])), (la, arI cs 4 lf), (ia, arQ cs 2 5 (itq it IA)), (na, arQ cs 3 20 (lnq cr LA)), (b4, .inr (0, [.ref ulr])), (ulr, arI cs 1005 lrf), (b6, .inr (0, [.ref usr])), (usr, arI cs 1005 srf), (b8, .inr (2, [.ref ur, .int (iI (rv))])), (ur, arI cs 7 rse), (b10, .inr (4, [.ref uq, .ref ug, .int (iI (pn))])), (uq, arI cs 4 rq), (ug, arI cs 4 gv)] ++ (aW cs IA LA it cr IR LR)))) 3 18 (inW ([(po, .inl (cs 4, 1, .inr (.inl ov))), (kr, .inr (5, [.ref la, .ref ia, .ref na, .ref b4, .ref b6, .ref b8, .ref b10, .int (iI (((sh : Nat) : Int))), .int (iI (((it : Nat) : Int))), .int (iI (lc)), .int (iI (((dy : Nat) : Int))), .int (iI (pct)), .int (iI (lr)), .int (iI (sr))])), (la, arI cs 4 lf), (ia, arQ cs 2 5 (itq it IA)), (na, arQ cs 3 20 (lnq cr LA)), (b4, .inr (0, [.ref ulr])), (ulr, arI cs 1005 lrf), (b6, .inr (0, [.ref usr])), (usr, arI cs 1005 srf), (b8, .inr (2, [.ref ur, .int (iI (rv))])), (ur, arI cs 7 rse), (b10, .inr (4, [.ref uq, .ref ug, .int (iI (pn))])), (uq, arI cs 4 rq), (ug, arI cs 4 gv)] ++ (aW cs IA LA it cr IR LR))) := by
  refine va_MetW (cc := cL_shareByPacks) (maxL := 5) (ret := some .int) (hh := [(0, 10, 13, 25), (0, 10, 17, 50)]) (by decide +kernel) rfl ?_
  intro p e s m args below meth c s₁ B hml hv
  obtain ⟨rfl, ⟨hP, hK, hD, hN⟩, hE⟩ := hv
  have hx := B.exec
  have hb := B.bytes
  have hr := B.returns
  have hts : ∀ w ∈ ALL, w.before _ s = true := fun w h => atoms_spec (ws := ws_L_shareByPacks) B.pre w (List.mem_cons_of_mem _ h)
  have hown : s.vm.findClass RL = some m.cls := findClass_of_methodNamed B.named
  have hlocks := B.notSynchronized
  have htab : c.exceptionTable.toList = tableOf [(0, 10, 13, 25), (0, 10, 17, 50)] := vx_table (x := yL_shareByPacks) B (atoms_spec (ws := ws_L_shareByPacks) B.pre _ List.mem_cons_self)
  generalize hAe : inW ([(po, .inl (cs 4, 1, .inr (.inl ov))), (kr, .inr (5, [.ref la, .ref ia, .ref na, .ref b4, .ref b6, .ref b8, .ref b10, .int (iI (((sh : Nat) : Int))), .int (iI (((it : Nat) : Int))), .int (iI (lc)), .int (iI (((dy : Nat) : Int))), .int (iI (pct)), .int (iI (lr)), .int (iI (sr))])), (la, arI cs 4 lf), (ia, arQ cs 2 5 (itq it IA)), (na, arQ cs 3 20 (lnq cr LA)), (b4, .inr (0, [.ref ulr])), (ulr, arI cs 1005 lrf), (b6, .inr (0, [.ref usr])), (usr, arI cs 1005 srf), (b8, .inr (2, [.ref ur, .int (iI (rv))])), (ur, arI cs 7 rse), (b10, .inr (4, [.ref uq, .ref ug, .int (iI (pn))])), (uq, arI cs 4 rq), (ug, arI cs 4 gv)] ++ (aW cs IA LA it cr IR LR)) = A at hD hE ⊢
  have hS : va_S A s.heap s.heap [] := va_S.rf
  have hl := lv_entry ([.ref kr, .int (iI (((sn : Nat) : Int))), .int (iI (((tn : Nat) : Int))), .ref po]) (n := 5) (Nat.le_of_ble_eq_true rfl)
  rw [lg_entry_eq]
  generalize (lg_sl ([.ref kr, .int (iI (((sn : Nat) : Int))), .int (iI (((tn : Nat) : Int))), .ref po]) ++ List.replicate (5 - (lg_sl ([.ref kr, .int (iI (((sn : Nat) : Int))), .int (iI (((tn : Nat) : Int))), .ref po])).length) Slot.unset).toArray = ls at hl ⊢
  have hl : lv_has ls 5 [(0, .ref kr), (1, .int (iI (((sn : Nat) : Int)))), (2, .int (iI (((tn : Nat) : Int)))), (3, .ref po)] := hl
  have hH := rfl (a := s.heap)
  refine lv_aload_n hx hb dL_shareByPacks_0 rfl (lv_at hl 3 rfl) ?_
  refine lv_iconst (v := iI (0)) hx hb dL_shareByPacks_1 rfl ?_
  refine lv_aload_n hx hb dL_shareByPacks_2 rfl (lv_at hl 0 rfl) ?_
  refine lv_iload_n hx hb dL_shareByPacks_3 rfl (lv_at hl 1 rfl) ?_
  refine lv_iload_n hx hb dL_shareByPacks_4 rfl (lv_at hl 2 rfl) ?_
  refine vx_calli (vx_runV (As := [.int (iI (((sn : Nat) : Int))), .int (iI (((tn : Nat) : Int)))]) (rest := [.int (iI (0)), .ref po]) ⟨hx, hb, hml, hown, hts⟩ (m_X5_shareByPacks_ok l hst D cs kr la ia na b4 b6 b8 b10 sh it lc dy pct lr sr ulr usr ur uq ug lf lrf srf rse rq gv rv pn IA LA cr IR LR sn tn (hsh) (hit) (hsn) (htn) (hcr) (hd) (hpc) (hlk) (hik)) (cwV 2 hts (gV w_742 w_743 w_744 w_1 w_745) rfl rfl rfl (by decide +kernel) ⟨Nat.le_of_ble_eq_true rfl, Nat.le_of_ble_eq_true rfl⟩) (PE_Va hK hN hE hS (fun q h => inW_suba (D_R (E := [(po, .inl (cs 4, 1, .inr (.inl ov)))]) (Wc := ([(kr, .inr (5, [.ref la, .ref ia, .ref na, .ref b4, .ref b6, .ref b8, .ref b10, .int (iI (((sh : Nat) : Int))), .int (iI (((it : Nat) : Int))), .int (iI (lc)), .int (iI (((dy : Nat) : Int))), .int (iI (pct)), .int (iI (lr)), .int (iI (sr))])), (la, arI cs 4 lf), (ia, arQ cs 2 5 (itq it IA)), (na, arQ cs 3 20 (lnq cr LA)), (b4, .inr (0, [.ref ulr])), (ulr, arI cs 1005 lrf), (b6, .inr (0, [.ref usr])), (usr, arI cs 1005 srf), (b8, .inr (2, [.ref ur, .int (iI (rv))])), (ur, arI cs 7 rse), (b10, .inr (4, [.ref uq, .ref ug, .int (iI (pn))])), (uq, arI cs 4 rq), (ug, arI cs 4 gv)] ++ (aW cs IA LA it cr IR LR))) hD) q h) (P_R (E := [(po, .inl (cs 4, 1, .inr (.inl ov)))]) (Wc := ([(kr, .inr (5, [.ref la, .ref ia, .ref na, .ref b4, .ref b6, .ref b8, .ref b10, .int (iI (((sh : Nat) : Int))), .int (iI (((it : Nat) : Int))), .int (iI (lc)), .int (iI (((dy : Nat) : Int))), .int (iI (pct)), .int (iI (lr)), .int (iI (sr))])), (la, arI cs 4 lf), (ia, arQ cs 2 5 (itq it IA)), (na, arQ cs 3 20 (lnq cr LA)), (b4, .inr (0, [.ref ulr])), (ulr, arI cs 1005 lrf), (b6, .inr (0, [.ref usr])), (usr, arI cs 1005 srf), (b8, .inr (2, [.ref ur, .int (iI (rv))])), (ur, arI cs 7 rse), (b10, .inr (4, [.ref uq, .ref ug, .int (iI (pn))])), (uq, arI cs 4 rq), (ug, arI cs 4 gv)] ++ (aW cs IA LA it cr IR LR))) hP) (D_R (E := [(po, .inl (cs 4, 1, .inr (.inl ov)))]) (Wc := ([(kr, .inr (5, [.ref la, .ref ia, .ref na, .ref b4, .ref b6, .ref b8, .ref b10, .int (iI (((sh : Nat) : Int))), .int (iI (((it : Nat) : Int))), .int (iI (lc)), .int (iI (((dy : Nat) : Int))), .int (iI (pct)), .int (iI (lr)), .int (iI (sr))])), (la, arI cs 4 lf), (ia, arQ cs 2 5 (itq it IA)), (na, arQ cs 3 20 (lnq cr LA)), (b4, .inr (0, [.ref ulr])), (ulr, arI cs 1005 lrf), (b6, .inr (0, [.ref usr])), (usr, arI cs 1005 srf), (b8, .inr (2, [.ref ur, .int (iI (rv))])), (ur, arI cs 7 rse), (b10, .inr (4, [.ref uq, .ref ug, .int (iI (pn))])), (uq, arI cs 4 rq), (ug, arI cs 4 gv)] ++ (aW cs IA LA it cr IR LR))) hD) rfl rfl) rfl rfl hl.1 rfl (lv_room (Nat.le_of_ble_eq_true rfl)) dL_shareByPacks_5 ⟨Nat.le_of_ble_eq_true rfl, Nat.le_of_ble_eq_true rfl⟩) hS (fun q _ h => inW_suba (D_R (E := [(po, .inl (cs 4, 1, .inr (.inl ov)))]) (Wc := ([(kr, .inr (5, [.ref la, .ref ia, .ref na, .ref b4, .ref b6, .ref b8, .ref b10, .int (iI (((sh : Nat) : Int))), .int (iI (((it : Nat) : Int))), .int (iI (lc)), .int (iI (((dy : Nat) : Int))), .int (iI (pct)), .int (iI (lr)), .int (iI (sr))])), (la, arI cs 4 lf), (ia, arQ cs 2 5 (itq it IA)), (na, arQ cs 3 20 (lnq cr LA)), (b4, .inr (0, [.ref ulr])), (ulr, arI cs 1005 lrf), (b6, .inr (0, [.ref usr])), (usr, arI cs 1005 srf), (b8, .inr (2, [.ref ur, .int (iI (rv))])), (ur, arI cs 7 rse), (b10, .inr (4, [.ref uq, .ref ug, .int (iI (pn))])), (uq, arI cs 4 rq), (ug, arI cs 4 gv)] ++ (aW cs IA LA it cr IR LR))) hD) q h) (fun q h => inW_suba (D_R (E := [(po, .inl (cs 4, 1, .inr (.inl ov)))]) (Wc := ([(kr, .inr (5, [.ref la, .ref ia, .ref na, .ref b4, .ref b6, .ref b8, .ref b10, .int (iI (((sh : Nat) : Int))), .int (iI (((it : Nat) : Int))), .int (iI (lc)), .int (iI (((dy : Nat) : Int))), .int (iI (pct)), .int (iI (lr)), .int (iI (sr))])), (la, arI cs 4 lf), (ia, arQ cs 2 5 (itq it IA)), (na, arQ cs 3 20 (lnq cr LA)), (b4, .inr (0, [.ref ulr])), (ulr, arI cs 1005 lrf), (b6, .inr (0, [.ref usr])), (usr, arI cs 1005 srf), (b8, .inr (2, [.ref ur, .int (iI (rv))])), (ur, arI cs 7 rse), (b10, .inr (4, [.ref uq, .ref ug, .int (iI (pn))])), (uq, arI cs 4 rq), (ug, arI cs 4 gv)] ++ (aW cs IA LA it cr IR LR))) hD) q h) (fun q _ h => inW_suba (D_R (E := [(po, .inl (cs 4, 1, .inr (.inl ov)))]) (Wc := ([(kr, .inr (5, [.ref la, .ref ia, .ref na, .ref b4, .ref b6, .ref b8, .ref b10, .int (iI (((sh : Nat) : Int))), .int (iI (((it : Nat) : Int))), .int (iI (lc)), .int (iI (((dy : Nat) : Int))), .int (iI (pct)), .int (iI (lr)), .int (iI (sr))])), (la, arI cs 4 lf), (ia, arQ cs 2 5 (itq it IA)), (na, arQ cs 3 20 (lnq cr LA)), (b4, .inr (0, [.ref ulr])), (ulr, arI cs 1005 lrf), (b6, .inr (0, [.ref usr])), (usr, arI cs 1005 srf), (b8, .inr (2, [.ref ur, .int (iI (rv))])), (ur, arI cs 7 rse), (b10, .inr (4, [.ref uq, .ref ug, .int (iI (pn))])), (uq, arI cs 4 rq), (ug, arI cs 4 gv)] ++ (aW cs IA LA it cr IR LR))) hD) q h) (fun E ce q9 u t H1 locs1 ht hvm hpx hBX hz1 hk1 hS1 hce hcv hcl => ?_) (fun r u t H locs ht hvm hw hB hz1 hk1 hS => ?_)
  · exact absurd (hpx.1) hpx.2
  obtain ⟨hc2, hw⟩ := hw
  subst hw
  rw [ht] at hB
  obtain ⟨hP, hD⟩ := my_joinE (E := [(po, .inl (cs 4, 1, .inr (.inl ov)))]) (Wc := ([(kr, .inr (5, [.ref la, .ref ia, .ref na, .ref b4, .ref b6, .ref b8, .ref b10, .int (iI (((sh : Nat) : Int))), .int (iI (((it : Nat) : Int))), .int (iI (lc)), .int (iI (((dy : Nat) : Int))), .int (iI (pct)), .int (iI (lr)), .int (iI (sr))])), (la, arI cs 4 lf), (ia, arQ cs 2 5 (itq it IA)), (na, arQ cs 3 20 (lnq cr LA)), (b4, .inr (0, [.ref ulr])), (ulr, arI cs 1005 lrf), (b6, .inr (0, [.ref usr])), (usr, arI cs 1005 srf), (b8, .inr (2, [.ref ur, .int (iI (rv))])), (ur, arI cs 7 rse), (b10, .inr (4, [.ref uq, .ref ug, .int (iI (pn))])), (uq, arI cs 4 rq), (ug, arI cs 4 gv)] ++ (aW cs IA LA it cr IR LR))) (W2 := ([(kr, .inr (5, [.ref la, .ref ia, .ref na, .ref b4, .ref b6, .ref b8, .ref b10, .int (iI (((sh : Nat) : Int))), .int (iI (((it : Nat) : Int))), .int (iI (lc)), .int (iI (((dy : Nat) : Int))), .int (iI (pct)), .int (iI (lr)), .int (iI (sr))])), (la, arI cs 4 lf), (ia, arQ cs 2 5 (itq it IA)), (na, arQ cs 3 20 (lnq cr LA)), (b4, .inr (0, [.ref ulr])), (ulr, arI cs 1005 lrf), (b6, .inr (0, [.ref usr])), (usr, arI cs 1005 srf), (b8, .inr (2, [.ref ur, .int (iI (rv))])), (ur, arI cs 7 rse), (b10, .inr (4, [.ref uq, .ref ug, .int (iI (ist (IR tn) / ipk (IR tn)))])), (uq, arI cs 4 (rqA dy pct cr IR LR tn sh)), (ug, arI cs 4 (grI (rqA dy pct cr IR LR tn sh) (ist (IR tn) / ipk (IR tn)).toNat))] ++ (aW cs IA LA it cr IR LR))) hP hD (fst_ap rfl aW_fst) hk1 hB
  have hP : va_P D vwCl ([(po, .inl (cs 4, 1, .inr (.inl ov))), (kr, .inr (5, [.ref la, .ref ia, .ref na, .ref b4, .ref b6, .ref b8, .ref b10, .int (iI (((sh : Nat) : Int))), .int (iI (((it : Nat) : Int))), .int (iI (lc)), .int (iI (((dy : Nat) : Int))), .int (iI (pct)), .int (iI (lr)), .int (iI (sr))])), (la, arI cs 4 lf), (ia, arQ cs 2 5 (itq it IA)), (na, arQ cs 3 20 (lnq cr LA)), (b4, .inr (0, [.ref ulr])), (ulr, arI cs 1005 lrf), (b6, .inr (0, [.ref usr])), (usr, arI cs 1005 srf), (b8, .inr (2, [.ref ur, .int (iI (rv))])), (ur, arI cs 7 rse), (b10, .inr (4, [.ref uq, .ref ug, .int (iI (ist (IR tn) / ipk (IR tn)))])), (uq, arI cs 4 (rqA dy pct cr IR LR tn sh)), (ug, arI cs 4 (grI (rqA dy pct cr IR LR tn sh) (ist (IR tn) / ipk (IR tn)).toNat))] ++ (aW cs IA LA it cr IR LR)) H := hP
  have hD : va_D A ([(po, .inl (cs 4, 1, .inr (.inl ov))), (kr, .inr (5, [.ref la, .ref ia, .ref na, .ref b4, .ref b6, .ref b8, .ref b10, .int (iI (((sh : Nat) : Int))), .int (iI (((it : Nat) : Int))), .int (iI (lc)), .int (iI (((dy : Nat) : Int))), .int (iI (pct)), .int (iI (lr)), .int (iI (sr))])), (la, arI cs 4 lf), (ia, arQ cs 2 5 (itq it IA)), (na, arQ cs 3 20 (lnq cr LA)), (b4, .inr (0, [.ref ulr])), (ulr, arI cs 1005 lrf), (b6, .inr (0, [.ref usr])), (usr, arI cs 1005 srf), (b8, .inr (2, [.ref ur, .int (iI (rv))])), (ur, arI cs 7 rse), (b10, .inr (4, [.ref uq, .ref ug, .int (iI (ist (IR tn) / ipk (IR tn)))])), (uq, arI cs 4 (rqA dy pct cr IR LR tn sh)), (ug, arI cs 4 (grI (rqA dy pct cr IR LR tn sh) (ist (IR tn) / ipk (IR tn)).toNat))] ++ (aW cs IA LA it cr IR LR)) := hD
  refine my_i2l hx hb dL_shareByPacks_8 (by omega) ?_
  refine my_last0 hx hb hK hP hD hS 0 rfl dL_shareByPacks_9 (fun H locs hP hD hS => ?_)
  have hP : va_P D vwCl ([(po, .inl (cs 4, 1, .inr (.inl (vp_updL ov 0 (lI (grI (rqA dy pct cr IR LR tn sh) (ist (IR tn) / ipk (IR tn)).toNat sn)))))), (kr, .inr (5, [.ref la, .ref ia, .ref na, .ref b4, .ref b6, .ref b8, .ref b10, .int (iI (((sh : Nat) : Int))), .int (iI (((it : Nat) : Int))), .int (iI (lc)), .int (iI (((dy : Nat) : Int))), .int (iI (pct)), .int (iI (lr)), .int (iI (sr))])), (la, arI cs 4 lf), (ia, arQ cs 2 5 (itq it IA)), (na, arQ cs 3 20 (lnq cr LA)), (b4, .inr (0, [.ref ulr])), (ulr, arI cs 1005 lrf), (b6, .inr (0, [.ref usr])), (usr, arI cs 1005 srf), (b8, .inr (2, [.ref ur, .int (iI (rv))])), (ur, arI cs 7 rse), (b10, .inr (4, [.ref uq, .ref ug, .int (iI (ist (IR tn) / ipk (IR tn)))])), (uq, arI cs 4 (rqA dy pct cr IR LR tn sh)), (ug, arI cs 4 (grI (rqA dy pct cr IR LR tn sh) (ist (IR tn) / ipk (IR tn)).toNat))] ++ (aW cs IA LA it cr IR LR)) H := hP
  have hD : va_D A ([(po, .inl (cs 4, 1, .inr (.inl (vp_updL ov 0 (lI (grI (rqA dy pct cr IR LR tn sh) (ist (IR tn) / ipk (IR tn)).toNat sn)))))), (kr, .inr (5, [.ref la, .ref ia, .ref na, .ref b4, .ref b6, .ref b8, .ref b10, .int (iI (((sh : Nat) : Int))), .int (iI (((it : Nat) : Int))), .int (iI (lc)), .int (iI (((dy : Nat) : Int))), .int (iI (pct)), .int (iI (lr)), .int (iI (sr))])), (la, arI cs 4 lf), (ia, arQ cs 2 5 (itq it IA)), (na, arQ cs 3 20 (lnq cr LA)), (b4, .inr (0, [.ref ulr])), (ulr, arI cs 1005 lrf), (b6, .inr (0, [.ref usr])), (usr, arI cs 1005 srf), (b8, .inr (2, [.ref ur, .int (iI (rv))])), (ur, arI cs 7 rse), (b10, .inr (4, [.ref uq, .ref ug, .int (iI (ist (IR tn) / ipk (IR tn)))])), (uq, arI cs 4 (rqA dy pct cr IR LR tn sh)), (ug, arI cs 4 (grI (rqA dy pct cr IR LR tn sh) (ist (IR tn) / ipk (IR tn)).toNat))] ++ (aW cs IA LA it cr IR LR)) := hD
  refine lv_goto (tgt := 21) hx hb dL_shareByPacks_10 (by decide) ?_
  refine lv_iconst (v := iI (0)) hx hb dL_shareByPacks_21 rfl ?_
  subst hAe
  refine W.widen (k := 3) (n := 18) (by omega) (by omega) ?_
  have hres : iI (0) = iI (0) := congrArg iI (by
      rfl)
  exact W.iret hx hb hr (fun t ht hW => ⟨⟨_, (), rfl, hres, by show va_P D vwCl _ t.heap; rw [ht]; exact hP⟩, hS.F ht⟩) hS.2.2 dL_shareByPacks_22

abbrev ws_L_season : List Cond := Cond.codeWith yL_season cL_season 6 (some .int) [(0, 12, 15, 25), (0, 12, 19, 50), (0, 12, 23, 13)] :: ALL
set_option maxHeartbeats 4000000 in
set_option maxRecDepth 100000 in
theorem m_L_season_no_t (l : Launch) (hst : l.stackTraces = false) (D : va_G) (cs : Nat → ClassId) (kr la ia na b4 b6 b8 b10 sh it : Nat) (lc : Int) (dy : Nat) (pct lr sr : Int) (lf : Nat → Int) (itf : Nat → Option Nat) (lnf : Nat → Option Nat) (zs zi : Int) (z0 : Int) (po : Nat) (ov : Nat → Int64) (hsh : sh ≤ 4) (hit : it ≤ 5) (hitf : ∀ j, j < it → itf j ≠ none) (hzs : -2147483648 ≤ zs ∧ zs < 2147483648) (hzi : -2147483648 ≤ zi ∧ zi < 2147483648) (hno : cdL sh it lnf zs zi ≠ 0) : Met l yL_season ws_L_season ({ frames := 9, cells := 3, slots := 18, locals := 151 }) (va_Pc [.ref kr, .int (iI (zs)), .int (iI (zi)), .int (iI (z0)), .ref po] (PE D cs [(po, .inl (cs 4, 1, .inr (.inl ov))), (kr, .inr (5, [.ref la, .ref ia, .ref na, .ref b4, .ref b6, .ref b8, .ref b10, .int (iI (((sh : Nat) : Int))), .int (iI (((it : Nat) : Int))), .int (iI (lc)), .int (iI (((dy : Nat) : Int))), .int (iI (pct)), .int (iI (lr)), .int (iI (sr))])), (la, arI cs 4 lf), (ia, arQ cs 2 5 itf), (na, arQ cs 3 20 lnf)] noA)) (va_Qi (fun r (_ : Unit) => r = iI (hkI [1, 2, 3] (cdL sh it lnf zs zi))) (fun _ _ => True) noA) 3 18 noA := by
  refine va_MetW (cc := cL_season) (maxL := 6) (ret := some .int) (hh := [(0, 12, 15, 25), (0, 12, 19, 50), (0, 12, 23, 13)]) (by decide +kernel) rfl ?_
  intro p e s m args below meth c s₁ B hml hv
  obtain ⟨rfl, ⟨hP, hK, hD, hN⟩, hE⟩ := hv
  have hx := B.exec
  have hb := B.bytes
  have hr := B.returns
  have hts : ∀ w ∈ ALL, w.before _ s = true := fun w h => atoms_spec (ws := ws_L_season) B.pre w (List.mem_cons_of_mem _ h)
  have hown : s.vm.findClass RL = some m.cls := findClass_of_methodNamed B.named
  have hlocks := B.notSynchronized
  have htab : c.exceptionTable.toList = tableOf [(0, 12, 15, 25), (0, 12, 19, 50), (0, 12, 23, 13)] := vx_table (x := yL_season) B (atoms_spec (ws := ws_L_season) B.pre _ List.mem_cons_self)
  have hS : va_S noA s.heap s.heap [] := va_S.rf
  generalize inW [(po, .inl (cs 4, 1, .inr (.inl ov))), (kr, .inr (5, [.ref la, .ref ia, .ref na, .ref b4, .ref b6, .ref b8, .ref b10, .int (iI (((sh : Nat) : Int))), .int (iI (((it : Nat) : Int))), .int (iI (lc)), .int (iI (((dy : Nat) : Int))), .int (iI (pct)), .int (iI (lr)), .int (iI (sr))])), (la, arI cs 4 lf), (ia, arQ cs 2 5 itf), (na, arQ cs 3 20 lnf)] = A at hD
  have hl := lv_entry ([.ref kr, .int (iI (zs)), .int (iI (zi)), .int (iI (z0)), .ref po]) (n := 6) (Nat.le_of_ble_eq_true rfl)
  rw [lg_entry_eq]
  generalize (lg_sl ([.ref kr, .int (iI (zs)), .int (iI (zi)), .int (iI (z0)), .ref po]) ++ List.replicate (6 - (lg_sl ([.ref kr, .int (iI (zs)), .int (iI (zi)), .int (iI (z0)), .ref po])).length) Slot.unset).toArray = ls at hl ⊢
  have hl : lv_has ls 6 [(0, .ref kr), (1, .int (iI (zs))), (2, .int (iI (zi))), (3, .int (iI (z0))), (4, .ref po)] := hl
  have hH := rfl (a := s.heap)
  refine lv_aload hx hb dL_season_0 (lv_at hl 4 rfl) ?_
  refine lv_iconst (v := iI (0)) hx hb dL_season_2 rfl ?_
  refine lv_aload_n hx hb dL_season_3 rfl (lv_at hl 0 rfl) ?_
  refine lv_iload_n hx hb dL_season_4 rfl (lv_at hl 1 rfl) ?_
  refine lv_iload_n hx hb dL_season_5 rfl (lv_at hl 2 rfl) ?_
  refine lv_iload_n hx hb dL_season_6 rfl (lv_at hl 3 rfl) ?_
  have pk1 : picks [(po, .inl (cs 4, 1, .inr (.inl ov))), (kr, .inr (5, [.ref la, .ref ia, .ref na, .ref b4, .ref b6, .ref b8, .ref b10, .int (iI (((sh : Nat) : Int))), .int (iI (((it : Nat) : Int))), .int (iI (lc)), .int (iI (((dy : Nat) : Int))), .int (iI (pct)), .int (iI (lr)), .int (iI (sr))])), (la, arI cs 4 lf), (ia, arQ cs 2 5 itf), (na, arQ cs 3 20 lnf)] [1, 2, 3, 4] [(kr, .inr (5, [.ref la, .ref ia, .ref na, .ref b4, .ref b6, .ref b8, .ref b10, .int (iI (((sh : Nat) : Int))), .int (iI (((it : Nat) : Int))), .int (iI (lc)), .int (iI (((dy : Nat) : Int))), .int (iI (pct)), .int (iI (lr)), .int (iI (sr))])), (la, arI cs 4 lf), (ia, arQ cs 2 5 itf), (na, arQ cs 3 20 lnf)] := ⟨rfl, rfl, rfl, rfl, trivial⟩
  refine vx_calli (vx_runV (As := [.int (iI (zs)), .int (iI (zi)), .int (iI (z0))]) (rest := [.int (iI (0)), .ref po]) ⟨hx, hb, hml, hown, hts⟩ (m_X5_season_no l hst D cs kr la ia na b4 b6 b8 b10 sh it lc dy pct lr sr lf itf lnf zs zi z0 (hsh) (hit) (hitf) (hzs) (hzi) (hno)) (cwV 3 hts (gV w_641 w_642 w_643 w_1 w_644) rfl rfl rfl (by decide +kernel) ⟨Nat.le_of_ble_eq_true rfl, Nat.le_of_ble_eq_true rfl⟩) (PE_V hK hN hE hS (fun _ h => False.elim h) hP hD [1, 2, 3, 4] rfl pk1 rfl rfl) rfl rfl hl.1 rfl (lv_room (Nat.le_of_ble_eq_true rfl)) dL_season_7 ⟨Nat.le_of_ble_eq_true rfl, Nat.le_of_ble_eq_true rfl⟩) hS (fun _ _ h => False.elim h) (fun _ h => False.elim h) (fun _ _ h => False.elim h) (fun E ce q9 u t H1 locs1 ht hvm hpx hBX hz1 hk1 hS1 hce hcv hcl => ?_) (fun r u t H locs ht hvm hw hB hz1 hk1 hS => ?_)
  · have h9 : u = cdL sh it lnf zs zi := hpx.1
    have hS := hS1
    have hcd : cdL sh it lnf zs zi = 2 ∨ cdL sh it lnf zs zi = 1 := by
      revert hno
      (try unfold cdL); (try unfold cdS); (try unfold cdC)
      (repeat' split) <;> simp
    have hEu := hBX
    have hP := P_kept hP hk1
    rcases hcd with hc3 | hcd
    · have hE3 : E = "java/util/NoSuchElementException" := by have h8 : E = exN u := hEu; rw [h8, h9, hc3]; rfl
      subst hE3
      refine vx_catch (name := "java/util/NoSuchElementException") hown [⟨0, 12, 15, 25⟩] ⟨0, 12, 19, 50⟩ [⟨0, 12, 23, 13⟩] (htab.trans rfl) (fun z hz => by
          simp only [List.mem_cons, List.not_mem_nil, or_false] at hz
          rcases hz with rfl
          · exact Or.inr ⟨by decide, "java/lang/IndexOutOfBoundsException", hts _ w_266, hE.2.2.2.2.2 _ (List.mem_of_getElem? (i := 10) rfl)⟩) rfl (by decide) (hts _ w_455) (hE.use _ (List.mem_append_right _ (List.mem_map.mpr ⟨_, List.mem_of_getElem? (i := 1) rfl, rfl⟩))) hce hcv hcl ?_
      refine lv_astore (lv' := [(5, .ref q9), (0, .ref kr), (1, .int (iI (zs))), (2, .int (iI (zi))), (3, .int (iI (z0))), (4, .ref po)]) hx hb dL_season_19 hl (by decide) rfl (fun ls hl => ?_)
      refine lv_iconst (v := iI (2)) hx hb dL_season_21 rfl ?_
      refine W.widen (k := 3) (n := 18) (by omega) (by omega) ?_
      have hres : iI (2) = iI (hkI [1, 2, 3] (cdL sh it lnf zs zi)) := congrArg iI (by
          rw [hc3]; rfl)
      exact W.iret hx hb hr (fun t ht hW => ⟨⟨_, (), rfl, hres, trivial⟩, hS.F ht⟩) hS.2.2 dL_season_22
    have hc3 := hcd
    have hE3 : E = "java/lang/IndexOutOfBoundsException" := by have h8 : E = exN u := hEu; rw [h8, h9, hc3]; rfl
    subst hE3
    refine vx_catch (name := "java/lang/IndexOutOfBoundsException") hown [] ⟨0, 12, 15, 25⟩ [⟨0, 12, 19, 50⟩, ⟨0, 12, 23, 13⟩] (htab.trans rfl) (fun z hz => by cases hz) rfl (by decide) (hts _ w_266) (hE.use _ (List.mem_append_right _ (List.mem_map.mpr ⟨_, List.mem_of_getElem? (i := 0) rfl, rfl⟩))) hce hcv hcl ?_
    refine lv_astore (lv' := [(5, .ref q9), (0, .ref kr), (1, .int (iI (zs))), (2, .int (iI (zi))), (3, .int (iI (z0))), (4, .ref po)]) hx hb dL_season_15 hl (by decide) rfl (fun ls hl => ?_)
    refine lv_iconst (v := iI (1)) hx hb dL_season_17 rfl ?_
    refine W.widen (k := 3) (n := 18) (by omega) (by omega) ?_
    have hres : iI (1) = iI (hkI [1, 2, 3] (cdL sh it lnf zs zi)) := congrArg iI (by
        rw [hc3]; rfl)
    exact W.iret hx hb hr (fun t ht hW => ⟨⟨_, (), rfl, hres, trivial⟩, hS.F ht⟩) hS.2.2 dL_season_18
  obtain ⟨hc2, hw⟩ := hw
  subst hw
  have hP := P_kept hP hk1
  exact absurd hc2 hno

set_option maxHeartbeats 4000000 in
set_option maxRecDepth 100000 in
theorem m_L_season_ok_r (l : Launch) (hst : l.stackTraces = false) (D : va_G) (cs : Nat → ClassId) (kr la ia na b4 b6 b8 b10 sh it : Nat) (lc : Int) (dy : Nat) (pct lr sr : Int) (lf : Nat → Int) (itf : Nat → Option Nat) (lnf : Nat → Option Nat) (sn tn : Nat) (kn hi kl ke kd ks ka : Nat) (ld fd fk fv es sk so lo : Int) (us : Nat) (lev : Int) (se : Nat → Int) (wz : Int) (po : Nat) (ov : Nat → Int64) (hsh : sh ≤ 4) (hit : it ≤ 5) (hitf : ∀ j, j < it → itf j ≠ none) (hsn : sn < sh) (htn : tn < it) (hln : lnf (sn * 5 + tn) = some kn) (hwz : -2147483648 ≤ wz ∧ wz < 2147483648) (hz : (if 0 ≤ wz ∧ wz < 7 then 0 else 3) = 0) (hrr : -2147483648 ≤ (se wz.toNat) ∧ (se wz.toNat) < 2147483648) : Met l yL_season ws_L_season ({ frames := 9, cells := 4, slots := 24, locals := 151 }) (va_Pc [.ref kr, .int (iI (((sn : Nat) : Int))), .int (iI (((tn : Nat) : Int))), .int (iI (wz)), .ref po] (PE D cs [(po, .inl (cs 4, 1, .inr (.inl ov))), (kr, .inr (5, [.ref la, .ref ia, .ref na, .ref b4, .ref b6, .ref b8, .ref b10, .int (iI (((sh : Nat) : Int))), .int (iI (((it : Nat) : Int))), .int (iI (lc)), .int (iI (((dy : Nat) : Int))), .int (iI (pct)), .int (iI (lr)), .int (iI (sr))])), (la, arI cs 4 lf), (ia, arQ cs 2 5 itf), (na, arQ cs 3 20 lnf), (kn, .inr (3, [.ref hi, .int (iI (ld)), .int (iI (fd)), .int (iI (fk)), .int (iI (fv)), .ref kl, .ref ke, .ref kd, .ref ks, .ref ka, .int (iI (es)), .int (iI (sk)), .int (iI (so)), .int (iI (lo))])), (kl, .inr (2, [.ref us, .int (iI (lev))])), (us, arI cs 7 se)] (inW [(po, .inl (cs 4, 1, .inr (.inl ov))), (kr, .inr (5, [.ref la, .ref ia, .ref na, .ref b4, .ref b6, .ref b8, .ref b10, .int (iI (((sh : Nat) : Int))), .int (iI (((it : Nat) : Int))), .int (iI (lc)), .int (iI (((dy : Nat) : Int))), .int (iI (pct)), .int (iI (lr)), .int (iI (sr))])), (la, arI cs 4 lf), (ia, arQ cs 2 5 itf), (na, arQ cs 3 20 lnf), (kn, .inr (3, [.ref hi, .int (iI (ld)), .int (iI (fd)), .int (iI (fk)), .int (iI (fv)), .ref kl, .ref ke, .ref kd, .ref ks, .ref ka, .int (iI (es)), .int (iI (sk)), .int (iI (so)), .int (iI (lo))])), (kl, .inr (2, [.ref us, .int (iI (lev))])), (us, arI cs 7 se)]))) (va_Qi (fun r (_ : Unit) => r = iI (0)) (fun _ t => va_P D vwCl [(po, .inl (cs 4, 1, .inr (.inl (vp_updL ov 0 (lI (se wz.toNat)))))), (kr, .inr (5, [.ref la, .ref ia, .ref na, .ref b4, .ref b6, .ref b8, .ref b10, .int (iI (((sh : Nat) : Int))), .int (iI (((it : Nat) : Int))), .int (iI (lc)), .int (iI (((dy : Nat) : Int))), .int (iI (pct)), .int (iI (lr)), .int (iI (sr))])), (la, arI cs 4 lf), (ia, arQ cs 2 5 itf), (na, arQ cs 3 20 lnf), (kn, .inr (3, [.ref hi, .int (iI (ld)), .int (iI (fd)), .int (iI (fk)), .int (iI (fv)), .ref kl, .ref ke, .ref kd, .ref ks, .ref ka, .int (iI (es)), .int (iI (sk)), .int (iI (so)), .int (iI (lo))])), (kl, .inr (2, [.ref us, .int (iI (lev))])), (us, arI cs 7 se)] t.heap) (inW [(po, .inl (cs 4, 1, .inr (.inl ov))), (kr, .inr (5, [.ref la, .ref ia, .ref na, .ref b4, .ref b6, .ref b8, .ref b10, .int (iI (((sh : Nat) : Int))), .int (iI (((it : Nat) : Int))), .int (iI (lc)), .int (iI (((dy : Nat) : Int))), .int (iI (pct)), .int (iI (lr)), .int (iI (sr))])), (la, arI cs 4 lf), (ia, arQ cs 2 5 itf), (na, arQ cs 3 20 lnf), (kn, .inr (3, [.ref hi, .int (iI (ld)), .int (iI (fd)), .int (iI (fk)), .int (iI (fv)), .ref kl, .ref ke, .ref kd, .ref ks, .ref ka, .int (iI (es)), .int (iI (sk)), .int (iI (so)), .int (iI (lo))])), (kl, .inr (2, [.ref us, .int (iI (lev))])), (us, arI cs 7 se)])) 4 24 (inW [(po, .inl (cs 4, 1, .inr (.inl ov))), (kr, .inr (5, [.ref la, .ref ia, .ref na, .ref b4, .ref b6, .ref b8, .ref b10, .int (iI (((sh : Nat) : Int))), .int (iI (((it : Nat) : Int))), .int (iI (lc)), .int (iI (((dy : Nat) : Int))), .int (iI (pct)), .int (iI (lr)), .int (iI (sr))])), (la, arI cs 4 lf), (ia, arQ cs 2 5 itf), (na, arQ cs 3 20 lnf), (kn, .inr (3, [.ref hi, .int (iI (ld)), .int (iI (fd)), .int (iI (fk)), .int (iI (fv)), .ref kl, .ref ke, .ref kd, .ref ks, .ref ka, .int (iI (es)), .int (iI (sk)), .int (iI (so)), .int (iI (lo))])), (kl, .inr (2, [.ref us, .int (iI (lev))])), (us, arI cs 7 se)]) := by
  refine va_MetW (cc := cL_season) (maxL := 6) (ret := some .int) (hh := [(0, 12, 15, 25), (0, 12, 19, 50), (0, 12, 23, 13)]) (by decide +kernel) rfl ?_
  intro p e s m args below meth c s₁ B hml hv
  obtain ⟨rfl, ⟨hP, hK, hD, hN⟩, hE⟩ := hv
  have hx := B.exec
  have hb := B.bytes
  have hr := B.returns
  have hts : ∀ w ∈ ALL, w.before _ s = true := fun w h => atoms_spec (ws := ws_L_season) B.pre w (List.mem_cons_of_mem _ h)
  have hown : s.vm.findClass RL = some m.cls := findClass_of_methodNamed B.named
  have hlocks := B.notSynchronized
  have htab : c.exceptionTable.toList = tableOf [(0, 12, 15, 25), (0, 12, 19, 50), (0, 12, 23, 13)] := vx_table (x := yL_season) B (atoms_spec (ws := ws_L_season) B.pre _ List.mem_cons_self)
  generalize hAe : inW [(po, .inl (cs 4, 1, .inr (.inl ov))), (kr, .inr (5, [.ref la, .ref ia, .ref na, .ref b4, .ref b6, .ref b8, .ref b10, .int (iI (((sh : Nat) : Int))), .int (iI (((it : Nat) : Int))), .int (iI (lc)), .int (iI (((dy : Nat) : Int))), .int (iI (pct)), .int (iI (lr)), .int (iI (sr))])), (la, arI cs 4 lf), (ia, arQ cs 2 5 itf), (na, arQ cs 3 20 lnf), (kn, .inr (3, [.ref hi, .int (iI (ld)), .int (iI (fd)), .int (iI (fk)), .int (iI (fv)), .ref kl, .ref ke, .ref kd, .ref ks, .ref ka, .int (iI (es)), .int (iI (sk)), .int (iI (so)), .int (iI (lo))])), (kl, .inr (2, [.ref us, .int (iI (lev))])), (us, arI cs 7 se)] = A at hD hE ⊢
  have hS : va_S A s.heap s.heap [] := va_S.rf
  have hl := lv_entry ([.ref kr, .int (iI (((sn : Nat) : Int))), .int (iI (((tn : Nat) : Int))), .int (iI (wz)), .ref po]) (n := 6) (Nat.le_of_ble_eq_true rfl)
  rw [lg_entry_eq]
  generalize (lg_sl ([.ref kr, .int (iI (((sn : Nat) : Int))), .int (iI (((tn : Nat) : Int))), .int (iI (wz)), .ref po]) ++ List.replicate (6 - (lg_sl ([.ref kr, .int (iI (((sn : Nat) : Int))), .int (iI (((tn : Nat) : Int))), .int (iI (wz)), .ref po])).length) Slot.unset).toArray = ls at hl ⊢
  have hl : lv_has ls 6 [(0, .ref kr), (1, .int (iI (((sn : Nat) : Int)))), (2, .int (iI (((tn : Nat) : Int)))), (3, .int (iI (wz))), (4, .ref po)] := hl
  have hH := rfl (a := s.heap)
  refine lv_aload hx hb dL_season_0 (lv_at hl 4 rfl) ?_
  refine lv_iconst (v := iI (0)) hx hb dL_season_2 rfl ?_
  refine lv_aload_n hx hb dL_season_3 rfl (lv_at hl 0 rfl) ?_
  refine lv_iload_n hx hb dL_season_4 rfl (lv_at hl 1 rfl) ?_
  refine lv_iload_n hx hb dL_season_5 rfl (lv_at hl 2 rfl) ?_
  refine lv_iload_n hx hb dL_season_6 rfl (lv_at hl 3 rfl) ?_
  have pk1 : picks [(po, .inl (cs 4, 1, .inr (.inl ov))), (kr, .inr (5, [.ref la, .ref ia, .ref na, .ref b4, .ref b6, .ref b8, .ref b10, .int (iI (((sh : Nat) : Int))), .int (iI (((it : Nat) : Int))), .int (iI (lc)), .int (iI (((dy : Nat) : Int))), .int (iI (pct)), .int (iI (lr)), .int (iI (sr))])), (la, arI cs 4 lf), (ia, arQ cs 2 5 itf), (na, arQ cs 3 20 lnf), (kn, .inr (3, [.ref hi, .int (iI (ld)), .int (iI (fd)), .int (iI (fk)), .int (iI (fv)), .ref kl, .ref ke, .ref kd, .ref ks, .ref ka, .int (iI (es)), .int (iI (sk)), .int (iI (so)), .int (iI (lo))])), (kl, .inr (2, [.ref us, .int (iI (lev))])), (us, arI cs 7 se)] [1, 2, 3, 4, 5, 6, 7] [(kr, .inr (5, [.ref la, .ref ia, .ref na, .ref b4, .ref b6, .ref b8, .ref b10, .int (iI (((sh : Nat) : Int))), .int (iI (((it : Nat) : Int))), .int (iI (lc)), .int (iI (((dy : Nat) : Int))), .int (iI (pct)), .int (iI (lr)), .int (iI (sr))])), (la, arI cs 4 lf), (ia, arQ cs 2 5 itf), (na, arQ cs 3 20 lnf), (kn, .inr (3, [.ref hi, .int (iI (ld)), .int (iI (fd)), .int (iI (fk)), .int (iI (fv)), .ref kl, .ref ke, .ref kd, .ref ks, .ref ka, .int (iI (es)), .int (iI (sk)), .int (iI (so)), .int (iI (lo))])), (kl, .inr (2, [.ref us, .int (iI (lev))])), (us, arI cs 7 se)] := ⟨rfl, rfl, rfl, rfl, rfl, rfl, rfl, trivial⟩
  refine vx_calli (vx_runV (As := [.int (iI (((sn : Nat) : Int))), .int (iI (((tn : Nat) : Int))), .int (iI (wz))]) (rest := [.int (iI (0)), .ref po]) ⟨hx, hb, hml, hown, hts⟩ (m_X5_season_ok l hst D cs kr la ia na b4 b6 b8 b10 sh it lc dy pct lr sr lf itf lnf sn tn kn hi kl ke kd ks ka ld fd fk fv es sk so lo us lev se wz (hsh) (hit) (hitf) (hsn) (htn) (hln) (hwz)) (cwV 3 hts (gV w_641 w_642 w_643 w_1 w_644) rfl rfl rfl (by decide +kernel) ⟨Nat.le_of_ble_eq_true rfl, Nat.le_of_ble_eq_true rfl⟩) (PE_V hK hN hE hS (fun _ h => False.elim h) hP hD [1, 2, 3, 4, 5, 6, 7] rfl pk1 rfl rfl) rfl rfl hl.1 rfl (lv_room (Nat.le_of_ble_eq_true rfl)) dL_season_7 ⟨Nat.le_of_ble_eq_true rfl, Nat.le_of_ble_eq_true rfl⟩) hS (fun _ _ h => False.elim h) (fun _ h => False.elim h) (fun _ _ h => False.elim h) (fun E ce q9 u t H1 locs1 ht hvm hpx hBX hz1 hk1 hS1 hce hcv hcl => ?_) (fun r u t H locs ht hvm hw hB hz1 hk1 hS => ?_)
  · exact absurd (hpx.1.trans hz) hpx.2
  obtain ⟨hc2, hw⟩ := hw
  subst hw
  have hP := P_kept hP hk1
  refine my_i2l hx hb dL_season_10 (by omega) ?_
  refine my_last0 hx hb hK hP hD hS 0 rfl dL_season_11 (fun H locs hP hD hS => ?_)
  have hP : va_P D vwCl [(po, .inl (cs 4, 1, .inr (.inl (vp_updL ov 0 (lI (se wz.toNat)))))), (kr, .inr (5, [.ref la, .ref ia, .ref na, .ref b4, .ref b6, .ref b8, .ref b10, .int (iI (((sh : Nat) : Int))), .int (iI (((it : Nat) : Int))), .int (iI (lc)), .int (iI (((dy : Nat) : Int))), .int (iI (pct)), .int (iI (lr)), .int (iI (sr))])), (la, arI cs 4 lf), (ia, arQ cs 2 5 itf), (na, arQ cs 3 20 lnf), (kn, .inr (3, [.ref hi, .int (iI (ld)), .int (iI (fd)), .int (iI (fk)), .int (iI (fv)), .ref kl, .ref ke, .ref kd, .ref ks, .ref ka, .int (iI (es)), .int (iI (sk)), .int (iI (so)), .int (iI (lo))])), (kl, .inr (2, [.ref us, .int (iI (lev))])), (us, arI cs 7 se)] H := hP
  have hD : va_D A [(po, .inl (cs 4, 1, .inr (.inl (vp_updL ov 0 (lI (se wz.toNat)))))), (kr, .inr (5, [.ref la, .ref ia, .ref na, .ref b4, .ref b6, .ref b8, .ref b10, .int (iI (((sh : Nat) : Int))), .int (iI (((it : Nat) : Int))), .int (iI (lc)), .int (iI (((dy : Nat) : Int))), .int (iI (pct)), .int (iI (lr)), .int (iI (sr))])), (la, arI cs 4 lf), (ia, arQ cs 2 5 itf), (na, arQ cs 3 20 lnf), (kn, .inr (3, [.ref hi, .int (iI (ld)), .int (iI (fd)), .int (iI (fk)), .int (iI (fv)), .ref kl, .ref ke, .ref kd, .ref ks, .ref ka, .int (iI (es)), .int (iI (sk)), .int (iI (so)), .int (iI (lo))])), (kl, .inr (2, [.ref us, .int (iI (lev))])), (us, arI cs 7 se)] := hD
  refine lv_goto (tgt := 27) hx hb dL_season_12 (by decide) ?_
  refine lv_iconst (v := iI (0)) hx hb dL_season_27 rfl ?_
  subst hAe
  refine W.widen (k := 4) (n := 24) (by omega) (by omega) ?_
  have hres : iI (0) = iI (0) := congrArg iI (by
      rfl)
  exact W.iret hx hb hr (fun t ht hW => ⟨⟨_, (), rfl, hres, by show va_P D vwCl _ t.heap; rw [ht]; exact hP⟩, hS.F ht⟩) hS.2.2 dL_season_28

set_option maxHeartbeats 4000000 in
set_option maxRecDepth 100000 in
theorem m_L_season_ok_t (l : Launch) (hst : l.stackTraces = false) (D : va_G) (cs : Nat → ClassId) (kr la ia na b4 b6 b8 b10 sh it : Nat) (lc : Int) (dy : Nat) (pct lr sr : Int) (lf : Nat → Int) (itf : Nat → Option Nat) (lnf : Nat → Option Nat) (sn tn : Nat) (kn hi kl ke kd ks ka : Nat) (ld fd fk fv es sk so lo : Int) (us : Nat) (lev : Int) (se : Nat → Int) (wz : Int) (po : Nat) (ov : Nat → Int64) (hsh : sh ≤ 4) (hit : it ≤ 5) (hitf : ∀ j, j < it → itf j ≠ none) (hsn : sn < sh) (htn : tn < it) (hln : lnf (sn * 5 + tn) = some kn) (hwz : -2147483648 ≤ wz ∧ wz < 2147483648) (hne : (if 0 ≤ wz ∧ wz < 7 then 0 else 3) ≠ 0) : Met l yL_season ws_L_season ({ frames := 9, cells := 4, slots := 24, locals := 151 }) (va_Pc [.ref kr, .int (iI (((sn : Nat) : Int))), .int (iI (((tn : Nat) : Int))), .int (iI (wz)), .ref po] (PE D cs [(po, .inl (cs 4, 1, .inr (.inl ov))), (kr, .inr (5, [.ref la, .ref ia, .ref na, .ref b4, .ref b6, .ref b8, .ref b10, .int (iI (((sh : Nat) : Int))), .int (iI (((it : Nat) : Int))), .int (iI (lc)), .int (iI (((dy : Nat) : Int))), .int (iI (pct)), .int (iI (lr)), .int (iI (sr))])), (la, arI cs 4 lf), (ia, arQ cs 2 5 itf), (na, arQ cs 3 20 lnf), (kn, .inr (3, [.ref hi, .int (iI (ld)), .int (iI (fd)), .int (iI (fk)), .int (iI (fv)), .ref kl, .ref ke, .ref kd, .ref ks, .ref ka, .int (iI (es)), .int (iI (sk)), .int (iI (so)), .int (iI (lo))])), (kl, .inr (2, [.ref us, .int (iI (lev))])), (us, arI cs 7 se)] noA)) (va_Qi (fun r (_ : Unit) => r = iI (hkI [1, 2, 3] (if 0 ≤ wz ∧ wz < 7 then 0 else 3))) (fun _ _ => True) noA) 4 24 noA := by
  refine va_MetW (cc := cL_season) (maxL := 6) (ret := some .int) (hh := [(0, 12, 15, 25), (0, 12, 19, 50), (0, 12, 23, 13)]) (by decide +kernel) rfl ?_
  intro p e s m args below meth c s₁ B hml hv
  obtain ⟨rfl, ⟨hP, hK, hD, hN⟩, hE⟩ := hv
  have hx := B.exec
  have hb := B.bytes
  have hr := B.returns
  have hts : ∀ w ∈ ALL, w.before _ s = true := fun w h => atoms_spec (ws := ws_L_season) B.pre w (List.mem_cons_of_mem _ h)
  have hown : s.vm.findClass RL = some m.cls := findClass_of_methodNamed B.named
  have hlocks := B.notSynchronized
  have htab : c.exceptionTable.toList = tableOf [(0, 12, 15, 25), (0, 12, 19, 50), (0, 12, 23, 13)] := vx_table (x := yL_season) B (atoms_spec (ws := ws_L_season) B.pre _ List.mem_cons_self)
  have hS : va_S noA s.heap s.heap [] := va_S.rf
  generalize inW [(po, .inl (cs 4, 1, .inr (.inl ov))), (kr, .inr (5, [.ref la, .ref ia, .ref na, .ref b4, .ref b6, .ref b8, .ref b10, .int (iI (((sh : Nat) : Int))), .int (iI (((it : Nat) : Int))), .int (iI (lc)), .int (iI (((dy : Nat) : Int))), .int (iI (pct)), .int (iI (lr)), .int (iI (sr))])), (la, arI cs 4 lf), (ia, arQ cs 2 5 itf), (na, arQ cs 3 20 lnf), (kn, .inr (3, [.ref hi, .int (iI (ld)), .int (iI (fd)), .int (iI (fk)), .int (iI (fv)), .ref kl, .ref ke, .ref kd, .ref ks, .ref ka, .int (iI (es)), .int (iI (sk)), .int (iI (so)), .int (iI (lo))])), (kl, .inr (2, [.ref us, .int (iI (lev))])), (us, arI cs 7 se)] = A at hD
  have hl := lv_entry ([.ref kr, .int (iI (((sn : Nat) : Int))), .int (iI (((tn : Nat) : Int))), .int (iI (wz)), .ref po]) (n := 6) (Nat.le_of_ble_eq_true rfl)
  rw [lg_entry_eq]
  generalize (lg_sl ([.ref kr, .int (iI (((sn : Nat) : Int))), .int (iI (((tn : Nat) : Int))), .int (iI (wz)), .ref po]) ++ List.replicate (6 - (lg_sl ([.ref kr, .int (iI (((sn : Nat) : Int))), .int (iI (((tn : Nat) : Int))), .int (iI (wz)), .ref po])).length) Slot.unset).toArray = ls at hl ⊢
  have hl : lv_has ls 6 [(0, .ref kr), (1, .int (iI (((sn : Nat) : Int)))), (2, .int (iI (((tn : Nat) : Int)))), (3, .int (iI (wz))), (4, .ref po)] := hl
  have hH := rfl (a := s.heap)
  refine lv_aload hx hb dL_season_0 (lv_at hl 4 rfl) ?_
  refine lv_iconst (v := iI (0)) hx hb dL_season_2 rfl ?_
  refine lv_aload_n hx hb dL_season_3 rfl (lv_at hl 0 rfl) ?_
  refine lv_iload_n hx hb dL_season_4 rfl (lv_at hl 1 rfl) ?_
  refine lv_iload_n hx hb dL_season_5 rfl (lv_at hl 2 rfl) ?_
  refine lv_iload_n hx hb dL_season_6 rfl (lv_at hl 3 rfl) ?_
  have pk1 : picks [(po, .inl (cs 4, 1, .inr (.inl ov))), (kr, .inr (5, [.ref la, .ref ia, .ref na, .ref b4, .ref b6, .ref b8, .ref b10, .int (iI (((sh : Nat) : Int))), .int (iI (((it : Nat) : Int))), .int (iI (lc)), .int (iI (((dy : Nat) : Int))), .int (iI (pct)), .int (iI (lr)), .int (iI (sr))])), (la, arI cs 4 lf), (ia, arQ cs 2 5 itf), (na, arQ cs 3 20 lnf), (kn, .inr (3, [.ref hi, .int (iI (ld)), .int (iI (fd)), .int (iI (fk)), .int (iI (fv)), .ref kl, .ref ke, .ref kd, .ref ks, .ref ka, .int (iI (es)), .int (iI (sk)), .int (iI (so)), .int (iI (lo))])), (kl, .inr (2, [.ref us, .int (iI (lev))])), (us, arI cs 7 se)] [1, 2, 3, 4, 5, 6, 7] [(kr, .inr (5, [.ref la, .ref ia, .ref na, .ref b4, .ref b6, .ref b8, .ref b10, .int (iI (((sh : Nat) : Int))), .int (iI (((it : Nat) : Int))), .int (iI (lc)), .int (iI (((dy : Nat) : Int))), .int (iI (pct)), .int (iI (lr)), .int (iI (sr))])), (la, arI cs 4 lf), (ia, arQ cs 2 5 itf), (na, arQ cs 3 20 lnf), (kn, .inr (3, [.ref hi, .int (iI (ld)), .int (iI (fd)), .int (iI (fk)), .int (iI (fv)), .ref kl, .ref ke, .ref kd, .ref ks, .ref ka, .int (iI (es)), .int (iI (sk)), .int (iI (so)), .int (iI (lo))])), (kl, .inr (2, [.ref us, .int (iI (lev))])), (us, arI cs 7 se)] := ⟨rfl, rfl, rfl, rfl, rfl, rfl, rfl, trivial⟩
  refine vx_calli (vx_runV (As := [.int (iI (((sn : Nat) : Int))), .int (iI (((tn : Nat) : Int))), .int (iI (wz))]) (rest := [.int (iI (0)), .ref po]) ⟨hx, hb, hml, hown, hts⟩ (m_X5_season_ok l hst D cs kr la ia na b4 b6 b8 b10 sh it lc dy pct lr sr lf itf lnf sn tn kn hi kl ke kd ks ka ld fd fk fv es sk so lo us lev se wz (hsh) (hit) (hitf) (hsn) (htn) (hln) (hwz)) (cwV 3 hts (gV w_641 w_642 w_643 w_1 w_644) rfl rfl rfl (by decide +kernel) ⟨Nat.le_of_ble_eq_true rfl, Nat.le_of_ble_eq_true rfl⟩) (PE_V hK hN hE hS (fun _ h => False.elim h) hP hD [1, 2, 3, 4, 5, 6, 7] rfl pk1 rfl rfl) rfl rfl hl.1 rfl (lv_room (Nat.le_of_ble_eq_true rfl)) dL_season_7 ⟨Nat.le_of_ble_eq_true rfl, Nat.le_of_ble_eq_true rfl⟩) hS (fun _ _ h => False.elim h) (fun _ h => False.elim h) (fun _ _ h => False.elim h) (fun E ce q9 u t H1 locs1 ht hvm hpx hBX hz1 hk1 hS1 hce hcv hcl => ?_) (fun r u t H locs ht hvm hw hB hz1 hk1 hS => ?_)
  · have h9 : u = (if 0 ≤ wz ∧ wz < 7 then 0 else 3) := hpx.1
    have hS := hS1
    have hcd : (if 0 ≤ wz ∧ wz < 7 then 0 else 3) = 3 := by
      revert hne
      (try unfold cdL); (try unfold cdS); (try unfold cdC)
      (repeat' split) <;> simp
    have hEu := hBX
    have hP := P_kept hP hk1
    have hc3 := hcd
    have hE3 : E = "java/lang/IllegalArgumentException" := by have h8 : E = exN u := hEu; rw [h8, h9, hc3]; rfl
    subst hE3
    refine vx_catch (name := "java/lang/IllegalArgumentException") hown [⟨0, 12, 15, 25⟩, ⟨0, 12, 19, 50⟩] ⟨0, 12, 23, 13⟩ [] (htab.trans rfl) (fun z hz => by
        simp only [List.mem_cons, List.not_mem_nil, or_false] at hz
        rcases hz with rfl | rfl
        · exact Or.inr ⟨by decide, "java/lang/IndexOutOfBoundsException", hts _ w_266, hE.2.2.2.2.2 _ (List.mem_of_getElem? (i := 8) rfl)⟩
        · exact Or.inr ⟨by decide, "java/util/NoSuchElementException", hts _ w_455, hE.2.2.2.2.2 _ (List.mem_of_getElem? (i := 12) rfl)⟩) rfl (by decide) (hts _ w_132) (hE.use _ (List.mem_append_right _ (List.mem_map.mpr ⟨_, List.mem_of_getElem? (i := 2) rfl, rfl⟩))) hce hcv hcl ?_
    refine lv_astore (lv' := [(5, .ref q9), (0, .ref kr), (1, .int (iI (((sn : Nat) : Int)))), (2, .int (iI (((tn : Nat) : Int)))), (3, .int (iI (wz))), (4, .ref po)]) hx hb dL_season_23 hl (by decide) rfl (fun ls hl => ?_)
    refine lv_iconst (v := iI (3)) hx hb dL_season_25 rfl ?_
    refine W.widen (k := 4) (n := 24) (by omega) (by omega) ?_
    have hres : iI (3) = iI (hkI [1, 2, 3] (if 0 ≤ wz ∧ wz < 7 then 0 else 3)) := congrArg iI (by
        rw [hc3]; rfl)
    exact W.iret hx hb hr (fun t ht hW => ⟨⟨_, (), rfl, hres, trivial⟩, hS.F ht⟩) hS.2.2 dL_season_26
  obtain ⟨hc2, hw⟩ := hw
  subst hw
  have hP := P_kept hP hk1
  exact absurd hc2 hne

abbrev ws_L_forecast : List Cond := Cond.codeWith yL_forecast cL_forecast 6 (some .int) [(0, 12, 15, 25), (0, 12, 19, 50), (0, 12, 23, 13)] :: ALL
set_option maxHeartbeats 4000000 in
set_option maxRecDepth 100000 in
theorem m_L_forecast_no_t (l : Launch) (hst : l.stackTraces = false) (D : va_G) (cs : Nat → ClassId) (kr la ia na b4 b6 b8 b10 sh it : Nat) (lc : Int) (dy : Nat) (pct lr sr : Int) (lf : Nat → Int) (itf : Nat → Option Nat) (lnf : Nat → Option Nat) (zs zi : Int) (z0 : Int) (po : Nat) (ov : Nat → Int64) (hsh : sh ≤ 4) (hit : it ≤ 5) (hitf : ∀ j, j < it → itf j ≠ none) (hzs : -2147483648 ≤ zs ∧ zs < 2147483648) (hzi : -2147483648 ≤ zi ∧ zi < 2147483648) (hno : cdL sh it lnf zs zi ≠ 0) : Met l yL_forecast ws_L_forecast ({ frames := 9, cells := 3, slots := 18, locals := 151 }) (va_Pc [.ref kr, .int (iI (zs)), .int (iI (zi)), .int (iI (z0)), .ref po] (PE D cs [(po, .inl (cs 4, 1, .inr (.inl ov))), (kr, .inr (5, [.ref la, .ref ia, .ref na, .ref b4, .ref b6, .ref b8, .ref b10, .int (iI (((sh : Nat) : Int))), .int (iI (((it : Nat) : Int))), .int (iI (lc)), .int (iI (((dy : Nat) : Int))), .int (iI (pct)), .int (iI (lr)), .int (iI (sr))])), (la, arI cs 4 lf), (ia, arQ cs 2 5 itf), (na, arQ cs 3 20 lnf)] noA)) (va_Qi (fun r (_ : Unit) => r = iI (hkI [1, 2, 3] (cdL sh it lnf zs zi))) (fun _ _ => True) noA) 3 18 noA := by
  refine va_MetW (cc := cL_forecast) (maxL := 6) (ret := some .int) (hh := [(0, 12, 15, 25), (0, 12, 19, 50), (0, 12, 23, 13)]) (by decide +kernel) rfl ?_
  intro p e s m args below meth c s₁ B hml hv
  obtain ⟨rfl, ⟨hP, hK, hD, hN⟩, hE⟩ := hv
  have hx := B.exec
  have hb := B.bytes
  have hr := B.returns
  have hts : ∀ w ∈ ALL, w.before _ s = true := fun w h => atoms_spec (ws := ws_L_forecast) B.pre w (List.mem_cons_of_mem _ h)
  have hown : s.vm.findClass RL = some m.cls := findClass_of_methodNamed B.named
  have hlocks := B.notSynchronized
  have htab : c.exceptionTable.toList = tableOf [(0, 12, 15, 25), (0, 12, 19, 50), (0, 12, 23, 13)] := vx_table (x := yL_forecast) B (atoms_spec (ws := ws_L_forecast) B.pre _ List.mem_cons_self)
  have hS : va_S noA s.heap s.heap [] := va_S.rf
  generalize inW [(po, .inl (cs 4, 1, .inr (.inl ov))), (kr, .inr (5, [.ref la, .ref ia, .ref na, .ref b4, .ref b6, .ref b8, .ref b10, .int (iI (((sh : Nat) : Int))), .int (iI (((it : Nat) : Int))), .int (iI (lc)), .int (iI (((dy : Nat) : Int))), .int (iI (pct)), .int (iI (lr)), .int (iI (sr))])), (la, arI cs 4 lf), (ia, arQ cs 2 5 itf), (na, arQ cs 3 20 lnf)] = A at hD
  have hl := lv_entry ([.ref kr, .int (iI (zs)), .int (iI (zi)), .int (iI (z0)), .ref po]) (n := 6) (Nat.le_of_ble_eq_true rfl)
  rw [lg_entry_eq]
  generalize (lg_sl ([.ref kr, .int (iI (zs)), .int (iI (zi)), .int (iI (z0)), .ref po]) ++ List.replicate (6 - (lg_sl ([.ref kr, .int (iI (zs)), .int (iI (zi)), .int (iI (z0)), .ref po])).length) Slot.unset).toArray = ls at hl ⊢
  have hl : lv_has ls 6 [(0, .ref kr), (1, .int (iI (zs))), (2, .int (iI (zi))), (3, .int (iI (z0))), (4, .ref po)] := hl
  have hH := rfl (a := s.heap)
  refine lv_aload hx hb dL_forecast_0 (lv_at hl 4 rfl) ?_
  refine lv_iconst (v := iI (0)) hx hb dL_forecast_2 rfl ?_
  refine lv_aload_n hx hb dL_forecast_3 rfl (lv_at hl 0 rfl) ?_
  refine lv_iload_n hx hb dL_forecast_4 rfl (lv_at hl 1 rfl) ?_
  refine lv_iload_n hx hb dL_forecast_5 rfl (lv_at hl 2 rfl) ?_
  refine lv_iload_n hx hb dL_forecast_6 rfl (lv_at hl 3 rfl) ?_
  have pk1 : picks [(po, .inl (cs 4, 1, .inr (.inl ov))), (kr, .inr (5, [.ref la, .ref ia, .ref na, .ref b4, .ref b6, .ref b8, .ref b10, .int (iI (((sh : Nat) : Int))), .int (iI (((it : Nat) : Int))), .int (iI (lc)), .int (iI (((dy : Nat) : Int))), .int (iI (pct)), .int (iI (lr)), .int (iI (sr))])), (la, arI cs 4 lf), (ia, arQ cs 2 5 itf), (na, arQ cs 3 20 lnf)] [1, 2, 3, 4] [(kr, .inr (5, [.ref la, .ref ia, .ref na, .ref b4, .ref b6, .ref b8, .ref b10, .int (iI (((sh : Nat) : Int))), .int (iI (((it : Nat) : Int))), .int (iI (lc)), .int (iI (((dy : Nat) : Int))), .int (iI (pct)), .int (iI (lr)), .int (iI (sr))])), (la, arI cs 4 lf), (ia, arQ cs 2 5 itf), (na, arQ cs 3 20 lnf)] := ⟨rfl, rfl, rfl, rfl, trivial⟩
  refine vx_calli (vx_runV (As := [.int (iI (zs)), .int (iI (zi)), .int (iI (z0))]) (rest := [.int (iI (0)), .ref po]) ⟨hx, hb, hml, hown, hts⟩ (m_X5_forecast_no l hst D cs kr la ia na b4 b6 b8 b10 sh it lc dy pct lr sr lf itf lnf zs zi z0 (hsh) (hit) (hitf) (hzs) (hzi) (hno)) (cwV 3 hts (gV w_650 w_651 w_652 w_1 w_653) rfl rfl rfl (by decide +kernel) ⟨Nat.le_of_ble_eq_true rfl, Nat.le_of_ble_eq_true rfl⟩) (PE_V hK hN hE hS (fun _ h => False.elim h) hP hD [1, 2, 3, 4] rfl pk1 rfl rfl) rfl rfl hl.1 rfl (lv_room (Nat.le_of_ble_eq_true rfl)) dL_forecast_7 ⟨Nat.le_of_ble_eq_true rfl, Nat.le_of_ble_eq_true rfl⟩) hS (fun _ _ h => False.elim h) (fun _ h => False.elim h) (fun _ _ h => False.elim h) (fun E ce q9 u t H1 locs1 ht hvm hpx hBX hz1 hk1 hS1 hce hcv hcl => ?_) (fun r u t H locs ht hvm hw hB hz1 hk1 hS => ?_)
  · have h9 : u = cdL sh it lnf zs zi := hpx.1
    have hS := hS1
    have hcd : cdL sh it lnf zs zi = 2 ∨ cdL sh it lnf zs zi = 1 := by
      revert hno
      (try unfold cdL); (try unfold cdS); (try unfold cdC)
      (repeat' split) <;> simp
    have hEu := hBX
    have hP := P_kept hP hk1
    rcases hcd with hc3 | hcd
    · have hE3 : E = "java/util/NoSuchElementException" := by have h8 : E = exN u := hEu; rw [h8, h9, hc3]; rfl
      subst hE3
      refine vx_catch (name := "java/util/NoSuchElementException") hown [⟨0, 12, 15, 25⟩] ⟨0, 12, 19, 50⟩ [⟨0, 12, 23, 13⟩] (htab.trans rfl) (fun z hz => by
          simp only [List.mem_cons, List.not_mem_nil, or_false] at hz
          rcases hz with rfl
          · exact Or.inr ⟨by decide, "java/lang/IndexOutOfBoundsException", hts _ w_266, hE.2.2.2.2.2 _ (List.mem_of_getElem? (i := 10) rfl)⟩) rfl (by decide) (hts _ w_455) (hE.use _ (List.mem_append_right _ (List.mem_map.mpr ⟨_, List.mem_of_getElem? (i := 1) rfl, rfl⟩))) hce hcv hcl ?_
      refine lv_astore (lv' := [(5, .ref q9), (0, .ref kr), (1, .int (iI (zs))), (2, .int (iI (zi))), (3, .int (iI (z0))), (4, .ref po)]) hx hb dL_forecast_19 hl (by decide) rfl (fun ls hl => ?_)
      refine lv_iconst (v := iI (2)) hx hb dL_forecast_21 rfl ?_
      refine W.widen (k := 3) (n := 18) (by omega) (by omega) ?_
      have hres : iI (2) = iI (hkI [1, 2, 3] (cdL sh it lnf zs zi)) := congrArg iI (by
          rw [hc3]; rfl)
      exact W.iret hx hb hr (fun t ht hW => ⟨⟨_, (), rfl, hres, trivial⟩, hS.F ht⟩) hS.2.2 dL_forecast_22
    have hc3 := hcd
    have hE3 : E = "java/lang/IndexOutOfBoundsException" := by have h8 : E = exN u := hEu; rw [h8, h9, hc3]; rfl
    subst hE3
    refine vx_catch (name := "java/lang/IndexOutOfBoundsException") hown [] ⟨0, 12, 15, 25⟩ [⟨0, 12, 19, 50⟩, ⟨0, 12, 23, 13⟩] (htab.trans rfl) (fun z hz => by cases hz) rfl (by decide) (hts _ w_266) (hE.use _ (List.mem_append_right _ (List.mem_map.mpr ⟨_, List.mem_of_getElem? (i := 0) rfl, rfl⟩))) hce hcv hcl ?_
    refine lv_astore (lv' := [(5, .ref q9), (0, .ref kr), (1, .int (iI (zs))), (2, .int (iI (zi))), (3, .int (iI (z0))), (4, .ref po)]) hx hb dL_forecast_15 hl (by decide) rfl (fun ls hl => ?_)
    refine lv_iconst (v := iI (1)) hx hb dL_forecast_17 rfl ?_
    refine W.widen (k := 3) (n := 18) (by omega) (by omega) ?_
    have hres : iI (1) = iI (hkI [1, 2, 3] (cdL sh it lnf zs zi)) := congrArg iI (by
        rw [hc3]; rfl)
    exact W.iret hx hb hr (fun t ht hW => ⟨⟨_, (), rfl, hres, trivial⟩, hS.F ht⟩) hS.2.2 dL_forecast_18
  obtain ⟨hc2, hw⟩ := hw
  subst hw
  have hP := P_kept hP hk1
  exact absurd hc2 hno

set_option maxHeartbeats 4000000 in
set_option maxRecDepth 100000 in
theorem m_L_forecast_ok_r (l : Launch) (hst : l.stackTraces = false) (D : va_G) (cs : Nat → ClassId) (kr la ia na b4 b6 b8 b10 sh it : Nat) (lc : Int) (dy : Nat) (pct lr sr : Int) (lf : Nat → Int) (itf : Nat → Option Nat) (lnf : Nat → Option Nat) (sn tn : Nat) (kn hi kl ke kd ks ka : Nat) (ld fd fk fv es sk so lo : Int) (us : Nat) (lev : Int) (se : Nat → Int) (wz : Int) (po : Nat) (ov : Nat → Int64) (hsh : sh ≤ 4) (hit : it ≤ 5) (hitf : ∀ j, j < it → itf j ≠ none) (hsn : sn < sh) (htn : tn < it) (hln : lnf (sn * 5 + tn) = some kn) (hlev : 0 ≤ lev ∧ lev ≤ 9990000) (hse : ∀ w, 100 ≤ se w ∧ se w ≤ 5000) (hd : dy < 1000) (hwz : -2147483648 ≤ wz ∧ wz < 2147483648) (hz : (if (dy : Int) ≤ wz ∧ wz ≤ 1099 then 0 else 3) = 0) (hrr : -2147483648 ≤ (thI lev se wz.toNat) ∧ (thI lev se wz.toNat) < 2147483648) : Met l yL_forecast ws_L_forecast ({ frames := 9, cells := 4, slots := 24, locals := 151 }) (va_Pc [.ref kr, .int (iI (((sn : Nat) : Int))), .int (iI (((tn : Nat) : Int))), .int (iI (wz)), .ref po] (PE D cs [(po, .inl (cs 4, 1, .inr (.inl ov))), (kr, .inr (5, [.ref la, .ref ia, .ref na, .ref b4, .ref b6, .ref b8, .ref b10, .int (iI (((sh : Nat) : Int))), .int (iI (((it : Nat) : Int))), .int (iI (lc)), .int (iI (((dy : Nat) : Int))), .int (iI (pct)), .int (iI (lr)), .int (iI (sr))])), (la, arI cs 4 lf), (ia, arQ cs 2 5 itf), (na, arQ cs 3 20 lnf), (kn, .inr (3, [.ref hi, .int (iI (ld)), .int (iI (fd)), .int (iI (fk)), .int (iI (fv)), .ref kl, .ref ke, .ref kd, .ref ks, .ref ka, .int (iI (es)), .int (iI (sk)), .int (iI (so)), .int (iI (lo))])), (kl, .inr (2, [.ref us, .int (iI (lev))])), (us, arI cs 7 se)] (inW [(po, .inl (cs 4, 1, .inr (.inl ov))), (kr, .inr (5, [.ref la, .ref ia, .ref na, .ref b4, .ref b6, .ref b8, .ref b10, .int (iI (((sh : Nat) : Int))), .int (iI (((it : Nat) : Int))), .int (iI (lc)), .int (iI (((dy : Nat) : Int))), .int (iI (pct)), .int (iI (lr)), .int (iI (sr))])), (la, arI cs 4 lf), (ia, arQ cs 2 5 itf), (na, arQ cs 3 20 lnf), (kn, .inr (3, [.ref hi, .int (iI (ld)), .int (iI (fd)), .int (iI (fk)), .int (iI (fv)), .ref kl, .ref ke, .ref kd, .ref ks, .ref ka, .int (iI (es)), .int (iI (sk)), .int (iI (so)), .int (iI (lo))])), (kl, .inr (2, [.ref us, .int (iI (lev))])), (us, arI cs 7 se)]))) (va_Qi (fun r (_ : Unit) => r = iI (0)) (fun _ t => va_P D vwCl [(po, .inl (cs 4, 1, .inr (.inl (vp_updL ov 0 (lI (thI lev se wz.toNat)))))), (kr, .inr (5, [.ref la, .ref ia, .ref na, .ref b4, .ref b6, .ref b8, .ref b10, .int (iI (((sh : Nat) : Int))), .int (iI (((it : Nat) : Int))), .int (iI (lc)), .int (iI (((dy : Nat) : Int))), .int (iI (pct)), .int (iI (lr)), .int (iI (sr))])), (la, arI cs 4 lf), (ia, arQ cs 2 5 itf), (na, arQ cs 3 20 lnf), (kn, .inr (3, [.ref hi, .int (iI (ld)), .int (iI (fd)), .int (iI (fk)), .int (iI (fv)), .ref kl, .ref ke, .ref kd, .ref ks, .ref ka, .int (iI (es)), .int (iI (sk)), .int (iI (so)), .int (iI (lo))])), (kl, .inr (2, [.ref us, .int (iI (lev))])), (us, arI cs 7 se)] t.heap) (inW [(po, .inl (cs 4, 1, .inr (.inl ov))), (kr, .inr (5, [.ref la, .ref ia, .ref na, .ref b4, .ref b6, .ref b8, .ref b10, .int (iI (((sh : Nat) : Int))), .int (iI (((it : Nat) : Int))), .int (iI (lc)), .int (iI (((dy : Nat) : Int))), .int (iI (pct)), .int (iI (lr)), .int (iI (sr))])), (la, arI cs 4 lf), (ia, arQ cs 2 5 itf), (na, arQ cs 3 20 lnf), (kn, .inr (3, [.ref hi, .int (iI (ld)), .int (iI (fd)), .int (iI (fk)), .int (iI (fv)), .ref kl, .ref ke, .ref kd, .ref ks, .ref ka, .int (iI (es)), .int (iI (sk)), .int (iI (so)), .int (iI (lo))])), (kl, .inr (2, [.ref us, .int (iI (lev))])), (us, arI cs 7 se)])) 4 24 (inW [(po, .inl (cs 4, 1, .inr (.inl ov))), (kr, .inr (5, [.ref la, .ref ia, .ref na, .ref b4, .ref b6, .ref b8, .ref b10, .int (iI (((sh : Nat) : Int))), .int (iI (((it : Nat) : Int))), .int (iI (lc)), .int (iI (((dy : Nat) : Int))), .int (iI (pct)), .int (iI (lr)), .int (iI (sr))])), (la, arI cs 4 lf), (ia, arQ cs 2 5 itf), (na, arQ cs 3 20 lnf), (kn, .inr (3, [.ref hi, .int (iI (ld)), .int (iI (fd)), .int (iI (fk)), .int (iI (fv)), .ref kl, .ref ke, .ref kd, .ref ks, .ref ka, .int (iI (es)), .int (iI (sk)), .int (iI (so)), .int (iI (lo))])), (kl, .inr (2, [.ref us, .int (iI (lev))])), (us, arI cs 7 se)]) := by
  refine va_MetW (cc := cL_forecast) (maxL := 6) (ret := some .int) (hh := [(0, 12, 15, 25), (0, 12, 19, 50), (0, 12, 23, 13)]) (by decide +kernel) rfl ?_
  intro p e s m args below meth c s₁ B hml hv
  obtain ⟨rfl, ⟨hP, hK, hD, hN⟩, hE⟩ := hv
  have hx := B.exec
  have hb := B.bytes
  have hr := B.returns
  have hts : ∀ w ∈ ALL, w.before _ s = true := fun w h => atoms_spec (ws := ws_L_forecast) B.pre w (List.mem_cons_of_mem _ h)
  have hown : s.vm.findClass RL = some m.cls := findClass_of_methodNamed B.named
  have hlocks := B.notSynchronized
  have htab : c.exceptionTable.toList = tableOf [(0, 12, 15, 25), (0, 12, 19, 50), (0, 12, 23, 13)] := vx_table (x := yL_forecast) B (atoms_spec (ws := ws_L_forecast) B.pre _ List.mem_cons_self)
  generalize hAe : inW [(po, .inl (cs 4, 1, .inr (.inl ov))), (kr, .inr (5, [.ref la, .ref ia, .ref na, .ref b4, .ref b6, .ref b8, .ref b10, .int (iI (((sh : Nat) : Int))), .int (iI (((it : Nat) : Int))), .int (iI (lc)), .int (iI (((dy : Nat) : Int))), .int (iI (pct)), .int (iI (lr)), .int (iI (sr))])), (la, arI cs 4 lf), (ia, arQ cs 2 5 itf), (na, arQ cs 3 20 lnf), (kn, .inr (3, [.ref hi, .int (iI (ld)), .int (iI (fd)), .int (iI (fk)), .int (iI (fv)), .ref kl, .ref ke, .ref kd, .ref ks, .ref ka, .int (iI (es)), .int (iI (sk)), .int (iI (so)), .int (iI (lo))])), (kl, .inr (2, [.ref us, .int (iI (lev))])), (us, arI cs 7 se)] = A at hD hE ⊢
  have hS : va_S A s.heap s.heap [] := va_S.rf
  have hl := lv_entry ([.ref kr, .int (iI (((sn : Nat) : Int))), .int (iI (((tn : Nat) : Int))), .int (iI (wz)), .ref po]) (n := 6) (Nat.le_of_ble_eq_true rfl)
  rw [lg_entry_eq]
  generalize (lg_sl ([.ref kr, .int (iI (((sn : Nat) : Int))), .int (iI (((tn : Nat) : Int))), .int (iI (wz)), .ref po]) ++ List.replicate (6 - (lg_sl ([.ref kr, .int (iI (((sn : Nat) : Int))), .int (iI (((tn : Nat) : Int))), .int (iI (wz)), .ref po])).length) Slot.unset).toArray = ls at hl ⊢
  have hl : lv_has ls 6 [(0, .ref kr), (1, .int (iI (((sn : Nat) : Int)))), (2, .int (iI (((tn : Nat) : Int)))), (3, .int (iI (wz))), (4, .ref po)] := hl
  have hH := rfl (a := s.heap)
  refine lv_aload hx hb dL_forecast_0 (lv_at hl 4 rfl) ?_
  refine lv_iconst (v := iI (0)) hx hb dL_forecast_2 rfl ?_
  refine lv_aload_n hx hb dL_forecast_3 rfl (lv_at hl 0 rfl) ?_
  refine lv_iload_n hx hb dL_forecast_4 rfl (lv_at hl 1 rfl) ?_
  refine lv_iload_n hx hb dL_forecast_5 rfl (lv_at hl 2 rfl) ?_
  refine lv_iload_n hx hb dL_forecast_6 rfl (lv_at hl 3 rfl) ?_
  have pk1 : picks [(po, .inl (cs 4, 1, .inr (.inl ov))), (kr, .inr (5, [.ref la, .ref ia, .ref na, .ref b4, .ref b6, .ref b8, .ref b10, .int (iI (((sh : Nat) : Int))), .int (iI (((it : Nat) : Int))), .int (iI (lc)), .int (iI (((dy : Nat) : Int))), .int (iI (pct)), .int (iI (lr)), .int (iI (sr))])), (la, arI cs 4 lf), (ia, arQ cs 2 5 itf), (na, arQ cs 3 20 lnf), (kn, .inr (3, [.ref hi, .int (iI (ld)), .int (iI (fd)), .int (iI (fk)), .int (iI (fv)), .ref kl, .ref ke, .ref kd, .ref ks, .ref ka, .int (iI (es)), .int (iI (sk)), .int (iI (so)), .int (iI (lo))])), (kl, .inr (2, [.ref us, .int (iI (lev))])), (us, arI cs 7 se)] [1, 2, 3, 4, 5, 6, 7] [(kr, .inr (5, [.ref la, .ref ia, .ref na, .ref b4, .ref b6, .ref b8, .ref b10, .int (iI (((sh : Nat) : Int))), .int (iI (((it : Nat) : Int))), .int (iI (lc)), .int (iI (((dy : Nat) : Int))), .int (iI (pct)), .int (iI (lr)), .int (iI (sr))])), (la, arI cs 4 lf), (ia, arQ cs 2 5 itf), (na, arQ cs 3 20 lnf), (kn, .inr (3, [.ref hi, .int (iI (ld)), .int (iI (fd)), .int (iI (fk)), .int (iI (fv)), .ref kl, .ref ke, .ref kd, .ref ks, .ref ka, .int (iI (es)), .int (iI (sk)), .int (iI (so)), .int (iI (lo))])), (kl, .inr (2, [.ref us, .int (iI (lev))])), (us, arI cs 7 se)] := ⟨rfl, rfl, rfl, rfl, rfl, rfl, rfl, trivial⟩
  refine vx_calli (vx_runV (As := [.int (iI (((sn : Nat) : Int))), .int (iI (((tn : Nat) : Int))), .int (iI (wz))]) (rest := [.int (iI (0)), .ref po]) ⟨hx, hb, hml, hown, hts⟩ (m_X5_forecast_ok l hst D cs kr la ia na b4 b6 b8 b10 sh it lc dy pct lr sr lf itf lnf sn tn kn hi kl ke kd ks ka ld fd fk fv es sk so lo us lev se wz (hsh) (hit) (hitf) (hsn) (htn) (hln) (hlev) (hse) (hd) (hwz)) (cwV 3 hts (gV w_650 w_651 w_652 w_1 w_653) rfl rfl rfl (by decide +kernel) ⟨Nat.le_of_ble_eq_true rfl, Nat.le_of_ble_eq_true rfl⟩) (PE_V hK hN hE hS (fun _ h => False.elim h) hP hD [1, 2, 3, 4, 5, 6, 7] rfl pk1 rfl rfl) rfl rfl hl.1 rfl (lv_room (Nat.le_of_ble_eq_true rfl)) dL_forecast_7 ⟨Nat.le_of_ble_eq_true rfl, Nat.le_of_ble_eq_true rfl⟩) hS (fun _ _ h => False.elim h) (fun _ h => False.elim h) (fun _ _ h => False.elim h) (fun E ce q9 u t H1 locs1 ht hvm hpx hBX hz1 hk1 hS1 hce hcv hcl => ?_) (fun r u t H locs ht hvm hw hB hz1 hk1 hS => ?_)
  · exact absurd (hpx.1.trans hz) hpx.2
  obtain ⟨hc2, hw⟩ := hw
  subst hw
  have hP := P_kept hP hk1
  refine my_i2l hx hb dL_forecast_10 (by omega) ?_
  refine my_last0 hx hb hK hP hD hS 0 rfl dL_forecast_11 (fun H locs hP hD hS => ?_)
  have hP : va_P D vwCl [(po, .inl (cs 4, 1, .inr (.inl (vp_updL ov 0 (lI (thI lev se wz.toNat)))))), (kr, .inr (5, [.ref la, .ref ia, .ref na, .ref b4, .ref b6, .ref b8, .ref b10, .int (iI (((sh : Nat) : Int))), .int (iI (((it : Nat) : Int))), .int (iI (lc)), .int (iI (((dy : Nat) : Int))), .int (iI (pct)), .int (iI (lr)), .int (iI (sr))])), (la, arI cs 4 lf), (ia, arQ cs 2 5 itf), (na, arQ cs 3 20 lnf), (kn, .inr (3, [.ref hi, .int (iI (ld)), .int (iI (fd)), .int (iI (fk)), .int (iI (fv)), .ref kl, .ref ke, .ref kd, .ref ks, .ref ka, .int (iI (es)), .int (iI (sk)), .int (iI (so)), .int (iI (lo))])), (kl, .inr (2, [.ref us, .int (iI (lev))])), (us, arI cs 7 se)] H := hP
  have hD : va_D A [(po, .inl (cs 4, 1, .inr (.inl (vp_updL ov 0 (lI (thI lev se wz.toNat)))))), (kr, .inr (5, [.ref la, .ref ia, .ref na, .ref b4, .ref b6, .ref b8, .ref b10, .int (iI (((sh : Nat) : Int))), .int (iI (((it : Nat) : Int))), .int (iI (lc)), .int (iI (((dy : Nat) : Int))), .int (iI (pct)), .int (iI (lr)), .int (iI (sr))])), (la, arI cs 4 lf), (ia, arQ cs 2 5 itf), (na, arQ cs 3 20 lnf), (kn, .inr (3, [.ref hi, .int (iI (ld)), .int (iI (fd)), .int (iI (fk)), .int (iI (fv)), .ref kl, .ref ke, .ref kd, .ref ks, .ref ka, .int (iI (es)), .int (iI (sk)), .int (iI (so)), .int (iI (lo))])), (kl, .inr (2, [.ref us, .int (iI (lev))])), (us, arI cs 7 se)] := hD
  refine lv_goto (tgt := 27) hx hb dL_forecast_12 (by decide) ?_
  refine lv_iconst (v := iI (0)) hx hb dL_forecast_27 rfl ?_
  subst hAe
  refine W.widen (k := 4) (n := 24) (by omega) (by omega) ?_
  have hres : iI (0) = iI (0) := congrArg iI (by
      rfl)
  exact W.iret hx hb hr (fun t ht hW => ⟨⟨_, (), rfl, hres, by show va_P D vwCl _ t.heap; rw [ht]; exact hP⟩, hS.F ht⟩) hS.2.2 dL_forecast_28

set_option maxHeartbeats 4000000 in
set_option maxRecDepth 100000 in
theorem m_L_forecast_ok_t (l : Launch) (hst : l.stackTraces = false) (D : va_G) (cs : Nat → ClassId) (kr la ia na b4 b6 b8 b10 sh it : Nat) (lc : Int) (dy : Nat) (pct lr sr : Int) (lf : Nat → Int) (itf : Nat → Option Nat) (lnf : Nat → Option Nat) (sn tn : Nat) (kn hi kl ke kd ks ka : Nat) (ld fd fk fv es sk so lo : Int) (us : Nat) (lev : Int) (se : Nat → Int) (wz : Int) (po : Nat) (ov : Nat → Int64) (hsh : sh ≤ 4) (hit : it ≤ 5) (hitf : ∀ j, j < it → itf j ≠ none) (hsn : sn < sh) (htn : tn < it) (hln : lnf (sn * 5 + tn) = some kn) (hlev : 0 ≤ lev ∧ lev ≤ 9990000) (hse : ∀ w, 100 ≤ se w ∧ se w ≤ 5000) (hd : dy < 1000) (hwz : -2147483648 ≤ wz ∧ wz < 2147483648) (hne : (if (dy : Int) ≤ wz ∧ wz ≤ 1099 then 0 else 3) ≠ 0) : Met l yL_forecast ws_L_forecast ({ frames := 9, cells := 4, slots := 24, locals := 151 }) (va_Pc [.ref kr, .int (iI (((sn : Nat) : Int))), .int (iI (((tn : Nat) : Int))), .int (iI (wz)), .ref po] (PE D cs [(po, .inl (cs 4, 1, .inr (.inl ov))), (kr, .inr (5, [.ref la, .ref ia, .ref na, .ref b4, .ref b6, .ref b8, .ref b10, .int (iI (((sh : Nat) : Int))), .int (iI (((it : Nat) : Int))), .int (iI (lc)), .int (iI (((dy : Nat) : Int))), .int (iI (pct)), .int (iI (lr)), .int (iI (sr))])), (la, arI cs 4 lf), (ia, arQ cs 2 5 itf), (na, arQ cs 3 20 lnf), (kn, .inr (3, [.ref hi, .int (iI (ld)), .int (iI (fd)), .int (iI (fk)), .int (iI (fv)), .ref kl, .ref ke, .ref kd, .ref ks, .ref ka, .int (iI (es)), .int (iI (sk)), .int (iI (so)), .int (iI (lo))])), (kl, .inr (2, [.ref us, .int (iI (lev))])), (us, arI cs 7 se)] noA)) (va_Qi (fun r (_ : Unit) => r = iI (hkI [1, 2, 3] (if (dy : Int) ≤ wz ∧ wz ≤ 1099 then 0 else 3))) (fun _ _ => True) noA) 4 24 noA := by
  refine va_MetW (cc := cL_forecast) (maxL := 6) (ret := some .int) (hh := [(0, 12, 15, 25), (0, 12, 19, 50), (0, 12, 23, 13)]) (by decide +kernel) rfl ?_
  intro p e s m args below meth c s₁ B hml hv
  obtain ⟨rfl, ⟨hP, hK, hD, hN⟩, hE⟩ := hv
  have hx := B.exec
  have hb := B.bytes
  have hr := B.returns
  have hts : ∀ w ∈ ALL, w.before _ s = true := fun w h => atoms_spec (ws := ws_L_forecast) B.pre w (List.mem_cons_of_mem _ h)
  have hown : s.vm.findClass RL = some m.cls := findClass_of_methodNamed B.named
  have hlocks := B.notSynchronized
  have htab : c.exceptionTable.toList = tableOf [(0, 12, 15, 25), (0, 12, 19, 50), (0, 12, 23, 13)] := vx_table (x := yL_forecast) B (atoms_spec (ws := ws_L_forecast) B.pre _ List.mem_cons_self)
  have hS : va_S noA s.heap s.heap [] := va_S.rf
  generalize inW [(po, .inl (cs 4, 1, .inr (.inl ov))), (kr, .inr (5, [.ref la, .ref ia, .ref na, .ref b4, .ref b6, .ref b8, .ref b10, .int (iI (((sh : Nat) : Int))), .int (iI (((it : Nat) : Int))), .int (iI (lc)), .int (iI (((dy : Nat) : Int))), .int (iI (pct)), .int (iI (lr)), .int (iI (sr))])), (la, arI cs 4 lf), (ia, arQ cs 2 5 itf), (na, arQ cs 3 20 lnf), (kn, .inr (3, [.ref hi, .int (iI (ld)), .int (iI (fd)), .int (iI (fk)), .int (iI (fv)), .ref kl, .ref ke, .ref kd, .ref ks, .ref ka, .int (iI (es)), .int (iI (sk)), .int (iI (so)), .int (iI (lo))])), (kl, .inr (2, [.ref us, .int (iI (lev))])), (us, arI cs 7 se)] = A at hD
  have hl := lv_entry ([.ref kr, .int (iI (((sn : Nat) : Int))), .int (iI (((tn : Nat) : Int))), .int (iI (wz)), .ref po]) (n := 6) (Nat.le_of_ble_eq_true rfl)
  rw [lg_entry_eq]
  generalize (lg_sl ([.ref kr, .int (iI (((sn : Nat) : Int))), .int (iI (((tn : Nat) : Int))), .int (iI (wz)), .ref po]) ++ List.replicate (6 - (lg_sl ([.ref kr, .int (iI (((sn : Nat) : Int))), .int (iI (((tn : Nat) : Int))), .int (iI (wz)), .ref po])).length) Slot.unset).toArray = ls at hl ⊢
  have hl : lv_has ls 6 [(0, .ref kr), (1, .int (iI (((sn : Nat) : Int)))), (2, .int (iI (((tn : Nat) : Int)))), (3, .int (iI (wz))), (4, .ref po)] := hl
  have hH := rfl (a := s.heap)
  refine lv_aload hx hb dL_forecast_0 (lv_at hl 4 rfl) ?_
  refine lv_iconst (v := iI (0)) hx hb dL_forecast_2 rfl ?_
  refine lv_aload_n hx hb dL_forecast_3 rfl (lv_at hl 0 rfl) ?_
  refine lv_iload_n hx hb dL_forecast_4 rfl (lv_at hl 1 rfl) ?_
  refine lv_iload_n hx hb dL_forecast_5 rfl (lv_at hl 2 rfl) ?_
  refine lv_iload_n hx hb dL_forecast_6 rfl (lv_at hl 3 rfl) ?_
  have pk1 : picks [(po, .inl (cs 4, 1, .inr (.inl ov))), (kr, .inr (5, [.ref la, .ref ia, .ref na, .ref b4, .ref b6, .ref b8, .ref b10, .int (iI (((sh : Nat) : Int))), .int (iI (((it : Nat) : Int))), .int (iI (lc)), .int (iI (((dy : Nat) : Int))), .int (iI (pct)), .int (iI (lr)), .int (iI (sr))])), (la, arI cs 4 lf), (ia, arQ cs 2 5 itf), (na, arQ cs 3 20 lnf), (kn, .inr (3, [.ref hi, .int (iI (ld)), .int (iI (fd)), .int (iI (fk)), .int (iI (fv)), .ref kl, .ref ke, .ref kd, .ref ks, .ref ka, .int (iI (es)), .int (iI (sk)), .int (iI (so)), .int (iI (lo))])), (kl, .inr (2, [.ref us, .int (iI (lev))])), (us, arI cs 7 se)] [1, 2, 3, 4, 5, 6, 7] [(kr, .inr (5, [.ref la, .ref ia, .ref na, .ref b4, .ref b6, .ref b8, .ref b10, .int (iI (((sh : Nat) : Int))), .int (iI (((it : Nat) : Int))), .int (iI (lc)), .int (iI (((dy : Nat) : Int))), .int (iI (pct)), .int (iI (lr)), .int (iI (sr))])), (la, arI cs 4 lf), (ia, arQ cs 2 5 itf), (na, arQ cs 3 20 lnf), (kn, .inr (3, [.ref hi, .int (iI (ld)), .int (iI (fd)), .int (iI (fk)), .int (iI (fv)), .ref kl, .ref ke, .ref kd, .ref ks, .ref ka, .int (iI (es)), .int (iI (sk)), .int (iI (so)), .int (iI (lo))])), (kl, .inr (2, [.ref us, .int (iI (lev))])), (us, arI cs 7 se)] := ⟨rfl, rfl, rfl, rfl, rfl, rfl, rfl, trivial⟩
  refine vx_calli (vx_runV (As := [.int (iI (((sn : Nat) : Int))), .int (iI (((tn : Nat) : Int))), .int (iI (wz))]) (rest := [.int (iI (0)), .ref po]) ⟨hx, hb, hml, hown, hts⟩ (m_X5_forecast_ok l hst D cs kr la ia na b4 b6 b8 b10 sh it lc dy pct lr sr lf itf lnf sn tn kn hi kl ke kd ks ka ld fd fk fv es sk so lo us lev se wz (hsh) (hit) (hitf) (hsn) (htn) (hln) (hlev) (hse) (hd) (hwz)) (cwV 3 hts (gV w_650 w_651 w_652 w_1 w_653) rfl rfl rfl (by decide +kernel) ⟨Nat.le_of_ble_eq_true rfl, Nat.le_of_ble_eq_true rfl⟩) (PE_V hK hN hE hS (fun _ h => False.elim h) hP hD [1, 2, 3, 4, 5, 6, 7] rfl pk1 rfl rfl) rfl rfl hl.1 rfl (lv_room (Nat.le_of_ble_eq_true rfl)) dL_forecast_7 ⟨Nat.le_of_ble_eq_true rfl, Nat.le_of_ble_eq_true rfl⟩) hS (fun _ _ h => False.elim h) (fun _ h => False.elim h) (fun _ _ h => False.elim h) (fun E ce q9 u t H1 locs1 ht hvm hpx hBX hz1 hk1 hS1 hce hcv hcl => ?_) (fun r u t H locs ht hvm hw hB hz1 hk1 hS => ?_)
  · have h9 : u = (if (dy : Int) ≤ wz ∧ wz ≤ 1099 then 0 else 3) := hpx.1
    have hS := hS1
    have hcd : (if (dy : Int) ≤ wz ∧ wz ≤ 1099 then 0 else 3) = 3 := by
      revert hne
      (try unfold cdL); (try unfold cdS); (try unfold cdC)
      (repeat' split) <;> simp
    have hEu := hBX
    have hP := P_kept hP hk1
    have hc3 := hcd
    have hE3 : E = "java/lang/IllegalArgumentException" := by have h8 : E = exN u := hEu; rw [h8, h9, hc3]; rfl
    subst hE3
    refine vx_catch (name := "java/lang/IllegalArgumentException") hown [⟨0, 12, 15, 25⟩, ⟨0, 12, 19, 50⟩] ⟨0, 12, 23, 13⟩ [] (htab.trans rfl) (fun z hz => by
        simp only [List.mem_cons, List.not_mem_nil, or_false] at hz
        rcases hz with rfl | rfl
        · exact Or.inr ⟨by decide, "java/lang/IndexOutOfBoundsException", hts _ w_266, hE.2.2.2.2.2 _ (List.mem_of_getElem? (i := 8) rfl)⟩
        · exact Or.inr ⟨by decide, "java/util/NoSuchElementException", hts _ w_455, hE.2.2.2.2.2 _ (List.mem_of_getElem? (i := 12) rfl)⟩) rfl (by decide) (hts _ w_132) (hE.use _ (List.mem_append_right _ (List.mem_map.mpr ⟨_, List.mem_of_getElem? (i := 2) rfl, rfl⟩))) hce hcv hcl ?_
    refine lv_astore (lv' := [(5, .ref q9), (0, .ref kr), (1, .int (iI (((sn : Nat) : Int)))), (2, .int (iI (((tn : Nat) : Int)))), (3, .int (iI (wz))), (4, .ref po)]) hx hb dL_forecast_23 hl (by decide) rfl (fun ls hl => ?_)
    refine lv_iconst (v := iI (3)) hx hb dL_forecast_25 rfl ?_
    refine W.widen (k := 4) (n := 24) (by omega) (by omega) ?_
    have hres : iI (3) = iI (hkI [1, 2, 3] (if (dy : Int) ≤ wz ∧ wz ≤ 1099 then 0 else 3)) := congrArg iI (by
        rw [hc3]; rfl)
    exact W.iret hx hb hr (fun t ht hW => ⟨⟨_, (), rfl, hres, trivial⟩, hS.F ht⟩) hS.2.2 dL_forecast_26
  obtain ⟨hc2, hw⟩ := hw
  subst hw
  have hP := P_kept hP hk1
  exact absurd hc2 hne

abbrev ws_L_errors : List Cond := Cond.codeWith yL_errors cL_errors 6 (some .int) [(0, 12, 15, 25), (0, 12, 19, 50), (0, 12, 23, 13)] :: ALL
set_option maxHeartbeats 4000000 in
set_option maxRecDepth 100000 in
theorem m_L_errors_no_t (l : Launch) (hst : l.stackTraces = false) (D : va_G) (cs : Nat → ClassId) (kr la ia na b4 b6 b8 b10 sh it : Nat) (lc : Int) (dy : Nat) (pct lr sr : Int) (lf : Nat → Int) (itf : Nat → Option Nat) (lnf : Nat → Option Nat) (zs zi : Int) (z0 : Int) (po : Nat) (ov : Nat → Int64) (hsh : sh ≤ 4) (hit : it ≤ 5) (hitf : ∀ j, j < it → itf j ≠ none) (hzs : -2147483648 ≤ zs ∧ zs < 2147483648) (hzi : -2147483648 ≤ zi ∧ zi < 2147483648) (hno : cdL sh it lnf zs zi ≠ 0) : Met l yL_errors ws_L_errors ({ frames := 9, cells := 3, slots := 18, locals := 151 }) (va_Pc [.ref kr, .int (iI (zs)), .int (iI (zi)), .int (iI (z0)), .ref po] (PE D cs [(po, .inl (cs 4, 1, .inr (.inl ov))), (kr, .inr (5, [.ref la, .ref ia, .ref na, .ref b4, .ref b6, .ref b8, .ref b10, .int (iI (((sh : Nat) : Int))), .int (iI (((it : Nat) : Int))), .int (iI (lc)), .int (iI (((dy : Nat) : Int))), .int (iI (pct)), .int (iI (lr)), .int (iI (sr))])), (la, arI cs 4 lf), (ia, arQ cs 2 5 itf), (na, arQ cs 3 20 lnf)] noA)) (va_Qi (fun r (_ : Unit) => r = iI (hkI [1, 2, 3] (cdL sh it lnf zs zi))) (fun _ _ => True) noA) 3 18 noA := by
  refine va_MetW (cc := cL_errors) (maxL := 6) (ret := some .int) (hh := [(0, 12, 15, 25), (0, 12, 19, 50), (0, 12, 23, 13)]) (by decide +kernel) rfl ?_
  intro p e s m args below meth c s₁ B hml hv
  obtain ⟨rfl, ⟨hP, hK, hD, hN⟩, hE⟩ := hv
  have hx := B.exec
  have hb := B.bytes
  have hr := B.returns
  have hts : ∀ w ∈ ALL, w.before _ s = true := fun w h => atoms_spec (ws := ws_L_errors) B.pre w (List.mem_cons_of_mem _ h)
  have hown : s.vm.findClass RL = some m.cls := findClass_of_methodNamed B.named
  have hlocks := B.notSynchronized
  have htab : c.exceptionTable.toList = tableOf [(0, 12, 15, 25), (0, 12, 19, 50), (0, 12, 23, 13)] := vx_table (x := yL_errors) B (atoms_spec (ws := ws_L_errors) B.pre _ List.mem_cons_self)
  have hS : va_S noA s.heap s.heap [] := va_S.rf
  generalize inW [(po, .inl (cs 4, 1, .inr (.inl ov))), (kr, .inr (5, [.ref la, .ref ia, .ref na, .ref b4, .ref b6, .ref b8, .ref b10, .int (iI (((sh : Nat) : Int))), .int (iI (((it : Nat) : Int))), .int (iI (lc)), .int (iI (((dy : Nat) : Int))), .int (iI (pct)), .int (iI (lr)), .int (iI (sr))])), (la, arI cs 4 lf), (ia, arQ cs 2 5 itf), (na, arQ cs 3 20 lnf)] = A at hD
  have hl := lv_entry ([.ref kr, .int (iI (zs)), .int (iI (zi)), .int (iI (z0)), .ref po]) (n := 6) (Nat.le_of_ble_eq_true rfl)
  rw [lg_entry_eq]
  generalize (lg_sl ([.ref kr, .int (iI (zs)), .int (iI (zi)), .int (iI (z0)), .ref po]) ++ List.replicate (6 - (lg_sl ([.ref kr, .int (iI (zs)), .int (iI (zi)), .int (iI (z0)), .ref po])).length) Slot.unset).toArray = ls at hl ⊢
  have hl : lv_has ls 6 [(0, .ref kr), (1, .int (iI (zs))), (2, .int (iI (zi))), (3, .int (iI (z0))), (4, .ref po)] := hl
  have hH := rfl (a := s.heap)
  refine lv_aload hx hb dL_errors_0 (lv_at hl 4 rfl) ?_
  refine lv_iconst (v := iI (0)) hx hb dL_errors_2 rfl ?_
  refine lv_aload_n hx hb dL_errors_3 rfl (lv_at hl 0 rfl) ?_
  refine lv_iload_n hx hb dL_errors_4 rfl (lv_at hl 1 rfl) ?_
  refine lv_iload_n hx hb dL_errors_5 rfl (lv_at hl 2 rfl) ?_
  refine lv_iload_n hx hb dL_errors_6 rfl (lv_at hl 3 rfl) ?_
  have pk1 : picks [(po, .inl (cs 4, 1, .inr (.inl ov))), (kr, .inr (5, [.ref la, .ref ia, .ref na, .ref b4, .ref b6, .ref b8, .ref b10, .int (iI (((sh : Nat) : Int))), .int (iI (((it : Nat) : Int))), .int (iI (lc)), .int (iI (((dy : Nat) : Int))), .int (iI (pct)), .int (iI (lr)), .int (iI (sr))])), (la, arI cs 4 lf), (ia, arQ cs 2 5 itf), (na, arQ cs 3 20 lnf)] [1, 2, 3, 4] [(kr, .inr (5, [.ref la, .ref ia, .ref na, .ref b4, .ref b6, .ref b8, .ref b10, .int (iI (((sh : Nat) : Int))), .int (iI (((it : Nat) : Int))), .int (iI (lc)), .int (iI (((dy : Nat) : Int))), .int (iI (pct)), .int (iI (lr)), .int (iI (sr))])), (la, arI cs 4 lf), (ia, arQ cs 2 5 itf), (na, arQ cs 3 20 lnf)] := ⟨rfl, rfl, rfl, rfl, trivial⟩
  refine vx_calli (vx_runV (As := [.int (iI (zs)), .int (iI (zi)), .int (iI (z0))]) (rest := [.int (iI (0)), .ref po]) ⟨hx, hb, hml, hown, hts⟩ (m_X5_errors_no l hst D cs kr la ia na b4 b6 b8 b10 sh it lc dy pct lr sr lf itf lnf zs zi z0 (hsh) (hit) (hitf) (hzs) (hzi) (hno)) (cwV 3 hts (gV w_659 w_660 w_661 w_1 w_662) rfl rfl rfl (by decide +kernel) ⟨Nat.le_of_ble_eq_true rfl, Nat.le_of_ble_eq_true rfl⟩) (PE_V hK hN hE hS (fun _ h => False.elim h) hP hD [1, 2, 3, 4] rfl pk1 rfl rfl) rfl rfl hl.1 rfl (lv_room (Nat.le_of_ble_eq_true rfl)) dL_errors_7 ⟨Nat.le_of_ble_eq_true rfl, Nat.le_of_ble_eq_true rfl⟩) hS (fun _ _ h => False.elim h) (fun _ h => False.elim h) (fun _ _ h => False.elim h) (fun E ce q9 u t H1 locs1 ht hvm hpx hBX hz1 hk1 hS1 hce hcv hcl => ?_) (fun r u t H locs ht hvm hw hB hz1 hk1 hS => ?_)
  · have h9 : u = cdL sh it lnf zs zi := hpx.1
    have hS := hS1
    have hcd : cdL sh it lnf zs zi = 2 ∨ cdL sh it lnf zs zi = 1 := by
      revert hno
      (try unfold cdL); (try unfold cdS); (try unfold cdC)
      (repeat' split) <;> simp
    have hEu := hBX
    have hP := P_kept hP hk1
    rcases hcd with hc3 | hcd
    · have hE3 : E = "java/util/NoSuchElementException" := by have h8 : E = exN u := hEu; rw [h8, h9, hc3]; rfl
      subst hE3
      refine vx_catch (name := "java/util/NoSuchElementException") hown [⟨0, 12, 15, 25⟩] ⟨0, 12, 19, 50⟩ [⟨0, 12, 23, 13⟩] (htab.trans rfl) (fun z hz => by
          simp only [List.mem_cons, List.not_mem_nil, or_false] at hz
          rcases hz with rfl
          · exact Or.inr ⟨by decide, "java/lang/IndexOutOfBoundsException", hts _ w_266, hE.2.2.2.2.2 _ (List.mem_of_getElem? (i := 10) rfl)⟩) rfl (by decide) (hts _ w_455) (hE.use _ (List.mem_append_right _ (List.mem_map.mpr ⟨_, List.mem_of_getElem? (i := 1) rfl, rfl⟩))) hce hcv hcl ?_
      refine lv_astore (lv' := [(5, .ref q9), (0, .ref kr), (1, .int (iI (zs))), (2, .int (iI (zi))), (3, .int (iI (z0))), (4, .ref po)]) hx hb dL_errors_19 hl (by decide) rfl (fun ls hl => ?_)
      refine lv_iconst (v := iI (2)) hx hb dL_errors_21 rfl ?_
      refine W.widen (k := 3) (n := 18) (by omega) (by omega) ?_
      have hres : iI (2) = iI (hkI [1, 2, 3] (cdL sh it lnf zs zi)) := congrArg iI (by
          rw [hc3]; rfl)
      exact W.iret hx hb hr (fun t ht hW => ⟨⟨_, (), rfl, hres, trivial⟩, hS.F ht⟩) hS.2.2 dL_errors_22
    have hc3 := hcd
    have hE3 : E = "java/lang/IndexOutOfBoundsException" := by have h8 : E = exN u := hEu; rw [h8, h9, hc3]; rfl
    subst hE3
    refine vx_catch (name := "java/lang/IndexOutOfBoundsException") hown [] ⟨0, 12, 15, 25⟩ [⟨0, 12, 19, 50⟩, ⟨0, 12, 23, 13⟩] (htab.trans rfl) (fun z hz => by cases hz) rfl (by decide) (hts _ w_266) (hE.use _ (List.mem_append_right _ (List.mem_map.mpr ⟨_, List.mem_of_getElem? (i := 0) rfl, rfl⟩))) hce hcv hcl ?_
    refine lv_astore (lv' := [(5, .ref q9), (0, .ref kr), (1, .int (iI (zs))), (2, .int (iI (zi))), (3, .int (iI (z0))), (4, .ref po)]) hx hb dL_errors_15 hl (by decide) rfl (fun ls hl => ?_)
    refine lv_iconst (v := iI (1)) hx hb dL_errors_17 rfl ?_
    refine W.widen (k := 3) (n := 18) (by omega) (by omega) ?_
    have hres : iI (1) = iI (hkI [1, 2, 3] (cdL sh it lnf zs zi)) := congrArg iI (by
        rw [hc3]; rfl)
    exact W.iret hx hb hr (fun t ht hW => ⟨⟨_, (), rfl, hres, trivial⟩, hS.F ht⟩) hS.2.2 dL_errors_18
  obtain ⟨hc2, hw⟩ := hw
  subst hw
  have hP := P_kept hP hk1
  exact absurd hc2 hno

set_option maxHeartbeats 4000000 in
set_option maxRecDepth 100000 in
theorem m_L_errors_ok_r (l : Launch) (hst : l.stackTraces = false) (D : va_G) (cs : Nat → ClassId) (kr la ia na b4 b6 b8 b10 sh it : Nat) (lc : Int) (dy : Nat) (pct lr sr : Int) (lf : Nat → Int) (itf : Nat → Option Nat) (lnf : Nat → Option Nat) (sn tn : Nat) (kn hi kl ke kd ks ka : Nat) (ld fd fk fv es sk so lo : Int) (ef : Nat → Int) (wz : Int) (po : Nat) (ov : Nat → Int64) (hsh : sh ≤ 4) (hit : it ≤ 5) (hitf : ∀ j, j < it → itf j ≠ none) (hsn : sn < sh) (htn : tn < it) (hln : lnf (sn * 5 + tn) = some kn) (hwz : -2147483648 ≤ wz ∧ wz < 2147483648) (hz : (if 0 ≤ wz ∧ wz ≤ 20 then 0 else 3) = 0) (hrr : -2147483648 ≤ (ef wz.toNat) ∧ (ef wz.toNat) < 2147483648) : Met l yL_errors ws_L_errors ({ frames := 9, cells := 4, slots := 24, locals := 151 }) (va_Pc [.ref kr, .int (iI (((sn : Nat) : Int))), .int (iI (((tn : Nat) : Int))), .int (iI (wz)), .ref po] (PE D cs [(po, .inl (cs 4, 1, .inr (.inl ov))), (kr, .inr (5, [.ref la, .ref ia, .ref na, .ref b4, .ref b6, .ref b8, .ref b10, .int (iI (((sh : Nat) : Int))), .int (iI (((it : Nat) : Int))), .int (iI (lc)), .int (iI (((dy : Nat) : Int))), .int (iI (pct)), .int (iI (lr)), .int (iI (sr))])), (la, arI cs 4 lf), (ia, arQ cs 2 5 itf), (na, arQ cs 3 20 lnf), (kn, .inr (3, [.ref hi, .int (iI (ld)), .int (iI (fd)), .int (iI (fk)), .int (iI (fv)), .ref kl, .ref ke, .ref kd, .ref ks, .ref ka, .int (iI (es)), .int (iI (sk)), .int (iI (so)), .int (iI (lo))])), (ke, arI cs 21 ef)] (inW [(po, .inl (cs 4, 1, .inr (.inl ov))), (kr, .inr (5, [.ref la, .ref ia, .ref na, .ref b4, .ref b6, .ref b8, .ref b10, .int (iI (((sh : Nat) : Int))), .int (iI (((it : Nat) : Int))), .int (iI (lc)), .int (iI (((dy : Nat) : Int))), .int (iI (pct)), .int (iI (lr)), .int (iI (sr))])), (la, arI cs 4 lf), (ia, arQ cs 2 5 itf), (na, arQ cs 3 20 lnf), (kn, .inr (3, [.ref hi, .int (iI (ld)), .int (iI (fd)), .int (iI (fk)), .int (iI (fv)), .ref kl, .ref ke, .ref kd, .ref ks, .ref ka, .int (iI (es)), .int (iI (sk)), .int (iI (so)), .int (iI (lo))])), (ke, arI cs 21 ef)]))) (va_Qi (fun r (_ : Unit) => r = iI (0)) (fun _ t => va_P D vwCl [(po, .inl (cs 4, 1, .inr (.inl (vp_updL ov 0 (lI (ef wz.toNat)))))), (kr, .inr (5, [.ref la, .ref ia, .ref na, .ref b4, .ref b6, .ref b8, .ref b10, .int (iI (((sh : Nat) : Int))), .int (iI (((it : Nat) : Int))), .int (iI (lc)), .int (iI (((dy : Nat) : Int))), .int (iI (pct)), .int (iI (lr)), .int (iI (sr))])), (la, arI cs 4 lf), (ia, arQ cs 2 5 itf), (na, arQ cs 3 20 lnf), (kn, .inr (3, [.ref hi, .int (iI (ld)), .int (iI (fd)), .int (iI (fk)), .int (iI (fv)), .ref kl, .ref ke, .ref kd, .ref ks, .ref ka, .int (iI (es)), .int (iI (sk)), .int (iI (so)), .int (iI (lo))])), (ke, arI cs 21 ef)] t.heap) (inW [(po, .inl (cs 4, 1, .inr (.inl ov))), (kr, .inr (5, [.ref la, .ref ia, .ref na, .ref b4, .ref b6, .ref b8, .ref b10, .int (iI (((sh : Nat) : Int))), .int (iI (((it : Nat) : Int))), .int (iI (lc)), .int (iI (((dy : Nat) : Int))), .int (iI (pct)), .int (iI (lr)), .int (iI (sr))])), (la, arI cs 4 lf), (ia, arQ cs 2 5 itf), (na, arQ cs 3 20 lnf), (kn, .inr (3, [.ref hi, .int (iI (ld)), .int (iI (fd)), .int (iI (fk)), .int (iI (fv)), .ref kl, .ref ke, .ref kd, .ref ks, .ref ka, .int (iI (es)), .int (iI (sk)), .int (iI (so)), .int (iI (lo))])), (ke, arI cs 21 ef)])) 4 24 (inW [(po, .inl (cs 4, 1, .inr (.inl ov))), (kr, .inr (5, [.ref la, .ref ia, .ref na, .ref b4, .ref b6, .ref b8, .ref b10, .int (iI (((sh : Nat) : Int))), .int (iI (((it : Nat) : Int))), .int (iI (lc)), .int (iI (((dy : Nat) : Int))), .int (iI (pct)), .int (iI (lr)), .int (iI (sr))])), (la, arI cs 4 lf), (ia, arQ cs 2 5 itf), (na, arQ cs 3 20 lnf), (kn, .inr (3, [.ref hi, .int (iI (ld)), .int (iI (fd)), .int (iI (fk)), .int (iI (fv)), .ref kl, .ref ke, .ref kd, .ref ks, .ref ka, .int (iI (es)), .int (iI (sk)), .int (iI (so)), .int (iI (lo))])), (ke, arI cs 21 ef)]) := by
  refine va_MetW (cc := cL_errors) (maxL := 6) (ret := some .int) (hh := [(0, 12, 15, 25), (0, 12, 19, 50), (0, 12, 23, 13)]) (by decide +kernel) rfl ?_
  intro p e s m args below meth c s₁ B hml hv
  obtain ⟨rfl, ⟨hP, hK, hD, hN⟩, hE⟩ := hv
  have hx := B.exec
  have hb := B.bytes
  have hr := B.returns
  have hts : ∀ w ∈ ALL, w.before _ s = true := fun w h => atoms_spec (ws := ws_L_errors) B.pre w (List.mem_cons_of_mem _ h)
  have hown : s.vm.findClass RL = some m.cls := findClass_of_methodNamed B.named
  have hlocks := B.notSynchronized
  have htab : c.exceptionTable.toList = tableOf [(0, 12, 15, 25), (0, 12, 19, 50), (0, 12, 23, 13)] := vx_table (x := yL_errors) B (atoms_spec (ws := ws_L_errors) B.pre _ List.mem_cons_self)
  generalize hAe : inW [(po, .inl (cs 4, 1, .inr (.inl ov))), (kr, .inr (5, [.ref la, .ref ia, .ref na, .ref b4, .ref b6, .ref b8, .ref b10, .int (iI (((sh : Nat) : Int))), .int (iI (((it : Nat) : Int))), .int (iI (lc)), .int (iI (((dy : Nat) : Int))), .int (iI (pct)), .int (iI (lr)), .int (iI (sr))])), (la, arI cs 4 lf), (ia, arQ cs 2 5 itf), (na, arQ cs 3 20 lnf), (kn, .inr (3, [.ref hi, .int (iI (ld)), .int (iI (fd)), .int (iI (fk)), .int (iI (fv)), .ref kl, .ref ke, .ref kd, .ref ks, .ref ka, .int (iI (es)), .int (iI (sk)), .int (iI (so)), .int (iI (lo))])), (ke, arI cs 21 ef)] = A at hD hE ⊢
  have hS : va_S A s.heap s.heap [] := va_S.rf
  have hl := lv_entry ([.ref kr, .int (iI (((sn : Nat) : Int))), .int (iI (((tn : Nat) : Int))), .int (iI (wz)), .ref po]) (n := 6) (Nat.le_of_ble_eq_true rfl)
  rw [lg_entry_eq]
  generalize (lg_sl ([.ref kr, .int (iI (((sn : Nat) : Int))), .int (iI (((tn : Nat) : Int))), .int (iI (wz)), .ref po]) ++ List.replicate (6 - (lg_sl ([.ref kr, .int (iI (((sn : Nat) : Int))), .int (iI (((tn : Nat) : Int))), .int (iI (wz)), .ref po])).length) Slot.unset).toArray = ls at hl ⊢
  have hl : lv_has ls 6 [(0, .ref kr), (1, .int (iI (((sn : Nat) : Int)))), (2, .int (iI (((tn : Nat) : Int)))), (3, .int (iI (wz))), (4, .ref po)] := hl
  have hH := rfl (a := s.heap)
  refine lv_aload hx hb dL_errors_0 (lv_at hl 4 rfl) ?_
  refine lv_iconst (v := iI (0)) hx hb dL_errors_2 rfl ?_
  refine lv_aload_n hx hb dL_errors_3 rfl (lv_at hl 0 rfl) ?_
  refine lv_iload_n hx hb dL_errors_4 rfl (lv_at hl 1 rfl) ?_
  refine lv_iload_n hx hb dL_errors_5 rfl (lv_at hl 2 rfl) ?_
  refine lv_iload_n hx hb dL_errors_6 rfl (lv_at hl 3 rfl) ?_
  have pk1 : picks [(po, .inl (cs 4, 1, .inr (.inl ov))), (kr, .inr (5, [.ref la, .ref ia, .ref na, .ref b4, .ref b6, .ref b8, .ref b10, .int (iI (((sh : Nat) : Int))), .int (iI (((it : Nat) : Int))), .int (iI (lc)), .int (iI (((dy : Nat) : Int))), .int (iI (pct)), .int (iI (lr)), .int (iI (sr))])), (la, arI cs 4 lf), (ia, arQ cs 2 5 itf), (na, arQ cs 3 20 lnf), (kn, .inr (3, [.ref hi, .int (iI (ld)), .int (iI (fd)), .int (iI (fk)), .int (iI (fv)), .ref kl, .ref ke, .ref kd, .ref ks, .ref ka, .int (iI (es)), .int (iI (sk)), .int (iI (so)), .int (iI (lo))])), (ke, arI cs 21 ef)] [1, 2, 3, 4, 5, 6] [(kr, .inr (5, [.ref la, .ref ia, .ref na, .ref b4, .ref b6, .ref b8, .ref b10, .int (iI (((sh : Nat) : Int))), .int (iI (((it : Nat) : Int))), .int (iI (lc)), .int (iI (((dy : Nat) : Int))), .int (iI (pct)), .int (iI (lr)), .int (iI (sr))])), (la, arI cs 4 lf), (ia, arQ cs 2 5 itf), (na, arQ cs 3 20 lnf), (kn, .inr (3, [.ref hi, .int (iI (ld)), .int (iI (fd)), .int (iI (fk)), .int (iI (fv)), .ref kl, .ref ke, .ref kd, .ref ks, .ref ka, .int (iI (es)), .int (iI (sk)), .int (iI (so)), .int (iI (lo))])), (ke, arI cs 21 ef)] := ⟨rfl, rfl, rfl, rfl, rfl, rfl, trivial⟩
  refine vx_calli (vx_runV (As := [.int (iI (((sn : Nat) : Int))), .int (iI (((tn : Nat) : Int))), .int (iI (wz))]) (rest := [.int (iI (0)), .ref po]) ⟨hx, hb, hml, hown, hts⟩ (m_X5_errors_ok l hst D cs kr la ia na b4 b6 b8 b10 sh it lc dy pct lr sr lf itf lnf sn tn kn hi kl ke kd ks ka ld fd fk fv es sk so lo ef wz (hsh) (hit) (hitf) (hsn) (htn) (hln) (hwz)) (cwV 3 hts (gV w_659 w_660 w_661 w_1 w_662) rfl rfl rfl (by decide +kernel) ⟨Nat.le_of_ble_eq_true rfl, Nat.le_of_ble_eq_true rfl⟩) (PE_V hK hN hE hS (fun _ h => False.elim h) hP hD [1, 2, 3, 4, 5, 6] rfl pk1 rfl rfl) rfl rfl hl.1 rfl (lv_room (Nat.le_of_ble_eq_true rfl)) dL_errors_7 ⟨Nat.le_of_ble_eq_true rfl, Nat.le_of_ble_eq_true rfl⟩) hS (fun _ _ h => False.elim h) (fun _ h => False.elim h) (fun _ _ h => False.elim h) (fun E ce q9 u t H1 locs1 ht hvm hpx hBX hz1 hk1 hS1 hce hcv hcl => ?_) (fun r u t H locs ht hvm hw hB hz1 hk1 hS => ?_)
  · exact absurd (hpx.1.trans hz) hpx.2
  obtain ⟨hc2, hw⟩ := hw
  subst hw
  have hP := P_kept hP hk1
  refine my_i2l hx hb dL_errors_10 (by omega) ?_
  refine my_last0 hx hb hK hP hD hS 0 rfl dL_errors_11 (fun H locs hP hD hS => ?_)
  have hP : va_P D vwCl [(po, .inl (cs 4, 1, .inr (.inl (vp_updL ov 0 (lI (ef wz.toNat)))))), (kr, .inr (5, [.ref la, .ref ia, .ref na, .ref b4, .ref b6, .ref b8, .ref b10, .int (iI (((sh : Nat) : Int))), .int (iI (((it : Nat) : Int))), .int (iI (lc)), .int (iI (((dy : Nat) : Int))), .int (iI (pct)), .int (iI (lr)), .int (iI (sr))])), (la, arI cs 4 lf), (ia, arQ cs 2 5 itf), (na, arQ cs 3 20 lnf), (kn, .inr (3, [.ref hi, .int (iI (ld)), .int (iI (fd)), .int (iI (fk)), .int (iI (fv)), .ref kl, .ref ke, .ref kd, .ref ks, .ref ka, .int (iI (es)), .int (iI (sk)), .int (iI (so)), .int (iI (lo))])), (ke, arI cs 21 ef)] H := hP
  have hD : va_D A [(po, .inl (cs 4, 1, .inr (.inl (vp_updL ov 0 (lI (ef wz.toNat)))))), (kr, .inr (5, [.ref la, .ref ia, .ref na, .ref b4, .ref b6, .ref b8, .ref b10, .int (iI (((sh : Nat) : Int))), .int (iI (((it : Nat) : Int))), .int (iI (lc)), .int (iI (((dy : Nat) : Int))), .int (iI (pct)), .int (iI (lr)), .int (iI (sr))])), (la, arI cs 4 lf), (ia, arQ cs 2 5 itf), (na, arQ cs 3 20 lnf), (kn, .inr (3, [.ref hi, .int (iI (ld)), .int (iI (fd)), .int (iI (fk)), .int (iI (fv)), .ref kl, .ref ke, .ref kd, .ref ks, .ref ka, .int (iI (es)), .int (iI (sk)), .int (iI (so)), .int (iI (lo))])), (ke, arI cs 21 ef)] := hD
  refine lv_goto (tgt := 27) hx hb dL_errors_12 (by decide) ?_
  refine lv_iconst (v := iI (0)) hx hb dL_errors_27 rfl ?_
  subst hAe
  refine W.widen (k := 4) (n := 24) (by omega) (by omega) ?_
  have hres : iI (0) = iI (0) := congrArg iI (by
      rfl)
  exact W.iret hx hb hr (fun t ht hW => ⟨⟨_, (), rfl, hres, by show va_P D vwCl _ t.heap; rw [ht]; exact hP⟩, hS.F ht⟩) hS.2.2 dL_errors_28

set_option maxHeartbeats 4000000 in
set_option maxRecDepth 100000 in
theorem m_L_errors_ok_t (l : Launch) (hst : l.stackTraces = false) (D : va_G) (cs : Nat → ClassId) (kr la ia na b4 b6 b8 b10 sh it : Nat) (lc : Int) (dy : Nat) (pct lr sr : Int) (lf : Nat → Int) (itf : Nat → Option Nat) (lnf : Nat → Option Nat) (sn tn : Nat) (kn hi kl ke kd ks ka : Nat) (ld fd fk fv es sk so lo : Int) (ef : Nat → Int) (wz : Int) (po : Nat) (ov : Nat → Int64) (hsh : sh ≤ 4) (hit : it ≤ 5) (hitf : ∀ j, j < it → itf j ≠ none) (hsn : sn < sh) (htn : tn < it) (hln : lnf (sn * 5 + tn) = some kn) (hwz : -2147483648 ≤ wz ∧ wz < 2147483648) (hne : (if 0 ≤ wz ∧ wz ≤ 20 then 0 else 3) ≠ 0) : Met l yL_errors ws_L_errors ({ frames := 9, cells := 4, slots := 24, locals := 151 }) (va_Pc [.ref kr, .int (iI (((sn : Nat) : Int))), .int (iI (((tn : Nat) : Int))), .int (iI (wz)), .ref po] (PE D cs [(po, .inl (cs 4, 1, .inr (.inl ov))), (kr, .inr (5, [.ref la, .ref ia, .ref na, .ref b4, .ref b6, .ref b8, .ref b10, .int (iI (((sh : Nat) : Int))), .int (iI (((it : Nat) : Int))), .int (iI (lc)), .int (iI (((dy : Nat) : Int))), .int (iI (pct)), .int (iI (lr)), .int (iI (sr))])), (la, arI cs 4 lf), (ia, arQ cs 2 5 itf), (na, arQ cs 3 20 lnf), (kn, .inr (3, [.ref hi, .int (iI (ld)), .int (iI (fd)), .int (iI (fk)), .int (iI (fv)), .ref kl, .ref ke, .ref kd, .ref ks, .ref ka, .int (iI (es)), .int (iI (sk)), .int (iI (so)), .int (iI (lo))])), (ke, arI cs 21 ef)] noA)) (va_Qi (fun r (_ : Unit) => r = iI (hkI [1, 2, 3] (if 0 ≤ wz ∧ wz ≤ 20 then 0 else 3))) (fun _ _ => True) noA) 4 24 noA := by
  refine va_MetW (cc := cL_errors) (maxL := 6) (ret := some .int) (hh := [(0, 12, 15, 25), (0, 12, 19, 50), (0, 12, 23, 13)]) (by decide +kernel) rfl ?_
  intro p e s m args below meth c s₁ B hml hv
  obtain ⟨rfl, ⟨hP, hK, hD, hN⟩, hE⟩ := hv
  have hx := B.exec
  have hb := B.bytes
  have hr := B.returns
  have hts : ∀ w ∈ ALL, w.before _ s = true := fun w h => atoms_spec (ws := ws_L_errors) B.pre w (List.mem_cons_of_mem _ h)
  have hown : s.vm.findClass RL = some m.cls := findClass_of_methodNamed B.named
  have hlocks := B.notSynchronized
  have htab : c.exceptionTable.toList = tableOf [(0, 12, 15, 25), (0, 12, 19, 50), (0, 12, 23, 13)] := vx_table (x := yL_errors) B (atoms_spec (ws := ws_L_errors) B.pre _ List.mem_cons_self)
  have hS : va_S noA s.heap s.heap [] := va_S.rf
  generalize inW [(po, .inl (cs 4, 1, .inr (.inl ov))), (kr, .inr (5, [.ref la, .ref ia, .ref na, .ref b4, .ref b6, .ref b8, .ref b10, .int (iI (((sh : Nat) : Int))), .int (iI (((it : Nat) : Int))), .int (iI (lc)), .int (iI (((dy : Nat) : Int))), .int (iI (pct)), .int (iI (lr)), .int (iI (sr))])), (la, arI cs 4 lf), (ia, arQ cs 2 5 itf), (na, arQ cs 3 20 lnf), (kn, .inr (3, [.ref hi, .int (iI (ld)), .int (iI (fd)), .int (iI (fk)), .int (iI (fv)), .ref kl, .ref ke, .ref kd, .ref ks, .ref ka, .int (iI (es)), .int (iI (sk)), .int (iI (so)), .int (iI (lo))])), (ke, arI cs 21 ef)] = A at hD
  have hl := lv_entry ([.ref kr, .int (iI (((sn : Nat) : Int))), .int (iI (((tn : Nat) : Int))), .int (iI (wz)), .ref po]) (n := 6) (Nat.le_of_ble_eq_true rfl)
  rw [lg_entry_eq]
  generalize (lg_sl ([.ref kr, .int (iI (((sn : Nat) : Int))), .int (iI (((tn : Nat) : Int))), .int (iI (wz)), .ref po]) ++ List.replicate (6 - (lg_sl ([.ref kr, .int (iI (((sn : Nat) : Int))), .int (iI (((tn : Nat) : Int))), .int (iI (wz)), .ref po])).length) Slot.unset).toArray = ls at hl ⊢
  have hl : lv_has ls 6 [(0, .ref kr), (1, .int (iI (((sn : Nat) : Int)))), (2, .int (iI (((tn : Nat) : Int)))), (3, .int (iI (wz))), (4, .ref po)] := hl
  have hH := rfl (a := s.heap)
  refine lv_aload hx hb dL_errors_0 (lv_at hl 4 rfl) ?_
  refine lv_iconst (v := iI (0)) hx hb dL_errors_2 rfl ?_
  refine lv_aload_n hx hb dL_errors_3 rfl (lv_at hl 0 rfl) ?_
  refine lv_iload_n hx hb dL_errors_4 rfl (lv_at hl 1 rfl) ?_
  refine lv_iload_n hx hb dL_errors_5 rfl (lv_at hl 2 rfl) ?_
  refine lv_iload_n hx hb dL_errors_6 rfl (lv_at hl 3 rfl) ?_
  have pk1 : picks [(po, .inl (cs 4, 1, .inr (.inl ov))), (kr, .inr (5, [.ref la, .ref ia, .ref na, .ref b4, .ref b6, .ref b8, .ref b10, .int (iI (((sh : Nat) : Int))), .int (iI (((it : Nat) : Int))), .int (iI (lc)), .int (iI (((dy : Nat) : Int))), .int (iI (pct)), .int (iI (lr)), .int (iI (sr))])), (la, arI cs 4 lf), (ia, arQ cs 2 5 itf), (na, arQ cs 3 20 lnf), (kn, .inr (3, [.ref hi, .int (iI (ld)), .int (iI (fd)), .int (iI (fk)), .int (iI (fv)), .ref kl, .ref ke, .ref kd, .ref ks, .ref ka, .int (iI (es)), .int (iI (sk)), .int (iI (so)), .int (iI (lo))])), (ke, arI cs 21 ef)] [1, 2, 3, 4, 5, 6] [(kr, .inr (5, [.ref la, .ref ia, .ref na, .ref b4, .ref b6, .ref b8, .ref b10, .int (iI (((sh : Nat) : Int))), .int (iI (((it : Nat) : Int))), .int (iI (lc)), .int (iI (((dy : Nat) : Int))), .int (iI (pct)), .int (iI (lr)), .int (iI (sr))])), (la, arI cs 4 lf), (ia, arQ cs 2 5 itf), (na, arQ cs 3 20 lnf), (kn, .inr (3, [.ref hi, .int (iI (ld)), .int (iI (fd)), .int (iI (fk)), .int (iI (fv)), .ref kl, .ref ke, .ref kd, .ref ks, .ref ka, .int (iI (es)), .int (iI (sk)), .int (iI (so)), .int (iI (lo))])), (ke, arI cs 21 ef)] := ⟨rfl, rfl, rfl, rfl, rfl, rfl, trivial⟩
  refine vx_calli (vx_runV (As := [.int (iI (((sn : Nat) : Int))), .int (iI (((tn : Nat) : Int))), .int (iI (wz))]) (rest := [.int (iI (0)), .ref po]) ⟨hx, hb, hml, hown, hts⟩ (m_X5_errors_ok l hst D cs kr la ia na b4 b6 b8 b10 sh it lc dy pct lr sr lf itf lnf sn tn kn hi kl ke kd ks ka ld fd fk fv es sk so lo ef wz (hsh) (hit) (hitf) (hsn) (htn) (hln) (hwz)) (cwV 3 hts (gV w_659 w_660 w_661 w_1 w_662) rfl rfl rfl (by decide +kernel) ⟨Nat.le_of_ble_eq_true rfl, Nat.le_of_ble_eq_true rfl⟩) (PE_V hK hN hE hS (fun _ h => False.elim h) hP hD [1, 2, 3, 4, 5, 6] rfl pk1 rfl rfl) rfl rfl hl.1 rfl (lv_room (Nat.le_of_ble_eq_true rfl)) dL_errors_7 ⟨Nat.le_of_ble_eq_true rfl, Nat.le_of_ble_eq_true rfl⟩) hS (fun _ _ h => False.elim h) (fun _ h => False.elim h) (fun _ _ h => False.elim h) (fun E ce q9 u t H1 locs1 ht hvm hpx hBX hz1 hk1 hS1 hce hcv hcl => ?_) (fun r u t H locs ht hvm hw hB hz1 hk1 hS => ?_)
  · have h9 : u = (if 0 ≤ wz ∧ wz ≤ 20 then 0 else 3) := hpx.1
    have hS := hS1
    have hcd : (if 0 ≤ wz ∧ wz ≤ 20 then 0 else 3) = 3 := by
      revert hne
      (try unfold cdL); (try unfold cdS); (try unfold cdC)
      (repeat' split) <;> simp
    have hEu := hBX
    have hP := P_kept hP hk1
    have hc3 := hcd
    have hE3 : E = "java/lang/IllegalArgumentException" := by have h8 : E = exN u := hEu; rw [h8, h9, hc3]; rfl
    subst hE3
    refine vx_catch (name := "java/lang/IllegalArgumentException") hown [⟨0, 12, 15, 25⟩, ⟨0, 12, 19, 50⟩] ⟨0, 12, 23, 13⟩ [] (htab.trans rfl) (fun z hz => by
        simp only [List.mem_cons, List.not_mem_nil, or_false] at hz
        rcases hz with rfl | rfl
        · exact Or.inr ⟨by decide, "java/lang/IndexOutOfBoundsException", hts _ w_266, hE.2.2.2.2.2 _ (List.mem_of_getElem? (i := 8) rfl)⟩
        · exact Or.inr ⟨by decide, "java/util/NoSuchElementException", hts _ w_455, hE.2.2.2.2.2 _ (List.mem_of_getElem? (i := 12) rfl)⟩) rfl (by decide) (hts _ w_132) (hE.use _ (List.mem_append_right _ (List.mem_map.mpr ⟨_, List.mem_of_getElem? (i := 2) rfl, rfl⟩))) hce hcv hcl ?_
    refine lv_astore (lv' := [(5, .ref q9), (0, .ref kr), (1, .int (iI (((sn : Nat) : Int)))), (2, .int (iI (((tn : Nat) : Int)))), (3, .int (iI (wz))), (4, .ref po)]) hx hb dL_errors_23 hl (by decide) rfl (fun ls hl => ?_)
    refine lv_iconst (v := iI (3)) hx hb dL_errors_25 rfl ?_
    refine W.widen (k := 4) (n := 24) (by omega) (by omega) ?_
    have hres : iI (3) = iI (hkI [1, 2, 3] (if 0 ≤ wz ∧ wz ≤ 20 then 0 else 3)) := congrArg iI (by
        rw [hc3]; rfl)
    exact W.iret hx hb hr (fun t ht hW => ⟨⟨_, (), rfl, hres, trivial⟩, hS.F ht⟩) hS.2.2 dL_errors_26
  obtain ⟨hc2, hw⟩ := hw
  subst hw
  have hP := P_kept hP hk1
  exact absurd hc2 hne

abbrev ws_L_nextArrival : List Cond := Cond.codeWith yL_nextArrival cL_nextArrival 5 (some .int) [(0, 10, 13, 25), (0, 10, 17, 50)] :: ALL
set_option maxHeartbeats 4000000 in
set_option maxRecDepth 100000 in
theorem m_L_nextArrival_no_t (l : Launch) (hst : l.stackTraces = false) (D : va_G) (cs : Nat → ClassId) (kr la ia na b4 b6 b8 b10 sh it : Nat) (lc : Int) (dy : Nat) (pct lr sr : Int) (lf : Nat → Int) (itf : Nat → Option Nat) (lnf : Nat → Option Nat) (zs zi : Int) (po : Nat) (ov : Nat → Int64) (hsh : sh ≤ 4) (hit : it ≤ 5) (hitf : ∀ j, j < it → itf j ≠ none) (hzs : -2147483648 ≤ zs ∧ zs < 2147483648) (hzi : -2147483648 ≤ zi ∧ zi < 2147483648) (hno : cdL sh it lnf zs zi ≠ 0) : Met l yL_nextArrival ws_L_nextArrival ({ frames := 9, cells := 3, slots := 18, locals := 150 }) (va_Pc [.ref kr, .int (iI (zs)), .int (iI (zi)), .ref po] (PE D cs [(po, .inl (cs 4, 1, .inr (.inl ov))), (kr, .inr (5, [.ref la, .ref ia, .ref na, .ref b4, .ref b6, .ref b8, .ref b10, .int (iI (((sh : Nat) : Int))), .int (iI (((it : Nat) : Int))), .int (iI (lc)), .int (iI (((dy : Nat) : Int))), .int (iI (pct)), .int (iI (lr)), .int (iI (sr))])), (la, arI cs 4 lf), (ia, arQ cs 2 5 itf), (na, arQ cs 3 20 lnf)] noA)) (va_Qi (fun r (_ : Unit) => r = iI (hkI [1, 2] (cdL sh it lnf zs zi))) (fun _ _ => True) noA) 3 18 noA := by
  refine va_MetW (cc := cL_nextArrival) (maxL := 5) (ret := some .int) (hh := [(0, 10, 13, 25), (0, 10, 17, 50)]) (by decide +kernel) rfl ?_
  intro p e s m args below meth c s₁ B hml hv
  obtain ⟨rfl, ⟨hP, hK, hD, hN⟩, hE⟩ := hv
  have hx := B.exec
  have hb := B.bytes
  have hr := B.returns
  have hts : ∀ w ∈ ALL, w.before _ s = true := fun w h => atoms_spec (ws := ws_L_nextArrival) B.pre w (List.mem_cons_of_mem _ h)
  have hown : s.vm.findClass RL = some m.cls := findClass_of_methodNamed B.named
  have hlocks := B.notSynchronized
  have htab : c.exceptionTable.toList = tableOf [(0, 10, 13, 25), (0, 10, 17, 50)] := vx_table (x := yL_nextArrival) B (atoms_spec (ws := ws_L_nextArrival) B.pre _ List.mem_cons_self)
  have hS : va_S noA s.heap s.heap [] := va_S.rf
  generalize inW [(po, .inl (cs 4, 1, .inr (.inl ov))), (kr, .inr (5, [.ref la, .ref ia, .ref na, .ref b4, .ref b6, .ref b8, .ref b10, .int (iI (((sh : Nat) : Int))), .int (iI (((it : Nat) : Int))), .int (iI (lc)), .int (iI (((dy : Nat) : Int))), .int (iI (pct)), .int (iI (lr)), .int (iI (sr))])), (la, arI cs 4 lf), (ia, arQ cs 2 5 itf), (na, arQ cs 3 20 lnf)] = A at hD
  have hl := lv_entry ([.ref kr, .int (iI (zs)), .int (iI (zi)), .ref po]) (n := 5) (Nat.le_of_ble_eq_true rfl)
  rw [lg_entry_eq]
  generalize (lg_sl ([.ref kr, .int (iI (zs)), .int (iI (zi)), .ref po]) ++ List.replicate (5 - (lg_sl ([.ref kr, .int (iI (zs)), .int (iI (zi)), .ref po])).length) Slot.unset).toArray = ls at hl ⊢
  have hl : lv_has ls 5 [(0, .ref kr), (1, .int (iI (zs))), (2, .int (iI (zi))), (3, .ref po)] := hl
  have hH := rfl (a := s.heap)
  refine lv_aload_n hx hb dL_nextArrival_0 rfl (lv_at hl 3 rfl) ?_
  refine lv_iconst (v := iI (0)) hx hb dL_nextArrival_1 rfl ?_
  refine lv_aload_n hx hb dL_nextArrival_2 rfl (lv_at hl 0 rfl) ?_
  refine lv_iload_n hx hb dL_nextArrival_3 rfl (lv_at hl 1 rfl) ?_
  refine lv_iload_n hx hb dL_nextArrival_4 rfl (lv_at hl 2 rfl) ?_
  have pk1 : picks [(po, .inl (cs 4, 1, .inr (.inl ov))), (kr, .inr (5, [.ref la, .ref ia, .ref na, .ref b4, .ref b6, .ref b8, .ref b10, .int (iI (((sh : Nat) : Int))), .int (iI (((it : Nat) : Int))), .int (iI (lc)), .int (iI (((dy : Nat) : Int))), .int (iI (pct)), .int (iI (lr)), .int (iI (sr))])), (la, arI cs 4 lf), (ia, arQ cs 2 5 itf), (na, arQ cs 3 20 lnf)] [1, 2, 3, 4] [(kr, .inr (5, [.ref la, .ref ia, .ref na, .ref b4, .ref b6, .ref b8, .ref b10, .int (iI (((sh : Nat) : Int))), .int (iI (((it : Nat) : Int))), .int (iI (lc)), .int (iI (((dy : Nat) : Int))), .int (iI (pct)), .int (iI (lr)), .int (iI (sr))])), (la, arI cs 4 lf), (ia, arQ cs 2 5 itf), (na, arQ cs 3 20 lnf)] := ⟨rfl, rfl, rfl, rfl, trivial⟩
  refine vx_calli (vx_runV (As := [.int (iI (zs)), .int (iI (zi))]) (rest := [.int (iI (0)), .ref po]) ⟨hx, hb, hml, hown, hts⟩ (m_X5_nextArrival_no l hst D cs kr la ia na b4 b6 b8 b10 sh it lc dy pct lr sr lf itf lnf zs zi (hsh) (hit) (hitf) (hzs) (hzi) (hno)) (cwV 2 hts (gV w_708 w_709 w_710 w_1 w_711) rfl rfl rfl (by decide +kernel) ⟨Nat.le_of_ble_eq_true rfl, Nat.le_of_ble_eq_true rfl⟩) (PE_V hK hN hE hS (fun _ h => False.elim h) hP hD [1, 2, 3, 4] rfl pk1 rfl rfl) rfl rfl hl.1 rfl (lv_room (Nat.le_of_ble_eq_true rfl)) dL_nextArrival_5 ⟨Nat.le_of_ble_eq_true rfl, Nat.le_of_ble_eq_true rfl⟩) hS (fun _ _ h => False.elim h) (fun _ h => False.elim h) (fun _ _ h => False.elim h) (fun E ce q9 u t H1 locs1 ht hvm hpx hBX hz1 hk1 hS1 hce hcv hcl => ?_) (fun r u t H locs ht hvm hw hB hz1 hk1 hS => ?_)
  · have h9 : u = cdL sh it lnf zs zi := hpx.1
    have hS := hS1
    have hcd : cdL sh it lnf zs zi = 2 ∨ cdL sh it lnf zs zi = 1 := by
      revert hno
      (try unfold cdL); (try unfold cdS); (try unfold cdC)
      (repeat' split) <;> simp
    have hEu := hBX
    have hP := P_kept hP hk1
    rcases hcd with hc3 | hcd
    · have hE3 : E = "java/util/NoSuchElementException" := by have h8 : E = exN u := hEu; rw [h8, h9, hc3]; rfl
      subst hE3
      refine vx_catch (name := "java/util/NoSuchElementException") hown [⟨0, 10, 13, 25⟩] ⟨0, 10, 17, 50⟩ [] (htab.trans rfl) (fun z hz => by
          simp only [List.mem_cons, List.not_mem_nil, or_false] at hz
          rcases hz with rfl
          · exact Or.inr ⟨by decide, "java/lang/IndexOutOfBoundsException", hts _ w_266, hE.2.2.2.2.2 _ (List.mem_of_getElem? (i := 10) rfl)⟩) rfl (by decide) (hts _ w_455) (hE.use _ (List.mem_append_right _ (List.mem_map.mpr ⟨_, List.mem_of_getElem? (i := 1) rfl, rfl⟩))) hce hcv hcl ?_
      refine lv_astore (lv' := [(4, .ref q9), (0, .ref kr), (1, .int (iI (zs))), (2, .int (iI (zi))), (3, .ref po)]) hx hb dL_nextArrival_17 hl (by decide) rfl (fun ls hl => ?_)
      refine lv_iconst (v := iI (2)) hx hb dL_nextArrival_19 rfl ?_
      refine W.widen (k := 3) (n := 18) (by omega) (by omega) ?_
      have hres : iI (2) = iI (hkI [1, 2] (cdL sh it lnf zs zi)) := congrArg iI (by
          rw [hc3]; rfl)
      exact W.iret hx hb hr (fun t ht hW => ⟨⟨_, (), rfl, hres, trivial⟩, hS.F ht⟩) hS.2.2 dL_nextArrival_20
    have hc3 := hcd
    have hE3 : E = "java/lang/IndexOutOfBoundsException" := by have h8 : E = exN u := hEu; rw [h8, h9, hc3]; rfl
    subst hE3
    refine vx_catch (name := "java/lang/IndexOutOfBoundsException") hown [] ⟨0, 10, 13, 25⟩ [⟨0, 10, 17, 50⟩] (htab.trans rfl) (fun z hz => by cases hz) rfl (by decide) (hts _ w_266) (hE.use _ (List.mem_append_right _ (List.mem_map.mpr ⟨_, List.mem_of_getElem? (i := 0) rfl, rfl⟩))) hce hcv hcl ?_
    refine lv_astore (lv' := [(4, .ref q9), (0, .ref kr), (1, .int (iI (zs))), (2, .int (iI (zi))), (3, .ref po)]) hx hb dL_nextArrival_13 hl (by decide) rfl (fun ls hl => ?_)
    refine lv_iconst (v := iI (1)) hx hb dL_nextArrival_15 rfl ?_
    refine W.widen (k := 3) (n := 18) (by omega) (by omega) ?_
    have hres : iI (1) = iI (hkI [1, 2] (cdL sh it lnf zs zi)) := congrArg iI (by
        rw [hc3]; rfl)
    exact W.iret hx hb hr (fun t ht hW => ⟨⟨_, (), rfl, hres, trivial⟩, hS.F ht⟩) hS.2.2 dL_nextArrival_16
  obtain ⟨hc2, hw⟩ := hw
  subst hw
  have hP := P_kept hP hk1
  exact absurd hc2 hno

set_option maxHeartbeats 4000000 in
set_option maxRecDepth 100000 in
theorem m_L_nextArrival_ok_r (l : Launch) (hst : l.stackTraces = false) (D : va_G) (cs : Nat → ClassId) (kr la ia na b4 b6 b8 b10 sh it : Nat) (lc : Int) (dy : Nat) (pct lr sr : Int) (lf : Nat → Int) (itf : Nat → Option Nat) (lnf : Nat → Option Nat) (sn tn : Nat) (kn hi kl ke kd ks ka : Nat) (ld fd fk fv es sk so lo : Int) (ua : Nat) (ar : Nat → Int) (po : Nat) (ov : Nat → Int64) (hsh : sh ≤ 4) (hit : it ≤ 5) (hitf : ∀ j, j < it → itf j ≠ none) (hsn : sn < sh) (htn : tn < it) (hln : lnf (sn * 5 + tn) = some kn) (hd : dy < 1000) (har : ∀ j, 0 ≤ ar j ∧ ar j < 2147483648) (hz : (if fdI ar dy 1 5 < 0 then 2 else 0) = 0) (hrr : -2147483648 ≤ (fdI ar dy 1 5) ∧ (fdI ar dy 1 5) < 2147483648) : Met l yL_nextArrival ws_L_nextArrival ({ frames := 9, cells := 4, slots := 24, locals := 150 }) (va_Pc [.ref kr, .int (iI (((sn : Nat) : Int))), .int (iI (((tn : Nat) : Int))), .ref po] (PE D cs [(po, .inl (cs 4, 1, .inr (.inl ov))), (kr, .inr (5, [.ref la, .ref ia, .ref na, .ref b4, .ref b6, .ref b8, .ref b10, .int (iI (((sh : Nat) : Int))), .int (iI (((it : Nat) : Int))), .int (iI (lc)), .int (iI (((dy : Nat) : Int))), .int (iI (pct)), .int (iI (lr)), .int (iI (sr))])), (la, arI cs 4 lf), (ia, arQ cs 2 5 itf), (na, arQ cs 3 20 lnf), (kn, .inr (3, [.ref hi, .int (iI (ld)), .int (iI (fd)), .int (iI (fk)), .int (iI (fv)), .ref kl, .ref ke, .ref kd, .ref ks, .ref ka, .int (iI (es)), .int (iI (sk)), .int (iI (so)), .int (iI (lo))])), (ka, .inr (0, [.ref ua])), (ua, arI cs 1005 ar)] (inW [(po, .inl (cs 4, 1, .inr (.inl ov))), (kr, .inr (5, [.ref la, .ref ia, .ref na, .ref b4, .ref b6, .ref b8, .ref b10, .int (iI (((sh : Nat) : Int))), .int (iI (((it : Nat) : Int))), .int (iI (lc)), .int (iI (((dy : Nat) : Int))), .int (iI (pct)), .int (iI (lr)), .int (iI (sr))])), (la, arI cs 4 lf), (ia, arQ cs 2 5 itf), (na, arQ cs 3 20 lnf), (kn, .inr (3, [.ref hi, .int (iI (ld)), .int (iI (fd)), .int (iI (fk)), .int (iI (fv)), .ref kl, .ref ke, .ref kd, .ref ks, .ref ka, .int (iI (es)), .int (iI (sk)), .int (iI (so)), .int (iI (lo))])), (ka, .inr (0, [.ref ua])), (ua, arI cs 1005 ar)]))) (va_Qi (fun r (_ : Unit) => r = iI (0)) (fun _ t => va_P D vwCl [(po, .inl (cs 4, 1, .inr (.inl (vp_updL ov 0 (lI (fdI ar dy 1 5)))))), (kr, .inr (5, [.ref la, .ref ia, .ref na, .ref b4, .ref b6, .ref b8, .ref b10, .int (iI (((sh : Nat) : Int))), .int (iI (((it : Nat) : Int))), .int (iI (lc)), .int (iI (((dy : Nat) : Int))), .int (iI (pct)), .int (iI (lr)), .int (iI (sr))])), (la, arI cs 4 lf), (ia, arQ cs 2 5 itf), (na, arQ cs 3 20 lnf), (kn, .inr (3, [.ref hi, .int (iI (ld)), .int (iI (fd)), .int (iI (fk)), .int (iI (fv)), .ref kl, .ref ke, .ref kd, .ref ks, .ref ka, .int (iI (es)), .int (iI (sk)), .int (iI (so)), .int (iI (lo))])), (ka, .inr (0, [.ref ua])), (ua, arI cs 1005 ar)] t.heap) (inW [(po, .inl (cs 4, 1, .inr (.inl ov))), (kr, .inr (5, [.ref la, .ref ia, .ref na, .ref b4, .ref b6, .ref b8, .ref b10, .int (iI (((sh : Nat) : Int))), .int (iI (((it : Nat) : Int))), .int (iI (lc)), .int (iI (((dy : Nat) : Int))), .int (iI (pct)), .int (iI (lr)), .int (iI (sr))])), (la, arI cs 4 lf), (ia, arQ cs 2 5 itf), (na, arQ cs 3 20 lnf), (kn, .inr (3, [.ref hi, .int (iI (ld)), .int (iI (fd)), .int (iI (fk)), .int (iI (fv)), .ref kl, .ref ke, .ref kd, .ref ks, .ref ka, .int (iI (es)), .int (iI (sk)), .int (iI (so)), .int (iI (lo))])), (ka, .inr (0, [.ref ua])), (ua, arI cs 1005 ar)])) 4 24 (inW [(po, .inl (cs 4, 1, .inr (.inl ov))), (kr, .inr (5, [.ref la, .ref ia, .ref na, .ref b4, .ref b6, .ref b8, .ref b10, .int (iI (((sh : Nat) : Int))), .int (iI (((it : Nat) : Int))), .int (iI (lc)), .int (iI (((dy : Nat) : Int))), .int (iI (pct)), .int (iI (lr)), .int (iI (sr))])), (la, arI cs 4 lf), (ia, arQ cs 2 5 itf), (na, arQ cs 3 20 lnf), (kn, .inr (3, [.ref hi, .int (iI (ld)), .int (iI (fd)), .int (iI (fk)), .int (iI (fv)), .ref kl, .ref ke, .ref kd, .ref ks, .ref ka, .int (iI (es)), .int (iI (sk)), .int (iI (so)), .int (iI (lo))])), (ka, .inr (0, [.ref ua])), (ua, arI cs 1005 ar)]) := by
  refine va_MetW (cc := cL_nextArrival) (maxL := 5) (ret := some .int) (hh := [(0, 10, 13, 25), (0, 10, 17, 50)]) (by decide +kernel) rfl ?_
  intro p e s m args below meth c s₁ B hml hv
  obtain ⟨rfl, ⟨hP, hK, hD, hN⟩, hE⟩ := hv
  have hx := B.exec
  have hb := B.bytes
  have hr := B.returns
  have hts : ∀ w ∈ ALL, w.before _ s = true := fun w h => atoms_spec (ws := ws_L_nextArrival) B.pre w (List.mem_cons_of_mem _ h)
  have hown : s.vm.findClass RL = some m.cls := findClass_of_methodNamed B.named
  have hlocks := B.notSynchronized
  have htab : c.exceptionTable.toList = tableOf [(0, 10, 13, 25), (0, 10, 17, 50)] := vx_table (x := yL_nextArrival) B (atoms_spec (ws := ws_L_nextArrival) B.pre _ List.mem_cons_self)
  generalize hAe : inW [(po, .inl (cs 4, 1, .inr (.inl ov))), (kr, .inr (5, [.ref la, .ref ia, .ref na, .ref b4, .ref b6, .ref b8, .ref b10, .int (iI (((sh : Nat) : Int))), .int (iI (((it : Nat) : Int))), .int (iI (lc)), .int (iI (((dy : Nat) : Int))), .int (iI (pct)), .int (iI (lr)), .int (iI (sr))])), (la, arI cs 4 lf), (ia, arQ cs 2 5 itf), (na, arQ cs 3 20 lnf), (kn, .inr (3, [.ref hi, .int (iI (ld)), .int (iI (fd)), .int (iI (fk)), .int (iI (fv)), .ref kl, .ref ke, .ref kd, .ref ks, .ref ka, .int (iI (es)), .int (iI (sk)), .int (iI (so)), .int (iI (lo))])), (ka, .inr (0, [.ref ua])), (ua, arI cs 1005 ar)] = A at hD hE ⊢
  have hS : va_S A s.heap s.heap [] := va_S.rf
  have hl := lv_entry ([.ref kr, .int (iI (((sn : Nat) : Int))), .int (iI (((tn : Nat) : Int))), .ref po]) (n := 5) (Nat.le_of_ble_eq_true rfl)
  rw [lg_entry_eq]
  generalize (lg_sl ([.ref kr, .int (iI (((sn : Nat) : Int))), .int (iI (((tn : Nat) : Int))), .ref po]) ++ List.replicate (5 - (lg_sl ([.ref kr, .int (iI (((sn : Nat) : Int))), .int (iI (((tn : Nat) : Int))), .ref po])).length) Slot.unset).toArray = ls at hl ⊢
  have hl : lv_has ls 5 [(0, .ref kr), (1, .int (iI (((sn : Nat) : Int)))), (2, .int (iI (((tn : Nat) : Int)))), (3, .ref po)] := hl
  have hH := rfl (a := s.heap)
  refine lv_aload_n hx hb dL_nextArrival_0 rfl (lv_at hl 3 rfl) ?_
  refine lv_iconst (v := iI (0)) hx hb dL_nextArrival_1 rfl ?_
  refine lv_aload_n hx hb dL_nextArrival_2 rfl (lv_at hl 0 rfl) ?_
  refine lv_iload_n hx hb dL_nextArrival_3 rfl (lv_at hl 1 rfl) ?_
  refine lv_iload_n hx hb dL_nextArrival_4 rfl (lv_at hl 2 rfl) ?_
  have pk1 : picks [(po, .inl (cs 4, 1, .inr (.inl ov))), (kr, .inr (5, [.ref la, .ref ia, .ref na, .ref b4, .ref b6, .ref b8, .ref b10, .int (iI (((sh : Nat) : Int))), .int (iI (((it : Nat) : Int))), .int (iI (lc)), .int (iI (((dy : Nat) : Int))), .int (iI (pct)), .int (iI (lr)), .int (iI (sr))])), (la, arI cs 4 lf), (ia, arQ cs 2 5 itf), (na, arQ cs 3 20 lnf), (kn, .inr (3, [.ref hi, .int (iI (ld)), .int (iI (fd)), .int (iI (fk)), .int (iI (fv)), .ref kl, .ref ke, .ref kd, .ref ks, .ref ka, .int (iI (es)), .int (iI (sk)), .int (iI (so)), .int (iI (lo))])), (ka, .inr (0, [.ref ua])), (ua, arI cs 1005 ar)] [1, 2, 3, 4, 5, 6, 7] [(kr, .inr (5, [.ref la, .ref ia, .ref na, .ref b4, .ref b6, .ref b8, .ref b10, .int (iI (((sh : Nat) : Int))), .int (iI (((it : Nat) : Int))), .int (iI (lc)), .int (iI (((dy : Nat) : Int))), .int (iI (pct)), .int (iI (lr)), .int (iI (sr))])), (la, arI cs 4 lf), (ia, arQ cs 2 5 itf), (na, arQ cs 3 20 lnf), (kn, .inr (3, [.ref hi, .int (iI (ld)), .int (iI (fd)), .int (iI (fk)), .int (iI (fv)), .ref kl, .ref ke, .ref kd, .ref ks, .ref ka, .int (iI (es)), .int (iI (sk)), .int (iI (so)), .int (iI (lo))])), (ka, .inr (0, [.ref ua])), (ua, arI cs 1005 ar)] := ⟨rfl, rfl, rfl, rfl, rfl, rfl, rfl, trivial⟩
  refine vx_calli (vx_runV (As := [.int (iI (((sn : Nat) : Int))), .int (iI (((tn : Nat) : Int)))]) (rest := [.int (iI (0)), .ref po]) ⟨hx, hb, hml, hown, hts⟩ (m_X5_nextArrival_ok l hst D cs kr la ia na b4 b6 b8 b10 sh it lc dy pct lr sr lf itf lnf sn tn kn hi kl ke kd ks ka ld fd fk fv es sk so lo ua ar (hsh) (hit) (hitf) (hsn) (htn) (hln) (hd) (har)) (cwV 2 hts (gV w_708 w_709 w_710 w_1 w_711) rfl rfl rfl (by decide +kernel) ⟨Nat.le_of_ble_eq_true rfl, Nat.le_of_ble_eq_true rfl⟩) (PE_V hK hN hE hS (fun _ h => False.elim h) hP hD [1, 2, 3, 4, 5, 6, 7] rfl pk1 rfl rfl) rfl rfl hl.1 rfl (lv_room (Nat.le_of_ble_eq_true rfl)) dL_nextArrival_5 ⟨Nat.le_of_ble_eq_true rfl, Nat.le_of_ble_eq_true rfl⟩) hS (fun _ _ h => False.elim h) (fun _ h => False.elim h) (fun _ _ h => False.elim h) (fun E ce q9 u t H1 locs1 ht hvm hpx hBX hz1 hk1 hS1 hce hcv hcl => ?_) (fun r u t H locs ht hvm hw hB hz1 hk1 hS => ?_)
  · exact absurd (hpx.1.trans hz) hpx.2
  obtain ⟨hc2, hw⟩ := hw
  subst hw
  have hP := P_kept hP hk1
  refine my_i2l hx hb dL_nextArrival_8 (by omega) ?_
  refine my_last0 hx hb hK hP hD hS 0 rfl dL_nextArrival_9 (fun H locs hP hD hS => ?_)
  have hP : va_P D vwCl [(po, .inl (cs 4, 1, .inr (.inl (vp_updL ov 0 (lI (fdI ar dy 1 5)))))), (kr, .inr (5, [.ref la, .ref ia, .ref na, .ref b4, .ref b6, .ref b8, .ref b10, .int (iI (((sh : Nat) : Int))), .int (iI (((it : Nat) : Int))), .int (iI (lc)), .int (iI (((dy : Nat) : Int))), .int (iI (pct)), .int (iI (lr)), .int (iI (sr))])), (la, arI cs 4 lf), (ia, arQ cs 2 5 itf), (na, arQ cs 3 20 lnf), (kn, .inr (3, [.ref hi, .int (iI (ld)), .int (iI (fd)), .int (iI (fk)), .int (iI (fv)), .ref kl, .ref ke, .ref kd, .ref ks, .ref ka, .int (iI (es)), .int (iI (sk)), .int (iI (so)), .int (iI (lo))])), (ka, .inr (0, [.ref ua])), (ua, arI cs 1005 ar)] H := hP
  have hD : va_D A [(po, .inl (cs 4, 1, .inr (.inl (vp_updL ov 0 (lI (fdI ar dy 1 5)))))), (kr, .inr (5, [.ref la, .ref ia, .ref na, .ref b4, .ref b6, .ref b8, .ref b10, .int (iI (((sh : Nat) : Int))), .int (iI (((it : Nat) : Int))), .int (iI (lc)), .int (iI (((dy : Nat) : Int))), .int (iI (pct)), .int (iI (lr)), .int (iI (sr))])), (la, arI cs 4 lf), (ia, arQ cs 2 5 itf), (na, arQ cs 3 20 lnf), (kn, .inr (3, [.ref hi, .int (iI (ld)), .int (iI (fd)), .int (iI (fk)), .int (iI (fv)), .ref kl, .ref ke, .ref kd, .ref ks, .ref ka, .int (iI (es)), .int (iI (sk)), .int (iI (so)), .int (iI (lo))])), (ka, .inr (0, [.ref ua])), (ua, arI cs 1005 ar)] := hD
  refine lv_goto (tgt := 21) hx hb dL_nextArrival_10 (by decide) ?_
  refine lv_iconst (v := iI (0)) hx hb dL_nextArrival_21 rfl ?_
  subst hAe
  refine W.widen (k := 4) (n := 24) (by omega) (by omega) ?_
  have hres : iI (0) = iI (0) := congrArg iI (by
      rfl)
  exact W.iret hx hb hr (fun t ht hW => ⟨⟨_, (), rfl, hres, by show va_P D vwCl _ t.heap; rw [ht]; exact hP⟩, hS.F ht⟩) hS.2.2 dL_nextArrival_22

set_option maxHeartbeats 4000000 in
set_option maxRecDepth 100000 in
theorem m_L_nextArrival_ok_t (l : Launch) (hst : l.stackTraces = false) (D : va_G) (cs : Nat → ClassId) (kr la ia na b4 b6 b8 b10 sh it : Nat) (lc : Int) (dy : Nat) (pct lr sr : Int) (lf : Nat → Int) (itf : Nat → Option Nat) (lnf : Nat → Option Nat) (sn tn : Nat) (kn hi kl ke kd ks ka : Nat) (ld fd fk fv es sk so lo : Int) (ua : Nat) (ar : Nat → Int) (po : Nat) (ov : Nat → Int64) (hsh : sh ≤ 4) (hit : it ≤ 5) (hitf : ∀ j, j < it → itf j ≠ none) (hsn : sn < sh) (htn : tn < it) (hln : lnf (sn * 5 + tn) = some kn) (hd : dy < 1000) (har : ∀ j, 0 ≤ ar j ∧ ar j < 2147483648) (hne : (if fdI ar dy 1 5 < 0 then 2 else 0) ≠ 0) : Met l yL_nextArrival ws_L_nextArrival ({ frames := 9, cells := 4, slots := 24, locals := 150 }) (va_Pc [.ref kr, .int (iI (((sn : Nat) : Int))), .int (iI (((tn : Nat) : Int))), .ref po] (PE D cs [(po, .inl (cs 4, 1, .inr (.inl ov))), (kr, .inr (5, [.ref la, .ref ia, .ref na, .ref b4, .ref b6, .ref b8, .ref b10, .int (iI (((sh : Nat) : Int))), .int (iI (((it : Nat) : Int))), .int (iI (lc)), .int (iI (((dy : Nat) : Int))), .int (iI (pct)), .int (iI (lr)), .int (iI (sr))])), (la, arI cs 4 lf), (ia, arQ cs 2 5 itf), (na, arQ cs 3 20 lnf), (kn, .inr (3, [.ref hi, .int (iI (ld)), .int (iI (fd)), .int (iI (fk)), .int (iI (fv)), .ref kl, .ref ke, .ref kd, .ref ks, .ref ka, .int (iI (es)), .int (iI (sk)), .int (iI (so)), .int (iI (lo))])), (ka, .inr (0, [.ref ua])), (ua, arI cs 1005 ar)] noA)) (va_Qi (fun r (_ : Unit) => r = iI (hkI [1, 2] (if fdI ar dy 1 5 < 0 then 2 else 0))) (fun _ _ => True) noA) 4 24 noA := by
  refine va_MetW (cc := cL_nextArrival) (maxL := 5) (ret := some .int) (hh := [(0, 10, 13, 25), (0, 10, 17, 50)]) (by decide +kernel) rfl ?_
  intro p e s m args below meth c s₁ B hml hv
  obtain ⟨rfl, ⟨hP, hK, hD, hN⟩, hE⟩ := hv
  have hx := B.exec
  have hb := B.bytes
  have hr := B.returns
  have hts : ∀ w ∈ ALL, w.before _ s = true := fun w h => atoms_spec (ws := ws_L_nextArrival) B.pre w (List.mem_cons_of_mem _ h)
  have hown : s.vm.findClass RL = some m.cls := findClass_of_methodNamed B.named
  have hlocks := B.notSynchronized
  have htab : c.exceptionTable.toList = tableOf [(0, 10, 13, 25), (0, 10, 17, 50)] := vx_table (x := yL_nextArrival) B (atoms_spec (ws := ws_L_nextArrival) B.pre _ List.mem_cons_self)
  have hS : va_S noA s.heap s.heap [] := va_S.rf
  generalize inW [(po, .inl (cs 4, 1, .inr (.inl ov))), (kr, .inr (5, [.ref la, .ref ia, .ref na, .ref b4, .ref b6, .ref b8, .ref b10, .int (iI (((sh : Nat) : Int))), .int (iI (((it : Nat) : Int))), .int (iI (lc)), .int (iI (((dy : Nat) : Int))), .int (iI (pct)), .int (iI (lr)), .int (iI (sr))])), (la, arI cs 4 lf), (ia, arQ cs 2 5 itf), (na, arQ cs 3 20 lnf), (kn, .inr (3, [.ref hi, .int (iI (ld)), .int (iI (fd)), .int (iI (fk)), .int (iI (fv)), .ref kl, .ref ke, .ref kd, .ref ks, .ref ka, .int (iI (es)), .int (iI (sk)), .int (iI (so)), .int (iI (lo))])), (ka, .inr (0, [.ref ua])), (ua, arI cs 1005 ar)] = A at hD
  have hl := lv_entry ([.ref kr, .int (iI (((sn : Nat) : Int))), .int (iI (((tn : Nat) : Int))), .ref po]) (n := 5) (Nat.le_of_ble_eq_true rfl)
  rw [lg_entry_eq]
  generalize (lg_sl ([.ref kr, .int (iI (((sn : Nat) : Int))), .int (iI (((tn : Nat) : Int))), .ref po]) ++ List.replicate (5 - (lg_sl ([.ref kr, .int (iI (((sn : Nat) : Int))), .int (iI (((tn : Nat) : Int))), .ref po])).length) Slot.unset).toArray = ls at hl ⊢
  have hl : lv_has ls 5 [(0, .ref kr), (1, .int (iI (((sn : Nat) : Int)))), (2, .int (iI (((tn : Nat) : Int)))), (3, .ref po)] := hl
  have hH := rfl (a := s.heap)
  refine lv_aload_n hx hb dL_nextArrival_0 rfl (lv_at hl 3 rfl) ?_
  refine lv_iconst (v := iI (0)) hx hb dL_nextArrival_1 rfl ?_
  refine lv_aload_n hx hb dL_nextArrival_2 rfl (lv_at hl 0 rfl) ?_
  refine lv_iload_n hx hb dL_nextArrival_3 rfl (lv_at hl 1 rfl) ?_
  refine lv_iload_n hx hb dL_nextArrival_4 rfl (lv_at hl 2 rfl) ?_
  have pk1 : picks [(po, .inl (cs 4, 1, .inr (.inl ov))), (kr, .inr (5, [.ref la, .ref ia, .ref na, .ref b4, .ref b6, .ref b8, .ref b10, .int (iI (((sh : Nat) : Int))), .int (iI (((it : Nat) : Int))), .int (iI (lc)), .int (iI (((dy : Nat) : Int))), .int (iI (pct)), .int (iI (lr)), .int (iI (sr))])), (la, arI cs 4 lf), (ia, arQ cs 2 5 itf), (na, arQ cs 3 20 lnf), (kn, .inr (3, [.ref hi, .int (iI (ld)), .int (iI (fd)), .int (iI (fk)), .int (iI (fv)), .ref kl, .ref ke, .ref kd, .ref ks, .ref ka, .int (iI (es)), .int (iI (sk)), .int (iI (so)), .int (iI (lo))])), (ka, .inr (0, [.ref ua])), (ua, arI cs 1005 ar)] [1, 2, 3, 4, 5, 6, 7] [(kr, .inr (5, [.ref la, .ref ia, .ref na, .ref b4, .ref b6, .ref b8, .ref b10, .int (iI (((sh : Nat) : Int))), .int (iI (((it : Nat) : Int))), .int (iI (lc)), .int (iI (((dy : Nat) : Int))), .int (iI (pct)), .int (iI (lr)), .int (iI (sr))])), (la, arI cs 4 lf), (ia, arQ cs 2 5 itf), (na, arQ cs 3 20 lnf), (kn, .inr (3, [.ref hi, .int (iI (ld)), .int (iI (fd)), .int (iI (fk)), .int (iI (fv)), .ref kl, .ref ke, .ref kd, .ref ks, .ref ka, .int (iI (es)), .int (iI (sk)), .int (iI (so)), .int (iI (lo))])), (ka, .inr (0, [.ref ua])), (ua, arI cs 1005 ar)] := ⟨rfl, rfl, rfl, rfl, rfl, rfl, rfl, trivial⟩
  refine vx_calli (vx_runV (As := [.int (iI (((sn : Nat) : Int))), .int (iI (((tn : Nat) : Int)))]) (rest := [.int (iI (0)), .ref po]) ⟨hx, hb, hml, hown, hts⟩ (m_X5_nextArrival_ok l hst D cs kr la ia na b4 b6 b8 b10 sh it lc dy pct lr sr lf itf lnf sn tn kn hi kl ke kd ks ka ld fd fk fv es sk so lo ua ar (hsh) (hit) (hitf) (hsn) (htn) (hln) (hd) (har)) (cwV 2 hts (gV w_708 w_709 w_710 w_1 w_711) rfl rfl rfl (by decide +kernel) ⟨Nat.le_of_ble_eq_true rfl, Nat.le_of_ble_eq_true rfl⟩) (PE_V hK hN hE hS (fun _ h => False.elim h) hP hD [1, 2, 3, 4, 5, 6, 7] rfl pk1 rfl rfl) rfl rfl hl.1 rfl (lv_room (Nat.le_of_ble_eq_true rfl)) dL_nextArrival_5 ⟨Nat.le_of_ble_eq_true rfl, Nat.le_of_ble_eq_true rfl⟩) hS (fun _ _ h => False.elim h) (fun _ h => False.elim h) (fun _ _ h => False.elim h) (fun E ce q9 u t H1 locs1 ht hvm hpx hBX hz1 hk1 hS1 hce hcv hcl => ?_) (fun r u t H locs ht hvm hw hB hz1 hk1 hS => ?_)
  · have h9 : u = (if fdI ar dy 1 5 < 0 then 2 else 0) := hpx.1
    have hS := hS1
    have hcd : (if fdI ar dy 1 5 < 0 then 2 else 0) = 2 := by
      revert hne
      (try unfold cdL); (try unfold cdS); (try unfold cdC)
      (repeat' split) <;> simp
    have hEu := hBX
    have hP := P_kept hP hk1
    have hc3 := hcd
    have hE3 : E = "java/util/NoSuchElementException" := by have h8 : E = exN u := hEu; rw [h8, h9, hc3]; rfl
    subst hE3
    refine vx_catch (name := "java/util/NoSuchElementException") hown [⟨0, 10, 13, 25⟩] ⟨0, 10, 17, 50⟩ [] (htab.trans rfl) (fun z hz => by
        simp only [List.mem_cons, List.not_mem_nil, or_false] at hz
        rcases hz with rfl
        · exact Or.inr ⟨by decide, "java/lang/IndexOutOfBoundsException", hts _ w_266, hE.2.2.2.2.2 _ (List.mem_of_getElem? (i := 10) rfl)⟩) rfl (by decide) (hts _ w_455) (hE.use _ (List.mem_append_right _ (List.mem_map.mpr ⟨_, List.mem_of_getElem? (i := 1) rfl, rfl⟩))) hce hcv hcl ?_
    refine lv_astore (lv' := [(4, .ref q9), (0, .ref kr), (1, .int (iI (((sn : Nat) : Int)))), (2, .int (iI (((tn : Nat) : Int)))), (3, .ref po)]) hx hb dL_nextArrival_17 hl (by decide) rfl (fun ls hl => ?_)
    refine lv_iconst (v := iI (2)) hx hb dL_nextArrival_19 rfl ?_
    refine W.widen (k := 4) (n := 24) (by omega) (by omega) ?_
    have hres : iI (2) = iI (hkI [1, 2] (if fdI ar dy 1 5 < 0 then 2 else 0)) := congrArg iI (by
        rw [hc3]; rfl)
    exact W.iret hx hb hr (fun t ht hW => ⟨⟨_, (), rfl, hres, trivial⟩, hS.F ht⟩) hS.2.2 dL_nextArrival_20
  obtain ⟨hc2, hw⟩ := hw
  subst hw
  have hP := P_kept hP hk1
  exact absurd hc2 hne

abbrev ws_L_demand : List Cond := Cond.codeWith yL_demand cL_demand 6 (some .int) [(0, 12, 15, 25), (0, 12, 19, 50), (0, 12, 23, 13), (0, 12, 27, 52)] :: ALL
set_option maxHeartbeats 4000000 in
set_option maxRecDepth 100000 in
theorem m_L_demand_no_t (l : Launch) (hst : l.stackTraces = false) (D : va_G) (cs : Nat → ClassId) (kr la ia na b4 b6 b8 b10 sh it : Nat) (lc : Int) (dy : Nat) (pct lr sr : Int) (lf : Nat → Int) (itf : Nat → Option Nat) (lnf : Nat → Option Nat) (zs zi : Int) (z0 : Int) (po : Nat) (ov : Nat → Int64) (hsh : sh ≤ 4) (hit : it ≤ 5) (hitf : ∀ j, j < it → itf j ≠ none) (hzs : -2147483648 ≤ zs ∧ zs < 2147483648) (hzi : -2147483648 ≤ zi ∧ zi < 2147483648) (hno : cdL sh it lnf zs zi ≠ 0) : Met l yL_demand ws_L_demand ({ frames := 9, cells := 3, slots := 18, locals := 151 }) (va_Pc [.ref kr, .int (iI (zs)), .int (iI (zi)), .int (iI (z0)), .ref po] (PE D cs [(po, .inl (cs 4, 1, .inr (.inl ov))), (kr, .inr (5, [.ref la, .ref ia, .ref na, .ref b4, .ref b6, .ref b8, .ref b10, .int (iI (((sh : Nat) : Int))), .int (iI (((it : Nat) : Int))), .int (iI (lc)), .int (iI (((dy : Nat) : Int))), .int (iI (pct)), .int (iI (lr)), .int (iI (sr))])), (la, arI cs 4 lf), (ia, arQ cs 2 5 itf), (na, arQ cs 3 20 lnf)] noA)) (va_Qi (fun r (_ : Unit) => r = iI (hkI [1, 2, 3, 5] (cdL sh it lnf zs zi))) (fun _ _ => True) noA) 3 18 noA := by
  refine va_MetW (cc := cL_demand) (maxL := 6) (ret := some .int) (hh := [(0, 12, 15, 25), (0, 12, 19, 50), (0, 12, 23, 13), (0, 12, 27, 52)]) (by decide +kernel) rfl ?_
  intro p e s m args below meth c s₁ B hml hv
  obtain ⟨rfl, ⟨hP, hK, hD, hN⟩, hE⟩ := hv
  have hx := B.exec
  have hb := B.bytes
  have hr := B.returns
  have hts : ∀ w ∈ ALL, w.before _ s = true := fun w h => atoms_spec (ws := ws_L_demand) B.pre w (List.mem_cons_of_mem _ h)
  have hown : s.vm.findClass RL = some m.cls := findClass_of_methodNamed B.named
  have hlocks := B.notSynchronized
  have htab : c.exceptionTable.toList = tableOf [(0, 12, 15, 25), (0, 12, 19, 50), (0, 12, 23, 13), (0, 12, 27, 52)] := vx_table (x := yL_demand) B (atoms_spec (ws := ws_L_demand) B.pre _ List.mem_cons_self)
  have hS : va_S noA s.heap s.heap [] := va_S.rf
  generalize inW [(po, .inl (cs 4, 1, .inr (.inl ov))), (kr, .inr (5, [.ref la, .ref ia, .ref na, .ref b4, .ref b6, .ref b8, .ref b10, .int (iI (((sh : Nat) : Int))), .int (iI (((it : Nat) : Int))), .int (iI (lc)), .int (iI (((dy : Nat) : Int))), .int (iI (pct)), .int (iI (lr)), .int (iI (sr))])), (la, arI cs 4 lf), (ia, arQ cs 2 5 itf), (na, arQ cs 3 20 lnf)] = A at hD
  have hl := lv_entry ([.ref kr, .int (iI (zs)), .int (iI (zi)), .int (iI (z0)), .ref po]) (n := 6) (Nat.le_of_ble_eq_true rfl)
  rw [lg_entry_eq]
  generalize (lg_sl ([.ref kr, .int (iI (zs)), .int (iI (zi)), .int (iI (z0)), .ref po]) ++ List.replicate (6 - (lg_sl ([.ref kr, .int (iI (zs)), .int (iI (zi)), .int (iI (z0)), .ref po])).length) Slot.unset).toArray = ls at hl ⊢
  have hl : lv_has ls 6 [(0, .ref kr), (1, .int (iI (zs))), (2, .int (iI (zi))), (3, .int (iI (z0))), (4, .ref po)] := hl
  have hH := rfl (a := s.heap)
  refine lv_aload hx hb dL_demand_0 (lv_at hl 4 rfl) ?_
  refine lv_iconst (v := iI (0)) hx hb dL_demand_2 rfl ?_
  refine lv_aload_n hx hb dL_demand_3 rfl (lv_at hl 0 rfl) ?_
  refine lv_iload_n hx hb dL_demand_4 rfl (lv_at hl 1 rfl) ?_
  refine lv_iload_n hx hb dL_demand_5 rfl (lv_at hl 2 rfl) ?_
  refine lv_iload_n hx hb dL_demand_6 rfl (lv_at hl 3 rfl) ?_
  have pk1 : picks [(po, .inl (cs 4, 1, .inr (.inl ov))), (kr, .inr (5, [.ref la, .ref ia, .ref na, .ref b4, .ref b6, .ref b8, .ref b10, .int (iI (((sh : Nat) : Int))), .int (iI (((it : Nat) : Int))), .int (iI (lc)), .int (iI (((dy : Nat) : Int))), .int (iI (pct)), .int (iI (lr)), .int (iI (sr))])), (la, arI cs 4 lf), (ia, arQ cs 2 5 itf), (na, arQ cs 3 20 lnf)] [1, 2, 3, 4] [(kr, .inr (5, [.ref la, .ref ia, .ref na, .ref b4, .ref b6, .ref b8, .ref b10, .int (iI (((sh : Nat) : Int))), .int (iI (((it : Nat) : Int))), .int (iI (lc)), .int (iI (((dy : Nat) : Int))), .int (iI (pct)), .int (iI (lr)), .int (iI (sr))])), (la, arI cs 4 lf), (ia, arQ cs 2 5 itf), (na, arQ cs 3 20 lnf)] := ⟨rfl, rfl, rfl, rfl, trivial⟩
  refine vx_calli (vx_runV (As := [.int (iI (zs)), .int (iI (zi)), .int (iI (z0))]) (rest := [.int (iI (0)), .ref po]) ⟨hx, hb, hml, hown, hts⟩ (m_X5_demand_no l hst D cs kr la ia na b4 b6 b8 b10 sh it lc dy pct lr sr lf itf lnf zs zi z0 (hsh) (hit) (hitf) (hzs) (hzi) (hno)) (cwV 3 hts (gV w_457 w_458 w_459 w_1 w_460) rfl rfl rfl (by decide +kernel) ⟨Nat.le_of_ble_eq_true rfl, Nat.le_of_ble_eq_true rfl⟩) (PE_V hK hN hE hS (fun _ h => False.elim h) hP hD [1, 2, 3, 4] rfl pk1 rfl rfl) rfl rfl hl.1 rfl (lv_room (Nat.le_of_ble_eq_true rfl)) dL_demand_7 ⟨Nat.le_of_ble_eq_true rfl, Nat.le_of_ble_eq_true rfl⟩) hS (fun _ _ h => False.elim h) (fun _ h => False.elim h) (fun _ _ h => False.elim h) (fun E ce q9 u t H1 locs1 ht hvm hpx hBX hz1 hk1 hS1 hce hcv hcl => ?_) (fun r u t H locs ht hvm hw hB hz1 hk1 hS => ?_)
  · have h9 : u = cdL sh it lnf zs zi := hpx.1
    have hS := hS1
    have hcd : cdL sh it lnf zs zi = 2 ∨ cdL sh it lnf zs zi = 1 := by
      revert hno
      (try unfold cdL); (try unfold cdS); (try unfold cdC)
      (repeat' split) <;> simp
    have hEu := hBX
    have hP := P_kept hP hk1
    rcases hcd with hc3 | hcd
    · have hE3 : E = "java/util/NoSuchElementException" := by have h8 : E = exN u := hEu; rw [h8, h9, hc3]; rfl
      subst hE3
      refine vx_catch (name := "java/util/NoSuchElementException") hown [⟨0, 12, 15, 25⟩] ⟨0, 12, 19, 50⟩ [⟨0, 12, 23, 13⟩, ⟨0, 12, 27, 52⟩] (htab.trans rfl) (fun z hz => by
          simp only [List.mem_cons, List.not_mem_nil, or_false] at hz
          rcases hz with rfl
          · exact Or.inr ⟨by decide, "java/lang/IndexOutOfBoundsException", hts _ w_266, hE.2.2.2.2.2 _ (List.mem_of_getElem? (i := 10) rfl)⟩) rfl (by decide) (hts _ w_455) (hE.use _ (List.mem_append_right _ (List.mem_map.mpr ⟨_, List.mem_of_getElem? (i := 1) rfl, rfl⟩))) hce hcv hcl ?_
      refine lv_astore (lv' := [(5, .ref q9), (0, .ref kr), (1, .int (iI (zs))), (2, .int (iI (zi))), (3, .int (iI (z0))), (4, .ref po)]) hx hb dL_demand_19 hl (by decide) rfl (fun ls hl => ?_)
      refine lv_iconst (v := iI (2)) hx hb dL_demand_21 rfl ?_
      refine W.widen (k := 3) (n := 18) (by omega) (by omega) ?_
      have hres : iI (2) = iI (hkI [1, 2, 3, 5] (cdL sh it lnf zs zi)) := congrArg iI (by
          rw [hc3]; rfl)
      exact W.iret hx hb hr (fun t ht hW => ⟨⟨_, (), rfl, hres, trivial⟩, hS.F ht⟩) hS.2.2 dL_demand_22
    have hc3 := hcd
    have hE3 : E = "java/lang/IndexOutOfBoundsException" := by have h8 : E = exN u := hEu; rw [h8, h9, hc3]; rfl
    subst hE3
    refine vx_catch (name := "java/lang/IndexOutOfBoundsException") hown [] ⟨0, 12, 15, 25⟩ [⟨0, 12, 19, 50⟩, ⟨0, 12, 23, 13⟩, ⟨0, 12, 27, 52⟩] (htab.trans rfl) (fun z hz => by cases hz) rfl (by decide) (hts _ w_266) (hE.use _ (List.mem_append_right _ (List.mem_map.mpr ⟨_, List.mem_of_getElem? (i := 0) rfl, rfl⟩))) hce hcv hcl ?_
    refine lv_astore (lv' := [(5, .ref q9), (0, .ref kr), (1, .int (iI (zs))), (2, .int (iI (zi))), (3, .int (iI (z0))), (4, .ref po)]) hx hb dL_demand_15 hl (by decide) rfl (fun ls hl => ?_)
    refine lv_iconst (v := iI (1)) hx hb dL_demand_17 rfl ?_
    refine W.widen (k := 3) (n := 18) (by omega) (by omega) ?_
    have hres : iI (1) = iI (hkI [1, 2, 3, 5] (cdL sh it lnf zs zi)) := congrArg iI (by
        rw [hc3]; rfl)
    exact W.iret hx hb hr (fun t ht hW => ⟨⟨_, (), rfl, hres, trivial⟩, hS.F ht⟩) hS.2.2 dL_demand_18
  obtain ⟨hc2, hw⟩ := hw
  subst hw
  have hP := P_kept hP hk1
  exact absurd hc2 hno

set_option maxHeartbeats 4000000 in
set_option maxRecDepth 100000 in
theorem m_L_demand_ok_r (l : Launch) (hst : l.stackTraces = false) (D : va_G) (cs : Nat → ClassId) (kr la ia na b4 b6 b8 b10 sh it : Nat) (lc : Int) (dy : Nat) (pct lr sr : Int) (lf : Nat → Int) (itf : Nat → Option Nat) (lnf : Nat → Option Nat) (sn tn : Nat) (kn hi kl ke kd ks ka : Nat) (ld fd fk fv es sk so lo : Int) (ud uls : Nat) (dm sl : Nat → Int) (un : Int) (po : Nat) (ov : Nat → Int64) (hsh : sh ≤ 4) (hit : it ≤ 5) (hitf : ∀ j, j < it → itf j ≠ none) (hsn : sn < sh) (htn : tn < it) (hln : lnf (sn * 5 + tn) = some kn) (hd : dy < 1000) (hdm : 0 ≤ dm dy ∧ dm dy ≤ 999) (hsk : 0 ≤ sk ∧ sk < 2147483648) (hun : -2147483648 ≤ un ∧ un < 2147483648) (hz : (if un < 1 ∨ 99 < un then 3 else if 999 < dm dy + un then 5 else 0) = 0) (hrr : -2147483648 ≤ (mnI un sk) ∧ (mnI un sk) < 2147483648) : Met l yL_demand ws_L_demand ({ frames := 9, cells := 4, slots := 24, locals := 151 }) (va_Pc [.ref kr, .int (iI (((sn : Nat) : Int))), .int (iI (((tn : Nat) : Int))), .int (iI (un)), .ref po] (PE D cs [(po, .inl (cs 4, 1, .inr (.inl ov))), (kr, .inr (5, [.ref la, .ref ia, .ref na, .ref b4, .ref b6, .ref b8, .ref b10, .int (iI (((sh : Nat) : Int))), .int (iI (((it : Nat) : Int))), .int (iI (lc)), .int (iI (((dy : Nat) : Int))), .int (iI (pct)), .int (iI (lr)), .int (iI (sr))])), (la, arI cs 4 lf), (ia, arQ cs 2 5 itf), (na, arQ cs 3 20 lnf), (kn, .inr (3, [.ref hi, .int (iI (ld)), .int (iI (fd)), .int (iI (fk)), .int (iI (fv)), .ref kl, .ref ke, .ref kd, .ref ks, .ref ka, .int (iI (es)), .int (iI (sk)), .int (iI (so)), .int (iI (lo))])), (kd, .inr (0, [.ref ud])), (ud, arI cs 1005 dm), (ks, .inr (0, [.ref uls])), (uls, arI cs 1005 sl)] (inW [(po, .inl (cs 4, 1, .inr (.inl ov))), (kr, .inr (5, [.ref la, .ref ia, .ref na, .ref b4, .ref b6, .ref b8, .ref b10, .int (iI (((sh : Nat) : Int))), .int (iI (((it : Nat) : Int))), .int (iI (lc)), .int (iI (((dy : Nat) : Int))), .int (iI (pct)), .int (iI (lr)), .int (iI (sr))])), (la, arI cs 4 lf), (ia, arQ cs 2 5 itf), (na, arQ cs 3 20 lnf), (kn, .inr (3, [.ref hi, .int (iI (ld)), .int (iI (fd)), .int (iI (fk)), .int (iI (fv)), .ref kl, .ref ke, .ref kd, .ref ks, .ref ka, .int (iI (es)), .int (iI (sk)), .int (iI (so)), .int (iI (lo))])), (kd, .inr (0, [.ref ud])), (ud, arI cs 1005 dm), (ks, .inr (0, [.ref uls])), (uls, arI cs 1005 sl)]))) (va_Qi (fun r (_ : Unit) => r = iI (0)) (fun _ t => va_P D vwCl [(po, .inl (cs 4, 1, .inr (.inl (vp_updL ov 0 (lI (mnI un sk)))))), (kr, .inr (5, [.ref la, .ref ia, .ref na, .ref b4, .ref b6, .ref b8, .ref b10, .int (iI (((sh : Nat) : Int))), .int (iI (((it : Nat) : Int))), .int (iI (lc)), .int (iI (((dy : Nat) : Int))), .int (iI (pct)), .int (iI (lr)), .int (iI (sr))])), (la, arI cs 4 lf), (ia, arQ cs 2 5 itf), (na, arQ cs 3 20 lnf), (kn, .inr (3, [.ref hi, .int (iI (ld)), .int (iI (fd)), .int (iI (fk)), .int (iI (fv)), .ref kl, .ref ke, .ref kd, .ref ks, .ref ka, .int (iI (es)), .int (iI (sk - mnI un sk)), .int (iI (so + mnI un sk)), .int (iI (lo + (un - mnI un sk)))])), (kd, .inr (0, [.ref ud])), (ud, arI cs 1005 (upI dm dy (dm dy + un))), (ks, .inr (0, [.ref uls])), (uls, arI cs 1005 (upI sl dy (sl dy + mnI un sk)))] t.heap) (inW [(po, .inl (cs 4, 1, .inr (.inl ov))), (kr, .inr (5, [.ref la, .ref ia, .ref na, .ref b4, .ref b6, .ref b8, .ref b10, .int (iI (((sh : Nat) : Int))), .int (iI (((it : Nat) : Int))), .int (iI (lc)), .int (iI (((dy : Nat) : Int))), .int (iI (pct)), .int (iI (lr)), .int (iI (sr))])), (la, arI cs 4 lf), (ia, arQ cs 2 5 itf), (na, arQ cs 3 20 lnf), (kn, .inr (3, [.ref hi, .int (iI (ld)), .int (iI (fd)), .int (iI (fk)), .int (iI (fv)), .ref kl, .ref ke, .ref kd, .ref ks, .ref ka, .int (iI (es)), .int (iI (sk)), .int (iI (so)), .int (iI (lo))])), (kd, .inr (0, [.ref ud])), (ud, arI cs 1005 dm), (ks, .inr (0, [.ref uls])), (uls, arI cs 1005 sl)])) 4 24 (inW [(po, .inl (cs 4, 1, .inr (.inl ov))), (kr, .inr (5, [.ref la, .ref ia, .ref na, .ref b4, .ref b6, .ref b8, .ref b10, .int (iI (((sh : Nat) : Int))), .int (iI (((it : Nat) : Int))), .int (iI (lc)), .int (iI (((dy : Nat) : Int))), .int (iI (pct)), .int (iI (lr)), .int (iI (sr))])), (la, arI cs 4 lf), (ia, arQ cs 2 5 itf), (na, arQ cs 3 20 lnf), (kn, .inr (3, [.ref hi, .int (iI (ld)), .int (iI (fd)), .int (iI (fk)), .int (iI (fv)), .ref kl, .ref ke, .ref kd, .ref ks, .ref ka, .int (iI (es)), .int (iI (sk)), .int (iI (so)), .int (iI (lo))])), (kd, .inr (0, [.ref ud])), (ud, arI cs 1005 dm), (ks, .inr (0, [.ref uls])), (uls, arI cs 1005 sl)]) := by
  refine va_MetW (cc := cL_demand) (maxL := 6) (ret := some .int) (hh := [(0, 12, 15, 25), (0, 12, 19, 50), (0, 12, 23, 13), (0, 12, 27, 52)]) (by decide +kernel) rfl ?_
  intro p e s m args below meth c s₁ B hml hv
  obtain ⟨rfl, ⟨hP, hK, hD, hN⟩, hE⟩ := hv
  have hx := B.exec
  have hb := B.bytes
  have hr := B.returns
  have hts : ∀ w ∈ ALL, w.before _ s = true := fun w h => atoms_spec (ws := ws_L_demand) B.pre w (List.mem_cons_of_mem _ h)
  have hown : s.vm.findClass RL = some m.cls := findClass_of_methodNamed B.named
  have hlocks := B.notSynchronized
  have htab : c.exceptionTable.toList = tableOf [(0, 12, 15, 25), (0, 12, 19, 50), (0, 12, 23, 13), (0, 12, 27, 52)] := vx_table (x := yL_demand) B (atoms_spec (ws := ws_L_demand) B.pre _ List.mem_cons_self)
  generalize hAe : inW [(po, .inl (cs 4, 1, .inr (.inl ov))), (kr, .inr (5, [.ref la, .ref ia, .ref na, .ref b4, .ref b6, .ref b8, .ref b10, .int (iI (((sh : Nat) : Int))), .int (iI (((it : Nat) : Int))), .int (iI (lc)), .int (iI (((dy : Nat) : Int))), .int (iI (pct)), .int (iI (lr)), .int (iI (sr))])), (la, arI cs 4 lf), (ia, arQ cs 2 5 itf), (na, arQ cs 3 20 lnf), (kn, .inr (3, [.ref hi, .int (iI (ld)), .int (iI (fd)), .int (iI (fk)), .int (iI (fv)), .ref kl, .ref ke, .ref kd, .ref ks, .ref ka, .int (iI (es)), .int (iI (sk)), .int (iI (so)), .int (iI (lo))])), (kd, .inr (0, [.ref ud])), (ud, arI cs 1005 dm), (ks, .inr (0, [.ref uls])), (uls, arI cs 1005 sl)] = A at hD hE ⊢
  have hS : va_S A s.heap s.heap [] := va_S.rf
  have hl := lv_entry ([.ref kr, .int (iI (((sn : Nat) : Int))), .int (iI (((tn : Nat) : Int))), .int (iI (un)), .ref po]) (n := 6) (Nat.le_of_ble_eq_true rfl)
  rw [lg_entry_eq]
  generalize (lg_sl ([.ref kr, .int (iI (((sn : Nat) : Int))), .int (iI (((tn : Nat) : Int))), .int (iI (un)), .ref po]) ++ List.replicate (6 - (lg_sl ([.ref kr, .int (iI (((sn : Nat) : Int))), .int (iI (((tn : Nat) : Int))), .int (iI (un)), .ref po])).length) Slot.unset).toArray = ls at hl ⊢
  have hl : lv_has ls 6 [(0, .ref kr), (1, .int (iI (((sn : Nat) : Int)))), (2, .int (iI (((tn : Nat) : Int)))), (3, .int (iI (un))), (4, .ref po)] := hl
  have hH := rfl (a := s.heap)
  refine lv_aload hx hb dL_demand_0 (lv_at hl 4 rfl) ?_
  refine lv_iconst (v := iI (0)) hx hb dL_demand_2 rfl ?_
  refine lv_aload_n hx hb dL_demand_3 rfl (lv_at hl 0 rfl) ?_
  refine lv_iload_n hx hb dL_demand_4 rfl (lv_at hl 1 rfl) ?_
  refine lv_iload_n hx hb dL_demand_5 rfl (lv_at hl 2 rfl) ?_
  refine lv_iload_n hx hb dL_demand_6 rfl (lv_at hl 3 rfl) ?_
  have pk1 : picks [(po, .inl (cs 4, 1, .inr (.inl ov))), (kr, .inr (5, [.ref la, .ref ia, .ref na, .ref b4, .ref b6, .ref b8, .ref b10, .int (iI (((sh : Nat) : Int))), .int (iI (((it : Nat) : Int))), .int (iI (lc)), .int (iI (((dy : Nat) : Int))), .int (iI (pct)), .int (iI (lr)), .int (iI (sr))])), (la, arI cs 4 lf), (ia, arQ cs 2 5 itf), (na, arQ cs 3 20 lnf), (kn, .inr (3, [.ref hi, .int (iI (ld)), .int (iI (fd)), .int (iI (fk)), .int (iI (fv)), .ref kl, .ref ke, .ref kd, .ref ks, .ref ka, .int (iI (es)), .int (iI (sk)), .int (iI (so)), .int (iI (lo))])), (kd, .inr (0, [.ref ud])), (ud, arI cs 1005 dm), (ks, .inr (0, [.ref uls])), (uls, arI cs 1005 sl)] [1, 2, 3, 4, 5, 6, 7, 8, 9] [(kr, .inr (5, [.ref la, .ref ia, .ref na, .ref b4, .ref b6, .ref b8, .ref b10, .int (iI (((sh : Nat) : Int))), .int (iI (((it : Nat) : Int))), .int (iI (lc)), .int (iI (((dy : Nat) : Int))), .int (iI (pct)), .int (iI (lr)), .int (iI (sr))])), (la, arI cs 4 lf), (ia, arQ cs 2 5 itf), (na, arQ cs 3 20 lnf), (kn, .inr (3, [.ref hi, .int (iI (ld)), .int (iI (fd)), .int (iI (fk)), .int (iI (fv)), .ref kl, .ref ke, .ref kd, .ref ks, .ref ka, .int (iI (es)), .int (iI (sk)), .int (iI (so)), .int (iI (lo))])), (kd, .inr (0, [.ref ud])), (ud, arI cs 1005 dm), (ks, .inr (0, [.ref uls])), (uls, arI cs 1005 sl)] := ⟨rfl, rfl, rfl, rfl, rfl, rfl, rfl, rfl, rfl, trivial⟩
  refine vx_calli (vx_runV (As := [.int (iI (((sn : Nat) : Int))), .int (iI (((tn : Nat) : Int))), .int (iI (un))]) (rest := [.int (iI (0)), .ref po]) ⟨hx, hb, hml, hown, hts⟩ (m_X5_demand_ok l hst D cs kr la ia na b4 b6 b8 b10 sh it lc dy pct lr sr lf itf lnf sn tn kn hi kl ke kd ks ka ld fd fk fv es sk so lo ud uls dm sl un (hsh) (hit) (hitf) (hsn) (htn) (hln) (hd) (hdm) (hsk) (hun)) (cwV 3 hts (gV w_457 w_458 w_459 w_1 w_460) rfl rfl rfl (by decide +kernel) ⟨Nat.le_of_ble_eq_true rfl, Nat.le_of_ble_eq_true rfl⟩) (PE_V hK hN hE hS (fun q h => inW_sub hD [1, 2, 3, 4, 5, 6, 7, 8, 9] pk1 q h) hP hD [1, 2, 3, 4, 5, 6, 7, 8, 9] rfl pk1 rfl rfl) rfl rfl hl.1 rfl (lv_room (Nat.le_of_ble_eq_true rfl)) dL_demand_7 ⟨Nat.le_of_ble_eq_true rfl, Nat.le_of_ble_eq_true rfl⟩) hS (fun q _ h => inW_sub hD [1, 2, 3, 4, 5, 6, 7, 8, 9] pk1 q h) (fun q h => inW_sub hD [1, 2, 3, 4, 5, 6, 7, 8, 9] pk1 q h) (fun q _ h => inW_sub hD [1, 2, 3, 4, 5, 6, 7, 8, 9] pk1 q h) (fun E ce q9 u t H1 locs1 ht hvm hpx hBX hz1 hk1 hS1 hce hcv hcl => ?_) (fun r u t H locs ht hvm hw hB hz1 hk1 hS => ?_)
  · exact absurd (hpx.1.trans hz) hpx.2
  obtain ⟨hc2, hw⟩ := hw
  subst hw
  rw [ht] at hB
  obtain ⟨hP, hD⟩ := my_join (W1 := [(kr, .inr (5, [.ref la, .ref ia, .ref na, .ref b4, .ref b6, .ref b8, .ref b10, .int (iI (((sh : Nat) : Int))), .int (iI (((it : Nat) : Int))), .int (iI (lc)), .int (iI (((dy : Nat) : Int))), .int (iI (pct)), .int (iI (lr)), .int (iI (sr))])), (la, arI cs 4 lf), (ia, arQ cs 2 5 itf), (na, arQ cs 3 20 lnf), (kn, .inr (3, [.ref hi, .int (iI (ld)), .int (iI (fd)), .int (iI (fk)), .int (iI (fv)), .ref kl, .ref ke, .ref kd, .ref ks, .ref ka, .int (iI (es)), .int (iI (sk - mnI un sk)), .int (iI (so + mnI un sk)), .int (iI (lo + (un - mnI un sk)))])), (kd, .inr (0, [.ref ud])), (ud, arI cs 1005 (upI dm dy (dm dy + un))), (ks, .inr (0, [.ref uls])), (uls, arI cs 1005 (upI sl dy (sl dy + mnI un sk)))]) hP hD [1, 2, 3, 4, 5, 6, 7, 8, 9] rfl pk1 rfl hk1 hB
  have hP : va_P D vwCl [(po, .inl (cs 4, 1, .inr (.inl ov))), (kr, .inr (5, [.ref la, .ref ia, .ref na, .ref b4, .ref b6, .ref b8, .ref b10, .int (iI (((sh : Nat) : Int))), .int (iI (((it : Nat) : Int))), .int (iI (lc)), .int (iI (((dy : Nat) : Int))), .int (iI (pct)), .int (iI (lr)), .int (iI (sr))])), (la, arI cs 4 lf), (ia, arQ cs 2 5 itf), (na, arQ cs 3 20 lnf), (kn, .inr (3, [.ref hi, .int (iI (ld)), .int (iI (fd)), .int (iI (fk)), .int (iI (fv)), .ref kl, .ref ke, .ref kd, .ref ks, .ref ka, .int (iI (es)), .int (iI (sk - mnI un sk)), .int (iI (so + mnI un sk)), .int (iI (lo + (un - mnI un sk)))])), (kd, .inr (0, [.ref ud])), (ud, arI cs 1005 (upI dm dy (dm dy + un))), (ks, .inr (0, [.ref uls])), (uls, arI cs 1005 (upI sl dy (sl dy + mnI un sk)))] H := hP
  have hD : va_D A [(po, .inl (cs 4, 1, .inr (.inl ov))), (kr, .inr (5, [.ref la, .ref ia, .ref na, .ref b4, .ref b6, .ref b8, .ref b10, .int (iI (((sh : Nat) : Int))), .int (iI (((it : Nat) : Int))), .int (iI (lc)), .int (iI (((dy : Nat) : Int))), .int (iI (pct)), .int (iI (lr)), .int (iI (sr))])), (la, arI cs 4 lf), (ia, arQ cs 2 5 itf), (na, arQ cs 3 20 lnf), (kn, .inr (3, [.ref hi, .int (iI (ld)), .int (iI (fd)), .int (iI (fk)), .int (iI (fv)), .ref kl, .ref ke, .ref kd, .ref ks, .ref ka, .int (iI (es)), .int (iI (sk - mnI un sk)), .int (iI (so + mnI un sk)), .int (iI (lo + (un - mnI un sk)))])), (kd, .inr (0, [.ref ud])), (ud, arI cs 1005 (upI dm dy (dm dy + un))), (ks, .inr (0, [.ref uls])), (uls, arI cs 1005 (upI sl dy (sl dy + mnI un sk)))] := hD
  refine my_i2l hx hb dL_demand_10 (by omega) ?_
  refine my_last0 hx hb hK hP hD hS 0 rfl dL_demand_11 (fun H locs hP hD hS => ?_)
  have hP : va_P D vwCl [(po, .inl (cs 4, 1, .inr (.inl (vp_updL ov 0 (lI (mnI un sk)))))), (kr, .inr (5, [.ref la, .ref ia, .ref na, .ref b4, .ref b6, .ref b8, .ref b10, .int (iI (((sh : Nat) : Int))), .int (iI (((it : Nat) : Int))), .int (iI (lc)), .int (iI (((dy : Nat) : Int))), .int (iI (pct)), .int (iI (lr)), .int (iI (sr))])), (la, arI cs 4 lf), (ia, arQ cs 2 5 itf), (na, arQ cs 3 20 lnf), (kn, .inr (3, [.ref hi, .int (iI (ld)), .int (iI (fd)), .int (iI (fk)), .int (iI (fv)), .ref kl, .ref ke, .ref kd, .ref ks, .ref ka, .int (iI (es)), .int (iI (sk - mnI un sk)), .int (iI (so + mnI un sk)), .int (iI (lo + (un - mnI un sk)))])), (kd, .inr (0, [.ref ud])), (ud, arI cs 1005 (upI dm dy (dm dy + un))), (ks, .inr (0, [.ref uls])), (uls, arI cs 1005 (upI sl dy (sl dy + mnI un sk)))] H := hP
  have hD : va_D A [(po, .inl (cs 4, 1, .inr (.inl (vp_updL ov 0 (lI (mnI un sk)))))), (kr, .inr (5, [.ref la, .ref ia, .ref na, .ref b4, .ref b6, .ref b8, .ref b10, .int (iI (((sh : Nat) : Int))), .int (iI (((it : Nat) : Int))), .int (iI (lc)), .int (iI (((dy : Nat) : Int))), .int (iI (pct)), .int (iI (lr)), .int (iI (sr))])), (la, arI cs 4 lf), (ia, arQ cs 2 5 itf), (na, arQ cs 3 20 lnf), (kn, .inr (3, [.ref hi, .int (iI (ld)), .int (iI (fd)), .int (iI (fk)), .int (iI (fv)), .ref kl, .ref ke, .ref kd, .ref ks, .ref ka, .int (iI (es)), .int (iI (sk - mnI un sk)), .int (iI (so + mnI un sk)), .int (iI (lo + (un - mnI un sk)))])), (kd, .inr (0, [.ref ud])), (ud, arI cs 1005 (upI dm dy (dm dy + un))), (ks, .inr (0, [.ref uls])), (uls, arI cs 1005 (upI sl dy (sl dy + mnI un sk)))] := hD
  refine lv_goto (tgt := 31) hx hb dL_demand_12 (by decide) ?_
  refine lv_iconst (v := iI (0)) hx hb dL_demand_31 rfl ?_
  subst hAe
  refine W.widen (k := 4) (n := 24) (by omega) (by omega) ?_
  have hres : iI (0) = iI (0) := congrArg iI (by
      rfl)
  exact W.iret hx hb hr (fun t ht hW => ⟨⟨_, (), rfl, hres, by show va_P D vwCl _ t.heap; rw [ht]; exact hP⟩, hS.F ht⟩) hS.2.2 dL_demand_32

set_option maxHeartbeats 4000000 in
set_option maxRecDepth 100000 in
theorem m_L_demand_ok_t (l : Launch) (hst : l.stackTraces = false) (D : va_G) (cs : Nat → ClassId) (kr la ia na b4 b6 b8 b10 sh it : Nat) (lc : Int) (dy : Nat) (pct lr sr : Int) (lf : Nat → Int) (itf : Nat → Option Nat) (lnf : Nat → Option Nat) (sn tn : Nat) (kn hi kl ke kd ks ka : Nat) (ld fd fk fv es sk so lo : Int) (ud uls : Nat) (dm sl : Nat → Int) (un : Int) (po : Nat) (ov : Nat → Int64) (hsh : sh ≤ 4) (hit : it ≤ 5) (hitf : ∀ j, j < it → itf j ≠ none) (hsn : sn < sh) (htn : tn < it) (hln : lnf (sn * 5 + tn) = some kn) (hd : dy < 1000) (hdm : 0 ≤ dm dy ∧ dm dy ≤ 999) (hsk : 0 ≤ sk ∧ sk < 2147483648) (hun : -2147483648 ≤ un ∧ un < 2147483648) (hne : (if un < 1 ∨ 99 < un then 3 else if 999 < dm dy + un then 5 else 0) ≠ 0) : Met l yL_demand ws_L_demand ({ frames := 9, cells := 4, slots := 24, locals := 151 }) (va_Pc [.ref kr, .int (iI (((sn : Nat) : Int))), .int (iI (((tn : Nat) : Int))), .int (iI (un)), .ref po] (PE D cs [(po, .inl (cs 4, 1, .inr (.inl ov))), (kr, .inr (5, [.ref la, .ref ia, .ref na, .ref b4, .ref b6, .ref b8, .ref b10, .int (iI (((sh : Nat) : Int))), .int (iI (((it : Nat) : Int))), .int (iI (lc)), .int (iI (((dy : Nat) : Int))), .int (iI (pct)), .int (iI (lr)), .int (iI (sr))])), (la, arI cs 4 lf), (ia, arQ cs 2 5 itf), (na, arQ cs 3 20 lnf), (kn, .inr (3, [.ref hi, .int (iI (ld)), .int (iI (fd)), .int (iI (fk)), .int (iI (fv)), .ref kl, .ref ke, .ref kd, .ref ks, .ref ka, .int (iI (es)), .int (iI (sk)), .int (iI (so)), .int (iI (lo))])), (kd, .inr (0, [.ref ud])), (ud, arI cs 1005 dm), (ks, .inr (0, [.ref uls])), (uls, arI cs 1005 sl)] (inW [(po, .inl (cs 4, 1, .inr (.inl ov))), (kr, .inr (5, [.ref la, .ref ia, .ref na, .ref b4, .ref b6, .ref b8, .ref b10, .int (iI (((sh : Nat) : Int))), .int (iI (((it : Nat) : Int))), .int (iI (lc)), .int (iI (((dy : Nat) : Int))), .int (iI (pct)), .int (iI (lr)), .int (iI (sr))])), (la, arI cs 4 lf), (ia, arQ cs 2 5 itf), (na, arQ cs 3 20 lnf), (kn, .inr (3, [.ref hi, .int (iI (ld)), .int (iI (fd)), .int (iI (fk)), .int (iI (fv)), .ref kl, .ref ke, .ref kd, .ref ks, .ref ka, .int (iI (es)), .int (iI (sk)), .int (iI (so)), .int (iI (lo))])), (kd, .inr (0, [.ref ud])), (ud, arI cs 1005 dm), (ks, .inr (0, [.ref uls])), (uls, arI cs 1005 sl)]))) (va_Qi (fun r (_ : Unit) => r = iI (hkI [1, 2, 3, 5] (if un < 1 ∨ 99 < un then 3 else if 999 < dm dy + un then 5 else 0))) (fun _ t => va_P D vwCl [(po, .inl (cs 4, 1, .inr (.inl ov))), (kr, .inr (5, [.ref la, .ref ia, .ref na, .ref b4, .ref b6, .ref b8, .ref b10, .int (iI (((sh : Nat) : Int))), .int (iI (((it : Nat) : Int))), .int (iI (lc)), .int (iI (((dy : Nat) : Int))), .int (iI (pct)), .int (iI (lr)), .int (iI (sr))])), (la, arI cs 4 lf), (ia, arQ cs 2 5 itf), (na, arQ cs 3 20 lnf), (kn, .inr (3, [.ref hi, .int (iI (ld)), .int (iI (fd)), .int (iI (fk)), .int (iI (fv)), .ref kl, .ref ke, .ref kd, .ref ks, .ref ka, .int (iI (es)), .int (iI (sk)), .int (iI (so)), .int (iI (lo))])), (kd, .inr (0, [.ref ud])), (ud, arI cs 1005 dm), (ks, .inr (0, [.ref uls])), (uls, arI cs 1005 sl)] t.heap) (inW [(po, .inl (cs 4, 1, .inr (.inl ov))), (kr, .inr (5, [.ref la, .ref ia, .ref na, .ref b4, .ref b6, .ref b8, .ref b10, .int (iI (((sh : Nat) : Int))), .int (iI (((it : Nat) : Int))), .int (iI (lc)), .int (iI (((dy : Nat) : Int))), .int (iI (pct)), .int (iI (lr)), .int (iI (sr))])), (la, arI cs 4 lf), (ia, arQ cs 2 5 itf), (na, arQ cs 3 20 lnf), (kn, .inr (3, [.ref hi, .int (iI (ld)), .int (iI (fd)), .int (iI (fk)), .int (iI (fv)), .ref kl, .ref ke, .ref kd, .ref ks, .ref ka, .int (iI (es)), .int (iI (sk)), .int (iI (so)), .int (iI (lo))])), (kd, .inr (0, [.ref ud])), (ud, arI cs 1005 dm), (ks, .inr (0, [.ref uls])), (uls, arI cs 1005 sl)])) 4 24 (inW [(po, .inl (cs 4, 1, .inr (.inl ov))), (kr, .inr (5, [.ref la, .ref ia, .ref na, .ref b4, .ref b6, .ref b8, .ref b10, .int (iI (((sh : Nat) : Int))), .int (iI (((it : Nat) : Int))), .int (iI (lc)), .int (iI (((dy : Nat) : Int))), .int (iI (pct)), .int (iI (lr)), .int (iI (sr))])), (la, arI cs 4 lf), (ia, arQ cs 2 5 itf), (na, arQ cs 3 20 lnf), (kn, .inr (3, [.ref hi, .int (iI (ld)), .int (iI (fd)), .int (iI (fk)), .int (iI (fv)), .ref kl, .ref ke, .ref kd, .ref ks, .ref ka, .int (iI (es)), .int (iI (sk)), .int (iI (so)), .int (iI (lo))])), (kd, .inr (0, [.ref ud])), (ud, arI cs 1005 dm), (ks, .inr (0, [.ref uls])), (uls, arI cs 1005 sl)]) := by
  refine va_MetW (cc := cL_demand) (maxL := 6) (ret := some .int) (hh := [(0, 12, 15, 25), (0, 12, 19, 50), (0, 12, 23, 13), (0, 12, 27, 52)]) (by decide +kernel) rfl ?_
  intro p e s m args below meth c s₁ B hml hv
  obtain ⟨rfl, ⟨hP, hK, hD, hN⟩, hE⟩ := hv
  have hx := B.exec
  have hb := B.bytes
  have hr := B.returns
  have hts : ∀ w ∈ ALL, w.before _ s = true := fun w h => atoms_spec (ws := ws_L_demand) B.pre w (List.mem_cons_of_mem _ h)
  have hown : s.vm.findClass RL = some m.cls := findClass_of_methodNamed B.named
  have hlocks := B.notSynchronized
  have htab : c.exceptionTable.toList = tableOf [(0, 12, 15, 25), (0, 12, 19, 50), (0, 12, 23, 13), (0, 12, 27, 52)] := vx_table (x := yL_demand) B (atoms_spec (ws := ws_L_demand) B.pre _ List.mem_cons_self)
  generalize hAe : inW [(po, .inl (cs 4, 1, .inr (.inl ov))), (kr, .inr (5, [.ref la, .ref ia, .ref na, .ref b4, .ref b6, .ref b8, .ref b10, .int (iI (((sh : Nat) : Int))), .int (iI (((it : Nat) : Int))), .int (iI (lc)), .int (iI (((dy : Nat) : Int))), .int (iI (pct)), .int (iI (lr)), .int (iI (sr))])), (la, arI cs 4 lf), (ia, arQ cs 2 5 itf), (na, arQ cs 3 20 lnf), (kn, .inr (3, [.ref hi, .int (iI (ld)), .int (iI (fd)), .int (iI (fk)), .int (iI (fv)), .ref kl, .ref ke, .ref kd, .ref ks, .ref ka, .int (iI (es)), .int (iI (sk)), .int (iI (so)), .int (iI (lo))])), (kd, .inr (0, [.ref ud])), (ud, arI cs 1005 dm), (ks, .inr (0, [.ref uls])), (uls, arI cs 1005 sl)] = A at hD hE ⊢
  have hS : va_S A s.heap s.heap [] := va_S.rf
  have hl := lv_entry ([.ref kr, .int (iI (((sn : Nat) : Int))), .int (iI (((tn : Nat) : Int))), .int (iI (un)), .ref po]) (n := 6) (Nat.le_of_ble_eq_true rfl)
  rw [lg_entry_eq]
  generalize (lg_sl ([.ref kr, .int (iI (((sn : Nat) : Int))), .int (iI (((tn : Nat) : Int))), .int (iI (un)), .ref po]) ++ List.replicate (6 - (lg_sl ([.ref kr, .int (iI (((sn : Nat) : Int))), .int (iI (((tn : Nat) : Int))), .int (iI (un)), .ref po])).length) Slot.unset).toArray = ls at hl ⊢
  have hl : lv_has ls 6 [(0, .ref kr), (1, .int (iI (((sn : Nat) : Int)))), (2, .int (iI (((tn : Nat) : Int)))), (3, .int (iI (un))), (4, .ref po)] := hl
  have hH := rfl (a := s.heap)
  refine lv_aload hx hb dL_demand_0 (lv_at hl 4 rfl) ?_
  refine lv_iconst (v := iI (0)) hx hb dL_demand_2 rfl ?_
  refine lv_aload_n hx hb dL_demand_3 rfl (lv_at hl 0 rfl) ?_
  refine lv_iload_n hx hb dL_demand_4 rfl (lv_at hl 1 rfl) ?_
  refine lv_iload_n hx hb dL_demand_5 rfl (lv_at hl 2 rfl) ?_
  refine lv_iload_n hx hb dL_demand_6 rfl (lv_at hl 3 rfl) ?_
  have pk1 : picks [(po, .inl (cs 4, 1, .inr (.inl ov))), (kr, .inr (5, [.ref la, .ref ia, .ref na, .ref b4, .ref b6, .ref b8, .ref b10, .int (iI (((sh : Nat) : Int))), .int (iI (((it : Nat) : Int))), .int (iI (lc)), .int (iI (((dy : Nat) : Int))), .int (iI (pct)), .int (iI (lr)), .int (iI (sr))])), (la, arI cs 4 lf), (ia, arQ cs 2 5 itf), (na, arQ cs 3 20 lnf), (kn, .inr (3, [.ref hi, .int (iI (ld)), .int (iI (fd)), .int (iI (fk)), .int (iI (fv)), .ref kl, .ref ke, .ref kd, .ref ks, .ref ka, .int (iI (es)), .int (iI (sk)), .int (iI (so)), .int (iI (lo))])), (kd, .inr (0, [.ref ud])), (ud, arI cs 1005 dm), (ks, .inr (0, [.ref uls])), (uls, arI cs 1005 sl)] [1, 2, 3, 4, 5, 6, 7, 8, 9] [(kr, .inr (5, [.ref la, .ref ia, .ref na, .ref b4, .ref b6, .ref b8, .ref b10, .int (iI (((sh : Nat) : Int))), .int (iI (((it : Nat) : Int))), .int (iI (lc)), .int (iI (((dy : Nat) : Int))), .int (iI (pct)), .int (iI (lr)), .int (iI (sr))])), (la, arI cs 4 lf), (ia, arQ cs 2 5 itf), (na, arQ cs 3 20 lnf), (kn, .inr (3, [.ref hi, .int (iI (ld)), .int (iI (fd)), .int (iI (fk)), .int (iI (fv)), .ref kl, .ref ke, .ref kd, .ref ks, .ref ka, .int (iI (es)), .int (iI (sk)), .int (iI (so)), .int (iI (lo))])), (kd, .inr (0, [.ref ud])), (ud, arI cs 1005 dm), (ks, .inr (0, [.ref uls])), (uls, arI cs 1005 sl)] := ⟨rfl, rfl, rfl, rfl, rfl, rfl, rfl, rfl, rfl, trivial⟩
  refine vx_calli (vx_runV (As := [.int (iI (((sn : Nat) : Int))), .int (iI (((tn : Nat) : Int))), .int (iI (un))]) (rest := [.int (iI (0)), .ref po]) ⟨hx, hb, hml, hown, hts⟩ (m_X5_demand_ok l hst D cs kr la ia na b4 b6 b8 b10 sh it lc dy pct lr sr lf itf lnf sn tn kn hi kl ke kd ks ka ld fd fk fv es sk so lo ud uls dm sl un (hsh) (hit) (hitf) (hsn) (htn) (hln) (hd) (hdm) (hsk) (hun)) (cwV 3 hts (gV w_457 w_458 w_459 w_1 w_460) rfl rfl rfl (by decide +kernel) ⟨Nat.le_of_ble_eq_true rfl, Nat.le_of_ble_eq_true rfl⟩) (PE_V hK hN hE hS (fun q h => inW_sub hD [1, 2, 3, 4, 5, 6, 7, 8, 9] pk1 q h) hP hD [1, 2, 3, 4, 5, 6, 7, 8, 9] rfl pk1 rfl rfl) rfl rfl hl.1 rfl (lv_room (Nat.le_of_ble_eq_true rfl)) dL_demand_7 ⟨Nat.le_of_ble_eq_true rfl, Nat.le_of_ble_eq_true rfl⟩) hS (fun q _ h => inW_sub hD [1, 2, 3, 4, 5, 6, 7, 8, 9] pk1 q h) (fun q h => inW_sub hD [1, 2, 3, 4, 5, 6, 7, 8, 9] pk1 q h) (fun q _ h => inW_sub hD [1, 2, 3, 4, 5, 6, 7, 8, 9] pk1 q h) (fun E ce q9 u t H1 locs1 ht hvm hpx hBX hz1 hk1 hS1 hce hcv hcl => ?_) (fun r u t H locs ht hvm hw hB hz1 hk1 hS => ?_)
  · have h9 : u = (if un < 1 ∨ 99 < un then 3 else if 999 < dm dy + un then 5 else 0) := hpx.1
    have hS := hS1
    have hcd : (if un < 1 ∨ 99 < un then 3 else if 999 < dm dy + un then 5 else 0) = 3 ∨ (if un < 1 ∨ 99 < un then 3 else if 999 < dm dy + un then 5 else 0) = 5 := by
      revert hne
      (try unfold cdL); (try unfold cdS); (try unfold cdC)
      (repeat' split) <;> simp
    obtain ⟨hEu, hBX⟩ := hBX
    rw [ht] at hBX
    obtain ⟨hP, hD⟩ := my_join (Wc := [(kr, .inr (5, [.ref la, .ref ia, .ref na, .ref b4, .ref b6, .ref b8, .ref b10, .int (iI (((sh : Nat) : Int))), .int (iI (((it : Nat) : Int))), .int (iI (lc)), .int (iI (((dy : Nat) : Int))), .int (iI (pct)), .int (iI (lr)), .int (iI (sr))])), (la, arI cs 4 lf), (ia, arQ cs 2 5 itf), (na, arQ cs 3 20 lnf), (kn, .inr (3, [.ref hi, .int (iI (ld)), .int (iI (fd)), .int (iI (fk)), .int (iI (fv)), .ref kl, .ref ke, .ref kd, .ref ks, .ref ka, .int (iI (es)), .int (iI (sk)), .int (iI (so)), .int (iI (lo))])), (kd, .inr (0, [.ref ud])), (ud, arI cs 1005 dm), (ks, .inr (0, [.ref uls])), (uls, arI cs 1005 sl)]) (W1 := [(kr, .inr (5, [.ref la, .ref ia, .ref na, .ref b4, .ref b6, .ref b8, .ref b10, .int (iI (((sh : Nat) : Int))), .int (iI (((it : Nat) : Int))), .int (iI (lc)), .int (iI (((dy : Nat) : Int))), .int (iI (pct)), .int (iI (lr)), .int (iI (sr))])), (la, arI cs 4 lf), (ia, arQ cs 2 5 itf), (na, arQ cs 3 20 lnf), (kn, .inr (3, [.ref hi, .int (iI (ld)), .int (iI (fd)), .int (iI (fk)), .int (iI (fv)), .ref kl, .ref ke, .ref kd, .ref ks, .ref ka, .int (iI (es)), .int (iI (sk)), .int (iI (so)), .int (iI (lo))])), (kd, .inr (0, [.ref ud])), (ud, arI cs 1005 dm), (ks, .inr (0, [.ref uls])), (uls, arI cs 1005 sl)]) hP hD [1, 2, 3, 4, 5, 6, 7, 8, 9] rfl (⟨rfl, rfl, rfl, rfl, rfl, rfl, rfl, rfl, rfl, trivial⟩) rfl hk1 hBX
    have hP : va_P D vwCl [(po, .inl (cs 4, 1, .inr (.inl ov))), (kr, .inr (5, [.ref la, .ref ia, .ref na, .ref b4, .ref b6, .ref b8, .ref b10, .int (iI (((sh : Nat) : Int))), .int (iI (((it : Nat) : Int))), .int (iI (lc)), .int (iI (((dy : Nat) : Int))), .int (iI (pct)), .int (iI (lr)), .int (iI (sr))])), (la, arI cs 4 lf), (ia, arQ cs 2 5 itf), (na, arQ cs 3 20 lnf), (kn, .inr (3, [.ref hi, .int (iI (ld)), .int (iI (fd)), .int (iI (fk)), .int (iI (fv)), .ref kl, .ref ke, .ref kd, .ref ks, .ref ka, .int (iI (es)), .int (iI (sk)), .int (iI (so)), .int (iI (lo))])), (kd, .inr (0, [.ref ud])), (ud, arI cs 1005 dm), (ks, .inr (0, [.ref uls])), (uls, arI cs 1005 sl)] H1 := hP
    have hD : va_D A [(po, .inl (cs 4, 1, .inr (.inl ov))), (kr, .inr (5, [.ref la, .ref ia, .ref na, .ref b4, .ref b6, .ref b8, .ref b10, .int (iI (((sh : Nat) : Int))), .int (iI (((it : Nat) : Int))), .int (iI (lc)), .int (iI (((dy : Nat) : Int))), .int (iI (pct)), .int (iI (lr)), .int (iI (sr))])), (la, arI cs 4 lf), (ia, arQ cs 2 5 itf), (na, arQ cs 3 20 lnf), (kn, .inr (3, [.ref hi, .int (iI (ld)), .int (iI (fd)), .int (iI (fk)), .int (iI (fv)), .ref kl, .ref ke, .ref kd, .ref ks, .ref ka, .int (iI (es)), .int (iI (sk)), .int (iI (so)), .int (iI (lo))])), (kd, .inr (0, [.ref ud])), (ud, arI cs 1005 dm), (ks, .inr (0, [.ref uls])), (uls, arI cs 1005 sl)] := hD
    rcases hcd with hc3 | hcd
    · have hE3 : E = "java/lang/IllegalArgumentException" := by have h8 : E = exN u := hEu; rw [h8, h9, hc3]; rfl
      subst hE3
      refine vx_catch (name := "java/lang/IllegalArgumentException") hown [⟨0, 12, 15, 25⟩, ⟨0, 12, 19, 50⟩] ⟨0, 12, 23, 13⟩ [⟨0, 12, 27, 52⟩] (htab.trans rfl) (fun z hz => by
          simp only [List.mem_cons, List.not_mem_nil, or_false] at hz
          rcases hz with rfl | rfl
          · exact Or.inr ⟨by decide, "java/lang/IndexOutOfBoundsException", hts _ w_266, hE.2.2.2.2.2 _ (List.mem_of_getElem? (i := 8) rfl)⟩
          · exact Or.inr ⟨by decide, "java/util/NoSuchElementException", hts _ w_455, hE.2.2.2.2.2 _ (List.mem_of_getElem? (i := 12) rfl)⟩) rfl (by decide) (hts _ w_132) (hE.use _ (List.mem_append_right _ (List.mem_map.mpr ⟨_, List.mem_of_getElem? (i := 2) rfl, rfl⟩))) hce hcv hcl ?_
      refine lv_astore (lv' := [(5, .ref q9), (0, .ref kr), (1, .int (iI (((sn : Nat) : Int)))), (2, .int (iI (((tn : Nat) : Int)))), (3, .int (iI (un))), (4, .ref po)]) hx hb dL_demand_23 hl (by decide) rfl (fun ls hl => ?_)
      refine lv_iconst (v := iI (3)) hx hb dL_demand_25 rfl ?_
      subst hAe
      refine W.widen (k := 4) (n := 24) (by omega) (by omega) ?_
      have hres : iI (3) = iI (hkI [1, 2, 3, 5] (if un < 1 ∨ 99 < un then 3 else if 999 < dm dy + un then 5 else 0)) := congrArg iI (by
          rw [hc3]; rfl)
      exact W.iret hx hb hr (fun t ht hW => ⟨⟨_, (), rfl, hres, by show va_P D vwCl _ t.heap; rw [ht]; exact hP⟩, hS.F ht⟩) hS.2.2 dL_demand_26
    have hc3 := hcd
    have hE3 : E = "java/lang/UnsupportedOperationException" := by have h8 : E = exN u := hEu; rw [h8, h9, hc3]; rfl
    subst hE3
    refine vx_catch (name := "java/lang/UnsupportedOperationException") hown [⟨0, 12, 15, 25⟩, ⟨0, 12, 19, 50⟩, ⟨0, 12, 23, 13⟩] ⟨0, 12, 27, 52⟩ [] (htab.trans rfl) (fun z hz => by
        simp only [List.mem_cons, List.not_mem_nil, or_false] at hz
        rcases hz with rfl | rfl | rfl
        · exact Or.inr ⟨by decide, "java/lang/IndexOutOfBoundsException", hts _ w_266, hE.2.2.2.2.2 _ (List.mem_of_getElem? (i := 11) rfl)⟩
        · exact Or.inr ⟨by decide, "java/util/NoSuchElementException", hts _ w_455, hE.2.2.2.2.2 _ (List.mem_of_getElem? (i := 15) rfl)⟩
        · exact Or.inr ⟨by decide, "java/lang/IllegalArgumentException", hts _ w_132, hE.2.2.2.2.2 _ (List.mem_of_getElem? (i := 3) rfl)⟩) rfl (by decide) (hts _ w_456) (hE.use _ (List.mem_append_right _ (List.mem_map.mpr ⟨_, List.mem_of_getElem? (i := 4) rfl, rfl⟩))) hce hcv hcl ?_
    refine lv_astore (lv' := [(5, .ref q9), (0, .ref kr), (1, .int (iI (((sn : Nat) : Int)))), (2, .int (iI (((tn : Nat) : Int)))), (3, .int (iI (un))), (4, .ref po)]) hx hb dL_demand_27 hl (by decide) rfl (fun ls hl => ?_)
    refine lv_iconst (v := iI (4)) hx hb dL_demand_29 rfl ?_
    subst hAe
    refine W.widen (k := 4) (n := 24) (by omega) (by omega) ?_
    have hres : iI (4) = iI (hkI [1, 2, 3, 5] (if un < 1 ∨ 99 < un then 3 else if 999 < dm dy + un then 5 else 0)) := congrArg iI (by
        rw [hc3]; rfl)
    exact W.iret hx hb hr (fun t ht hW => ⟨⟨_, (), rfl, hres, by show va_P D vwCl _ t.heap; rw [ht]; exact hP⟩, hS.F ht⟩) hS.2.2 dL_demand_30
  obtain ⟨hc2, hw⟩ := hw
  subst hw
  rw [ht] at hB
  obtain ⟨hP, hD⟩ := my_join (W1 := [(kr, .inr (5, [.ref la, .ref ia, .ref na, .ref b4, .ref b6, .ref b8, .ref b10, .int (iI (((sh : Nat) : Int))), .int (iI (((it : Nat) : Int))), .int (iI (lc)), .int (iI (((dy : Nat) : Int))), .int (iI (pct)), .int (iI (lr)), .int (iI (sr))])), (la, arI cs 4 lf), (ia, arQ cs 2 5 itf), (na, arQ cs 3 20 lnf), (kn, .inr (3, [.ref hi, .int (iI (ld)), .int (iI (fd)), .int (iI (fk)), .int (iI (fv)), .ref kl, .ref ke, .ref kd, .ref ks, .ref ka, .int (iI (es)), .int (iI (sk - mnI un sk)), .int (iI (so + mnI un sk)), .int (iI (lo + (un - mnI un sk)))])), (kd, .inr (0, [.ref ud])), (ud, arI cs 1005 (upI dm dy (dm dy + un))), (ks, .inr (0, [.ref uls])), (uls, arI cs 1005 (upI sl dy (sl dy + mnI un sk)))]) hP hD [1, 2, 3, 4, 5, 6, 7, 8, 9] rfl pk1 rfl hk1 hB
  have hP : va_P D vwCl [(po, .inl (cs 4, 1, .inr (.inl ov))), (kr, .inr (5, [.ref la, .ref ia, .ref na, .ref b4, .ref b6, .ref b8, .ref b10, .int (iI (((sh : Nat) : Int))), .int (iI (((it : Nat) : Int))), .int (iI (lc)), .int (iI (((dy : Nat) : Int))), .int (iI (pct)), .int (iI (lr)), .int (iI (sr))])), (la, arI cs 4 lf), (ia, arQ cs 2 5 itf), (na, arQ cs 3 20 lnf), (kn, .inr (3, [.ref hi, .int (iI (ld)), .int (iI (fd)), .int (iI (fk)), .int (iI (fv)), .ref kl, .ref ke, .ref kd, .ref ks, .ref ka, .int (iI (es)), .int (iI (sk - mnI un sk)), .int (iI (so + mnI un sk)), .int (iI (lo + (un - mnI un sk)))])), (kd, .inr (0, [.ref ud])), (ud, arI cs 1005 (upI dm dy (dm dy + un))), (ks, .inr (0, [.ref uls])), (uls, arI cs 1005 (upI sl dy (sl dy + mnI un sk)))] H := hP
  have hD : va_D A [(po, .inl (cs 4, 1, .inr (.inl ov))), (kr, .inr (5, [.ref la, .ref ia, .ref na, .ref b4, .ref b6, .ref b8, .ref b10, .int (iI (((sh : Nat) : Int))), .int (iI (((it : Nat) : Int))), .int (iI (lc)), .int (iI (((dy : Nat) : Int))), .int (iI (pct)), .int (iI (lr)), .int (iI (sr))])), (la, arI cs 4 lf), (ia, arQ cs 2 5 itf), (na, arQ cs 3 20 lnf), (kn, .inr (3, [.ref hi, .int (iI (ld)), .int (iI (fd)), .int (iI (fk)), .int (iI (fv)), .ref kl, .ref ke, .ref kd, .ref ks, .ref ka, .int (iI (es)), .int (iI (sk - mnI un sk)), .int (iI (so + mnI un sk)), .int (iI (lo + (un - mnI un sk)))])), (kd, .inr (0, [.ref ud])), (ud, arI cs 1005 (upI dm dy (dm dy + un))), (ks, .inr (0, [.ref uls])), (uls, arI cs 1005 (upI sl dy (sl dy + mnI un sk)))] := hD
  exact absurd hc2 hne

abbrev ws_L_addShop : List Cond := Cond.codeWith yL_addShop cL_addShop 4 (some .int) [(0, 9, 12, 13), (0, 9, 15, 15)] :: ALL
set_option maxHeartbeats 4000000 in
set_option maxRecDepth 100000 in
theorem m_L_addShop_r (l : Launch) (hst : l.stackTraces = false) (D : va_G) (cs : Nat → ClassId) (kr la ia na b4 b6 b8 b10 sh it : Nat) (lc : Int) (dy : Nat) (pct lr sr : Int) (lf : Nat → Int) (zl : Int) (po : Nat) (ov : Nat → Int64) (hsh : sh ≤ 4) (hzl : -2147483648 ≤ zl ∧ zl < 2147483648) (hz : (if zl < 1 ∨ 5 < zl then 3 else if 4 ≤ sh then 4 else 0) = 0) (hrr : -2147483648 ≤ ((sh : Nat) : Int) ∧ ((sh : Nat) : Int) < 2147483648) : Met l yL_addShop ws_L_addShop ({ frames := 7, cells := 1, slots := 6, locals := 103 }) (va_Pc [.ref kr, .int (iI (zl)), .ref po] (PE D cs [(po, .inl (cs 4, 1, .inr (.inl ov))), (kr, .inr (5, [.ref la, .ref ia, .ref na, .ref b4, .ref b6, .ref b8, .ref b10, .int (iI (((sh : Nat) : Int))), .int (iI (((it : Nat) : Int))), .int (iI (lc)), .int (iI (((dy : Nat) : Int))), .int (iI (pct)), .int (iI (lr)), .int (iI (sr))])), (la, arI cs 4 lf)] (inW [(po, .inl (cs 4, 1, .inr (.inl ov))), (kr, .inr (5, [.ref la, .ref ia, .ref na, .ref b4, .ref b6, .ref b8, .ref b10, .int (iI (((sh : Nat) : Int))), .int (iI (((it : Nat) : Int))), .int (iI (lc)), .int (iI (((dy : Nat) : Int))), .int (iI (pct)), .int (iI (lr)), .int (iI (sr))])), (la, arI cs 4 lf)]))) (va_Qi (fun r (_ : Unit) => r = iI (0)) (fun _ t => va_P D vwCl [(po, .inl (cs 4, 1, .inr (.inl (vp_updL ov 0 (lI (((sh : Nat) : Int))))))), (kr, .inr (5, [.ref la, .ref ia, .ref na, .ref b4, .ref b6, .ref b8, .ref b10, .int (iI ((((sh + 1) : Nat) : Int))), .int (iI (((it : Nat) : Int))), .int (iI (lc)), .int (iI (((dy : Nat) : Int))), .int (iI (pct)), .int (iI (lr)), .int (iI (sr))])), (la, arI cs 4 (upI lf sh zl))] t.heap) (inW [(po, .inl (cs 4, 1, .inr (.inl ov))), (kr, .inr (5, [.ref la, .ref ia, .ref na, .ref b4, .ref b6, .ref b8, .ref b10, .int (iI (((sh : Nat) : Int))), .int (iI (((it : Nat) : Int))), .int (iI (lc)), .int (iI (((dy : Nat) : Int))), .int (iI (pct)), .int (iI (lr)), .int (iI (sr))])), (la, arI cs 4 lf)])) 1 6 (inW [(po, .inl (cs 4, 1, .inr (.inl ov))), (kr, .inr (5, [.ref la, .ref ia, .ref na, .ref b4, .ref b6, .ref b8, .ref b10, .int (iI (((sh : Nat) : Int))), .int (iI (((it : Nat) : Int))), .int (iI (lc)), .int (iI (((dy : Nat) : Int))), .int (iI (pct)), .int (iI (lr)), .int (iI (sr))])), (la, arI cs 4 lf)]) := by
  refine va_MetW (cc := cL_addShop) (maxL := 4) (ret := some .int) (hh := [(0, 9, 12, 13), (0, 9, 15, 15)]) (by decide +kernel) rfl ?_
  intro p e s m args below meth c s₁ B hml hv
  obtain ⟨rfl, ⟨hP, hK, hD, hN⟩, hE⟩ := hv
  have hx := B.exec
  have hb := B.bytes
  have hr := B.returns
  have hts : ∀ w ∈ ALL, w.before _ s = true := fun w h => atoms_spec (ws := ws_L_addShop) B.pre w (List.mem_cons_of_mem _ h)
  have hown : s.vm.findClass RL = some m.cls := findClass_of_methodNamed B.named
  have hlocks := B.notSynchronized
  have htab : c.exceptionTable.toList = tableOf [(0, 9, 12, 13), (0, 9, 15, 15)] := vx_table (x := yL_addShop) B (atoms_spec (ws := ws_L_addShop) B.pre _ List.mem_cons_self)
  generalize hAe : inW [(po, .inl (cs 4, 1, .inr (.inl ov))), (kr, .inr (5, [.ref la, .ref ia, .ref na, .ref b4, .ref b6, .ref b8, .ref b10, .int (iI (((sh : Nat) : Int))), .int (iI (((it : Nat) : Int))), .int (iI (lc)), .int (iI (((dy : Nat) : Int))), .int (iI (pct)), .int (iI (lr)), .int (iI (sr))])), (la, arI cs 4 lf)] = A at hD hE ⊢
  have hS : va_S A s.heap s.heap [] := va_S.rf
  have hl := lv_entry ([.ref kr, .int (iI (zl)), .ref po]) (n := 4) (Nat.le_of_ble_eq_true rfl)
  rw [lg_entry_eq]
  generalize (lg_sl ([.ref kr, .int (iI (zl)), .ref po]) ++ List.replicate (4 - (lg_sl ([.ref kr, .int (iI (zl)), .ref po])).length) Slot.unset).toArray = ls at hl ⊢
  have hl : lv_has ls 4 [(0, .ref kr), (1, .int (iI (zl))), (2, .ref po)] := hl
  have hH := rfl (a := s.heap)
  refine lv_aload_n hx hb dL_addShop_0 rfl (lv_at hl 2 rfl) ?_
  refine lv_iconst (v := iI (0)) hx hb dL_addShop_1 rfl ?_
  refine lv_aload_n hx hb dL_addShop_2 rfl (lv_at hl 0 rfl) ?_
  refine lv_iload_n hx hb dL_addShop_3 rfl (lv_at hl 1 rfl) ?_
  have pk1 : picks [(po, .inl (cs 4, 1, .inr (.inl ov))), (kr, .inr (5, [.ref la, .ref ia, .ref na, .ref b4, .ref b6, .ref b8, .ref b10, .int (iI (((sh : Nat) : Int))), .int (iI (((it : Nat) : Int))), .int (iI (lc)), .int (iI (((dy : Nat) : Int))), .int (iI (pct)), .int (iI (lr)), .int (iI (sr))])), (la, arI cs 4 lf)] [1, 2] [(kr, .inr (5, [.ref la, .ref ia, .ref na, .ref b4, .ref b6, .ref b8, .ref b10, .int (iI (((sh : Nat) : Int))), .int (iI (((it : Nat) : Int))), .int (iI (lc)), .int (iI (((dy : Nat) : Int))), .int (iI (pct)), .int (iI (lr)), .int (iI (sr))])), (la, arI cs 4 lf)] := ⟨rfl, rfl, trivial⟩
  refine vx_calli (vx_runV (As := [.int (iI (zl))]) (rest := [.int (iI (0)), .ref po]) ⟨hx, hb, hml, hown, hts⟩ (m_X5_addShop l hst D cs kr la ia na b4 b6 b8 b10 sh it lc dy pct lr sr lf zl (hsh) (hzl)) (cwV 1 hts (gV w_134 w_135 w_136 w_1 w_137) rfl rfl rfl (by decide +kernel) ⟨Nat.le_of_ble_eq_true rfl, Nat.le_of_ble_eq_true rfl⟩) (PE_V hK hN hE hS (fun q h => inW_sub hD [1, 2] pk1 q h) hP hD [1, 2] rfl pk1 rfl rfl) rfl rfl hl.1 rfl (lv_room (Nat.le_of_ble_eq_true rfl)) dL_addShop_4 ⟨Nat.le_of_ble_eq_true rfl, Nat.le_of_ble_eq_true rfl⟩) hS (fun q _ h => inW_sub hD [1, 2] pk1 q h) (fun q h => inW_sub hD [1, 2] pk1 q h) (fun q _ h => inW_sub hD [1, 2] pk1 q h) (fun E ce q9 u t H1 locs1 ht hvm hpx hBX hz1 hk1 hS1 hce hcv hcl => ?_) (fun r u t H locs ht hvm hw hB hz1 hk1 hS => ?_)
  · exact absurd (hpx.1.trans hz) hpx.2
  obtain ⟨hc2, hw⟩ := hw
  subst hw
  rw [ht] at hB
  obtain ⟨hP, hD⟩ := my_join (W1 := [(kr, .inr (5, [.ref la, .ref ia, .ref na, .ref b4, .ref b6, .ref b8, .ref b10, .int (iI ((((sh + 1) : Nat) : Int))), .int (iI (((it : Nat) : Int))), .int (iI (lc)), .int (iI (((dy : Nat) : Int))), .int (iI (pct)), .int (iI (lr)), .int (iI (sr))])), (la, arI cs 4 (upI lf sh zl))]) hP hD [1, 2] rfl pk1 rfl hk1 hB
  have hP : va_P D vwCl [(po, .inl (cs 4, 1, .inr (.inl ov))), (kr, .inr (5, [.ref la, .ref ia, .ref na, .ref b4, .ref b6, .ref b8, .ref b10, .int (iI ((((sh + 1) : Nat) : Int))), .int (iI (((it : Nat) : Int))), .int (iI (lc)), .int (iI (((dy : Nat) : Int))), .int (iI (pct)), .int (iI (lr)), .int (iI (sr))])), (la, arI cs 4 (upI lf sh zl))] H := hP
  have hD : va_D A [(po, .inl (cs 4, 1, .inr (.inl ov))), (kr, .inr (5, [.ref la, .ref ia, .ref na, .ref b4, .ref b6, .ref b8, .ref b10, .int (iI ((((sh + 1) : Nat) : Int))), .int (iI (((it : Nat) : Int))), .int (iI (lc)), .int (iI (((dy : Nat) : Int))), .int (iI (pct)), .int (iI (lr)), .int (iI (sr))])), (la, arI cs 4 (upI lf sh zl))] := hD
  refine my_i2l hx hb dL_addShop_7 (by omega) ?_
  refine my_last0 hx hb hK hP hD hS 0 rfl dL_addShop_8 (fun H locs hP hD hS => ?_)
  have hP : va_P D vwCl [(po, .inl (cs 4, 1, .inr (.inl (vp_updL ov 0 (lI (((sh : Nat) : Int))))))), (kr, .inr (5, [.ref la, .ref ia, .ref na, .ref b4, .ref b6, .ref b8, .ref b10, .int (iI ((((sh + 1) : Nat) : Int))), .int (iI (((it : Nat) : Int))), .int (iI (lc)), .int (iI (((dy : Nat) : Int))), .int (iI (pct)), .int (iI (lr)), .int (iI (sr))])), (la, arI cs 4 (upI lf sh zl))] H := hP
  have hD : va_D A [(po, .inl (cs 4, 1, .inr (.inl (vp_updL ov 0 (lI (((sh : Nat) : Int))))))), (kr, .inr (5, [.ref la, .ref ia, .ref na, .ref b4, .ref b6, .ref b8, .ref b10, .int (iI ((((sh + 1) : Nat) : Int))), .int (iI (((it : Nat) : Int))), .int (iI (lc)), .int (iI (((dy : Nat) : Int))), .int (iI (pct)), .int (iI (lr)), .int (iI (sr))])), (la, arI cs 4 (upI lf sh zl))] := hD
  refine lv_goto (tgt := 18) hx hb dL_addShop_9 (by decide) ?_
  refine lv_iconst (v := iI (0)) hx hb dL_addShop_18 rfl ?_
  subst hAe
  refine W.widen (k := 1) (n := 6) (by omega) (by omega) ?_
  have hres : iI (0) = iI (0) := congrArg iI (by
      rfl)
  exact W.iret hx hb hr (fun t ht hW => ⟨⟨_, (), rfl, hres, by show va_P D vwCl _ t.heap; rw [ht]; exact hP⟩, hS.F ht⟩) hS.2.2 dL_addShop_19

set_option maxHeartbeats 4000000 in
set_option maxRecDepth 100000 in
theorem m_L_addShop_t (l : Launch) (hst : l.stackTraces = false) (D : va_G) (cs : Nat → ClassId) (kr la ia na b4 b6 b8 b10 sh it : Nat) (lc : Int) (dy : Nat) (pct lr sr : Int) (lf : Nat → Int) (zl : Int) (po : Nat) (ov : Nat → Int64) (hsh : sh ≤ 4) (hzl : -2147483648 ≤ zl ∧ zl < 2147483648) (hne : (if zl < 1 ∨ 5 < zl then 3 else if 4 ≤ sh then 4 else 0) ≠ 0) : Met l yL_addShop ws_L_addShop ({ frames := 7, cells := 1, slots := 6, locals := 103 }) (va_Pc [.ref kr, .int (iI (zl)), .ref po] (PE D cs [(po, .inl (cs 4, 1, .inr (.inl ov))), (kr, .inr (5, [.ref la, .ref ia, .ref na, .ref b4, .ref b6, .ref b8, .ref b10, .int (iI (((sh : Nat) : Int))), .int (iI (((it : Nat) : Int))), .int (iI (lc)), .int (iI (((dy : Nat) : Int))), .int (iI (pct)), .int (iI (lr)), .int (iI (sr))])), (la, arI cs 4 lf)] (inW [(po, .inl (cs 4, 1, .inr (.inl ov))), (kr, .inr (5, [.ref la, .ref ia, .ref na, .ref b4, .ref b6, .ref b8, .ref b10, .int (iI (((sh : Nat) : Int))), .int (iI (((it : Nat) : Int))), .int (iI (lc)), .int (iI (((dy : Nat) : Int))), .int (iI (pct)), .int (iI (lr)), .int (iI (sr))])), (la, arI cs 4 lf)]))) (va_Qi (fun r (_ : Unit) => r = iI (hkI [3, 4] (if zl < 1 ∨ 5 < zl then 3 else if 4 ≤ sh then 4 else 0))) (fun _ t => va_P D vwCl [(po, .inl (cs 4, 1, .inr (.inl ov))), (kr, .inr (5, [.ref la, .ref ia, .ref na, .ref b4, .ref b6, .ref b8, .ref b10, .int (iI (((sh : Nat) : Int))), .int (iI (((it : Nat) : Int))), .int (iI (lc)), .int (iI (((dy : Nat) : Int))), .int (iI (pct)), .int (iI (lr)), .int (iI (sr))])), (la, arI cs 4 lf)] t.heap) (inW [(po, .inl (cs 4, 1, .inr (.inl ov))), (kr, .inr (5, [.ref la, .ref ia, .ref na, .ref b4, .ref b6, .ref b8, .ref b10, .int (iI (((sh : Nat) : Int))), .int (iI (((it : Nat) : Int))), .int (iI (lc)), .int (iI (((dy : Nat) : Int))), .int (iI (pct)), .int (iI (lr)), .int (iI (sr))])), (la, arI cs 4 lf)])) 1 6 (inW [(po, .inl (cs 4, 1, .inr (.inl ov))), (kr, .inr (5, [.ref la, .ref ia, .ref na, .ref b4, .ref b6, .ref b8, .ref b10, .int (iI (((sh : Nat) : Int))), .int (iI (((it : Nat) : Int))), .int (iI (lc)), .int (iI (((dy : Nat) : Int))), .int (iI (pct)), .int (iI (lr)), .int (iI (sr))])), (la, arI cs 4 lf)]) := by
  refine va_MetW (cc := cL_addShop) (maxL := 4) (ret := some .int) (hh := [(0, 9, 12, 13), (0, 9, 15, 15)]) (by decide +kernel) rfl ?_
  intro p e s m args below meth c s₁ B hml hv
  obtain ⟨rfl, ⟨hP, hK, hD, hN⟩, hE⟩ := hv
  have hx := B.exec
  have hb := B.bytes
  have hr := B.returns
  have hts : ∀ w ∈ ALL, w.before _ s = true := fun w h => atoms_spec (ws := ws_L_addShop) B.pre w (List.mem_cons_of_mem _ h)
  have hown : s.vm.findClass RL = some m.cls := findClass_of_methodNamed B.named
  have hlocks := B.notSynchronized
  have htab : c.exceptionTable.toList = tableOf [(0, 9, 12, 13), (0, 9, 15, 15)] := vx_table (x := yL_addShop) B (atoms_spec (ws := ws_L_addShop) B.pre _ List.mem_cons_self)
  generalize hAe : inW [(po, .inl (cs 4, 1, .inr (.inl ov))), (kr, .inr (5, [.ref la, .ref ia, .ref na, .ref b4, .ref b6, .ref b8, .ref b10, .int (iI (((sh : Nat) : Int))), .int (iI (((it : Nat) : Int))), .int (iI (lc)), .int (iI (((dy : Nat) : Int))), .int (iI (pct)), .int (iI (lr)), .int (iI (sr))])), (la, arI cs 4 lf)] = A at hD hE ⊢
  have hS : va_S A s.heap s.heap [] := va_S.rf
  have hl := lv_entry ([.ref kr, .int (iI (zl)), .ref po]) (n := 4) (Nat.le_of_ble_eq_true rfl)
  rw [lg_entry_eq]
  generalize (lg_sl ([.ref kr, .int (iI (zl)), .ref po]) ++ List.replicate (4 - (lg_sl ([.ref kr, .int (iI (zl)), .ref po])).length) Slot.unset).toArray = ls at hl ⊢
  have hl : lv_has ls 4 [(0, .ref kr), (1, .int (iI (zl))), (2, .ref po)] := hl
  have hH := rfl (a := s.heap)
  refine lv_aload_n hx hb dL_addShop_0 rfl (lv_at hl 2 rfl) ?_
  refine lv_iconst (v := iI (0)) hx hb dL_addShop_1 rfl ?_
  refine lv_aload_n hx hb dL_addShop_2 rfl (lv_at hl 0 rfl) ?_
  refine lv_iload_n hx hb dL_addShop_3 rfl (lv_at hl 1 rfl) ?_
  have pk1 : picks [(po, .inl (cs 4, 1, .inr (.inl ov))), (kr, .inr (5, [.ref la, .ref ia, .ref na, .ref b4, .ref b6, .ref b8, .ref b10, .int (iI (((sh : Nat) : Int))), .int (iI (((it : Nat) : Int))), .int (iI (lc)), .int (iI (((dy : Nat) : Int))), .int (iI (pct)), .int (iI (lr)), .int (iI (sr))])), (la, arI cs 4 lf)] [1, 2] [(kr, .inr (5, [.ref la, .ref ia, .ref na, .ref b4, .ref b6, .ref b8, .ref b10, .int (iI (((sh : Nat) : Int))), .int (iI (((it : Nat) : Int))), .int (iI (lc)), .int (iI (((dy : Nat) : Int))), .int (iI (pct)), .int (iI (lr)), .int (iI (sr))])), (la, arI cs 4 lf)] := ⟨rfl, rfl, trivial⟩
  refine vx_calli (vx_runV (As := [.int (iI (zl))]) (rest := [.int (iI (0)), .ref po]) ⟨hx, hb, hml, hown, hts⟩ (m_X5_addShop l hst D cs kr la ia na b4 b6 b8 b10 sh it lc dy pct lr sr lf zl (hsh) (hzl)) (cwV 1 hts (gV w_134 w_135 w_136 w_1 w_137) rfl rfl rfl (by decide +kernel) ⟨Nat.le_of_ble_eq_true rfl, Nat.le_of_ble_eq_true rfl⟩) (PE_V hK hN hE hS (fun q h => inW_sub hD [1, 2] pk1 q h) hP hD [1, 2] rfl pk1 rfl rfl) rfl rfl hl.1 rfl (lv_room (Nat.le_of_ble_eq_true rfl)) dL_addShop_4 ⟨Nat.le_of_ble_eq_true rfl, Nat.le_of_ble_eq_true rfl⟩) hS (fun q _ h => inW_sub hD [1, 2] pk1 q h) (fun q h => inW_sub hD [1, 2] pk1 q h) (fun q _ h => inW_sub hD [1, 2] pk1 q h) (fun E ce q9 u t H1 locs1 ht hvm hpx hBX hz1 hk1 hS1 hce hcv hcl => ?_) (fun r u t H locs ht hvm hw hB hz1 hk1 hS => ?_)
  · have h9 : u = (if zl < 1 ∨ 5 < zl then 3 else if 4 ≤ sh then 4 else 0) := hpx.1
    have hS := hS1
    have hcd : (if zl < 1 ∨ 5 < zl then 3 else if 4 ≤ sh then 4 else 0) = 3 ∨ (if zl < 1 ∨ 5 < zl then 3 else if 4 ≤ sh then 4 else 0) = 4 := by
      revert hne
      (try unfold cdL); (try unfold cdS); (try unfold cdC)
      (repeat' split) <;> simp
    obtain ⟨hEu, hBX⟩ := hBX
    rw [ht] at hBX
    obtain ⟨hP, hD⟩ := my_join (Wc := [(kr, .inr (5, [.ref la, .ref ia, .ref na, .ref b4, .ref b6, .ref b8, .ref b10, .int (iI (((sh : Nat) : Int))), .int (iI (((it : Nat) : Int))), .int (iI (lc)), .int (iI (((dy : Nat) : Int))), .int (iI (pct)), .int (iI (lr)), .int (iI (sr))])), (la, arI cs 4 lf)]) (W1 := [(kr, .inr (5, [.ref la, .ref ia, .ref na, .ref b4, .ref b6, .ref b8, .ref b10, .int (iI (((sh : Nat) : Int))), .int (iI (((it : Nat) : Int))), .int (iI (lc)), .int (iI (((dy : Nat) : Int))), .int (iI (pct)), .int (iI (lr)), .int (iI (sr))])), (la, arI cs 4 lf)]) hP hD [1, 2] rfl (⟨rfl, rfl, trivial⟩) rfl hk1 hBX
    have hP : va_P D vwCl [(po, .inl (cs 4, 1, .inr (.inl ov))), (kr, .inr (5, [.ref la, .ref ia, .ref na, .ref b4, .ref b6, .ref b8, .ref b10, .int (iI (((sh : Nat) : Int))), .int (iI (((it : Nat) : Int))), .int (iI (lc)), .int (iI (((dy : Nat) : Int))), .int (iI (pct)), .int (iI (lr)), .int (iI (sr))])), (la, arI cs 4 lf)] H1 := hP
    have hD : va_D A [(po, .inl (cs 4, 1, .inr (.inl ov))), (kr, .inr (5, [.ref la, .ref ia, .ref na, .ref b4, .ref b6, .ref b8, .ref b10, .int (iI (((sh : Nat) : Int))), .int (iI (((it : Nat) : Int))), .int (iI (lc)), .int (iI (((dy : Nat) : Int))), .int (iI (pct)), .int (iI (lr)), .int (iI (sr))])), (la, arI cs 4 lf)] := hD
    rcases hcd with hc3 | hcd
    · have hE3 : E = "java/lang/IllegalArgumentException" := by have h8 : E = exN u := hEu; rw [h8, h9, hc3]; rfl
      subst hE3
      refine vx_catch (name := "java/lang/IllegalArgumentException") hown [] ⟨0, 9, 12, 13⟩ [⟨0, 9, 15, 15⟩] (htab.trans rfl) (fun z hz => by cases hz) rfl (by decide) (hts _ w_132) (hE.use _ (List.mem_append_right _ (List.mem_map.mpr ⟨_, List.mem_of_getElem? (i := 2) rfl, rfl⟩))) hce hcv hcl ?_
      refine lv_astore_n (lv' := [(3, .ref q9), (0, .ref kr), (1, .int (iI (zl))), (2, .ref po)]) hx hb dL_addShop_12 rfl hl (by decide) rfl (fun ls hl => ?_)
      refine lv_iconst (v := iI (1)) hx hb dL_addShop_13 rfl ?_
      subst hAe
      refine W.widen (k := 1) (n := 6) (by omega) (by omega) ?_
      have hres : iI (1) = iI (hkI [3, 4] (if zl < 1 ∨ 5 < zl then 3 else if 4 ≤ sh then 4 else 0)) := congrArg iI (by
          rw [hc3]; rfl)
      exact W.iret hx hb hr (fun t ht hW => ⟨⟨_, (), rfl, hres, by show va_P D vwCl _ t.heap; rw [ht]; exact hP⟩, hS.F ht⟩) hS.2.2 dL_addShop_14
    have hc3 := hcd
    have hE3 : E = "java/lang/IllegalStateException" := by have h8 : E = exN u := hEu; rw [h8, h9, hc3]; rfl
    subst hE3
    refine vx_catch (name := "java/lang/IllegalStateException") hown [⟨0, 9, 12, 13⟩] ⟨0, 9, 15, 15⟩ [] (htab.trans rfl) (fun z hz => by
        simp only [List.mem_cons, List.not_mem_nil, or_false] at hz
        rcases hz with rfl
        · exact Or.inr ⟨by decide, "java/lang/IllegalArgumentException", hts _ w_132, hE.2.2.2.2.2 _ (List.mem_of_getElem? (i := 0) rfl)⟩) rfl (by decide) (hts _ w_133) (hE.use _ (List.mem_append_right _ (List.mem_map.mpr ⟨_, List.mem_of_getElem? (i := 3) rfl, rfl⟩))) hce hcv hcl ?_
    refine lv_astore_n (lv' := [(3, .ref q9), (0, .ref kr), (1, .int (iI (zl))), (2, .ref po)]) hx hb dL_addShop_15 rfl hl (by decide) rfl (fun ls hl => ?_)
    refine lv_iconst (v := iI (2)) hx hb dL_addShop_16 rfl ?_
    subst hAe
    refine W.widen (k := 1) (n := 6) (by omega) (by omega) ?_
    have hres : iI (2) = iI (hkI [3, 4] (if zl < 1 ∨ 5 < zl then 3 else if 4 ≤ sh then 4 else 0)) := congrArg iI (by
        rw [hc3]; rfl)
    exact W.iret hx hb hr (fun t ht hW => ⟨⟨_, (), rfl, hres, by show va_P D vwCl _ t.heap; rw [ht]; exact hP⟩, hS.F ht⟩) hS.2.2 dL_addShop_17
  obtain ⟨hc2, hw⟩ := hw
  subst hw
  rw [ht] at hB
  obtain ⟨hP, hD⟩ := my_join (W1 := [(kr, .inr (5, [.ref la, .ref ia, .ref na, .ref b4, .ref b6, .ref b8, .ref b10, .int (iI ((((sh + 1) : Nat) : Int))), .int (iI (((it : Nat) : Int))), .int (iI (lc)), .int (iI (((dy : Nat) : Int))), .int (iI (pct)), .int (iI (lr)), .int (iI (sr))])), (la, arI cs 4 (upI lf sh zl))]) hP hD [1, 2] rfl pk1 rfl hk1 hB
  have hP : va_P D vwCl [(po, .inl (cs 4, 1, .inr (.inl ov))), (kr, .inr (5, [.ref la, .ref ia, .ref na, .ref b4, .ref b6, .ref b8, .ref b10, .int (iI ((((sh + 1) : Nat) : Int))), .int (iI (((it : Nat) : Int))), .int (iI (lc)), .int (iI (((dy : Nat) : Int))), .int (iI (pct)), .int (iI (lr)), .int (iI (sr))])), (la, arI cs 4 (upI lf sh zl))] H := hP
  have hD : va_D A [(po, .inl (cs 4, 1, .inr (.inl ov))), (kr, .inr (5, [.ref la, .ref ia, .ref na, .ref b4, .ref b6, .ref b8, .ref b10, .int (iI ((((sh + 1) : Nat) : Int))), .int (iI (((it : Nat) : Int))), .int (iI (lc)), .int (iI (((dy : Nat) : Int))), .int (iI (pct)), .int (iI (lr)), .int (iI (sr))])), (la, arI cs 4 (upI lf sh zl))] := hD
  exact absurd hc2 hne

abbrev ws_L_setService : List Cond := Cond.codeWith yL_setService cL_setService 4 (some .int) [(0, 9, 12, 13)] :: ALL
set_option maxHeartbeats 4000000 in
set_option maxRecDepth 100000 in
theorem m_L_setService_r (l : Launch) (hst : l.stackTraces = false) (D : va_G) (cs : Nat → ClassId) (kr la ia na b4 b6 b8 b10 sh it : Nat) (lc : Int) (dy : Nat) (pct lr sr : Int) (zl : Int) (po : Nat) (ov : Nat → Int64) (hzl : -2147483648 ≤ zl ∧ zl < 2147483648) (hz : (if zl < 1 ∨ 100 < zl then 3 else 0) = 0) (hrr : -2147483648 ≤ pct ∧ pct < 2147483648) : Met l yL_setService ws_L_setService ({ frames := 7, cells := 1, slots := 6, locals := 104 }) (va_Pc [.ref kr, .int (iI (zl)), .ref po] (PE D cs [(po, .inl (cs 4, 1, .inr (.inl ov))), (kr, .inr (5, [.ref la, .ref ia, .ref na, .ref b4, .ref b6, .ref b8, .ref b10, .int (iI (((sh : Nat) : Int))), .int (iI (((it : Nat) : Int))), .int (iI (lc)), .int (iI (((dy : Nat) : Int))), .int (iI (pct)), .int (iI (lr)), .int (iI (sr))]))] (inW [(po, .inl (cs 4, 1, .inr (.inl ov))), (kr, .inr (5, [.ref la, .ref ia, .ref na, .ref b4, .ref b6, .ref b8, .ref b10, .int (iI (((sh : Nat) : Int))), .int (iI (((it : Nat) : Int))), .int (iI (lc)), .int (iI (((dy : Nat) : Int))), .int (iI (pct)), .int (iI (lr)), .int (iI (sr))]))]))) (va_Qi (fun r (_ : Unit) => r = iI (0)) (fun _ t => va_P D vwCl [(po, .inl (cs 4, 1, .inr (.inl (vp_updL ov 0 (lI (pct)))))), (kr, .inr (5, [.ref la, .ref ia, .ref na, .ref b4, .ref b6, .ref b8, .ref b10, .int (iI (((sh : Nat) : Int))), .int (iI (((it : Nat) : Int))), .int (iI (lc)), .int (iI (((dy : Nat) : Int))), .int (iI (zl)), .int (iI (lr)), .int (iI (sr))]))] t.heap) (inW [(po, .inl (cs 4, 1, .inr (.inl ov))), (kr, .inr (5, [.ref la, .ref ia, .ref na, .ref b4, .ref b6, .ref b8, .ref b10, .int (iI (((sh : Nat) : Int))), .int (iI (((it : Nat) : Int))), .int (iI (lc)), .int (iI (((dy : Nat) : Int))), .int (iI (pct)), .int (iI (lr)), .int (iI (sr))]))])) 1 6 (inW [(po, .inl (cs 4, 1, .inr (.inl ov))), (kr, .inr (5, [.ref la, .ref ia, .ref na, .ref b4, .ref b6, .ref b8, .ref b10, .int (iI (((sh : Nat) : Int))), .int (iI (((it : Nat) : Int))), .int (iI (lc)), .int (iI (((dy : Nat) : Int))), .int (iI (pct)), .int (iI (lr)), .int (iI (sr))]))]) := by
  refine va_MetW (cc := cL_setService) (maxL := 4) (ret := some .int) (hh := [(0, 9, 12, 13)]) (by decide +kernel) rfl ?_
  intro p e s m args below meth c s₁ B hml hv
  obtain ⟨rfl, ⟨hP, hK, hD, hN⟩, hE⟩ := hv
  have hx := B.exec
  have hb := B.bytes
  have hr := B.returns
  have hts : ∀ w ∈ ALL, w.before _ s = true := fun w h => atoms_spec (ws := ws_L_setService) B.pre w (List.mem_cons_of_mem _ h)
  have hown : s.vm.findClass RL = some m.cls := findClass_of_methodNamed B.named
  have hlocks := B.notSynchronized
  have htab : c.exceptionTable.toList = tableOf [(0, 9, 12, 13)] := vx_table (x := yL_setService) B (atoms_spec (ws := ws_L_setService) B.pre _ List.mem_cons_self)
  generalize hAe : inW [(po, .inl (cs 4, 1, .inr (.inl ov))), (kr, .inr (5, [.ref la, .ref ia, .ref na, .ref b4, .ref b6, .ref b8, .ref b10, .int (iI (((sh : Nat) : Int))), .int (iI (((it : Nat) : Int))), .int (iI (lc)), .int (iI (((dy : Nat) : Int))), .int (iI (pct)), .int (iI (lr)), .int (iI (sr))]))] = A at hD hE ⊢
  have hS : va_S A s.heap s.heap [] := va_S.rf
  have hl := lv_entry ([.ref kr, .int (iI (zl)), .ref po]) (n := 4) (Nat.le_of_ble_eq_true rfl)
  rw [lg_entry_eq]
  generalize (lg_sl ([.ref kr, .int (iI (zl)), .ref po]) ++ List.replicate (4 - (lg_sl ([.ref kr, .int (iI (zl)), .ref po])).length) Slot.unset).toArray = ls at hl ⊢
  have hl : lv_has ls 4 [(0, .ref kr), (1, .int (iI (zl))), (2, .ref po)] := hl
  have hH := rfl (a := s.heap)
  refine lv_aload_n hx hb dL_setService_0 rfl (lv_at hl 2 rfl) ?_
  refine lv_iconst (v := iI (0)) hx hb dL_setService_1 rfl ?_
  refine lv_aload_n hx hb dL_setService_2 rfl (lv_at hl 0 rfl) ?_
  refine lv_iload_n hx hb dL_setService_3 rfl (lv_at hl 1 rfl) ?_
  have pk1 : picks [(po, .inl (cs 4, 1, .inr (.inl ov))), (kr, .inr (5, [.ref la, .ref ia, .ref na, .ref b4, .ref b6, .ref b8, .ref b10, .int (iI (((sh : Nat) : Int))), .int (iI (((it : Nat) : Int))), .int (iI (lc)), .int (iI (((dy : Nat) : Int))), .int (iI (pct)), .int (iI (lr)), .int (iI (sr))]))] [1] [(kr, .inr (5, [.ref la, .ref ia, .ref na, .ref b4, .ref b6, .ref b8, .ref b10, .int (iI (((sh : Nat) : Int))), .int (iI (((it : Nat) : Int))), .int (iI (lc)), .int (iI (((dy : Nat) : Int))), .int (iI (pct)), .int (iI (lr)), .int (iI (sr))]))] := ⟨rfl, trivial⟩
  refine vx_calli (vx_runV (As := [.int (iI (zl))]) (rest := [.int (iI (0)), .ref po]) ⟨hx, hb, hml, hown, hts⟩ (m_X5_setService l hst D cs kr la ia na b4 b6 b8 b10 sh it lc dy pct lr sr zl (hzl)) (cwV 1 hts (gV w_416 w_417 w_418 w_1 w_419) rfl rfl rfl (by decide +kernel) ⟨Nat.le_of_ble_eq_true rfl, Nat.le_of_ble_eq_true rfl⟩) (PE_V hK hN hE hS (fun q h => inW_sub hD [1] pk1 q h) hP hD [1] rfl pk1 rfl rfl) rfl rfl hl.1 rfl (lv_room (Nat.le_of_ble_eq_true rfl)) dL_setService_4 ⟨Nat.le_of_ble_eq_true rfl, Nat.le_of_ble_eq_true rfl⟩) hS (fun q _ h => inW_sub hD [1] pk1 q h) (fun q h => inW_sub hD [1] pk1 q h) (fun q _ h => inW_sub hD [1] pk1 q h) (fun E ce q9 u t H1 locs1 ht hvm hpx hBX hz1 hk1 hS1 hce hcv hcl => ?_) (fun r u t H locs ht hvm hw hB hz1 hk1 hS => ?_)
  · exact absurd (hpx.1.trans hz) hpx.2
  obtain ⟨hc2, hw⟩ := hw
  subst hw
  rw [ht] at hB
  obtain ⟨hP, hD⟩ := my_join (W1 := [(kr, .inr (5, [.ref la, .ref ia, .ref na, .ref b4, .ref b6, .ref b8, .ref b10, .int (iI (((sh : Nat) : Int))), .int (iI (((it : Nat) : Int))), .int (iI (lc)), .int (iI (((dy : Nat) : Int))), .int (iI (zl)), .int (iI (lr)), .int (iI (sr))]))]) hP hD [1] rfl pk1 rfl hk1 hB
  have hP : va_P D vwCl [(po, .inl (cs 4, 1, .inr (.inl ov))), (kr, .inr (5, [.ref la, .ref ia, .ref na, .ref b4, .ref b6, .ref b8, .ref b10, .int (iI (((sh : Nat) : Int))), .int (iI (((it : Nat) : Int))), .int (iI (lc)), .int (iI (((dy : Nat) : Int))), .int (iI (zl)), .int (iI (lr)), .int (iI (sr))]))] H := hP
  have hD : va_D A [(po, .inl (cs 4, 1, .inr (.inl ov))), (kr, .inr (5, [.ref la, .ref ia, .ref na, .ref b4, .ref b6, .ref b8, .ref b10, .int (iI (((sh : Nat) : Int))), .int (iI (((it : Nat) : Int))), .int (iI (lc)), .int (iI (((dy : Nat) : Int))), .int (iI (zl)), .int (iI (lr)), .int (iI (sr))]))] := hD
  refine my_i2l hx hb dL_setService_7 (by omega) ?_
  refine my_last0 hx hb hK hP hD hS 0 rfl dL_setService_8 (fun H locs hP hD hS => ?_)
  have hP : va_P D vwCl [(po, .inl (cs 4, 1, .inr (.inl (vp_updL ov 0 (lI (pct)))))), (kr, .inr (5, [.ref la, .ref ia, .ref na, .ref b4, .ref b6, .ref b8, .ref b10, .int (iI (((sh : Nat) : Int))), .int (iI (((it : Nat) : Int))), .int (iI (lc)), .int (iI (((dy : Nat) : Int))), .int (iI (zl)), .int (iI (lr)), .int (iI (sr))]))] H := hP
  have hD : va_D A [(po, .inl (cs 4, 1, .inr (.inl (vp_updL ov 0 (lI (pct)))))), (kr, .inr (5, [.ref la, .ref ia, .ref na, .ref b4, .ref b6, .ref b8, .ref b10, .int (iI (((sh : Nat) : Int))), .int (iI (((it : Nat) : Int))), .int (iI (lc)), .int (iI (((dy : Nat) : Int))), .int (iI (zl)), .int (iI (lr)), .int (iI (sr))]))] := hD
  refine lv_goto (tgt := 15) hx hb dL_setService_9 (by decide) ?_
  refine lv_iconst (v := iI (0)) hx hb dL_setService_15 rfl ?_
  subst hAe
  refine W.widen (k := 1) (n := 6) (by omega) (by omega) ?_
  have hres : iI (0) = iI (0) := congrArg iI (by
      rfl)
  exact W.iret hx hb hr (fun t ht hW => ⟨⟨_, (), rfl, hres, by show va_P D vwCl _ t.heap; rw [ht]; exact hP⟩, hS.F ht⟩) hS.2.2 dL_setService_16

set_option maxHeartbeats 4000000 in
set_option maxRecDepth 100000 in
theorem m_L_setService_t (l : Launch) (hst : l.stackTraces = false) (D : va_G) (cs : Nat → ClassId) (kr la ia na b4 b6 b8 b10 sh it : Nat) (lc : Int) (dy : Nat) (pct lr sr : Int) (zl : Int) (po : Nat) (ov : Nat → Int64) (hzl : -2147483648 ≤ zl ∧ zl < 2147483648) (hne : (if zl < 1 ∨ 100 < zl then 3 else 0) ≠ 0) : Met l yL_setService ws_L_setService ({ frames := 7, cells := 1, slots := 6, locals := 104 }) (va_Pc [.ref kr, .int (iI (zl)), .ref po] (PE D cs [(po, .inl (cs 4, 1, .inr (.inl ov))), (kr, .inr (5, [.ref la, .ref ia, .ref na, .ref b4, .ref b6, .ref b8, .ref b10, .int (iI (((sh : Nat) : Int))), .int (iI (((it : Nat) : Int))), .int (iI (lc)), .int (iI (((dy : Nat) : Int))), .int (iI (pct)), .int (iI (lr)), .int (iI (sr))]))] (inW [(po, .inl (cs 4, 1, .inr (.inl ov))), (kr, .inr (5, [.ref la, .ref ia, .ref na, .ref b4, .ref b6, .ref b8, .ref b10, .int (iI (((sh : Nat) : Int))), .int (iI (((it : Nat) : Int))), .int (iI (lc)), .int (iI (((dy : Nat) : Int))), .int (iI (pct)), .int (iI (lr)), .int (iI (sr))]))]))) (va_Qi (fun r (_ : Unit) => r = iI (hkI [3] (if zl < 1 ∨ 100 < zl then 3 else 0))) (fun _ t => va_P D vwCl [(po, .inl (cs 4, 1, .inr (.inl ov))), (kr, .inr (5, [.ref la, .ref ia, .ref na, .ref b4, .ref b6, .ref b8, .ref b10, .int (iI (((sh : Nat) : Int))), .int (iI (((it : Nat) : Int))), .int (iI (lc)), .int (iI (((dy : Nat) : Int))), .int (iI (pct)), .int (iI (lr)), .int (iI (sr))]))] t.heap) (inW [(po, .inl (cs 4, 1, .inr (.inl ov))), (kr, .inr (5, [.ref la, .ref ia, .ref na, .ref b4, .ref b6, .ref b8, .ref b10, .int (iI (((sh : Nat) : Int))), .int (iI (((it : Nat) : Int))), .int (iI (lc)), .int (iI (((dy : Nat) : Int))), .int (iI (pct)), .int (iI (lr)), .int (iI (sr))]))])) 1 6 (inW [(po, .inl (cs 4, 1, .inr (.inl ov))), (kr, .inr (5, [.ref la, .ref ia, .ref na, .ref b4, .ref b6, .ref b8, .ref b10, .int (iI (((sh : Nat) : Int))), .int (iI (((it : Nat) : Int))), .int (iI (lc)), .int (iI (((dy : Nat) : Int))), .int (iI (pct)), .int (iI (lr)), .int (iI (sr))]))]) := by
  refine va_MetW (cc := cL_setService) (maxL := 4) (ret := some .int) (hh := [(0, 9, 12, 13)]) (by decide +kernel) rfl ?_
  intro p e s m args below meth c s₁ B hml hv
  obtain ⟨rfl, ⟨hP, hK, hD, hN⟩, hE⟩ := hv
  have hx := B.exec
  have hb := B.bytes
  have hr := B.returns
  have hts : ∀ w ∈ ALL, w.before _ s = true := fun w h => atoms_spec (ws := ws_L_setService) B.pre w (List.mem_cons_of_mem _ h)
  have hown : s.vm.findClass RL = some m.cls := findClass_of_methodNamed B.named
  have hlocks := B.notSynchronized
  have htab : c.exceptionTable.toList = tableOf [(0, 9, 12, 13)] := vx_table (x := yL_setService) B (atoms_spec (ws := ws_L_setService) B.pre _ List.mem_cons_self)
  generalize hAe : inW [(po, .inl (cs 4, 1, .inr (.inl ov))), (kr, .inr (5, [.ref la, .ref ia, .ref na, .ref b4, .ref b6, .ref b8, .ref b10, .int (iI (((sh : Nat) : Int))), .int (iI (((it : Nat) : Int))), .int (iI (lc)), .int (iI (((dy : Nat) : Int))), .int (iI (pct)), .int (iI (lr)), .int (iI (sr))]))] = A at hD hE ⊢
  have hS : va_S A s.heap s.heap [] := va_S.rf
  have hl := lv_entry ([.ref kr, .int (iI (zl)), .ref po]) (n := 4) (Nat.le_of_ble_eq_true rfl)
  rw [lg_entry_eq]
  generalize (lg_sl ([.ref kr, .int (iI (zl)), .ref po]) ++ List.replicate (4 - (lg_sl ([.ref kr, .int (iI (zl)), .ref po])).length) Slot.unset).toArray = ls at hl ⊢
  have hl : lv_has ls 4 [(0, .ref kr), (1, .int (iI (zl))), (2, .ref po)] := hl
  have hH := rfl (a := s.heap)
  refine lv_aload_n hx hb dL_setService_0 rfl (lv_at hl 2 rfl) ?_
  refine lv_iconst (v := iI (0)) hx hb dL_setService_1 rfl ?_
  refine lv_aload_n hx hb dL_setService_2 rfl (lv_at hl 0 rfl) ?_
  refine lv_iload_n hx hb dL_setService_3 rfl (lv_at hl 1 rfl) ?_
  have pk1 : picks [(po, .inl (cs 4, 1, .inr (.inl ov))), (kr, .inr (5, [.ref la, .ref ia, .ref na, .ref b4, .ref b6, .ref b8, .ref b10, .int (iI (((sh : Nat) : Int))), .int (iI (((it : Nat) : Int))), .int (iI (lc)), .int (iI (((dy : Nat) : Int))), .int (iI (pct)), .int (iI (lr)), .int (iI (sr))]))] [1] [(kr, .inr (5, [.ref la, .ref ia, .ref na, .ref b4, .ref b6, .ref b8, .ref b10, .int (iI (((sh : Nat) : Int))), .int (iI (((it : Nat) : Int))), .int (iI (lc)), .int (iI (((dy : Nat) : Int))), .int (iI (pct)), .int (iI (lr)), .int (iI (sr))]))] := ⟨rfl, trivial⟩
  refine vx_calli (vx_runV (As := [.int (iI (zl))]) (rest := [.int (iI (0)), .ref po]) ⟨hx, hb, hml, hown, hts⟩ (m_X5_setService l hst D cs kr la ia na b4 b6 b8 b10 sh it lc dy pct lr sr zl (hzl)) (cwV 1 hts (gV w_416 w_417 w_418 w_1 w_419) rfl rfl rfl (by decide +kernel) ⟨Nat.le_of_ble_eq_true rfl, Nat.le_of_ble_eq_true rfl⟩) (PE_V hK hN hE hS (fun q h => inW_sub hD [1] pk1 q h) hP hD [1] rfl pk1 rfl rfl) rfl rfl hl.1 rfl (lv_room (Nat.le_of_ble_eq_true rfl)) dL_setService_4 ⟨Nat.le_of_ble_eq_true rfl, Nat.le_of_ble_eq_true rfl⟩) hS (fun q _ h => inW_sub hD [1] pk1 q h) (fun q h => inW_sub hD [1] pk1 q h) (fun q _ h => inW_sub hD [1] pk1 q h) (fun E ce q9 u t H1 locs1 ht hvm hpx hBX hz1 hk1 hS1 hce hcv hcl => ?_) (fun r u t H locs ht hvm hw hB hz1 hk1 hS => ?_)
  · have h9 : u = (if zl < 1 ∨ 100 < zl then 3 else 0) := hpx.1
    have hS := hS1
    have hcd : (if zl < 1 ∨ 100 < zl then 3 else 0) = 3 := by
      revert hne
      (try unfold cdL); (try unfold cdS); (try unfold cdC)
      (repeat' split) <;> simp
    obtain ⟨hEu, hBX⟩ := hBX
    rw [ht] at hBX
    obtain ⟨hP, hD⟩ := my_join (Wc := [(kr, .inr (5, [.ref la, .ref ia, .ref na, .ref b4, .ref b6, .ref b8, .ref b10, .int (iI (((sh : Nat) : Int))), .int (iI (((it : Nat) : Int))), .int (iI (lc)), .int (iI (((dy : Nat) : Int))), .int (iI (pct)), .int (iI (lr)), .int (iI (sr))]))]) (W1 := [(kr, .inr (5, [.ref la, .ref ia, .ref na, .ref b4, .ref b6, .ref b8, .ref b10, .int (iI (((sh : Nat) : Int))), .int (iI (((it : Nat) : Int))), .int (iI (lc)), .int (iI (((dy : Nat) : Int))), .int (iI (pct)), .int (iI (lr)), .int (iI (sr))]))]) hP hD [1] rfl (⟨rfl, trivial⟩) rfl hk1 hBX
    have hP : va_P D vwCl [(po, .inl (cs 4, 1, .inr (.inl ov))), (kr, .inr (5, [.ref la, .ref ia, .ref na, .ref b4, .ref b6, .ref b8, .ref b10, .int (iI (((sh : Nat) : Int))), .int (iI (((it : Nat) : Int))), .int (iI (lc)), .int (iI (((dy : Nat) : Int))), .int (iI (pct)), .int (iI (lr)), .int (iI (sr))]))] H1 := hP
    have hD : va_D A [(po, .inl (cs 4, 1, .inr (.inl ov))), (kr, .inr (5, [.ref la, .ref ia, .ref na, .ref b4, .ref b6, .ref b8, .ref b10, .int (iI (((sh : Nat) : Int))), .int (iI (((it : Nat) : Int))), .int (iI (lc)), .int (iI (((dy : Nat) : Int))), .int (iI (pct)), .int (iI (lr)), .int (iI (sr))]))] := hD
    have hc3 := hcd
    have hE3 : E = "java/lang/IllegalArgumentException" := by have h8 : E = exN u := hEu; rw [h8, h9, hc3]; rfl
    subst hE3
    refine vx_catch (name := "java/lang/IllegalArgumentException") hown [] ⟨0, 9, 12, 13⟩ [] (htab.trans rfl) (fun z hz => by cases hz) rfl (by decide) (hts _ w_132) (hE.use _ (List.mem_append_right _ (List.mem_map.mpr ⟨_, List.mem_of_getElem? (i := 2) rfl, rfl⟩))) hce hcv hcl ?_
    refine lv_astore_n (lv' := [(3, .ref q9), (0, .ref kr), (1, .int (iI (zl))), (2, .ref po)]) hx hb dL_setService_12 rfl hl (by decide) rfl (fun ls hl => ?_)
    refine lv_iconst (v := iI (1)) hx hb dL_setService_13 rfl ?_
    subst hAe
    refine W.widen (k := 1) (n := 6) (by omega) (by omega) ?_
    have hres : iI (1) = iI (hkI [3] (if zl < 1 ∨ 100 < zl then 3 else 0)) := congrArg iI (by
        rw [hc3]; rfl)
    exact W.iret hx hb hr (fun t ht hW => ⟨⟨_, (), rfl, hres, by show va_P D vwCl _ t.heap; rw [ht]; exact hP⟩, hS.F ht⟩) hS.2.2 dL_setService_14
  obtain ⟨hc2, hw⟩ := hw
  subst hw
  rw [ht] at hB
  obtain ⟨hP, hD⟩ := my_join (W1 := [(kr, .inr (5, [.ref la, .ref ia, .ref na, .ref b4, .ref b6, .ref b8, .ref b10, .int (iI (((sh : Nat) : Int))), .int (iI (((it : Nat) : Int))), .int (iI (lc)), .int (iI (((dy : Nat) : Int))), .int (iI (zl)), .int (iI (lr)), .int (iI (sr))]))]) hP hD [1] rfl pk1 rfl hk1 hB
  have hP : va_P D vwCl [(po, .inl (cs 4, 1, .inr (.inl ov))), (kr, .inr (5, [.ref la, .ref ia, .ref na, .ref b4, .ref b6, .ref b8, .ref b10, .int (iI (((sh : Nat) : Int))), .int (iI (((it : Nat) : Int))), .int (iI (lc)), .int (iI (((dy : Nat) : Int))), .int (iI (zl)), .int (iI (lr)), .int (iI (sr))]))] H := hP
  have hD : va_D A [(po, .inl (cs 4, 1, .inr (.inl ov))), (kr, .inr (5, [.ref la, .ref ia, .ref na, .ref b4, .ref b6, .ref b8, .ref b10, .int (iI (((sh : Nat) : Int))), .int (iI (((it : Nat) : Int))), .int (iI (lc)), .int (iI (((dy : Nat) : Int))), .int (iI (zl)), .int (iI (lr)), .int (iI (sr))]))] := hD
  exact absurd hc2 hne

abbrev ws_L_setRates : List Cond := Cond.codeWith yL_setRates cL_setRates 5 (some .int) [(0, 10, 13, 13)] :: ALL
set_option maxHeartbeats 4000000 in
set_option maxRecDepth 100000 in
theorem m_L_setRates_r (l : Launch) (hst : l.stackTraces = false) (D : va_G) (cs : Nat → ClassId) (kr la ia na b4 b6 b8 b10 sh it : Nat) (lc : Int) (dy : Nat) (pct lr sr : Int) (zl zm : Int) (po : Nat) (ov : Nat → Int64) (hzl : -2147483648 ≤ zl ∧ zl < 2147483648) (hzm : -2147483648 ≤ zm ∧ zm < 2147483648) (hz : (if (zl < 0 ∨ 100 < zl) ∨ (zm < 0 ∨ 100 < zm) then 3 else 0) = 0) (hrr : -2147483648 ≤ lr ∧ lr < 2147483648) : Met l yL_setRates ws_L_setRates ({ frames := 7, cells := 1, slots := 6, locals := 105 }) (va_Pc [.ref kr, .int (iI (zl)), .int (iI (zm)), .ref po] (PE D cs [(po, .inl (cs 4, 1, .inr (.inl ov))), (kr, .inr (5, [.ref la, .ref ia, .ref na, .ref b4, .ref b6, .ref b8, .ref b10, .int (iI (((sh : Nat) : Int))), .int (iI (((it : Nat) : Int))), .int (iI (lc)), .int (iI (((dy : Nat) : Int))), .int (iI (pct)), .int (iI (lr)), .int (iI (sr))]))] (inW [(po, .inl (cs 4, 1, .inr (.inl ov))), (kr, .inr (5, [.ref la, .ref ia, .ref na, .ref b4, .ref b6, .ref b8, .ref b10, .int (iI (((sh : Nat) : Int))), .int (iI (((it : Nat) : Int))), .int (iI (lc)), .int (iI (((dy : Nat) : Int))), .int (iI (pct)), .int (iI (lr)), .int (iI (sr))]))]))) (va_Qi (fun r (_ : Unit) => r = iI (0)) (fun _ t => va_P D vwCl [(po, .inl (cs 4, 1, .inr (.inl (vp_updL ov 0 (lI (lr)))))), (kr, .inr (5, [.ref la, .ref ia, .ref na, .ref b4, .ref b6, .ref b8, .ref b10, .int (iI (((sh : Nat) : Int))), .int (iI (((it : Nat) : Int))), .int (iI (lc)), .int (iI (((dy : Nat) : Int))), .int (iI (pct)), .int (iI (zl)), .int (iI (zm))]))] t.heap) (inW [(po, .inl (cs 4, 1, .inr (.inl ov))), (kr, .inr (5, [.ref la, .ref ia, .ref na, .ref b4, .ref b6, .ref b8, .ref b10, .int (iI (((sh : Nat) : Int))), .int (iI (((it : Nat) : Int))), .int (iI (lc)), .int (iI (((dy : Nat) : Int))), .int (iI (pct)), .int (iI (lr)), .int (iI (sr))]))])) 1 6 (inW [(po, .inl (cs 4, 1, .inr (.inl ov))), (kr, .inr (5, [.ref la, .ref ia, .ref na, .ref b4, .ref b6, .ref b8, .ref b10, .int (iI (((sh : Nat) : Int))), .int (iI (((it : Nat) : Int))), .int (iI (lc)), .int (iI (((dy : Nat) : Int))), .int (iI (pct)), .int (iI (lr)), .int (iI (sr))]))]) := by
  refine va_MetW (cc := cL_setRates) (maxL := 5) (ret := some .int) (hh := [(0, 10, 13, 13)]) (by decide +kernel) rfl ?_
  intro p e s m args below meth c s₁ B hml hv
  obtain ⟨rfl, ⟨hP, hK, hD, hN⟩, hE⟩ := hv
  have hx := B.exec
  have hb := B.bytes
  have hr := B.returns
  have hts : ∀ w ∈ ALL, w.before _ s = true := fun w h => atoms_spec (ws := ws_L_setRates) B.pre w (List.mem_cons_of_mem _ h)
  have hown : s.vm.findClass RL = some m.cls := findClass_of_methodNamed B.named
  have hlocks := B.notSynchronized
  have htab : c.exceptionTable.toList = tableOf [(0, 10, 13, 13)] := vx_table (x := yL_setRates) B (atoms_spec (ws := ws_L_setRates) B.pre _ List.mem_cons_self)
  generalize hAe : inW [(po, .inl (cs 4, 1, .inr (.inl ov))), (kr, .inr (5, [.ref la, .ref ia, .ref na, .ref b4, .ref b6, .ref b8, .ref b10, .int (iI (((sh : Nat) : Int))), .int (iI (((it : Nat) : Int))), .int (iI (lc)), .int (iI (((dy : Nat) : Int))), .int (iI (pct)), .int (iI (lr)), .int (iI (sr))]))] = A at hD hE ⊢
  have hS : va_S A s.heap s.heap [] := va_S.rf
  have hl := lv_entry ([.ref kr, .int (iI (zl)), .int (iI (zm)), .ref po]) (n := 5) (Nat.le_of_ble_eq_true rfl)
  rw [lg_entry_eq]
  generalize (lg_sl ([.ref kr, .int (iI (zl)), .int (iI (zm)), .ref po]) ++ List.replicate (5 - (lg_sl ([.ref kr, .int (iI (zl)), .int (iI (zm)), .ref po])).length) Slot.unset).toArray = ls at hl ⊢
  have hl : lv_has ls 5 [(0, .ref kr), (1, .int (iI (zl))), (2, .int (iI (zm))), (3, .ref po)] := hl
  have hH := rfl (a := s.heap)
  refine lv_aload_n hx hb dL_setRates_0 rfl (lv_at hl 3 rfl) ?_
  refine lv_iconst (v := iI (0)) hx hb dL_setRates_1 rfl ?_
  refine lv_aload_n hx hb dL_setRates_2 rfl (lv_at hl 0 rfl) ?_
  refine lv_iload_n hx hb dL_setRates_3 rfl (lv_at hl 1 rfl) ?_
  refine lv_iload_n hx hb dL_setRates_4 rfl (lv_at hl 2 rfl) ?_
  have pk1 : picks [(po, .inl (cs 4, 1, .inr (.inl ov))), (kr, .inr (5, [.ref la, .ref ia, .ref na, .ref b4, .ref b6, .ref b8, .ref b10, .int (iI (((sh : Nat) : Int))), .int (iI (((it : Nat) : Int))), .int (iI (lc)), .int (iI (((dy : Nat) : Int))), .int (iI (pct)), .int (iI (lr)), .int (iI (sr))]))] [1] [(kr, .inr (5, [.ref la, .ref ia, .ref na, .ref b4, .ref b6, .ref b8, .ref b10, .int (iI (((sh : Nat) : Int))), .int (iI (((it : Nat) : Int))), .int (iI (lc)), .int (iI (((dy : Nat) : Int))), .int (iI (pct)), .int (iI (lr)), .int (iI (sr))]))] := ⟨rfl, trivial⟩
  refine vx_calli (vx_runV (As := [.int (iI (zl)), .int (iI (zm))]) (rest := [.int (iI (0)), .ref po]) ⟨hx, hb, hml, hown, hts⟩ (m_X5_setRates l hst D cs kr la ia na b4 b6 b8 b10 sh it lc dy pct lr sr zl zm (hzl) (hzm)) (cwV 2 hts (gV w_424 w_425 w_426 w_1 w_427) rfl rfl rfl (by decide +kernel) ⟨Nat.le_of_ble_eq_true rfl, Nat.le_of_ble_eq_true rfl⟩) (PE_V hK hN hE hS (fun q h => inW_sub hD [1] pk1 q h) hP hD [1] rfl pk1 rfl rfl) rfl rfl hl.1 rfl (lv_room (Nat.le_of_ble_eq_true rfl)) dL_setRates_5 ⟨Nat.le_of_ble_eq_true rfl, Nat.le_of_ble_eq_true rfl⟩) hS (fun q _ h => inW_sub hD [1] pk1 q h) (fun q h => inW_sub hD [1] pk1 q h) (fun q _ h => inW_sub hD [1] pk1 q h) (fun E ce q9 u t H1 locs1 ht hvm hpx hBX hz1 hk1 hS1 hce hcv hcl => ?_) (fun r u t H locs ht hvm hw hB hz1 hk1 hS => ?_)
  · exact absurd (hpx.1.trans hz) hpx.2
  obtain ⟨hc2, hw⟩ := hw
  subst hw
  rw [ht] at hB
  obtain ⟨hP, hD⟩ := my_join (W1 := [(kr, .inr (5, [.ref la, .ref ia, .ref na, .ref b4, .ref b6, .ref b8, .ref b10, .int (iI (((sh : Nat) : Int))), .int (iI (((it : Nat) : Int))), .int (iI (lc)), .int (iI (((dy : Nat) : Int))), .int (iI (pct)), .int (iI (zl)), .int (iI (zm))]))]) hP hD [1] rfl pk1 rfl hk1 hB
  have hP : va_P D vwCl [(po, .inl (cs 4, 1, .inr (.inl ov))), (kr, .inr (5, [.ref la, .ref ia, .ref na, .ref b4, .ref b6, .ref b8, .ref b10, .int (iI (((sh : Nat) : Int))), .int (iI (((it : Nat) : Int))), .int (iI (lc)), .int (iI (((dy : Nat) : Int))), .int (iI (pct)), .int (iI (zl)), .int (iI (zm))]))] H := hP
  have hD : va_D A [(po, .inl (cs 4, 1, .inr (.inl ov))), (kr, .inr (5, [.ref la, .ref ia, .ref na, .ref b4, .ref b6, .ref b8, .ref b10, .int (iI (((sh : Nat) : Int))), .int (iI (((it : Nat) : Int))), .int (iI (lc)), .int (iI (((dy : Nat) : Int))), .int (iI (pct)), .int (iI (zl)), .int (iI (zm))]))] := hD
  refine my_i2l hx hb dL_setRates_8 (by omega) ?_
  refine my_last0 hx hb hK hP hD hS 0 rfl dL_setRates_9 (fun H locs hP hD hS => ?_)
  have hP : va_P D vwCl [(po, .inl (cs 4, 1, .inr (.inl (vp_updL ov 0 (lI (lr)))))), (kr, .inr (5, [.ref la, .ref ia, .ref na, .ref b4, .ref b6, .ref b8, .ref b10, .int (iI (((sh : Nat) : Int))), .int (iI (((it : Nat) : Int))), .int (iI (lc)), .int (iI (((dy : Nat) : Int))), .int (iI (pct)), .int (iI (zl)), .int (iI (zm))]))] H := hP
  have hD : va_D A [(po, .inl (cs 4, 1, .inr (.inl (vp_updL ov 0 (lI (lr)))))), (kr, .inr (5, [.ref la, .ref ia, .ref na, .ref b4, .ref b6, .ref b8, .ref b10, .int (iI (((sh : Nat) : Int))), .int (iI (((it : Nat) : Int))), .int (iI (lc)), .int (iI (((dy : Nat) : Int))), .int (iI (pct)), .int (iI (zl)), .int (iI (zm))]))] := hD
  refine lv_goto (tgt := 17) hx hb dL_setRates_10 (by decide) ?_
  refine lv_iconst (v := iI (0)) hx hb dL_setRates_17 rfl ?_
  subst hAe
  refine W.widen (k := 1) (n := 6) (by omega) (by omega) ?_
  have hres : iI (0) = iI (0) := congrArg iI (by
      rfl)
  exact W.iret hx hb hr (fun t ht hW => ⟨⟨_, (), rfl, hres, by show va_P D vwCl _ t.heap; rw [ht]; exact hP⟩, hS.F ht⟩) hS.2.2 dL_setRates_18

set_option maxHeartbeats 4000000 in
set_option maxRecDepth 100000 in
theorem m_L_setRates_t (l : Launch) (hst : l.stackTraces = false) (D : va_G) (cs : Nat → ClassId) (kr la ia na b4 b6 b8 b10 sh it : Nat) (lc : Int) (dy : Nat) (pct lr sr : Int) (zl zm : Int) (po : Nat) (ov : Nat → Int64) (hzl : -2147483648 ≤ zl ∧ zl < 2147483648) (hzm : -2147483648 ≤ zm ∧ zm < 2147483648) (hne : (if (zl < 0 ∨ 100 < zl) ∨ (zm < 0 ∨ 100 < zm) then 3 else 0) ≠ 0) : Met l yL_setRates ws_L_setRates ({ frames := 7, cells := 1, slots := 6, locals := 105 }) (va_Pc [.ref kr, .int (iI (zl)), .int (iI (zm)), .ref po] (PE D cs [(po, .inl (cs 4, 1, .inr (.inl ov))), (kr, .inr (5, [.ref la, .ref ia, .ref na, .ref b4, .ref b6, .ref b8, .ref b10, .int (iI (((sh : Nat) : Int))), .int (iI (((it : Nat) : Int))), .int (iI (lc)), .int (iI (((dy : Nat) : Int))), .int (iI (pct)), .int (iI (lr)), .int (iI (sr))]))] (inW [(po, .inl (cs 4, 1, .inr (.inl ov))), (kr, .inr (5, [.ref la, .ref ia, .ref na, .ref b4, .ref b6, .ref b8, .ref b10, .int (iI (((sh : Nat) : Int))), .int (iI (((it : Nat) : Int))), .int (iI (lc)), .int (iI (((dy : Nat) : Int))), .int (iI (pct)), .int (iI (lr)), .int (iI (sr))]))]))) (va_Qi (fun r (_ : Unit) => r = iI (hkI [3] (if (zl < 0 ∨ 100 < zl) ∨ (zm < 0 ∨ 100 < zm) then 3 else 0))) (fun _ t => va_P D vwCl [(po, .inl (cs 4, 1, .inr (.inl ov))), (kr, .inr (5, [.ref la, .ref ia, .ref na, .ref b4, .ref b6, .ref b8, .ref b10, .int (iI (((sh : Nat) : Int))), .int (iI (((it : Nat) : Int))), .int (iI (lc)), .int (iI (((dy : Nat) : Int))), .int (iI (pct)), .int (iI (lr)), .int (iI (sr))]))] t.heap) (inW [(po, .inl (cs 4, 1, .inr (.inl ov))), (kr, .inr (5, [.ref la, .ref ia, .ref na, .ref b4, .ref b6, .ref b8, .ref b10, .int (iI (((sh : Nat) : Int))), .int (iI (((it : Nat) : Int))), .int (iI (lc)), .int (iI (((dy : Nat) : Int))), .int (iI (pct)), .int (iI (lr)), .int (iI (sr))]))])) 1 6 (inW [(po, .inl (cs 4, 1, .inr (.inl ov))), (kr, .inr (5, [.ref la, .ref ia, .ref na, .ref b4, .ref b6, .ref b8, .ref b10, .int (iI (((sh : Nat) : Int))), .int (iI (((it : Nat) : Int))), .int (iI (lc)), .int (iI (((dy : Nat) : Int))), .int (iI (pct)), .int (iI (lr)), .int (iI (sr))]))]) := by
  refine va_MetW (cc := cL_setRates) (maxL := 5) (ret := some .int) (hh := [(0, 10, 13, 13)]) (by decide +kernel) rfl ?_
  intro p e s m args below meth c s₁ B hml hv
  obtain ⟨rfl, ⟨hP, hK, hD, hN⟩, hE⟩ := hv
  have hx := B.exec
  have hb := B.bytes
  have hr := B.returns
  have hts : ∀ w ∈ ALL, w.before _ s = true := fun w h => atoms_spec (ws := ws_L_setRates) B.pre w (List.mem_cons_of_mem _ h)
  have hown : s.vm.findClass RL = some m.cls := findClass_of_methodNamed B.named
  have hlocks := B.notSynchronized
  have htab : c.exceptionTable.toList = tableOf [(0, 10, 13, 13)] := vx_table (x := yL_setRates) B (atoms_spec (ws := ws_L_setRates) B.pre _ List.mem_cons_self)
  generalize hAe : inW [(po, .inl (cs 4, 1, .inr (.inl ov))), (kr, .inr (5, [.ref la, .ref ia, .ref na, .ref b4, .ref b6, .ref b8, .ref b10, .int (iI (((sh : Nat) : Int))), .int (iI (((it : Nat) : Int))), .int (iI (lc)), .int (iI (((dy : Nat) : Int))), .int (iI (pct)), .int (iI (lr)), .int (iI (sr))]))] = A at hD hE ⊢
  have hS : va_S A s.heap s.heap [] := va_S.rf
  have hl := lv_entry ([.ref kr, .int (iI (zl)), .int (iI (zm)), .ref po]) (n := 5) (Nat.le_of_ble_eq_true rfl)
  rw [lg_entry_eq]
  generalize (lg_sl ([.ref kr, .int (iI (zl)), .int (iI (zm)), .ref po]) ++ List.replicate (5 - (lg_sl ([.ref kr, .int (iI (zl)), .int (iI (zm)), .ref po])).length) Slot.unset).toArray = ls at hl ⊢
  have hl : lv_has ls 5 [(0, .ref kr), (1, .int (iI (zl))), (2, .int (iI (zm))), (3, .ref po)] := hl
  have hH := rfl (a := s.heap)
  refine lv_aload_n hx hb dL_setRates_0 rfl (lv_at hl 3 rfl) ?_
  refine lv_iconst (v := iI (0)) hx hb dL_setRates_1 rfl ?_
  refine lv_aload_n hx hb dL_setRates_2 rfl (lv_at hl 0 rfl) ?_
  refine lv_iload_n hx hb dL_setRates_3 rfl (lv_at hl 1 rfl) ?_
  refine lv_iload_n hx hb dL_setRates_4 rfl (lv_at hl 2 rfl) ?_
  have pk1 : picks [(po, .inl (cs 4, 1, .inr (.inl ov))), (kr, .inr (5, [.ref la, .ref ia, .ref na, .ref b4, .ref b6, .ref b8, .ref b10, .int (iI (((sh : Nat) : Int))), .int (iI (((it : Nat) : Int))), .int (iI (lc)), .int (iI (((dy : Nat) : Int))), .int (iI (pct)), .int (iI (lr)), .int (iI (sr))]))] [1] [(kr, .inr (5, [.ref la, .ref ia, .ref na, .ref b4, .ref b6, .ref b8, .ref b10, .int (iI (((sh : Nat) : Int))), .int (iI (((it : Nat) : Int))), .int (iI (lc)), .int (iI (((dy : Nat) : Int))), .int (iI (pct)), .int (iI (lr)), .int (iI (sr))]))] := ⟨rfl, trivial⟩
  refine vx_calli (vx_runV (As := [.int (iI (zl)), .int (iI (zm))]) (rest := [.int (iI (0)), .ref po]) ⟨hx, hb, hml, hown, hts⟩ (m_X5_setRates l hst D cs kr la ia na b4 b6 b8 b10 sh it lc dy pct lr sr zl zm (hzl) (hzm)) (cwV 2 hts (gV w_424 w_425 w_426 w_1 w_427) rfl rfl rfl (by decide +kernel) ⟨Nat.le_of_ble_eq_true rfl, Nat.le_of_ble_eq_true rfl⟩) (PE_V hK hN hE hS (fun q h => inW_sub hD [1] pk1 q h) hP hD [1] rfl pk1 rfl rfl) rfl rfl hl.1 rfl (lv_room (Nat.le_of_ble_eq_true rfl)) dL_setRates_5 ⟨Nat.le_of_ble_eq_true rfl, Nat.le_of_ble_eq_true rfl⟩) hS (fun q _ h => inW_sub hD [1] pk1 q h) (fun q h => inW_sub hD [1] pk1 q h) (fun q _ h => inW_sub hD [1] pk1 q h) (fun E ce q9 u t H1 locs1 ht hvm hpx hBX hz1 hk1 hS1 hce hcv hcl => ?_) (fun r u t H locs ht hvm hw hB hz1 hk1 hS => ?_)
  · have h9 : u = (if (zl < 0 ∨ 100 < zl) ∨ (zm < 0 ∨ 100 < zm) then 3 else 0) := hpx.1
    have hS := hS1
    have hcd : (if (zl < 0 ∨ 100 < zl) ∨ (zm < 0 ∨ 100 < zm) then 3 else 0) = 3 := by
      revert hne
      (try unfold cdL); (try unfold cdS); (try unfold cdC)
      (repeat' split) <;> simp
    obtain ⟨hEu, hBX⟩ := hBX
    rw [ht] at hBX
    obtain ⟨hP, hD⟩ := my_join (Wc := [(kr, .inr (5, [.ref la, .ref ia, .ref na, .ref b4, .ref b6, .ref b8, .ref b10, .int (iI (((sh : Nat) : Int))), .int (iI (((it : Nat) : Int))), .int (iI (lc)), .int (iI (((dy : Nat) : Int))), .int (iI (pct)), .int (iI (lr)), .int (iI (sr))]))]) (W1 := [(kr, .inr (5, [.ref la, .ref ia, .ref na, .ref b4, .ref b6, .ref b8, .ref b10, .int (iI (((sh : Nat) : Int))), .int (iI (((it : Nat) : Int))), .int (iI (lc)), .int (iI (((dy : Nat) : Int))), .int (iI (pct)), .int (iI (lr)), .int (iI (sr))]))]) hP hD [1] rfl (⟨rfl, trivial⟩) rfl hk1 hBX
    have hP : va_P D vwCl [(po, .inl (cs 4, 1, .inr (.inl ov))), (kr, .inr (5, [.ref la, .ref ia, .ref na, .ref b4, .ref b6, .ref b8, .ref b10, .int (iI (((sh : Nat) : Int))), .int (iI (((it : Nat) : Int))), .int (iI (lc)), .int (iI (((dy : Nat) : Int))), .int (iI (pct)), .int (iI (lr)), .int (iI (sr))]))] H1 := hP
    have hD : va_D A [(po, .inl (cs 4, 1, .inr (.inl ov))), (kr, .inr (5, [.ref la, .ref ia, .ref na, .ref b4, .ref b6, .ref b8, .ref b10, .int (iI (((sh : Nat) : Int))), .int (iI (((it : Nat) : Int))), .int (iI (lc)), .int (iI (((dy : Nat) : Int))), .int (iI (pct)), .int (iI (lr)), .int (iI (sr))]))] := hD
    have hc3 := hcd
    have hE3 : E = "java/lang/IllegalArgumentException" := by have h8 : E = exN u := hEu; rw [h8, h9, hc3]; rfl
    subst hE3
    refine vx_catch (name := "java/lang/IllegalArgumentException") hown [] ⟨0, 10, 13, 13⟩ [] (htab.trans rfl) (fun z hz => by cases hz) rfl (by decide) (hts _ w_132) (hE.use _ (List.mem_append_right _ (List.mem_map.mpr ⟨_, List.mem_of_getElem? (i := 2) rfl, rfl⟩))) hce hcv hcl ?_
    refine lv_astore (lv' := [(4, .ref q9), (0, .ref kr), (1, .int (iI (zl))), (2, .int (iI (zm))), (3, .ref po)]) hx hb dL_setRates_13 hl (by decide) rfl (fun ls hl => ?_)
    refine lv_iconst (v := iI (1)) hx hb dL_setRates_15 rfl ?_
    subst hAe
    refine W.widen (k := 1) (n := 6) (by omega) (by omega) ?_
    have hres : iI (1) = iI (hkI [3] (if (zl < 0 ∨ 100 < zl) ∨ (zm < 0 ∨ 100 < zm) then 3 else 0)) := congrArg iI (by
        rw [hc3]; rfl)
    exact W.iret hx hb hr (fun t ht hW => ⟨⟨_, (), rfl, hres, by show va_P D vwCl _ t.heap; rw [ht]; exact hP⟩, hS.F ht⟩) hS.2.2 dL_setRates_16
  obtain ⟨hc2, hw⟩ := hw
  subst hw
  rw [ht] at hB
  obtain ⟨hP, hD⟩ := my_join (W1 := [(kr, .inr (5, [.ref la, .ref ia, .ref na, .ref b4, .ref b6, .ref b8, .ref b10, .int (iI (((sh : Nat) : Int))), .int (iI (((it : Nat) : Int))), .int (iI (lc)), .int (iI (((dy : Nat) : Int))), .int (iI (pct)), .int (iI (zl)), .int (iI (zm))]))]) hP hD [1] rfl pk1 rfl hk1 hB
  have hP : va_P D vwCl [(po, .inl (cs 4, 1, .inr (.inl ov))), (kr, .inr (5, [.ref la, .ref ia, .ref na, .ref b4, .ref b6, .ref b8, .ref b10, .int (iI (((sh : Nat) : Int))), .int (iI (((it : Nat) : Int))), .int (iI (lc)), .int (iI (((dy : Nat) : Int))), .int (iI (pct)), .int (iI (zl)), .int (iI (zm))]))] H := hP
  have hD : va_D A [(po, .inl (cs 4, 1, .inr (.inl ov))), (kr, .inr (5, [.ref la, .ref ia, .ref na, .ref b4, .ref b6, .ref b8, .ref b10, .int (iI (((sh : Nat) : Int))), .int (iI (((it : Nat) : Int))), .int (iI (lc)), .int (iI (((dy : Nat) : Int))), .int (iI (pct)), .int (iI (zl)), .int (iI (zm))]))] := hD
  exact absurd hc2 hne

abbrev ws_L_supply : List Cond := Cond.codeWith yL_supply cL_supply 5 (some .int) [(0, 10, 13, 25), (0, 10, 17, 13), (0, 10, 21, 15)] :: ALL
set_option maxHeartbeats 4000000 in
set_option maxRecDepth 100000 in
theorem m_L_supply_no_t (l : Launch) (hst : l.stackTraces = false) (D : va_G) (cs : Nat → ClassId) (kr la ia na b4 b6 b8 b10 sh it : Nat) (lc : Int) (dy : Nat) (pct lr sr : Int) (itf : Nat → Option Nat) (zi : Int) (z0 : Int) (po : Nat) (ov : Nat → Int64) (hit : it ≤ 5) (hitf : ∀ j, j < it → itf j ≠ none) (hzi : -2147483648 ≤ zi ∧ zi < 2147483648) (hno : cdS it zi ≠ 0) : Met l yL_supply ws_L_supply ({ frames := 8, cells := 1, slots := 6, locals := 127 }) (va_Pc [.ref kr, .int (iI (zi)), .int (iI (z0)), .ref po] (PE D cs [(po, .inl (cs 4, 1, .inr (.inl ov))), (kr, .inr (5, [.ref la, .ref ia, .ref na, .ref b4, .ref b6, .ref b8, .ref b10, .int (iI (((sh : Nat) : Int))), .int (iI (((it : Nat) : Int))), .int (iI (lc)), .int (iI (((dy : Nat) : Int))), .int (iI (pct)), .int (iI (lr)), .int (iI (sr))])), (ia, arQ cs 2 5 itf)] noA)) (va_Qi (fun r (_ : Unit) => r = iI (hkI [1, 3, 4] (cdS it zi))) (fun _ _ => True) noA) 1 6 noA := by
  refine va_MetW (cc := cL_supply) (maxL := 5) (ret := some .int) (hh := [(0, 10, 13, 25), (0, 10, 17, 13), (0, 10, 21, 15)]) (by decide +kernel) rfl ?_
  intro p e s m args below meth c s₁ B hml hv
  obtain ⟨rfl, ⟨hP, hK, hD, hN⟩, hE⟩ := hv
  have hx := B.exec
  have hb := B.bytes
  have hr := B.returns
  have hts : ∀ w ∈ ALL, w.before _ s = true := fun w h => atoms_spec (ws := ws_L_supply) B.pre w (List.mem_cons_of_mem _ h)
  have hown : s.vm.findClass RL = some m.cls := findClass_of_methodNamed B.named
  have hlocks := B.notSynchronized
  have htab : c.exceptionTable.toList = tableOf [(0, 10, 13, 25), (0, 10, 17, 13), (0, 10, 21, 15)] := vx_table (x := yL_supply) B (atoms_spec (ws := ws_L_supply) B.pre _ List.mem_cons_self)
  have hS : va_S noA s.heap s.heap [] := va_S.rf
  generalize inW [(po, .inl (cs 4, 1, .inr (.inl ov))), (kr, .inr (5, [.ref la, .ref ia, .ref na, .ref b4, .ref b6, .ref b8, .ref b10, .int (iI (((sh : Nat) : Int))), .int (iI (((it : Nat) : Int))), .int (iI (lc)), .int (iI (((dy : Nat) : Int))), .int (iI (pct)), .int (iI (lr)), .int (iI (sr))])), (ia, arQ cs 2 5 itf)] = A at hD
  have hl := lv_entry ([.ref kr, .int (iI (zi)), .int (iI (z0)), .ref po]) (n := 5) (Nat.le_of_ble_eq_true rfl)
  rw [lg_entry_eq]
  generalize (lg_sl ([.ref kr, .int (iI (zi)), .int (iI (z0)), .ref po]) ++ List.replicate (5 - (lg_sl ([.ref kr, .int (iI (zi)), .int (iI (z0)), .ref po])).length) Slot.unset).toArray = ls at hl ⊢
  have hl : lv_has ls 5 [(0, .ref kr), (1, .int (iI (zi))), (2, .int (iI (z0))), (3, .ref po)] := hl
  have hH := rfl (a := s.heap)
  refine lv_aload_n hx hb dL_supply_0 rfl (lv_at hl 3 rfl) ?_
  refine lv_iconst (v := iI (0)) hx hb dL_supply_1 rfl ?_
  refine lv_aload_n hx hb dL_supply_2 rfl (lv_at hl 0 rfl) ?_
  refine lv_iload_n hx hb dL_supply_3 rfl (lv_at hl 1 rfl) ?_
  refine lv_iload_n hx hb dL_supply_4 rfl (lv_at hl 2 rfl) ?_
  have pk1 : picks [(po, .inl (cs 4, 1, .inr (.inl ov))), (kr, .inr (5, [.ref la, .ref ia, .ref na, .ref b4, .ref b6, .ref b8, .ref b10, .int (iI (((sh : Nat) : Int))), .int (iI (((it : Nat) : Int))), .int (iI (lc)), .int (iI (((dy : Nat) : Int))), .int (iI (pct)), .int (iI (lr)), .int (iI (sr))])), (ia, arQ cs 2 5 itf)] [1, 2] [(kr, .inr (5, [.ref la, .ref ia, .ref na, .ref b4, .ref b6, .ref b8, .ref b10, .int (iI (((sh : Nat) : Int))), .int (iI (((it : Nat) : Int))), .int (iI (lc)), .int (iI (((dy : Nat) : Int))), .int (iI (pct)), .int (iI (lr)), .int (iI (sr))])), (ia, arQ cs 2 5 itf)] := ⟨rfl, rfl, trivial⟩
  refine vx_calli (vx_runV (As := [.int (iI (zi)), .int (iI (z0))]) (rest := [.int (iI (0)), .ref po]) ⟨hx, hb, hml, hown, hts⟩ (m_X5_supply_no l hst D cs kr la ia na b4 b6 b8 b10 sh it lc dy pct lr sr itf zi z0 (hit) (hitf) (hzi) (hno)) (cwV 2 hts (gV w_399 w_400 w_401 w_1 w_402) rfl rfl rfl (by decide +kernel) ⟨Nat.le_of_ble_eq_true rfl, Nat.le_of_ble_eq_true rfl⟩) (PE_V hK hN hE hS (fun _ h => False.elim h) hP hD [1, 2] rfl pk1 rfl rfl) rfl rfl hl.1 rfl (lv_room (Nat.le_of_ble_eq_true rfl)) dL_supply_5 ⟨Nat.le_of_ble_eq_true rfl, Nat.le_of_ble_eq_true rfl⟩) hS (fun _ _ h => False.elim h) (fun _ h => False.elim h) (fun _ _ h => False.elim h) (fun E ce q9 u t H1 locs1 ht hvm hpx hBX hz1 hk1 hS1 hce hcv hcl => ?_) (fun r u t H locs ht hvm hw hB hz1 hk1 hS => ?_)
  · have h9 : u = cdS it zi := hpx.1
    have hS := hS1
    have hcd : cdS it zi = 1 := by
      revert hno
      (try unfold cdL); (try unfold cdS); (try unfold cdC)
      (repeat' split) <;> simp
    have hEu := hBX
    have hP := P_kept hP hk1
    have hc3 := hcd
    have hE3 : E = "java/lang/IndexOutOfBoundsException" := by have h8 : E = exN u := hEu; rw [h8, h9, hc3]; rfl
    subst hE3
    refine vx_catch (name := "java/lang/IndexOutOfBoundsException") hown [] ⟨0, 10, 13, 25⟩ [⟨0, 10, 17, 13⟩, ⟨0, 10, 21, 15⟩] (htab.trans rfl) (fun z hz => by cases hz) rfl (by decide) (hts _ w_266) (hE.use _ (List.mem_append_right _ (List.mem_map.mpr ⟨_, List.mem_of_getElem? (i := 0) rfl, rfl⟩))) hce hcv hcl ?_
    refine lv_astore (lv' := [(4, .ref q9), (0, .ref kr), (1, .int (iI (zi))), (2, .int (iI (z0))), (3, .ref po)]) hx hb dL_supply_13 hl (by decide) rfl (fun ls hl => ?_)
    refine lv_iconst (v := iI (1)) hx hb dL_supply_15 rfl ?_
    refine W.widen (k := 1) (n := 6) (by omega) (by omega) ?_
    have hres : iI (1) = iI (hkI [1, 3, 4] (cdS it zi)) := congrArg iI (by
        rw [hc3]; rfl)
    exact W.iret hx hb hr (fun t ht hW => ⟨⟨_, (), rfl, hres, trivial⟩, hS.F ht⟩) hS.2.2 dL_supply_16
  obtain ⟨hc2, hw⟩ := hw
  subst hw
  have hP := P_kept hP hk1
  exact absurd hc2 hno

set_option maxHeartbeats 4000000 in
set_option maxRecDepth 100000 in
theorem m_L_supply_ok_r (l : Launch) (hst : l.stackTraces = false) (D : va_G) (cs : Nat → ClassId) (kr la ia na b4 b6 b8 b10 sh it : Nat) (lc : Int) (dy : Nat) (pct lr sr : Int) (itf : Nat → Option Nat) (tn : Nat) (hi ti go pr : Nat) (pk fs st : Int) (uti : Nat) (fti : Nat → Int) (zu : Int) (po : Nat) (ov : Nat → Int64) (hit : it ≤ 5) (hitf : ∀ j, j < it → itf j ≠ none) (htn : tn < it) (hitn : itf tn = some hi) (hd : dy < 1000) (hstk : 0 ≤ st ∧ st ≤ 99999) (hzu : -2147483648 ≤ zu ∧ zu < 2147483648) (hz : (if zu < 1 ∨ 9999 < zu then 3 else if 99999 < st + zu then 4 else 0) = 0) (hrr : -2147483648 ≤ (st + zu) ∧ (st + zu) < 2147483648) : Met l yL_supply ws_L_supply ({ frames := 8, cells := 2, slots := 12, locals := 127 }) (va_Pc [.ref kr, .int (iI (((tn : Nat) : Int))), .int (iI (zu)), .ref po] (PE D cs [(po, .inl (cs 4, 1, .inr (.inl ov))), (kr, .inr (5, [.ref la, .ref ia, .ref na, .ref b4, .ref b6, .ref b8, .ref b10, .int (iI (((sh : Nat) : Int))), .int (iI (((it : Nat) : Int))), .int (iI (lc)), .int (iI (((dy : Nat) : Int))), .int (iI (pct)), .int (iI (lr)), .int (iI (sr))])), (ia, arQ cs 2 5 itf), (hi, .inr (1, [.int (iI (pk)), .int (iI (fs)), .ref ti, .ref go, .ref pr, .int (iI (st))])), (ti, .inr (0, [.ref uti])), (uti, arI cs 1005 fti)] (inW [(po, .inl (cs 4, 1, .inr (.inl ov))), (kr, .inr (5, [.ref la, .ref ia, .ref na, .ref b4, .ref b6, .ref b8, .ref b10, .int (iI (((sh : Nat) : Int))), .int (iI (((it : Nat) : Int))), .int (iI (lc)), .int (iI (((dy : Nat) : Int))), .int (iI (pct)), .int (iI (lr)), .int (iI (sr))])), (ia, arQ cs 2 5 itf), (hi, .inr (1, [.int (iI (pk)), .int (iI (fs)), .ref ti, .ref go, .ref pr, .int (iI (st))])), (ti, .inr (0, [.ref uti])), (uti, arI cs 1005 fti)]))) (va_Qi (fun r (_ : Unit) => r = iI (0)) (fun _ t => va_P D vwCl [(po, .inl (cs 4, 1, .inr (.inl (vp_updL ov 0 (lI (st + zu)))))), (kr, .inr (5, [.ref la, .ref ia, .ref na, .ref b4, .ref b6, .ref b8, .ref b10, .int (iI (((sh : Nat) : Int))), .int (iI (((it : Nat) : Int))), .int (iI (lc)), .int (iI (((dy : Nat) : Int))), .int (iI (pct)), .int (iI (lr)), .int (iI (sr))])), (ia, arQ cs 2 5 itf), (hi, .inr (1, [.int (iI (pk)), .int (iI (fs)), .ref ti, .ref go, .ref pr, .int (iI (st + zu))])), (ti, .inr (0, [.ref uti])), (uti, arI cs 1005 (upI fti dy (fti dy + zu)))] t.heap) (inW [(po, .inl (cs 4, 1, .inr (.inl ov))), (kr, .inr (5, [.ref la, .ref ia, .ref na, .ref b4, .ref b6, .ref b8, .ref b10, .int (iI (((sh : Nat) : Int))), .int (iI (((it : Nat) : Int))), .int (iI (lc)), .int (iI (((dy : Nat) : Int))), .int (iI (pct)), .int (iI (lr)), .int (iI (sr))])), (ia, arQ cs 2 5 itf), (hi, .inr (1, [.int (iI (pk)), .int (iI (fs)), .ref ti, .ref go, .ref pr, .int (iI (st))])), (ti, .inr (0, [.ref uti])), (uti, arI cs 1005 fti)])) 2 12 (inW [(po, .inl (cs 4, 1, .inr (.inl ov))), (kr, .inr (5, [.ref la, .ref ia, .ref na, .ref b4, .ref b6, .ref b8, .ref b10, .int (iI (((sh : Nat) : Int))), .int (iI (((it : Nat) : Int))), .int (iI (lc)), .int (iI (((dy : Nat) : Int))), .int (iI (pct)), .int (iI (lr)), .int (iI (sr))])), (ia, arQ cs 2 5 itf), (hi, .inr (1, [.int (iI (pk)), .int (iI (fs)), .ref ti, .ref go, .ref pr, .int (iI (st))])), (ti, .inr (0, [.ref uti])), (uti, arI cs 1005 fti)]) := by
  refine va_MetW (cc := cL_supply) (maxL := 5) (ret := some .int) (hh := [(0, 10, 13, 25), (0, 10, 17, 13), (0, 10, 21, 15)]) (by decide +kernel) rfl ?_
  intro p e s m args below meth c s₁ B hml hv
  obtain ⟨rfl, ⟨hP, hK, hD, hN⟩, hE⟩ := hv
  have hx := B.exec
  have hb := B.bytes
  have hr := B.returns
  have hts : ∀ w ∈ ALL, w.before _ s = true := fun w h => atoms_spec (ws := ws_L_supply) B.pre w (List.mem_cons_of_mem _ h)
  have hown : s.vm.findClass RL = some m.cls := findClass_of_methodNamed B.named
  have hlocks := B.notSynchronized
  have htab : c.exceptionTable.toList = tableOf [(0, 10, 13, 25), (0, 10, 17, 13), (0, 10, 21, 15)] := vx_table (x := yL_supply) B (atoms_spec (ws := ws_L_supply) B.pre _ List.mem_cons_self)
  generalize hAe : inW [(po, .inl (cs 4, 1, .inr (.inl ov))), (kr, .inr (5, [.ref la, .ref ia, .ref na, .ref b4, .ref b6, .ref b8, .ref b10, .int (iI (((sh : Nat) : Int))), .int (iI (((it : Nat) : Int))), .int (iI (lc)), .int (iI (((dy : Nat) : Int))), .int (iI (pct)), .int (iI (lr)), .int (iI (sr))])), (ia, arQ cs 2 5 itf), (hi, .inr (1, [.int (iI (pk)), .int (iI (fs)), .ref ti, .ref go, .ref pr, .int (iI (st))])), (ti, .inr (0, [.ref uti])), (uti, arI cs 1005 fti)] = A at hD hE ⊢
  have hS : va_S A s.heap s.heap [] := va_S.rf
  have hl := lv_entry ([.ref kr, .int (iI (((tn : Nat) : Int))), .int (iI (zu)), .ref po]) (n := 5) (Nat.le_of_ble_eq_true rfl)
  rw [lg_entry_eq]
  generalize (lg_sl ([.ref kr, .int (iI (((tn : Nat) : Int))), .int (iI (zu)), .ref po]) ++ List.replicate (5 - (lg_sl ([.ref kr, .int (iI (((tn : Nat) : Int))), .int (iI (zu)), .ref po])).length) Slot.unset).toArray = ls at hl ⊢
  have hl : lv_has ls 5 [(0, .ref kr), (1, .int (iI (((tn : Nat) : Int)))), (2, .int (iI (zu))), (3, .ref po)] := hl
  have hH := rfl (a := s.heap)
  refine lv_aload_n hx hb dL_supply_0 rfl (lv_at hl 3 rfl) ?_
  refine lv_iconst (v := iI (0)) hx hb dL_supply_1 rfl ?_
  refine lv_aload_n hx hb dL_supply_2 rfl (lv_at hl 0 rfl) ?_
  refine lv_iload_n hx hb dL_supply_3 rfl (lv_at hl 1 rfl) ?_
  refine lv_iload_n hx hb dL_supply_4 rfl (lv_at hl 2 rfl) ?_
  have pk1 : picks [(po, .inl (cs 4, 1, .inr (.inl ov))), (kr, .inr (5, [.ref la, .ref ia, .ref na, .ref b4, .ref b6, .ref b8, .ref b10, .int (iI (((sh : Nat) : Int))), .int (iI (((it : Nat) : Int))), .int (iI (lc)), .int (iI (((dy : Nat) : Int))), .int (iI (pct)), .int (iI (lr)), .int (iI (sr))])), (ia, arQ cs 2 5 itf), (hi, .inr (1, [.int (iI (pk)), .int (iI (fs)), .ref ti, .ref go, .ref pr, .int (iI (st))])), (ti, .inr (0, [.ref uti])), (uti, arI cs 1005 fti)] [1, 2, 3, 4, 5] [(kr, .inr (5, [.ref la, .ref ia, .ref na, .ref b4, .ref b6, .ref b8, .ref b10, .int (iI (((sh : Nat) : Int))), .int (iI (((it : Nat) : Int))), .int (iI (lc)), .int (iI (((dy : Nat) : Int))), .int (iI (pct)), .int (iI (lr)), .int (iI (sr))])), (ia, arQ cs 2 5 itf), (hi, .inr (1, [.int (iI (pk)), .int (iI (fs)), .ref ti, .ref go, .ref pr, .int (iI (st))])), (ti, .inr (0, [.ref uti])), (uti, arI cs 1005 fti)] := ⟨rfl, rfl, rfl, rfl, rfl, trivial⟩
  refine vx_calli (vx_runV (As := [.int (iI (((tn : Nat) : Int))), .int (iI (zu))]) (rest := [.int (iI (0)), .ref po]) ⟨hx, hb, hml, hown, hts⟩ (m_X5_supply_ok l hst D cs kr la ia na b4 b6 b8 b10 sh it lc dy pct lr sr itf tn hi ti go pr pk fs st uti fti zu (hit) (hitf) (htn) (hitn) (hd) (hstk) (hzu)) (cwV 2 hts (gV w_399 w_400 w_401 w_1 w_402) rfl rfl rfl (by decide +kernel) ⟨Nat.le_of_ble_eq_true rfl, Nat.le_of_ble_eq_true rfl⟩) (PE_V hK hN hE hS (fun q h => inW_sub hD [1, 2, 3, 4, 5] pk1 q h) hP hD [1, 2, 3, 4, 5] rfl pk1 rfl rfl) rfl rfl hl.1 rfl (lv_room (Nat.le_of_ble_eq_true rfl)) dL_supply_5 ⟨Nat.le_of_ble_eq_true rfl, Nat.le_of_ble_eq_true rfl⟩) hS (fun q _ h => inW_sub hD [1, 2, 3, 4, 5] pk1 q h) (fun q h => inW_sub hD [1, 2, 3, 4, 5] pk1 q h) (fun q _ h => inW_sub hD [1, 2, 3, 4, 5] pk1 q h) (fun E ce q9 u t H1 locs1 ht hvm hpx hBX hz1 hk1 hS1 hce hcv hcl => ?_) (fun r u t H locs ht hvm hw hB hz1 hk1 hS => ?_)
  · exact absurd (hpx.1.trans hz) hpx.2
  obtain ⟨hc2, hw⟩ := hw
  subst hw
  rw [ht] at hB
  obtain ⟨hP, hD⟩ := my_join (W1 := [(kr, .inr (5, [.ref la, .ref ia, .ref na, .ref b4, .ref b6, .ref b8, .ref b10, .int (iI (((sh : Nat) : Int))), .int (iI (((it : Nat) : Int))), .int (iI (lc)), .int (iI (((dy : Nat) : Int))), .int (iI (pct)), .int (iI (lr)), .int (iI (sr))])), (ia, arQ cs 2 5 itf), (hi, .inr (1, [.int (iI (pk)), .int (iI (fs)), .ref ti, .ref go, .ref pr, .int (iI (st + zu))])), (ti, .inr (0, [.ref uti])), (uti, arI cs 1005 (upI fti dy (fti dy + zu)))]) hP hD [1, 2, 3, 4, 5] rfl pk1 rfl hk1 hB
  have hP : va_P D vwCl [(po, .inl (cs 4, 1, .inr (.inl ov))), (kr, .inr (5, [.ref la, .ref ia, .ref na, .ref b4, .ref b6, .ref b8, .ref b10, .int (iI (((sh : Nat) : Int))), .int (iI (((it : Nat) : Int))), .int (iI (lc)), .int (iI (((dy : Nat) : Int))), .int (iI (pct)), .int (iI (lr)), .int (iI (sr))])), (ia, arQ cs 2 5 itf), (hi, .inr (1, [.int (iI (pk)), .int (iI (fs)), .ref ti, .ref go, .ref pr, .int (iI (st + zu))])), (ti, .inr (0, [.ref uti])), (uti, arI cs 1005 (upI fti dy (fti dy + zu)))] H := hP
  have hD : va_D A [(po, .inl (cs 4, 1, .inr (.inl ov))), (kr, .inr (5, [.ref la, .ref ia, .ref na, .ref b4, .ref b6, .ref b8, .ref b10, .int (iI (((sh : Nat) : Int))), .int (iI (((it : Nat) : Int))), .int (iI (lc)), .int (iI (((dy : Nat) : Int))), .int (iI (pct)), .int (iI (lr)), .int (iI (sr))])), (ia, arQ cs 2 5 itf), (hi, .inr (1, [.int (iI (pk)), .int (iI (fs)), .ref ti, .ref go, .ref pr, .int (iI (st + zu))])), (ti, .inr (0, [.ref uti])), (uti, arI cs 1005 (upI fti dy (fti dy + zu)))] := hD
  refine my_i2l hx hb dL_supply_8 (by omega) ?_
  refine my_last0 hx hb hK hP hD hS 0 rfl dL_supply_9 (fun H locs hP hD hS => ?_)
  have hP : va_P D vwCl [(po, .inl (cs 4, 1, .inr (.inl (vp_updL ov 0 (lI (st + zu)))))), (kr, .inr (5, [.ref la, .ref ia, .ref na, .ref b4, .ref b6, .ref b8, .ref b10, .int (iI (((sh : Nat) : Int))), .int (iI (((it : Nat) : Int))), .int (iI (lc)), .int (iI (((dy : Nat) : Int))), .int (iI (pct)), .int (iI (lr)), .int (iI (sr))])), (ia, arQ cs 2 5 itf), (hi, .inr (1, [.int (iI (pk)), .int (iI (fs)), .ref ti, .ref go, .ref pr, .int (iI (st + zu))])), (ti, .inr (0, [.ref uti])), (uti, arI cs 1005 (upI fti dy (fti dy + zu)))] H := hP
  have hD : va_D A [(po, .inl (cs 4, 1, .inr (.inl (vp_updL ov 0 (lI (st + zu)))))), (kr, .inr (5, [.ref la, .ref ia, .ref na, .ref b4, .ref b6, .ref b8, .ref b10, .int (iI (((sh : Nat) : Int))), .int (iI (((it : Nat) : Int))), .int (iI (lc)), .int (iI (((dy : Nat) : Int))), .int (iI (pct)), .int (iI (lr)), .int (iI (sr))])), (ia, arQ cs 2 5 itf), (hi, .inr (1, [.int (iI (pk)), .int (iI (fs)), .ref ti, .ref go, .ref pr, .int (iI (st + zu))])), (ti, .inr (0, [.ref uti])), (uti, arI cs 1005 (upI fti dy (fti dy + zu)))] := hD
  refine lv_goto (tgt := 25) hx hb dL_supply_10 (by decide) ?_
  refine lv_iconst (v := iI (0)) hx hb dL_supply_25 rfl ?_
  subst hAe
  refine W.widen (k := 2) (n := 12) (by omega) (by omega) ?_
  have hres : iI (0) = iI (0) := congrArg iI (by
      rfl)
  exact W.iret hx hb hr (fun t ht hW => ⟨⟨_, (), rfl, hres, by show va_P D vwCl _ t.heap; rw [ht]; exact hP⟩, hS.F ht⟩) hS.2.2 dL_supply_26

set_option maxHeartbeats 4000000 in
set_option maxRecDepth 100000 in
theorem m_L_supply_ok_t (l : Launch) (hst : l.stackTraces = false) (D : va_G) (cs : Nat → ClassId) (kr la ia na b4 b6 b8 b10 sh it : Nat) (lc : Int) (dy : Nat) (pct lr sr : Int) (itf : Nat → Option Nat) (tn : Nat) (hi ti go pr : Nat) (pk fs st : Int) (uti : Nat) (fti : Nat → Int) (zu : Int) (po : Nat) (ov : Nat → Int64) (hit : it ≤ 5) (hitf : ∀ j, j < it → itf j ≠ none) (htn : tn < it) (hitn : itf tn = some hi) (hd : dy < 1000) (hstk : 0 ≤ st ∧ st ≤ 99999) (hzu : -2147483648 ≤ zu ∧ zu < 2147483648) (hne : (if zu < 1 ∨ 9999 < zu then 3 else if 99999 < st + zu then 4 else 0) ≠ 0) : Met l yL_supply ws_L_supply ({ frames := 8, cells := 2, slots := 12, locals := 127 }) (va_Pc [.ref kr, .int (iI (((tn : Nat) : Int))), .int (iI (zu)), .ref po] (PE D cs [(po, .inl (cs 4, 1, .inr (.inl ov))), (kr, .inr (5, [.ref la, .ref ia, .ref na, .ref b4, .ref b6, .ref b8, .ref b10, .int (iI (((sh : Nat) : Int))), .int (iI (((it : Nat) : Int))), .int (iI (lc)), .int (iI (((dy : Nat) : Int))), .int (iI (pct)), .int (iI (lr)), .int (iI (sr))])), (ia, arQ cs 2 5 itf), (hi, .inr (1, [.int (iI (pk)), .int (iI (fs)), .ref ti, .ref go, .ref pr, .int (iI (st))])), (ti, .inr (0, [.ref uti])), (uti, arI cs 1005 fti)] (inW [(po, .inl (cs 4, 1, .inr (.inl ov))), (kr, .inr (5, [.ref la, .ref ia, .ref na, .ref b4, .ref b6, .ref b8, .ref b10, .int (iI (((sh : Nat) : Int))), .int (iI (((it : Nat) : Int))), .int (iI (lc)), .int (iI (((dy : Nat) : Int))), .int (iI (pct)), .int (iI (lr)), .int (iI (sr))])), (ia, arQ cs 2 5 itf), (hi, .inr (1, [.int (iI (pk)), .int (iI (fs)), .ref ti, .ref go, .ref pr, .int (iI (st))])), (ti, .inr (0, [.ref uti])), (uti, arI cs 1005 fti)]))) (va_Qi (fun r (_ : Unit) => r = iI (hkI [1, 3, 4] (if zu < 1 ∨ 9999 < zu then 3 else if 99999 < st + zu then 4 else 0))) (fun _ t => va_P D vwCl [(po, .inl (cs 4, 1, .inr (.inl ov))), (kr, .inr (5, [.ref la, .ref ia, .ref na, .ref b4, .ref b6, .ref b8, .ref b10, .int (iI (((sh : Nat) : Int))), .int (iI (((it : Nat) : Int))), .int (iI (lc)), .int (iI (((dy : Nat) : Int))), .int (iI (pct)), .int (iI (lr)), .int (iI (sr))])), (ia, arQ cs 2 5 itf), (hi, .inr (1, [.int (iI (pk)), .int (iI (fs)), .ref ti, .ref go, .ref pr, .int (iI (st))])), (ti, .inr (0, [.ref uti])), (uti, arI cs 1005 fti)] t.heap) (inW [(po, .inl (cs 4, 1, .inr (.inl ov))), (kr, .inr (5, [.ref la, .ref ia, .ref na, .ref b4, .ref b6, .ref b8, .ref b10, .int (iI (((sh : Nat) : Int))), .int (iI (((it : Nat) : Int))), .int (iI (lc)), .int (iI (((dy : Nat) : Int))), .int (iI (pct)), .int (iI (lr)), .int (iI (sr))])), (ia, arQ cs 2 5 itf), (hi, .inr (1, [.int (iI (pk)), .int (iI (fs)), .ref ti, .ref go, .ref pr, .int (iI (st))])), (ti, .inr (0, [.ref uti])), (uti, arI cs 1005 fti)])) 2 12 (inW [(po, .inl (cs 4, 1, .inr (.inl ov))), (kr, .inr (5, [.ref la, .ref ia, .ref na, .ref b4, .ref b6, .ref b8, .ref b10, .int (iI (((sh : Nat) : Int))), .int (iI (((it : Nat) : Int))), .int (iI (lc)), .int (iI (((dy : Nat) : Int))), .int (iI (pct)), .int (iI (lr)), .int (iI (sr))])), (ia, arQ cs 2 5 itf), (hi, .inr (1, [.int (iI (pk)), .int (iI (fs)), .ref ti, .ref go, .ref pr, .int (iI (st))])), (ti, .inr (0, [.ref uti])), (uti, arI cs 1005 fti)]) := by
  refine va_MetW (cc := cL_supply) (maxL := 5) (ret := some .int) (hh := [(0, 10, 13, 25), (0, 10, 17, 13), (0, 10, 21, 15)]) (by decide +kernel) rfl ?_
  intro p e s m args below meth c s₁ B hml hv
  obtain ⟨rfl, ⟨hP, hK, hD, hN⟩, hE⟩ := hv
  have hx := B.exec
  have hb := B.bytes
  have hr := B.returns
  have hts : ∀ w ∈ ALL, w.before _ s = true := fun w h => atoms_spec (ws := ws_L_supply) B.pre w (List.mem_cons_of_mem _ h)
  have hown : s.vm.findClass RL = some m.cls := findClass_of_methodNamed B.named
  have hlocks := B.notSynchronized
  have htab : c.exceptionTable.toList = tableOf [(0, 10, 13, 25), (0, 10, 17, 13), (0, 10, 21, 15)] := vx_table (x := yL_supply) B (atoms_spec (ws := ws_L_supply) B.pre _ List.mem_cons_self)
  generalize hAe : inW [(po, .inl (cs 4, 1, .inr (.inl ov))), (kr, .inr (5, [.ref la, .ref ia, .ref na, .ref b4, .ref b6, .ref b8, .ref b10, .int (iI (((sh : Nat) : Int))), .int (iI (((it : Nat) : Int))), .int (iI (lc)), .int (iI (((dy : Nat) : Int))), .int (iI (pct)), .int (iI (lr)), .int (iI (sr))])), (ia, arQ cs 2 5 itf), (hi, .inr (1, [.int (iI (pk)), .int (iI (fs)), .ref ti, .ref go, .ref pr, .int (iI (st))])), (ti, .inr (0, [.ref uti])), (uti, arI cs 1005 fti)] = A at hD hE ⊢
  have hS : va_S A s.heap s.heap [] := va_S.rf
  have hl := lv_entry ([.ref kr, .int (iI (((tn : Nat) : Int))), .int (iI (zu)), .ref po]) (n := 5) (Nat.le_of_ble_eq_true rfl)
  rw [lg_entry_eq]
  generalize (lg_sl ([.ref kr, .int (iI (((tn : Nat) : Int))), .int (iI (zu)), .ref po]) ++ List.replicate (5 - (lg_sl ([.ref kr, .int (iI (((tn : Nat) : Int))), .int (iI (zu)), .ref po])).length) Slot.unset).toArray = ls at hl ⊢
  have hl : lv_has ls 5 [(0, .ref kr), (1, .int (iI (((tn : Nat) : Int)))), (2, .int (iI (zu))), (3, .ref po)] := hl
  have hH := rfl (a := s.heap)
  refine lv_aload_n hx hb dL_supply_0 rfl (lv_at hl 3 rfl) ?_
  refine lv_iconst (v := iI (0)) hx hb dL_supply_1 rfl ?_
  refine lv_aload_n hx hb dL_supply_2 rfl (lv_at hl 0 rfl) ?_
  refine lv_iload_n hx hb dL_supply_3 rfl (lv_at hl 1 rfl) ?_
  refine lv_iload_n hx hb dL_supply_4 rfl (lv_at hl 2 rfl) ?_
  have pk1 : picks [(po, .inl (cs 4, 1, .inr (.inl ov))), (kr, .inr (5, [.ref la, .ref ia, .ref na, .ref b4, .ref b6, .ref b8, .ref b10, .int (iI (((sh : Nat) : Int))), .int (iI (((it : Nat) : Int))), .int (iI (lc)), .int (iI (((dy : Nat) : Int))), .int (iI (pct)), .int (iI (lr)), .int (iI (sr))])), (ia, arQ cs 2 5 itf), (hi, .inr (1, [.int (iI (pk)), .int (iI (fs)), .ref ti, .ref go, .ref pr, .int (iI (st))])), (ti, .inr (0, [.ref uti])), (uti, arI cs 1005 fti)] [1, 2, 3, 4, 5] [(kr, .inr (5, [.ref la, .ref ia, .ref na, .ref b4, .ref b6, .ref b8, .ref b10, .int (iI (((sh : Nat) : Int))), .int (iI (((it : Nat) : Int))), .int (iI (lc)), .int (iI (((dy : Nat) : Int))), .int (iI (pct)), .int (iI (lr)), .int (iI (sr))])), (ia, arQ cs 2 5 itf), (hi, .inr (1, [.int (iI (pk)), .int (iI (fs)), .ref ti, .ref go, .ref pr, .int (iI (st))])), (ti, .inr (0, [.ref uti])), (uti, arI cs 1005 fti)] := ⟨rfl, rfl, rfl, rfl, rfl, trivial⟩
  refine vx_calli (vx_runV (As := [.int (iI (((tn : Nat) : Int))), .int (iI (zu))]) (rest := [.int (iI (0)), .ref po]) ⟨hx, hb, hml, hown, hts⟩ (m_X5_supply_ok l hst D cs kr la ia na b4 b6 b8 b10 sh it lc dy pct lr sr itf tn hi ti go pr pk fs st uti fti zu (hit) (hitf) (htn) (hitn) (hd) (hstk) (hzu)) (cwV 2 hts (gV w_399 w_400 w_401 w_1 w_402) rfl rfl rfl (by decide +kernel) ⟨Nat.le_of_ble_eq_true rfl, Nat.le_of_ble_eq_true rfl⟩) (PE_V hK hN hE hS (fun q h => inW_sub hD [1, 2, 3, 4, 5] pk1 q h) hP hD [1, 2, 3, 4, 5] rfl pk1 rfl rfl) rfl rfl hl.1 rfl (lv_room (Nat.le_of_ble_eq_true rfl)) dL_supply_5 ⟨Nat.le_of_ble_eq_true rfl, Nat.le_of_ble_eq_true rfl⟩) hS (fun q _ h => inW_sub hD [1, 2, 3, 4, 5] pk1 q h) (fun q h => inW_sub hD [1, 2, 3, 4, 5] pk1 q h) (fun q _ h => inW_sub hD [1, 2, 3, 4, 5] pk1 q h) (fun E ce q9 u t H1 locs1 ht hvm hpx hBX hz1 hk1 hS1 hce hcv hcl => ?_) (fun r u t H locs ht hvm hw hB hz1 hk1 hS => ?_)
  · have h9 : u = (if zu < 1 ∨ 9999 < zu then 3 else if 99999 < st + zu then 4 else 0) := hpx.1
    have hS := hS1
    have hcd : (if zu < 1 ∨ 9999 < zu then 3 else if 99999 < st + zu then 4 else 0) = 3 ∨ (if zu < 1 ∨ 9999 < zu then 3 else if 99999 < st + zu then 4 else 0) = 4 := by
      revert hne
      (try unfold cdL); (try unfold cdS); (try unfold cdC)
      (repeat' split) <;> simp
    obtain ⟨hEu, hBX⟩ := hBX
    rw [ht] at hBX
    obtain ⟨hP, hD⟩ := my_join (Wc := [(kr, .inr (5, [.ref la, .ref ia, .ref na, .ref b4, .ref b6, .ref b8, .ref b10, .int (iI (((sh : Nat) : Int))), .int (iI (((it : Nat) : Int))), .int (iI (lc)), .int (iI (((dy : Nat) : Int))), .int (iI (pct)), .int (iI (lr)), .int (iI (sr))])), (ia, arQ cs 2 5 itf), (hi, .inr (1, [.int (iI (pk)), .int (iI (fs)), .ref ti, .ref go, .ref pr, .int (iI (st))])), (ti, .inr (0, [.ref uti])), (uti, arI cs 1005 fti)]) (W1 := [(kr, .inr (5, [.ref la, .ref ia, .ref na, .ref b4, .ref b6, .ref b8, .ref b10, .int (iI (((sh : Nat) : Int))), .int (iI (((it : Nat) : Int))), .int (iI (lc)), .int (iI (((dy : Nat) : Int))), .int (iI (pct)), .int (iI (lr)), .int (iI (sr))])), (ia, arQ cs 2 5 itf), (hi, .inr (1, [.int (iI (pk)), .int (iI (fs)), .ref ti, .ref go, .ref pr, .int (iI (st))])), (ti, .inr (0, [.ref uti])), (uti, arI cs 1005 fti)]) hP hD [1, 2, 3, 4, 5] rfl (⟨rfl, rfl, rfl, rfl, rfl, trivial⟩) rfl hk1 hBX
    have hP : va_P D vwCl [(po, .inl (cs 4, 1, .inr (.inl ov))), (kr, .inr (5, [.ref la, .ref ia, .ref na, .ref b4, .ref b6, .ref b8, .ref b10, .int (iI (((sh : Nat) : Int))), .int (iI (((it : Nat) : Int))), .int (iI (lc)), .int (iI (((dy : Nat) : Int))), .int (iI (pct)), .int (iI (lr)), .int (iI (sr))])), (ia, arQ cs 2 5 itf), (hi, .inr (1, [.int (iI (pk)), .int (iI (fs)), .ref ti, .ref go, .ref pr, .int (iI (st))])), (ti, .inr (0, [.ref uti])), (uti, arI cs 1005 fti)] H1 := hP
    have hD : va_D A [(po, .inl (cs 4, 1, .inr (.inl ov))), (kr, .inr (5, [.ref la, .ref ia, .ref na, .ref b4, .ref b6, .ref b8, .ref b10, .int (iI (((sh : Nat) : Int))), .int (iI (((it : Nat) : Int))), .int (iI (lc)), .int (iI (((dy : Nat) : Int))), .int (iI (pct)), .int (iI (lr)), .int (iI (sr))])), (ia, arQ cs 2 5 itf), (hi, .inr (1, [.int (iI (pk)), .int (iI (fs)), .ref ti, .ref go, .ref pr, .int (iI (st))])), (ti, .inr (0, [.ref uti])), (uti, arI cs 1005 fti)] := hD
    rcases hcd with hc3 | hcd
    · have hE3 : E = "java/lang/IllegalArgumentException" := by have h8 : E = exN u := hEu; rw [h8, h9, hc3]; rfl
      subst hE3
      refine vx_catch (name := "java/lang/IllegalArgumentException") hown [⟨0, 10, 13, 25⟩] ⟨0, 10, 17, 13⟩ [⟨0, 10, 21, 15⟩] (htab.trans rfl) (fun z hz => by
          simp only [List.mem_cons, List.not_mem_nil, or_false] at hz
          rcases hz with rfl
          · exact Or.inr ⟨by decide, "java/lang/IndexOutOfBoundsException", hts _ w_266, hE.2.2.2.2.2 _ (List.mem_of_getElem? (i := 8) rfl)⟩) rfl (by decide) (hts _ w_132) (hE.use _ (List.mem_append_right _ (List.mem_map.mpr ⟨_, List.mem_of_getElem? (i := 2) rfl, rfl⟩))) hce hcv hcl ?_
      refine lv_astore (lv' := [(4, .ref q9), (0, .ref kr), (1, .int (iI (((tn : Nat) : Int)))), (2, .int (iI (zu))), (3, .ref po)]) hx hb dL_supply_17 hl (by decide) rfl (fun ls hl => ?_)
      refine lv_iconst (v := iI (2)) hx hb dL_supply_19 rfl ?_
      subst hAe
      refine W.widen (k := 2) (n := 12) (by omega) (by omega) ?_
      have hres : iI (2) = iI (hkI [1, 3, 4] (if zu < 1 ∨ 9999 < zu then 3 else if 99999 < st + zu then 4 else 0)) := congrArg iI (by
          rw [hc3]; rfl)
      exact W.iret hx hb hr (fun t ht hW => ⟨⟨_, (), rfl, hres, by show va_P D vwCl _ t.heap; rw [ht]; exact hP⟩, hS.F ht⟩) hS.2.2 dL_supply_20
    have hc3 := hcd
    have hE3 : E = "java/lang/IllegalStateException" := by have h8 : E = exN u := hEu; rw [h8, h9, hc3]; rfl
    subst hE3
    refine vx_catch (name := "java/lang/IllegalStateException") hown [⟨0, 10, 13, 25⟩, ⟨0, 10, 17, 13⟩] ⟨0, 10, 21, 15⟩ [] (htab.trans rfl) (fun z hz => by
        simp only [List.mem_cons, List.not_mem_nil, or_false] at hz
        rcases hz with rfl | rfl
        · exact Or.inr ⟨by decide, "java/lang/IndexOutOfBoundsException", hts _ w_266, hE.2.2.2.2.2 _ (List.mem_of_getElem? (i := 9) rfl)⟩
        · exact Or.inr ⟨by decide, "java/lang/IllegalArgumentException", hts _ w_132, hE.2.2.2.2.2 _ (List.mem_of_getElem? (i := 0) rfl)⟩) rfl (by decide) (hts _ w_133) (hE.use _ (List.mem_append_right _ (List.mem_map.mpr ⟨_, List.mem_of_getElem? (i := 3) rfl, rfl⟩))) hce hcv hcl ?_
    refine lv_astore (lv' := [(4, .ref q9), (0, .ref kr), (1, .int (iI (((tn : Nat) : Int)))), (2, .int (iI (zu))), (3, .ref po)]) hx hb dL_supply_21 hl (by decide) rfl (fun ls hl => ?_)
    refine lv_iconst (v := iI (3)) hx hb dL_supply_23 rfl ?_
    subst hAe
    refine W.widen (k := 2) (n := 12) (by omega) (by omega) ?_
    have hres : iI (3) = iI (hkI [1, 3, 4] (if zu < 1 ∨ 9999 < zu then 3 else if 99999 < st + zu then 4 else 0)) := congrArg iI (by
        rw [hc3]; rfl)
    exact W.iret hx hb hr (fun t ht hW => ⟨⟨_, (), rfl, hres, by show va_P D vwCl _ t.heap; rw [ht]; exact hP⟩, hS.F ht⟩) hS.2.2 dL_supply_24
  obtain ⟨hc2, hw⟩ := hw
  subst hw
  rw [ht] at hB
  obtain ⟨hP, hD⟩ := my_join (W1 := [(kr, .inr (5, [.ref la, .ref ia, .ref na, .ref b4, .ref b6, .ref b8, .ref b10, .int (iI (((sh : Nat) : Int))), .int (iI (((it : Nat) : Int))), .int (iI (lc)), .int (iI (((dy : Nat) : Int))), .int (iI (pct)), .int (iI (lr)), .int (iI (sr))])), (ia, arQ cs 2 5 itf), (hi, .inr (1, [.int (iI (pk)), .int (iI (fs)), .ref ti, .ref go, .ref pr, .int (iI (st + zu))])), (ti, .inr (0, [.ref uti])), (uti, arI cs 1005 (upI fti dy (fti dy + zu)))]) hP hD [1, 2, 3, 4, 5] rfl pk1 rfl hk1 hB
  have hP : va_P D vwCl [(po, .inl (cs 4, 1, .inr (.inl ov))), (kr, .inr (5, [.ref la, .ref ia, .ref na, .ref b4, .ref b6, .ref b8, .ref b10, .int (iI (((sh : Nat) : Int))), .int (iI (((it : Nat) : Int))), .int (iI (lc)), .int (iI (((dy : Nat) : Int))), .int (iI (pct)), .int (iI (lr)), .int (iI (sr))])), (ia, arQ cs 2 5 itf), (hi, .inr (1, [.int (iI (pk)), .int (iI (fs)), .ref ti, .ref go, .ref pr, .int (iI (st + zu))])), (ti, .inr (0, [.ref uti])), (uti, arI cs 1005 (upI fti dy (fti dy + zu)))] H := hP
  have hD : va_D A [(po, .inl (cs 4, 1, .inr (.inl ov))), (kr, .inr (5, [.ref la, .ref ia, .ref na, .ref b4, .ref b6, .ref b8, .ref b10, .int (iI (((sh : Nat) : Int))), .int (iI (((it : Nat) : Int))), .int (iI (lc)), .int (iI (((dy : Nat) : Int))), .int (iI (pct)), .int (iI (lr)), .int (iI (sr))])), (ia, arQ cs 2 5 itf), (hi, .inr (1, [.int (iI (pk)), .int (iI (fs)), .ref ti, .ref go, .ref pr, .int (iI (st + zu))])), (ti, .inr (0, [.ref uti])), (uti, arI cs 1005 (upI fti dy (fti dy + zu)))] := hD
  exact absurd hc2 hne

abbrev ws_L_centre : List Cond := Cond.codeWith yL_centre cL_centre 4 (some .int) [(0, 9, 12, 25)] :: ALL
set_option maxHeartbeats 4000000 in
set_option maxRecDepth 100000 in
theorem m_L_centre_no_t (l : Launch) (hst : l.stackTraces = false) (D : va_G) (cs : Nat → ClassId) (kr la ia na b4 b6 b8 b10 sh it : Nat) (lc : Int) (dy : Nat) (pct lr sr : Int) (itf : Nat → Option Nat) (zi : Int) (po : Nat) (ov : Nat → Int64) (hit : it ≤ 5) (hitf : ∀ j, j < it → itf j ≠ none) (hzi : -2147483648 ≤ zi ∧ zi < 2147483648) (hno : cdS it zi ≠ 0) : Met l yL_centre ws_L_centre ({ frames := 8, cells := 1, slots := 6, locals := 125 }) (va_Pc [.ref kr, .int (iI (zi)), .ref po] (PE D cs [(po, .inl (cs 4, 1, .inr (.inl ov))), (kr, .inr (5, [.ref la, .ref ia, .ref na, .ref b4, .ref b6, .ref b8, .ref b10, .int (iI (((sh : Nat) : Int))), .int (iI (((it : Nat) : Int))), .int (iI (lc)), .int (iI (((dy : Nat) : Int))), .int (iI (pct)), .int (iI (lr)), .int (iI (sr))])), (ia, arQ cs 2 5 itf)] noA)) (va_Qi (fun r (_ : Unit) => r = iI (hkI [1] (cdS it zi))) (fun _ _ => True) noA) 1 6 noA := by
  refine va_MetW (cc := cL_centre) (maxL := 4) (ret := some .int) (hh := [(0, 9, 12, 25)]) (by decide +kernel) rfl ?_
  intro p e s m args below meth c s₁ B hml hv
  obtain ⟨rfl, ⟨hP, hK, hD, hN⟩, hE⟩ := hv
  have hx := B.exec
  have hb := B.bytes
  have hr := B.returns
  have hts : ∀ w ∈ ALL, w.before _ s = true := fun w h => atoms_spec (ws := ws_L_centre) B.pre w (List.mem_cons_of_mem _ h)
  have hown : s.vm.findClass RL = some m.cls := findClass_of_methodNamed B.named
  have hlocks := B.notSynchronized
  have htab : c.exceptionTable.toList = tableOf [(0, 9, 12, 25)] := vx_table (x := yL_centre) B (atoms_spec (ws := ws_L_centre) B.pre _ List.mem_cons_self)
  have hS : va_S noA s.heap s.heap [] := va_S.rf
  generalize inW [(po, .inl (cs 4, 1, .inr (.inl ov))), (kr, .inr (5, [.ref la, .ref ia, .ref na, .ref b4, .ref b6, .ref b8, .ref b10, .int (iI (((sh : Nat) : Int))), .int (iI (((it : Nat) : Int))), .int (iI (lc)), .int (iI (((dy : Nat) : Int))), .int (iI (pct)), .int (iI (lr)), .int (iI (sr))])), (ia, arQ cs 2 5 itf)] = A at hD
  have hl := lv_entry ([.ref kr, .int (iI (zi)), .ref po]) (n := 4) (Nat.le_of_ble_eq_true rfl)
  rw [lg_entry_eq]
  generalize (lg_sl ([.ref kr, .int (iI (zi)), .ref po]) ++ List.replicate (4 - (lg_sl ([.ref kr, .int (iI (zi)), .ref po])).length) Slot.unset).toArray = ls at hl ⊢
  have hl : lv_has ls 4 [(0, .ref kr), (1, .int (iI (zi))), (2, .ref po)] := hl
  have hH := rfl (a := s.heap)
  refine lv_aload_n hx hb dL_centre_0 rfl (lv_at hl 2 rfl) ?_
  refine lv_iconst (v := iI (0)) hx hb dL_centre_1 rfl ?_
  refine lv_aload_n hx hb dL_centre_2 rfl (lv_at hl 0 rfl) ?_
  refine lv_iload_n hx hb dL_centre_3 rfl (lv_at hl 1 rfl) ?_
  have pk1 : picks [(po, .inl (cs 4, 1, .inr (.inl ov))), (kr, .inr (5, [.ref la, .ref ia, .ref na, .ref b4, .ref b6, .ref b8, .ref b10, .int (iI (((sh : Nat) : Int))), .int (iI (((it : Nat) : Int))), .int (iI (lc)), .int (iI (((dy : Nat) : Int))), .int (iI (pct)), .int (iI (lr)), .int (iI (sr))])), (ia, arQ cs 2 5 itf)] [1, 2] [(kr, .inr (5, [.ref la, .ref ia, .ref na, .ref b4, .ref b6, .ref b8, .ref b10, .int (iI (((sh : Nat) : Int))), .int (iI (((it : Nat) : Int))), .int (iI (lc)), .int (iI (((dy : Nat) : Int))), .int (iI (pct)), .int (iI (lr)), .int (iI (sr))])), (ia, arQ cs 2 5 itf)] := ⟨rfl, rfl, trivial⟩
  refine vx_calli (vx_runV (As := [.int (iI (zi))]) (rest := [.int (iI (0)), .ref po]) ⟨hx, hb, hml, hown, hts⟩ (m_X5_centre_no l hst D cs kr la ia na b4 b6 b8 b10 sh it lc dy pct lr sr itf zi (hit) (hitf) (hzi) (hno)) (cwV 1 hts (gV w_757 w_758 w_759 w_1 w_760) rfl rfl rfl (by decide +kernel) ⟨Nat.le_of_ble_eq_true rfl, Nat.le_of_ble_eq_true rfl⟩) (PE_V hK hN hE hS (fun _ h => False.elim h) hP hD [1, 2] rfl pk1 rfl rfl) rfl rfl hl.1 rfl (lv_room (Nat.le_of_ble_eq_true rfl)) dL_centre_4 ⟨Nat.le_of_ble_eq_true rfl, Nat.le_of_ble_eq_true rfl⟩) hS (fun _ _ h => False.elim h) (fun _ h => False.elim h) (fun _ _ h => False.elim h) (fun E ce q9 u t H1 locs1 ht hvm hpx hBX hz1 hk1 hS1 hce hcv hcl => ?_) (fun r u t H locs ht hvm hw hB hz1 hk1 hS => ?_)
  · have h9 : u = cdS it zi := hpx.1
    have hS := hS1
    have hcd : cdS it zi = 1 := by
      revert hno
      (try unfold cdL); (try unfold cdS); (try unfold cdC)
      (repeat' split) <;> simp
    have hEu := hBX
    have hP := P_kept hP hk1
    have hc3 := hcd
    have hE3 : E = "java/lang/IndexOutOfBoundsException" := by have h8 : E = exN u := hEu; rw [h8, h9, hc3]; rfl
    subst hE3
    refine vx_catch (name := "java/lang/IndexOutOfBoundsException") hown [] ⟨0, 9, 12, 25⟩ [] (htab.trans rfl) (fun z hz => by cases hz) rfl (by decide) (hts _ w_266) (hE.use _ (List.mem_append_right _ (List.mem_map.mpr ⟨_, List.mem_of_getElem? (i := 0) rfl, rfl⟩))) hce hcv hcl ?_
    refine lv_astore_n (lv' := [(3, .ref q9), (0, .ref kr), (1, .int (iI (zi))), (2, .ref po)]) hx hb dL_centre_12 rfl hl (by decide) rfl (fun ls hl => ?_)
    refine lv_iconst (v := iI (1)) hx hb dL_centre_13 rfl ?_
    refine W.widen (k := 1) (n := 6) (by omega) (by omega) ?_
    have hres : iI (1) = iI (hkI [1] (cdS it zi)) := congrArg iI (by
        rw [hc3]; rfl)
    exact W.iret hx hb hr (fun t ht hW => ⟨⟨_, (), rfl, hres, trivial⟩, hS.F ht⟩) hS.2.2 dL_centre_14
  obtain ⟨hc2, hw⟩ := hw
  subst hw
  have hP := P_kept hP hk1
  exact absurd hc2 hno

set_option maxHeartbeats 4000000 in
set_option maxRecDepth 100000 in
theorem m_L_centre_ok_r (l : Launch) (hst : l.stackTraces = false) (D : va_G) (cs : Nat → ClassId) (kr la ia na b4 b6 b8 b10 sh it : Nat) (lc : Int) (dy : Nat) (pct lr sr : Int) (itf : Nat → Option Nat) (tn : Nat) (hi ti go pr : Nat) (pk fs st : Int) (po : Nat) (ov : Nat → Int64) (hit : it ≤ 5) (hitf : ∀ j, j < it → itf j ≠ none) (htn : tn < it) (hitn : itf tn = some hi) (hrr : -2147483648 ≤ st ∧ st < 2147483648) : Met l yL_centre ws_L_centre ({ frames := 8, cells := 1, slots := 6, locals := 125 }) (va_Pc [.ref kr, .int (iI (((tn : Nat) : Int))), .ref po] (PE D cs [(po, .inl (cs 4, 1, .inr (.inl ov))), (kr, .inr (5, [.ref la, .ref ia, .ref na, .ref b4, .ref b6, .ref b8, .ref b10, .int (iI (((sh : Nat) : Int))), .int (iI (((it : Nat) : Int))), .int (iI (lc)), .int (iI (((dy : Nat) : Int))), .int (iI (pct)), .int (iI (lr)), .int (iI (sr))])), (ia, arQ cs 2 5 itf), (hi, .inr (1, [.int (iI (pk)), .int (iI (fs)), .ref ti, .ref go, .ref pr, .int (iI (st))]))] (inW [(po, .inl (cs 4, 1, .inr (.inl ov))), (kr, .inr (5, [.ref la, .ref ia, .ref na, .ref b4, .ref b6, .ref b8, .ref b10, .int (iI (((sh : Nat) : Int))), .int (iI (((it : Nat) : Int))), .int (iI (lc)), .int (iI (((dy : Nat) : Int))), .int (iI (pct)), .int (iI (lr)), .int (iI (sr))])), (ia, arQ cs 2 5 itf), (hi, .inr (1, [.int (iI (pk)), .int (iI (fs)), .ref ti, .ref go, .ref pr, .int (iI (st))]))]))) (va_Qi (fun r (_ : Unit) => r = iI (0)) (fun _ t => va_P D vwCl [(po, .inl (cs 4, 1, .inr (.inl (vp_updL ov 0 (lI (st)))))), (kr, .inr (5, [.ref la, .ref ia, .ref na, .ref b4, .ref b6, .ref b8, .ref b10, .int (iI (((sh : Nat) : Int))), .int (iI (((it : Nat) : Int))), .int (iI (lc)), .int (iI (((dy : Nat) : Int))), .int (iI (pct)), .int (iI (lr)), .int (iI (sr))])), (ia, arQ cs 2 5 itf), (hi, .inr (1, [.int (iI (pk)), .int (iI (fs)), .ref ti, .ref go, .ref pr, .int (iI (st))]))] t.heap) (inW [(po, .inl (cs 4, 1, .inr (.inl ov))), (kr, .inr (5, [.ref la, .ref ia, .ref na, .ref b4, .ref b6, .ref b8, .ref b10, .int (iI (((sh : Nat) : Int))), .int (iI (((it : Nat) : Int))), .int (iI (lc)), .int (iI (((dy : Nat) : Int))), .int (iI (pct)), .int (iI (lr)), .int (iI (sr))])), (ia, arQ cs 2 5 itf), (hi, .inr (1, [.int (iI (pk)), .int (iI (fs)), .ref ti, .ref go, .ref pr, .int (iI (st))]))])) 1 6 (inW [(po, .inl (cs 4, 1, .inr (.inl ov))), (kr, .inr (5, [.ref la, .ref ia, .ref na, .ref b4, .ref b6, .ref b8, .ref b10, .int (iI (((sh : Nat) : Int))), .int (iI (((it : Nat) : Int))), .int (iI (lc)), .int (iI (((dy : Nat) : Int))), .int (iI (pct)), .int (iI (lr)), .int (iI (sr))])), (ia, arQ cs 2 5 itf), (hi, .inr (1, [.int (iI (pk)), .int (iI (fs)), .ref ti, .ref go, .ref pr, .int (iI (st))]))]) := by
  refine va_MetW (cc := cL_centre) (maxL := 4) (ret := some .int) (hh := [(0, 9, 12, 25)]) (by decide +kernel) rfl ?_
  intro p e s m args below meth c s₁ B hml hv
  obtain ⟨rfl, ⟨hP, hK, hD, hN⟩, hE⟩ := hv
  have hx := B.exec
  have hb := B.bytes
  have hr := B.returns
  have hts : ∀ w ∈ ALL, w.before _ s = true := fun w h => atoms_spec (ws := ws_L_centre) B.pre w (List.mem_cons_of_mem _ h)
  have hown : s.vm.findClass RL = some m.cls := findClass_of_methodNamed B.named
  have hlocks := B.notSynchronized
  have htab : c.exceptionTable.toList = tableOf [(0, 9, 12, 25)] := vx_table (x := yL_centre) B (atoms_spec (ws := ws_L_centre) B.pre _ List.mem_cons_self)
  generalize hAe : inW [(po, .inl (cs 4, 1, .inr (.inl ov))), (kr, .inr (5, [.ref la, .ref ia, .ref na, .ref b4, .ref b6, .ref b8, .ref b10, .int (iI (((sh : Nat) : Int))), .int (iI (((it : Nat) : Int))), .int (iI (lc)), .int (iI (((dy : Nat) : Int))), .int (iI (pct)), .int (iI (lr)), .int (iI (sr))])), (ia, arQ cs 2 5 itf), (hi, .inr (1, [.int (iI (pk)), .int (iI (fs)), .ref ti, .ref go, .ref pr, .int (iI (st))]))] = A at hD hE ⊢
  have hS : va_S A s.heap s.heap [] := va_S.rf
  have hl := lv_entry ([.ref kr, .int (iI (((tn : Nat) : Int))), .ref po]) (n := 4) (Nat.le_of_ble_eq_true rfl)
  rw [lg_entry_eq]
  generalize (lg_sl ([.ref kr, .int (iI (((tn : Nat) : Int))), .ref po]) ++ List.replicate (4 - (lg_sl ([.ref kr, .int (iI (((tn : Nat) : Int))), .ref po])).length) Slot.unset).toArray = ls at hl ⊢
  have hl : lv_has ls 4 [(0, .ref kr), (1, .int (iI (((tn : Nat) : Int)))), (2, .ref po)] := hl
  have hH := rfl (a := s.heap)
  refine lv_aload_n hx hb dL_centre_0 rfl (lv_at hl 2 rfl) ?_
  refine lv_iconst (v := iI (0)) hx hb dL_centre_1 rfl ?_
  refine lv_aload_n hx hb dL_centre_2 rfl (lv_at hl 0 rfl) ?_
  refine lv_iload_n hx hb dL_centre_3 rfl (lv_at hl 1 rfl) ?_
  have pk1 : picks [(po, .inl (cs 4, 1, .inr (.inl ov))), (kr, .inr (5, [.ref la, .ref ia, .ref na, .ref b4, .ref b6, .ref b8, .ref b10, .int (iI (((sh : Nat) : Int))), .int (iI (((it : Nat) : Int))), .int (iI (lc)), .int (iI (((dy : Nat) : Int))), .int (iI (pct)), .int (iI (lr)), .int (iI (sr))])), (ia, arQ cs 2 5 itf), (hi, .inr (1, [.int (iI (pk)), .int (iI (fs)), .ref ti, .ref go, .ref pr, .int (iI (st))]))] [1, 2, 3] [(kr, .inr (5, [.ref la, .ref ia, .ref na, .ref b4, .ref b6, .ref b8, .ref b10, .int (iI (((sh : Nat) : Int))), .int (iI (((it : Nat) : Int))), .int (iI (lc)), .int (iI (((dy : Nat) : Int))), .int (iI (pct)), .int (iI (lr)), .int (iI (sr))])), (ia, arQ cs 2 5 itf), (hi, .inr (1, [.int (iI (pk)), .int (iI (fs)), .ref ti, .ref go, .ref pr, .int (iI (st))]))] := ⟨rfl, rfl, rfl, trivial⟩
  refine vx_calli (vx_runV (As := [.int (iI (((tn : Nat) : Int)))]) (rest := [.int (iI (0)), .ref po]) ⟨hx, hb, hml, hown, hts⟩ (m_X5_centre_ok l hst D cs kr la ia na b4 b6 b8 b10 sh it lc dy pct lr sr itf tn hi ti go pr pk fs st (hit) (hitf) (htn) (hitn)) (cwV 1 hts (gV w_757 w_758 w_759 w_1 w_760) rfl rfl rfl (by decide +kernel) ⟨Nat.le_of_ble_eq_true rfl, Nat.le_of_ble_eq_true rfl⟩) (PE_V hK hN hE hS (fun _ h => False.elim h) hP hD [1, 2, 3] rfl pk1 rfl rfl) rfl rfl hl.1 rfl (lv_room (Nat.le_of_ble_eq_true rfl)) dL_centre_4 ⟨Nat.le_of_ble_eq_true rfl, Nat.le_of_ble_eq_true rfl⟩) hS (fun _ _ h => False.elim h) (fun _ h => False.elim h) (fun _ _ h => False.elim h) (fun E ce q9 u t H1 locs1 ht hvm hpx hBX hz1 hk1 hS1 hce hcv hcl => ?_) (fun r u t H locs ht hvm hw hB hz1 hk1 hS => ?_)
  · exact absurd (hpx.1) hpx.2
  obtain ⟨hc2, hw⟩ := hw
  subst hw
  have hP := P_kept hP hk1
  refine my_i2l hx hb dL_centre_7 (by omega) ?_
  refine my_last0 hx hb hK hP hD hS 0 rfl dL_centre_8 (fun H locs hP hD hS => ?_)
  have hP : va_P D vwCl [(po, .inl (cs 4, 1, .inr (.inl (vp_updL ov 0 (lI (st)))))), (kr, .inr (5, [.ref la, .ref ia, .ref na, .ref b4, .ref b6, .ref b8, .ref b10, .int (iI (((sh : Nat) : Int))), .int (iI (((it : Nat) : Int))), .int (iI (lc)), .int (iI (((dy : Nat) : Int))), .int (iI (pct)), .int (iI (lr)), .int (iI (sr))])), (ia, arQ cs 2 5 itf), (hi, .inr (1, [.int (iI (pk)), .int (iI (fs)), .ref ti, .ref go, .ref pr, .int (iI (st))]))] H := hP
  have hD : va_D A [(po, .inl (cs 4, 1, .inr (.inl (vp_updL ov 0 (lI (st)))))), (kr, .inr (5, [.ref la, .ref ia, .ref na, .ref b4, .ref b6, .ref b8, .ref b10, .int (iI (((sh : Nat) : Int))), .int (iI (((it : Nat) : Int))), .int (iI (lc)), .int (iI (((dy : Nat) : Int))), .int (iI (pct)), .int (iI (lr)), .int (iI (sr))])), (ia, arQ cs 2 5 itf), (hi, .inr (1, [.int (iI (pk)), .int (iI (fs)), .ref ti, .ref go, .ref pr, .int (iI (st))]))] := hD
  refine lv_goto (tgt := 15) hx hb dL_centre_9 (by decide) ?_
  refine lv_iconst (v := iI (0)) hx hb dL_centre_15 rfl ?_
  subst hAe
  refine W.widen (k := 1) (n := 6) (by omega) (by omega) ?_
  have hres : iI (0) = iI (0) := congrArg iI (by
      rfl)
  exact W.iret hx hb hr (fun t ht hW => ⟨⟨_, (), rfl, hres, by show va_P D vwCl _ t.heap; rw [ht]; exact hP⟩, hS.F ht⟩) hS.2.2 dL_centre_16

abbrev ws_L_centreByJournal : List Cond := Cond.codeWith yL_centreByJournal cL_centreByJournal 4 (some .int) [(0, 9, 12, 25)] :: ALL
set_option maxHeartbeats 4000000 in
set_option maxRecDepth 100000 in
theorem m_L_centreByJournal_no_t (l : Launch) (hst : l.stackTraces = false) (D : va_G) (cs : Nat → ClassId) (kr la ia na b4 b6 b8 b10 sh it : Nat) (lc : Int) (dy : Nat) (pct lr sr : Int) (itf : Nat → Option Nat) (zi : Int) (po : Nat) (ov : Nat → Int64) (hit : it ≤ 5) (hitf : ∀ j, j < it → itf j ≠ none) (hzi : -2147483648 ≤ zi ∧ zi < 2147483648) (hno : cdS it zi ≠ 0) : Met l yL_centreByJournal ws_L_centreByJournal ({ frames := 8, cells := 1, slots := 6, locals := 125 }) (va_Pc [.ref kr, .int (iI (zi)), .ref po] (PE D cs [(po, .inl (cs 4, 1, .inr (.inl ov))), (kr, .inr (5, [.ref la, .ref ia, .ref na, .ref b4, .ref b6, .ref b8, .ref b10, .int (iI (((sh : Nat) : Int))), .int (iI (((it : Nat) : Int))), .int (iI (lc)), .int (iI (((dy : Nat) : Int))), .int (iI (pct)), .int (iI (lr)), .int (iI (sr))])), (ia, arQ cs 2 5 itf)] noA)) (va_Qi (fun r (_ : Unit) => r = iI (hkI [1] (cdS it zi))) (fun _ _ => True) noA) 1 6 noA := by
  refine va_MetW (cc := cL_centreByJournal) (maxL := 4) (ret := some .int) (hh := [(0, 9, 12, 25)]) (by decide +kernel) rfl ?_
  intro p e s m args below meth c s₁ B hml hv
  obtain ⟨rfl, ⟨hP, hK, hD, hN⟩, hE⟩ := hv
  have hx := B.exec
  have hb := B.bytes
  have hr := B.returns
  have hts : ∀ w ∈ ALL, w.before _ s = true := fun w h => atoms_spec (ws := ws_L_centreByJournal) B.pre w (List.mem_cons_of_mem _ h)
  have hown : s.vm.findClass RL = some m.cls := findClass_of_methodNamed B.named
  have hlocks := B.notSynchronized
  have htab : c.exceptionTable.toList = tableOf [(0, 9, 12, 25)] := vx_table (x := yL_centreByJournal) B (atoms_spec (ws := ws_L_centreByJournal) B.pre _ List.mem_cons_self)
  have hS : va_S noA s.heap s.heap [] := va_S.rf
  generalize inW [(po, .inl (cs 4, 1, .inr (.inl ov))), (kr, .inr (5, [.ref la, .ref ia, .ref na, .ref b4, .ref b6, .ref b8, .ref b10, .int (iI (((sh : Nat) : Int))), .int (iI (((it : Nat) : Int))), .int (iI (lc)), .int (iI (((dy : Nat) : Int))), .int (iI (pct)), .int (iI (lr)), .int (iI (sr))])), (ia, arQ cs 2 5 itf)] = A at hD
  have hl := lv_entry ([.ref kr, .int (iI (zi)), .ref po]) (n := 4) (Nat.le_of_ble_eq_true rfl)
  rw [lg_entry_eq]
  generalize (lg_sl ([.ref kr, .int (iI (zi)), .ref po]) ++ List.replicate (4 - (lg_sl ([.ref kr, .int (iI (zi)), .ref po])).length) Slot.unset).toArray = ls at hl ⊢
  have hl : lv_has ls 4 [(0, .ref kr), (1, .int (iI (zi))), (2, .ref po)] := hl
  have hH := rfl (a := s.heap)
  refine lv_aload_n hx hb dL_centreByJournal_0 rfl (lv_at hl 2 rfl) ?_
  refine lv_iconst (v := iI (0)) hx hb dL_centreByJournal_1 rfl ?_
  refine lv_aload_n hx hb dL_centreByJournal_2 rfl (lv_at hl 0 rfl) ?_
  refine lv_iload_n hx hb dL_centreByJournal_3 rfl (lv_at hl 1 rfl) ?_
  have pk1 : picks [(po, .inl (cs 4, 1, .inr (.inl ov))), (kr, .inr (5, [.ref la, .ref ia, .ref na, .ref b4, .ref b6, .ref b8, .ref b10, .int (iI (((sh : Nat) : Int))), .int (iI (((it : Nat) : Int))), .int (iI (lc)), .int (iI (((dy : Nat) : Int))), .int (iI (pct)), .int (iI (lr)), .int (iI (sr))])), (ia, arQ cs 2 5 itf)] [1, 2] [(kr, .inr (5, [.ref la, .ref ia, .ref na, .ref b4, .ref b6, .ref b8, .ref b10, .int (iI (((sh : Nat) : Int))), .int (iI (((it : Nat) : Int))), .int (iI (lc)), .int (iI (((dy : Nat) : Int))), .int (iI (pct)), .int (iI (lr)), .int (iI (sr))])), (ia, arQ cs 2 5 itf)] := ⟨rfl, rfl, trivial⟩
  refine vx_calli (vx_runV (As := [.int (iI (zi))]) (rest := [.int (iI (0)), .ref po]) ⟨hx, hb, hml, hown, hts⟩ (m_X5_centreByJournal_no l hst D cs kr la ia na b4 b6 b8 b10 sh it lc dy pct lr sr itf zi (hit) (hitf) (hzi) (hno)) (cwV 1 hts (gV w_764 w_765 w_766 w_1 w_767) rfl rfl rfl (by decide +kernel) ⟨Nat.le_of_ble_eq_true rfl, Nat.le_of_ble_eq_true rfl⟩) (PE_V hK hN hE hS (fun _ h => False.elim h) hP hD [1, 2] rfl pk1 rfl rfl) rfl rfl hl.1 rfl (lv_room (Nat.le_of_ble_eq_true rfl)) dL_centreByJournal_4 ⟨Nat.le_of_ble_eq_true rfl, Nat.le_of_ble_eq_true rfl⟩) hS (fun _ _ h => False.elim h) (fun _ h => False.elim h) (fun _ _ h => False.elim h) (fun E ce q9 u t H1 locs1 ht hvm hpx hBX hz1 hk1 hS1 hce hcv hcl => ?_) (fun r u t H locs ht hvm hw hB hz1 hk1 hS => ?_)
  · have h9 : u = cdS it zi := hpx.1
    have hS := hS1
    have hcd : cdS it zi = 1 := by
      revert hno
      (try unfold cdL); (try unfold cdS); (try unfold cdC)
      (repeat' split) <;> simp
    have hEu := hBX
    have hP := P_kept hP hk1
    have hc3 := hcd
    have hE3 : E = "java/lang/IndexOutOfBoundsException" := by have h8 : E = exN u := hEu; rw [h8, h9, hc3]; rfl
    subst hE3
    refine vx_catch (name := "java/lang/IndexOutOfBoundsException") hown [] ⟨0, 9, 12, 25⟩ [] (htab.trans rfl) (fun z hz => by cases hz) rfl (by decide) (hts _ w_266) (hE.use _ (List.mem_append_right _ (List.mem_map.mpr ⟨_, List.mem_of_getElem? (i := 0) rfl, rfl⟩))) hce hcv hcl ?_
    refine lv_astore_n (lv' := [(3, .ref q9), (0, .ref kr), (1, .int (iI (zi))), (2, .ref po)]) hx hb dL_centreByJournal_12 rfl hl (by decide) rfl (fun ls hl => ?_)
    refine lv_iconst (v := iI (1)) hx hb dL_centreByJournal_13 rfl ?_
    refine W.widen (k := 1) (n := 6) (by omega) (by omega) ?_
    have hres : iI (1) = iI (hkI [1] (cdS it zi)) := congrArg iI (by
        rw [hc3]; rfl)
    exact W.iret hx hb hr (fun t ht hW => ⟨⟨_, (), rfl, hres, trivial⟩, hS.F ht⟩) hS.2.2 dL_centreByJournal_14
  obtain ⟨hc2, hw⟩ := hw
  subst hw
  have hP := P_kept hP hk1
  exact absurd hc2 hno

set_option maxHeartbeats 4000000 in
set_option maxRecDepth 100000 in
theorem m_L_centreByJournal_ok_r (l : Launch) (hst : l.stackTraces = false) (D : va_G) (cs : Nat → ClassId) (kr la ia na b4 b6 b8 b10 sh it : Nat) (lc : Int) (dy : Nat) (pct lr sr : Int) (itf : Nat → Option Nat) (tn : Nat) (hi ti go pr : Nat) (pk fs st : Int) (uti ugo : Nat) (fti fgo : Nat → Int) (po : Nat) (ov : Nat → Int64) (hit : it ≤ 5) (hitf : ∀ j, j < it → itf j ≠ none) (htn : tn < it) (hitn : itf tn = some hi) (hd : dy < 1000) (hrr : -2147483648 ≤ (fs + smI fti (dy + 1) - smI fgo (dy + 1)) ∧ (fs + smI fti (dy + 1) - smI fgo (dy + 1)) < 2147483648) : Met l yL_centreByJournal ws_L_centreByJournal ({ frames := 8, cells := 1, slots := 6, locals := 125 }) (va_Pc [.ref kr, .int (iI (((tn : Nat) : Int))), .ref po] (PE D cs [(po, .inl (cs 4, 1, .inr (.inl ov))), (kr, .inr (5, [.ref la, .ref ia, .ref na, .ref b4, .ref b6, .ref b8, .ref b10, .int (iI (((sh : Nat) : Int))), .int (iI (((it : Nat) : Int))), .int (iI (lc)), .int (iI (((dy : Nat) : Int))), .int (iI (pct)), .int (iI (lr)), .int (iI (sr))])), (ia, arQ cs 2 5 itf), (hi, .inr (1, [.int (iI (pk)), .int (iI (fs)), .ref ti, .ref go, .ref pr, .int (iI (st))])), (ti, .inr (0, [.ref uti])), (uti, arI cs 1005 fti), (go, .inr (0, [.ref ugo])), (ugo, arI cs 1005 fgo)] (inW [(po, .inl (cs 4, 1, .inr (.inl ov))), (kr, .inr (5, [.ref la, .ref ia, .ref na, .ref b4, .ref b6, .ref b8, .ref b10, .int (iI (((sh : Nat) : Int))), .int (iI (((it : Nat) : Int))), .int (iI (lc)), .int (iI (((dy : Nat) : Int))), .int (iI (pct)), .int (iI (lr)), .int (iI (sr))])), (ia, arQ cs 2 5 itf), (hi, .inr (1, [.int (iI (pk)), .int (iI (fs)), .ref ti, .ref go, .ref pr, .int (iI (st))])), (ti, .inr (0, [.ref uti])), (uti, arI cs 1005 fti), (go, .inr (0, [.ref ugo])), (ugo, arI cs 1005 fgo)]))) (va_Qi (fun r (_ : Unit) => r = iI (0)) (fun _ t => va_P D vwCl [(po, .inl (cs 4, 1, .inr (.inl (vp_updL ov 0 (lI (fs + smI fti (dy + 1) - smI fgo (dy + 1))))))), (kr, .inr (5, [.ref la, .ref ia, .ref na, .ref b4, .ref b6, .ref b8, .ref b10, .int (iI (((sh : Nat) : Int))), .int (iI (((it : Nat) : Int))), .int (iI (lc)), .int (iI (((dy : Nat) : Int))), .int (iI (pct)), .int (iI (lr)), .int (iI (sr))])), (ia, arQ cs 2 5 itf), (hi, .inr (1, [.int (iI (pk)), .int (iI (fs)), .ref ti, .ref go, .ref pr, .int (iI (st))])), (ti, .inr (0, [.ref uti])), (uti, arI cs 1005 fti), (go, .inr (0, [.ref ugo])), (ugo, arI cs 1005 fgo)] t.heap) (inW [(po, .inl (cs 4, 1, .inr (.inl ov))), (kr, .inr (5, [.ref la, .ref ia, .ref na, .ref b4, .ref b6, .ref b8, .ref b10, .int (iI (((sh : Nat) : Int))), .int (iI (((it : Nat) : Int))), .int (iI (lc)), .int (iI (((dy : Nat) : Int))), .int (iI (pct)), .int (iI (lr)), .int (iI (sr))])), (ia, arQ cs 2 5 itf), (hi, .inr (1, [.int (iI (pk)), .int (iI (fs)), .ref ti, .ref go, .ref pr, .int (iI (st))])), (ti, .inr (0, [.ref uti])), (uti, arI cs 1005 fti), (go, .inr (0, [.ref ugo])), (ugo, arI cs 1005 fgo)])) 1 6 (inW [(po, .inl (cs 4, 1, .inr (.inl ov))), (kr, .inr (5, [.ref la, .ref ia, .ref na, .ref b4, .ref b6, .ref b8, .ref b10, .int (iI (((sh : Nat) : Int))), .int (iI (((it : Nat) : Int))), .int (iI (lc)), .int (iI (((dy : Nat) : Int))), .int (iI (pct)), .int (iI (lr)), .int (iI (sr))])), (ia, arQ cs 2 5 itf), (hi, .inr (1, [.int (iI (pk)), .int (iI (fs)), .ref ti, .ref go, .ref pr, .int (iI (st))])), (ti, .inr (0, [.ref uti])), (uti, arI cs 1005 fti), (go, .inr (0, [.ref ugo])), (ugo, arI cs 1005 fgo)]) := by
  refine va_MetW (cc := cL_centreByJournal) (maxL := 4) (ret := some .int) (hh := [(0, 9, 12, 25)]) (by decide +kernel) rfl ?_
  intro p e s m args below meth c s₁ B hml hv
  obtain ⟨rfl, ⟨hP, hK, hD, hN⟩, hE⟩ := hv
  have hx := B.exec
  have hb := B.bytes
  have hr := B.returns
  have hts : ∀ w ∈ ALL, w.before _ s = true := fun w h => atoms_spec (ws := ws_L_centreByJournal) B.pre w (List.mem_cons_of_mem _ h)
  have hown : s.vm.findClass RL = some m.cls := findClass_of_methodNamed B.named
  have hlocks := B.notSynchronized
  have htab : c.exceptionTable.toList = tableOf [(0, 9, 12, 25)] := vx_table (x := yL_centreByJournal) B (atoms_spec (ws := ws_L_centreByJournal) B.pre _ List.mem_cons_self)
  generalize hAe : inW [(po, .inl (cs 4, 1, .inr (.inl ov))), (kr, .inr (5, [.ref la, .ref ia, .ref na, .ref b4, .ref b6, .ref b8, .ref b10, .int (iI (((sh : Nat) : Int))), .int (iI (((it : Nat) : Int))), .int (iI (lc)), .int (iI (((dy : Nat) : Int))), .int (iI (pct)), .int (iI (lr)), .int (iI (sr))])), (ia, arQ cs 2 5 itf), (hi, .inr (1, [.int (iI (pk)), .int (iI (fs)), .ref ti, .ref go, .ref pr, .int (iI (st))])), (ti, .inr (0, [.ref uti])), (uti, arI cs 1005 fti), (go, .inr (0, [.ref ugo])), (ugo, arI cs 1005 fgo)] = A at hD hE ⊢
  have hS : va_S A s.heap s.heap [] := va_S.rf
  have hl := lv_entry ([.ref kr, .int (iI (((tn : Nat) : Int))), .ref po]) (n := 4) (Nat.le_of_ble_eq_true rfl)
  rw [lg_entry_eq]
  generalize (lg_sl ([.ref kr, .int (iI (((tn : Nat) : Int))), .ref po]) ++ List.replicate (4 - (lg_sl ([.ref kr, .int (iI (((tn : Nat) : Int))), .ref po])).length) Slot.unset).toArray = ls at hl ⊢
  have hl : lv_has ls 4 [(0, .ref kr), (1, .int (iI (((tn : Nat) : Int)))), (2, .ref po)] := hl
  have hH := rfl (a := s.heap)
  refine lv_aload_n hx hb dL_centreByJournal_0 rfl (lv_at hl 2 rfl) ?_
  refine lv_iconst (v := iI (0)) hx hb dL_centreByJournal_1 rfl ?_
  refine lv_aload_n hx hb dL_centreByJournal_2 rfl (lv_at hl 0 rfl) ?_
  refine lv_iload_n hx hb dL_centreByJournal_3 rfl (lv_at hl 1 rfl) ?_
  have pk1 : picks [(po, .inl (cs 4, 1, .inr (.inl ov))), (kr, .inr (5, [.ref la, .ref ia, .ref na, .ref b4, .ref b6, .ref b8, .ref b10, .int (iI (((sh : Nat) : Int))), .int (iI (((it : Nat) : Int))), .int (iI (lc)), .int (iI (((dy : Nat) : Int))), .int (iI (pct)), .int (iI (lr)), .int (iI (sr))])), (ia, arQ cs 2 5 itf), (hi, .inr (1, [.int (iI (pk)), .int (iI (fs)), .ref ti, .ref go, .ref pr, .int (iI (st))])), (ti, .inr (0, [.ref uti])), (uti, arI cs 1005 fti), (go, .inr (0, [.ref ugo])), (ugo, arI cs 1005 fgo)] [1, 2, 3, 4, 5, 6, 7] [(kr, .inr (5, [.ref la, .ref ia, .ref na, .ref b4, .ref b6, .ref b8, .ref b10, .int (iI (((sh : Nat) : Int))), .int (iI (((it : Nat) : Int))), .int (iI (lc)), .int (iI (((dy : Nat) : Int))), .int (iI (pct)), .int (iI (lr)), .int (iI (sr))])), (ia, arQ cs 2 5 itf), (hi, .inr (1, [.int (iI (pk)), .int (iI (fs)), .ref ti, .ref go, .ref pr, .int (iI (st))])), (ti, .inr (0, [.ref uti])), (uti, arI cs 1005 fti), (go, .inr (0, [.ref ugo])), (ugo, arI cs 1005 fgo)] := ⟨rfl, rfl, rfl, rfl, rfl, rfl, rfl, trivial⟩
  refine vx_calli (vx_runV (As := [.int (iI (((tn : Nat) : Int)))]) (rest := [.int (iI (0)), .ref po]) ⟨hx, hb, hml, hown, hts⟩ (m_X5_centreByJournal_ok l hst D cs kr la ia na b4 b6 b8 b10 sh it lc dy pct lr sr itf tn hi ti go pr pk fs st uti ugo fti fgo (hit) (hitf) (htn) (hitn) (hd)) (cwV 1 hts (gV w_764 w_765 w_766 w_1 w_767) rfl rfl rfl (by decide +kernel) ⟨Nat.le_of_ble_eq_true rfl, Nat.le_of_ble_eq_true rfl⟩) (PE_V hK hN hE hS (fun _ h => False.elim h) hP hD [1, 2, 3, 4, 5, 6, 7] rfl pk1 rfl rfl) rfl rfl hl.1 rfl (lv_room (Nat.le_of_ble_eq_true rfl)) dL_centreByJournal_4 ⟨Nat.le_of_ble_eq_true rfl, Nat.le_of_ble_eq_true rfl⟩) hS (fun _ _ h => False.elim h) (fun _ h => False.elim h) (fun _ _ h => False.elim h) (fun E ce q9 u t H1 locs1 ht hvm hpx hBX hz1 hk1 hS1 hce hcv hcl => ?_) (fun r u t H locs ht hvm hw hB hz1 hk1 hS => ?_)
  · exact absurd (hpx.1) hpx.2
  obtain ⟨hc2, hw⟩ := hw
  subst hw
  have hP := P_kept hP hk1
  refine my_i2l hx hb dL_centreByJournal_7 (by omega) ?_
  refine my_last0 hx hb hK hP hD hS 0 rfl dL_centreByJournal_8 (fun H locs hP hD hS => ?_)
  have hP : va_P D vwCl [(po, .inl (cs 4, 1, .inr (.inl (vp_updL ov 0 (lI (fs + smI fti (dy + 1) - smI fgo (dy + 1))))))), (kr, .inr (5, [.ref la, .ref ia, .ref na, .ref b4, .ref b6, .ref b8, .ref b10, .int (iI (((sh : Nat) : Int))), .int (iI (((it : Nat) : Int))), .int (iI (lc)), .int (iI (((dy : Nat) : Int))), .int (iI (pct)), .int (iI (lr)), .int (iI (sr))])), (ia, arQ cs 2 5 itf), (hi, .inr (1, [.int (iI (pk)), .int (iI (fs)), .ref ti, .ref go, .ref pr, .int (iI (st))])), (ti, .inr (0, [.ref uti])), (uti, arI cs 1005 fti), (go, .inr (0, [.ref ugo])), (ugo, arI cs 1005 fgo)] H := hP
  have hD : va_D A [(po, .inl (cs 4, 1, .inr (.inl (vp_updL ov 0 (lI (fs + smI fti (dy + 1) - smI fgo (dy + 1))))))), (kr, .inr (5, [.ref la, .ref ia, .ref na, .ref b4, .ref b6, .ref b8, .ref b10, .int (iI (((sh : Nat) : Int))), .int (iI (((it : Nat) : Int))), .int (iI (lc)), .int (iI (((dy : Nat) : Int))), .int (iI (pct)), .int (iI (lr)), .int (iI (sr))])), (ia, arQ cs 2 5 itf), (hi, .inr (1, [.int (iI (pk)), .int (iI (fs)), .ref ti, .ref go, .ref pr, .int (iI (st))])), (ti, .inr (0, [.ref uti])), (uti, arI cs 1005 fti), (go, .inr (0, [.ref ugo])), (ugo, arI cs 1005 fgo)] := hD
  refine lv_goto (tgt := 15) hx hb dL_centreByJournal_9 (by decide) ?_
  refine lv_iconst (v := iI (0)) hx hb dL_centreByJournal_15 rfl ?_
  subst hAe
  refine W.widen (k := 1) (n := 6) (by omega) (by omega) ?_
  have hres : iI (0) = iI (0) := congrArg iI (by
      rfl)
  exact W.iret hx hb hr (fun t ht hW => ⟨⟨_, (), rfl, hres, by show va_P D vwCl _ t.heap; rw [ht]; exact hP⟩, hS.F ht⟩) hS.2.2 dL_centreByJournal_16

abbrev ws_L_night : List Cond := Cond.codeWith yL_night cL_night 3 (some .int) [(0, 8, 11, 15)] :: ALL
set_option maxHeartbeats 4000000 in
set_option maxRecDepth 100000 in
theorem m_L_night_no_r (l : Launch) (hst : l.stackTraces = false) (D : va_G) (cs : Nat → ClassId) (kr la ia na b4 b6 b8 b10 sh it : Nat) (lc : Int) (dy : Nat) (pct lr sr : Int) (po : Nat) (ov : Nat → Int64) (hd : dy = 999) (hz : 4 = 0) (hrr : -2147483648 ≤ 0 ∧ 0 < 2147483648) : Met l yL_night ws_L_night ({ frames := 7, cells := 1, slots := 6, locals := 104 }) (va_Pc [.ref kr, .ref po] (PE D cs [(po, .inl (cs 4, 1, .inr (.inl ov))), (kr, .inr (5, [.ref la, .ref ia, .ref na, .ref b4, .ref b6, .ref b8, .ref b10, .int (iI (((sh : Nat) : Int))), .int (iI (((it : Nat) : Int))), .int (iI (lc)), .int (iI (((dy : Nat) : Int))), .int (iI (pct)), .int (iI (lr)), .int (iI (sr))]))] (inW [(po, .inl (cs 4, 1, .inr (.inl ov))), (kr, .inr (5, [.ref la, .ref ia, .ref na, .ref b4, .ref b6, .ref b8, .ref b10, .int (iI (((sh : Nat) : Int))), .int (iI (((it : Nat) : Int))), .int (iI (lc)), .int (iI (((dy : Nat) : Int))), .int (iI (pct)), .int (iI (lr)), .int (iI (sr))]))]))) (va_Qi (fun r (_ : Unit) => r = iI (0)) (fun _ t => va_P D vwCl [(po, .inl (cs 4, 1, .inr (.inl (vp_updL ov 0 (lI (0)))))), (kr, .inr (5, [.ref la, .ref ia, .ref na, .ref b4, .ref b6, .ref b8, .ref b10, .int (iI (((sh : Nat) : Int))), .int (iI (((it : Nat) : Int))), .int (iI (lc)), .int (iI (((dy : Nat) : Int))), .int (iI (pct)), .int (iI (lr)), .int (iI (sr))]))] t.heap) (inW [(po, .inl (cs 4, 1, .inr (.inl ov))), (kr, .inr (5, [.ref la, .ref ia, .ref na, .ref b4, .ref b6, .ref b8, .ref b10, .int (iI (((sh : Nat) : Int))), .int (iI (((it : Nat) : Int))), .int (iI (lc)), .int (iI (((dy : Nat) : Int))), .int (iI (pct)), .int (iI (lr)), .int (iI (sr))]))])) 1 6 (inW [(po, .inl (cs 4, 1, .inr (.inl ov))), (kr, .inr (5, [.ref la, .ref ia, .ref na, .ref b4, .ref b6, .ref b8, .ref b10, .int (iI (((sh : Nat) : Int))), .int (iI (((it : Nat) : Int))), .int (iI (lc)), .int (iI (((dy : Nat) : Int))), .int (iI (pct)), .int (iI (lr)), .int (iI (sr))]))]) := by
  refine va_MetW (cc := cL_night) (maxL := 3) (ret := some .int) (hh := [(0, 8, 11, 15)]) (by decide +kernel) rfl ?_
  intro p e s m args below meth c s₁ B hml hv
  obtain ⟨rfl, ⟨hP, hK, hD, hN⟩, hE⟩ := hv
  have hx := B.exec
  have hb := B.bytes
  have hr := B.returns
  have hts : ∀ w ∈ ALL, w.before _ s = true := fun w h => atoms_spec (ws := ws_L_night) B.pre w (List.mem_cons_of_mem _ h)
  have hown : s.vm.findClass RL = some m.cls := findClass_of_methodNamed B.named
  have hlocks := B.notSynchronized
  have htab : c.exceptionTable.toList = tableOf [(0, 8, 11, 15)] := vx_table (x := yL_night) B (atoms_spec (ws := ws_L_night) B.pre _ List.mem_cons_self)
  generalize hAe : inW [(po, .inl (cs 4, 1, .inr (.inl ov))), (kr, .inr (5, [.ref la, .ref ia, .ref na, .ref b4, .ref b6, .ref b8, .ref b10, .int (iI (((sh : Nat) : Int))), .int (iI (((it : Nat) : Int))), .int (iI (lc)), .int (iI (((dy : Nat) : Int))), .int (iI (pct)), .int (iI (lr)), .int (iI (sr))]))] = A at hD hE ⊢
  have hS : va_S A s.heap s.heap [] := va_S.rf
  have hl := lv_entry ([.ref kr, .ref po]) (n := 3) (Nat.le_of_ble_eq_true rfl)
  rw [lg_entry_eq]
  generalize (lg_sl ([.ref kr, .ref po]) ++ List.replicate (3 - (lg_sl ([.ref kr, .ref po])).length) Slot.unset).toArray = ls at hl ⊢
  have hl : lv_has ls 3 [(0, .ref kr), (1, .ref po)] := hl
  have hH := rfl (a := s.heap)
  refine lv_aload_n hx hb dL_night_0 rfl (lv_at hl 1 rfl) ?_
  refine lv_iconst (v := iI (0)) hx hb dL_night_1 rfl ?_
  refine lv_aload_n hx hb dL_night_2 rfl (lv_at hl 0 rfl) ?_
  have pk1 : picks [(po, .inl (cs 4, 1, .inr (.inl ov))), (kr, .inr (5, [.ref la, .ref ia, .ref na, .ref b4, .ref b6, .ref b8, .ref b10, .int (iI (((sh : Nat) : Int))), .int (iI (((it : Nat) : Int))), .int (iI (lc)), .int (iI (((dy : Nat) : Int))), .int (iI (pct)), .int (iI (lr)), .int (iI (sr))]))] [1] [(kr, .inr (5, [.ref la, .ref ia, .ref na, .ref b4, .ref b6, .ref b8, .ref b10, .int (iI (((sh : Nat) : Int))), .int (iI (((it : Nat) : Int))), .int (iI (lc)), .int (iI (((dy : Nat) : Int))), .int (iI (pct)), .int (iI (lr)), .int (iI (sr))]))] := ⟨rfl, trivial⟩
  refine vx_calli (vx_runV (As := []) (rest := [.int (iI (0)), .ref po]) ⟨hx, hb, hml, hown, hts⟩ (m_X5_night_no l hst D cs kr la ia na b4 b6 b8 b10 sh it lc dy pct lr sr (hd)) (cwV 0 hts (gV w_510 w_511 w_512 w_1 w_513) rfl rfl rfl (by decide +kernel) ⟨Nat.le_of_ble_eq_true rfl, Nat.le_of_ble_eq_true rfl⟩) (PE_V hK hN hE hS (fun _ h => False.elim h) hP hD [1] rfl pk1 rfl rfl) rfl rfl hl.1 rfl (lv_room (Nat.le_of_ble_eq_true rfl)) dL_night_3 ⟨Nat.le_of_ble_eq_true rfl, Nat.le_of_ble_eq_true rfl⟩) hS (fun _ _ h => False.elim h) (fun _ h => False.elim h) (fun _ _ h => False.elim h) (fun E ce q9 u t H1 locs1 ht hvm hpx hBX hz1 hk1 hS1 hce hcv hcl => ?_) (fun r u t H locs ht hvm hw hB hz1 hk1 hS => ?_)
  · exact absurd (hpx.1.trans hz) hpx.2
  obtain ⟨hc2, hw⟩ := hw
  subst hw
  have hP := P_kept hP hk1
  refine my_i2l hx hb dL_night_6 (by omega) ?_
  refine my_last0 hx hb hK hP hD hS 0 rfl dL_night_7 (fun H locs hP hD hS => ?_)
  have hP : va_P D vwCl [(po, .inl (cs 4, 1, .inr (.inl (vp_updL ov 0 (lI (0)))))), (kr, .inr (5, [.ref la, .ref ia, .ref na, .ref b4, .ref b6, .ref b8, .ref b10, .int (iI (((sh : Nat) : Int))), .int (iI (((it : Nat) : Int))), .int (iI (lc)), .int (iI (((dy : Nat) : Int))), .int (iI (pct)), .int (iI (lr)), .int (iI (sr))]))] H := hP
  have hD : va_D A [(po, .inl (cs 4, 1, .inr (.inl (vp_updL ov 0 (lI (0)))))), (kr, .inr (5, [.ref la, .ref ia, .ref na, .ref b4, .ref b6, .ref b8, .ref b10, .int (iI (((sh : Nat) : Int))), .int (iI (((it : Nat) : Int))), .int (iI (lc)), .int (iI (((dy : Nat) : Int))), .int (iI (pct)), .int (iI (lr)), .int (iI (sr))]))] := hD
  refine lv_goto (tgt := 14) hx hb dL_night_8 (by decide) ?_
  refine lv_iconst (v := iI (0)) hx hb dL_night_14 rfl ?_
  subst hAe
  refine W.widen (k := 1) (n := 6) (by omega) (by omega) ?_
  have hres : iI (0) = iI (0) := congrArg iI (by
      rfl)
  exact W.iret hx hb hr (fun t ht hW => ⟨⟨_, (), rfl, hres, by show va_P D vwCl _ t.heap; rw [ht]; exact hP⟩, hS.F ht⟩) hS.2.2 dL_night_15

set_option maxHeartbeats 4000000 in
set_option maxRecDepth 100000 in
theorem m_L_night_no_t (l : Launch) (hst : l.stackTraces = false) (D : va_G) (cs : Nat → ClassId) (kr la ia na b4 b6 b8 b10 sh it : Nat) (lc : Int) (dy : Nat) (pct lr sr : Int) (po : Nat) (ov : Nat → Int64) (hd : dy = 999) (hne : 4 ≠ 0) : Met l yL_night ws_L_night ({ frames := 7, cells := 1, slots := 6, locals := 104 }) (va_Pc [.ref kr, .ref po] (PE D cs [(po, .inl (cs 4, 1, .inr (.inl ov))), (kr, .inr (5, [.ref la, .ref ia, .ref na, .ref b4, .ref b6, .ref b8, .ref b10, .int (iI (((sh : Nat) : Int))), .int (iI (((it : Nat) : Int))), .int (iI (lc)), .int (iI (((dy : Nat) : Int))), .int (iI (pct)), .int (iI (lr)), .int (iI (sr))]))] noA)) (va_Qi (fun r (_ : Unit) => r = iI (hkI [4] 4)) (fun _ _ => True) noA) 1 6 noA := by
  refine va_MetW (cc := cL_night) (maxL := 3) (ret := some .int) (hh := [(0, 8, 11, 15)]) (by decide +kernel) rfl ?_
  intro p e s m args below meth c s₁ B hml hv
  obtain ⟨rfl, ⟨hP, hK, hD, hN⟩, hE⟩ := hv
  have hx := B.exec
  have hb := B.bytes
  have hr := B.returns
  have hts : ∀ w ∈ ALL, w.before _ s = true := fun w h => atoms_spec (ws := ws_L_night) B.pre w (List.mem_cons_of_mem _ h)
  have hown : s.vm.findClass RL = some m.cls := findClass_of_methodNamed B.named
  have hlocks := B.notSynchronized
  have htab : c.exceptionTable.toList = tableOf [(0, 8, 11, 15)] := vx_table (x := yL_night) B (atoms_spec (ws := ws_L_night) B.pre _ List.mem_cons_self)
  have hS : va_S noA s.heap s.heap [] := va_S.rf
  generalize inW [(po, .inl (cs 4, 1, .inr (.inl ov))), (kr, .inr (5, [.ref la, .ref ia, .ref na, .ref b4, .ref b6, .ref b8, .ref b10, .int (iI (((sh : Nat) : Int))), .int (iI (((it : Nat) : Int))), .int (iI (lc)), .int (iI (((dy : Nat) : Int))), .int (iI (pct)), .int (iI (lr)), .int (iI (sr))]))] = A at hD
  have hl := lv_entry ([.ref kr, .ref po]) (n := 3) (Nat.le_of_ble_eq_true rfl)
  rw [lg_entry_eq]
  generalize (lg_sl ([.ref kr, .ref po]) ++ List.replicate (3 - (lg_sl ([.ref kr, .ref po])).length) Slot.unset).toArray = ls at hl ⊢
  have hl : lv_has ls 3 [(0, .ref kr), (1, .ref po)] := hl
  have hH := rfl (a := s.heap)
  refine lv_aload_n hx hb dL_night_0 rfl (lv_at hl 1 rfl) ?_
  refine lv_iconst (v := iI (0)) hx hb dL_night_1 rfl ?_
  refine lv_aload_n hx hb dL_night_2 rfl (lv_at hl 0 rfl) ?_
  have pk1 : picks [(po, .inl (cs 4, 1, .inr (.inl ov))), (kr, .inr (5, [.ref la, .ref ia, .ref na, .ref b4, .ref b6, .ref b8, .ref b10, .int (iI (((sh : Nat) : Int))), .int (iI (((it : Nat) : Int))), .int (iI (lc)), .int (iI (((dy : Nat) : Int))), .int (iI (pct)), .int (iI (lr)), .int (iI (sr))]))] [1] [(kr, .inr (5, [.ref la, .ref ia, .ref na, .ref b4, .ref b6, .ref b8, .ref b10, .int (iI (((sh : Nat) : Int))), .int (iI (((it : Nat) : Int))), .int (iI (lc)), .int (iI (((dy : Nat) : Int))), .int (iI (pct)), .int (iI (lr)), .int (iI (sr))]))] := ⟨rfl, trivial⟩
  refine vx_calli (vx_runV (As := []) (rest := [.int (iI (0)), .ref po]) ⟨hx, hb, hml, hown, hts⟩ (m_X5_night_no l hst D cs kr la ia na b4 b6 b8 b10 sh it lc dy pct lr sr (hd)) (cwV 0 hts (gV w_510 w_511 w_512 w_1 w_513) rfl rfl rfl (by decide +kernel) ⟨Nat.le_of_ble_eq_true rfl, Nat.le_of_ble_eq_true rfl⟩) (PE_V hK hN hE hS (fun _ h => False.elim h) hP hD [1] rfl pk1 rfl rfl) rfl rfl hl.1 rfl (lv_room (Nat.le_of_ble_eq_true rfl)) dL_night_3 ⟨Nat.le_of_ble_eq_true rfl, Nat.le_of_ble_eq_true rfl⟩) hS (fun _ _ h => False.elim h) (fun _ h => False.elim h) (fun _ _ h => False.elim h) (fun E ce q9 u t H1 locs1 ht hvm hpx hBX hz1 hk1 hS1 hce hcv hcl => ?_) (fun r u t H locs ht hvm hw hB hz1 hk1 hS => ?_)
  · have h9 : u = 4 := hpx.1
    have hS := hS1
    have hcd : 4 = 4 := by
      revert hne
      (try unfold cdL); (try unfold cdS); (try unfold cdC)
      (repeat' split) <;> simp
    have hEu := hBX
    have hP := P_kept hP hk1
    have hc3 := hcd
    have hE3 : E = "java/lang/IllegalStateException" := by have h8 : E = exN u := hEu; rw [h8, h9, hc3]; rfl
    subst hE3
    refine vx_catch (name := "java/lang/IllegalStateException") hown [] ⟨0, 8, 11, 15⟩ [] (htab.trans rfl) (fun z hz => by cases hz) rfl (by decide) (hts _ w_133) (hE.use _ (List.mem_append_right _ (List.mem_map.mpr ⟨_, List.mem_of_getElem? (i := 3) rfl, rfl⟩))) hce hcv hcl ?_
    refine lv_astore_n (lv' := [(2, .ref q9), (0, .ref kr), (1, .ref po)]) hx hb dL_night_11 rfl hl (by decide) rfl (fun ls hl => ?_)
    refine lv_iconst (v := iI (1)) hx hb dL_night_12 rfl ?_
    refine W.widen (k := 1) (n := 6) (by omega) (by omega) ?_
    have hres : iI (1) = iI (hkI [4] 4) := congrArg iI (by
        rw [hc3]; rfl)
    exact W.iret hx hb hr (fun t ht hW => ⟨⟨_, (), rfl, hres, trivial⟩, hS.F ht⟩) hS.2.2 dL_night_13
  obtain ⟨hc2, hw⟩ := hw
  subst hw
  have hP := P_kept hP hk1
  exact absurd hc2 hne

set_option maxHeartbeats 4000000 in
set_option maxRecDepth 100000 in
theorem m_L_night_ok_r (l : Launch) (hst : l.stackTraces = false) (D : va_G) (cs : Nat → ClassId) (kr la ia na b4 b6 b8 b10 sh it : Nat) (lc : Int) (dy : Nat) (pct lr sr : Int) (ulr usr ur uq ug : Nat) (lf lrf srf rse rq gv : Nat → Int) (rv pn : Int) (IA LA : Nat → Nat → Nat) (cr : Nat → Bool) (IR : Nat → IT) (LR : Nat → LT) (po : Nat) (ov : Nat → Int64) (hsh : sh ≤ 4) (hit : it ≤ 5) (hci : ∀ a, cr a = true → a % 5 < it ∧ a / 5 < sh) (hpr : ∀ i j, 0 ≤ ipr (IR i) j ∧ ipr (IR i) j ≤ 1) (hlv : ∀ a, 0 ≤ llv (LR a) ∧ llv (LR a) ≤ 9990000) (hse : ∀ a w, 100 ≤ lse (LR a) w ∧ lse (LR a) w ≤ 5000) (hdm : ∀ a j, 0 ≤ ldm (LR a) j ∧ ldm (LR a) j ≤ 999) (hd : dy < 999) (hlr : 0 ≤ lr ∧ lr ≤ 100) (hsr : 0 ≤ sr ∧ sr ≤ 100) (hpc : 1 ≤ pct ∧ pct ≤ 100) (hlk : ∀ a, lOK (dy + 1) ((qS cr (rcvR (dy + 1)) (qS (cL cr IR dy) (lrnR dy lr sr) LR 20) 20) a)) (hik : ∀ i, iOK (IR i)) (hrr : -2147483648 ≤ ((ntS (dy + 1) pct cr sh (IR, (qS cr (rcvR (dy + 1)) (qS (cL cr IR dy) (lrnR dy lr sr) LR 20) 20), rq, pn, 0) it).2.2.2.2) ∧ ((ntS (dy + 1) pct cr sh (IR, (qS cr (rcvR (dy + 1)) (qS (cL cr IR dy) (lrnR dy lr sr) LR 20) 20), rq, pn, 0) it).2.2.2.2) < 2147483648) : Met l yL_night ws_L_night ({ frames := 7, cells := 0, slots := 0, locals := 162 }) (va_Pc [.ref kr, .ref po] (PE D cs ([(po, .inl (cs 4, 1, .inr (.inl ov))), (kr, .inr (5, [.ref la, .ref ia, .ref na, .ref b4, .ref b6, .ref b8, .ref b10, .int (iI (((sh : Nat) : Int))), .int (iI (((it : Nat) : Int))), .int (iI (lc)), .int (iI (((dy : Nat) : Int))), .int (iI (pct)), .int (iI (lr)), .int (iI (sr))])), (la, arI cs 4 lf), (ia, arQ cs 2 5 (itq it IA)), (na, arQ cs 3 20 (lnq cr LA)), (b4, .inr (0, [.ref ulr])), (ulr, arI cs 1005 lrf), (b6, .inr (0, [.ref usr])), (usr, arI cs 1005 srf), (b8, .inr (2, [.ref ur, .int (iI (rv))])), (ur, arI cs 7 rse), (b10, .inr (4, [.ref uq, .ref ug, .int (iI (pn))])), (uq, arI cs 4 rq), (ug, arI cs 4 gv)] ++ (aW cs IA LA it cr IR LR)) (inW ([(po, .inl (cs 4, 1, .inr (.inl ov))), (kr, .inr (5, [.ref la, .ref ia, .ref na, .ref b4, .ref b6, .ref b8, .ref b10, .int (iI (((sh : Nat) : Int))), .int (iI (((it : Nat) : Int))), .int (iI (lc)), .int (iI (((dy : Nat) : Int))), .int (iI (pct)), .int (iI (lr)), .int (iI (sr))])), (la, arI cs 4 lf), (ia, arQ cs 2 5 (itq it IA)), (na, arQ cs 3 20 (lnq cr LA)), (b4, .inr (0, [.ref ulr])), (ulr, arI cs 1005 lrf), (b6, .inr (0, [.ref usr])), (usr, arI cs 1005 srf), (b8, .inr (2, [.ref ur, .int (iI (rv))])), (ur, arI cs 7 rse), (b10, .inr (4, [.ref uq, .ref ug, .int (iI (pn))])), (uq, arI cs 4 rq), (ug, arI cs 4 gv)] ++ (aW cs IA LA it cr IR LR))))) (va_Qi (fun r (_ : Unit) => r = iI (0)) (fun _ t => va_P D vwCl ([(po, .inl (cs 4, 1, .inr (.inl (vp_updL ov 0 (lI ((ntS (dy + 1) pct cr sh (IR, (qS cr (rcvR (dy + 1)) (qS (cL cr IR dy) (lrnR dy lr sr) LR 20) 20), rq, pn, 0) it).2.2.2.2)))))), (kr, .inr (5, [.ref la, .ref ia, .ref na, .ref b4, .ref b6, .ref b8, .ref b10, .int (iI (((sh : Nat) : Int))), .int (iI (((it : Nat) : Int))), .int (iI (lc)), .int (iI ((((dy + 1) : Nat) : Int))), .int (iI (pct)), .int (iI (lr)), .int (iI (sr))])), (la, arI cs 4 lf), (ia, arQ cs 2 5 (itq it IA)), (na, arQ cs 3 20 (lnq cr LA)), (b4, .inr (0, [.ref ulr])), (ulr, arI cs 1005 (upI lrf dy (lrf dy + lr))), (b6, .inr (0, [.ref usr])), (usr, arI cs 1005 (upI srf dy (srf dy + sr))), (b8, .inr (2, [.ref ur, .int (iI (rv))])), (ur, arI cs 7 rse), (b10, .inr (4, [.ref uq, .ref ug, .int (iI ((ntS (dy + 1) pct cr sh (IR, (qS cr (rcvR (dy + 1)) (qS (cL cr IR dy) (lrnR dy lr sr) LR 20) 20), rq, pn, 0) it).2.2.2.1))])), (uq, arI cs 4 ((ntS (dy + 1) pct cr sh (IR, (qS cr (rcvR (dy + 1)) (qS (cL cr IR dy) (lrnR dy lr sr) LR 20) 20), rq, pn, 0) it).2.2.1)), (ug, arI cs 4 gv)] ++ (aW cs IA LA it cr ((ntS (dy + 1) pct cr sh (IR, (qS cr (rcvR (dy + 1)) (qS (cL cr IR dy) (lrnR dy lr sr) LR 20) 20), rq, pn, 0) it).1) ((ntS (dy + 1) pct cr sh (IR, (qS cr (rcvR (dy + 1)) (qS (cL cr IR dy) (lrnR dy lr sr) LR 20) 20), rq, pn, 0) it).2.1))) t.heap) (inW ([(po, .inl (cs 4, 1, .inr (.inl ov))), (kr, .inr (5, [.ref la, .ref ia, .ref na, .ref b4, .ref b6, .ref b8, .ref b10, .int (iI (((sh : Nat) : Int))), .int (iI (((it : Nat) : Int))), .int (iI (lc)), .int (iI (((dy : Nat) : Int))), .int (iI (pct)), .int (iI (lr)), .int (iI (sr))])), (la, arI cs 4 lf), (ia, arQ cs 2 5 (itq it IA)), (na, arQ cs 3 20 (lnq cr LA)), (b4, .inr (0, [.ref ulr])), (ulr, arI cs 1005 lrf), (b6, .inr (0, [.ref usr])), (usr, arI cs 1005 srf), (b8, .inr (2, [.ref ur, .int (iI (rv))])), (ur, arI cs 7 rse), (b10, .inr (4, [.ref uq, .ref ug, .int (iI (pn))])), (uq, arI cs 4 rq), (ug, arI cs 4 gv)] ++ (aW cs IA LA it cr IR LR)))) 0 0 (inW ([(po, .inl (cs 4, 1, .inr (.inl ov))), (kr, .inr (5, [.ref la, .ref ia, .ref na, .ref b4, .ref b6, .ref b8, .ref b10, .int (iI (((sh : Nat) : Int))), .int (iI (((it : Nat) : Int))), .int (iI (lc)), .int (iI (((dy : Nat) : Int))), .int (iI (pct)), .int (iI (lr)), .int (iI (sr))])), (la, arI cs 4 lf), (ia, arQ cs 2 5 (itq it IA)), (na, arQ cs 3 20 (lnq cr LA)), (b4, .inr (0, [.ref ulr])), (ulr, arI cs 1005 lrf), (b6, .inr (0, [.ref usr])), (usr, arI cs 1005 srf), (b8, .inr (2, [.ref ur, .int (iI (rv))])), (ur, arI cs 7 rse), (b10, .inr (4, [.ref uq, .ref ug, .int (iI (pn))])), (uq, arI cs 4 rq), (ug, arI cs 4 gv)] ++ (aW cs IA LA it cr IR LR))) := by
  refine va_MetW (cc := cL_night) (maxL := 3) (ret := some .int) (hh := [(0, 8, 11, 15)]) (by decide +kernel) rfl ?_
  intro p e s m args below meth c s₁ B hml hv
  obtain ⟨rfl, ⟨hP, hK, hD, hN⟩, hE⟩ := hv
  have hx := B.exec
  have hb := B.bytes
  have hr := B.returns
  have hts : ∀ w ∈ ALL, w.before _ s = true := fun w h => atoms_spec (ws := ws_L_night) B.pre w (List.mem_cons_of_mem _ h)
  have hown : s.vm.findClass RL = some m.cls := findClass_of_methodNamed B.named
  have hlocks := B.notSynchronized
  have htab : c.exceptionTable.toList = tableOf [(0, 8, 11, 15)] := vx_table (x := yL_night) B (atoms_spec (ws := ws_L_night) B.pre _ List.mem_cons_self)
  generalize hAe : inW ([(po, .inl (cs 4, 1, .inr (.inl ov))), (kr, .inr (5, [.ref la, .ref ia, .ref na, .ref b4, .ref b6, .ref b8, .ref b10, .int (iI (((sh : Nat) : Int))), .int (iI (((it : Nat) : Int))), .int (iI (lc)), .int (iI (((dy : Nat) : Int))), .int (iI (pct)), .int (iI (lr)), .int (iI (sr))])), (la, arI cs 4 lf), (ia, arQ cs 2 5 (itq it IA)), (na, arQ cs 3 20 (lnq cr LA)), (b4, .inr (0, [.ref ulr])), (ulr, arI cs 1005 lrf), (b6, .inr (0, [.ref usr])), (usr, arI cs 1005 srf), (b8, .inr (2, [.ref ur, .int (iI (rv))])), (ur, arI cs 7 rse), (b10, .inr (4, [.ref uq, .ref ug, .int (iI (pn))])), (uq, arI cs 4 rq), (ug, arI cs 4 gv)] ++ (aW cs IA LA it cr IR LR)) = A at hD hE ⊢
  have hS : va_S A s.heap s.heap [] := va_S.rf
  have hl := lv_entry ([.ref kr, .ref po]) (n := 3) (Nat.le_of_ble_eq_true rfl)
  rw [lg_entry_eq]
  generalize (lg_sl ([.ref kr, .ref po]) ++ List.replicate (3 - (lg_sl ([.ref kr, .ref po])).length) Slot.unset).toArray = ls at hl ⊢
  have hl : lv_has ls 3 [(0, .ref kr), (1, .ref po)] := hl
  have hH := rfl (a := s.heap)
  refine lv_aload_n hx hb dL_night_0 rfl (lv_at hl 1 rfl) ?_
  refine lv_iconst (v := iI (0)) hx hb dL_night_1 rfl ?_
  refine lv_aload_n hx hb dL_night_2 rfl (lv_at hl 0 rfl) ?_
  refine vx_calli (vx_runV (As := []) (rest := [.int (iI (0)), .ref po]) ⟨hx, hb, hml, hown, hts⟩ (m_X5_night_ok l hst D cs kr la ia na b4 b6 b8 b10 sh it lc dy pct lr sr ulr usr ur uq ug lf lrf srf rse rq gv rv pn IA LA cr IR LR (hsh) (hit) (hci) (hpr) (hlv) (hse) (hdm) (hd) (hlr) (hsr) (hpc) (hlk) (hik)) (cwV 0 hts (gV w_510 w_511 w_512 w_1 w_513) rfl rfl rfl (by decide +kernel) ⟨Nat.le_of_ble_eq_true rfl, Nat.le_of_ble_eq_true rfl⟩) (PE_Va hK hN hE hS (fun q h => inW_suba (D_R (E := [(po, .inl (cs 4, 1, .inr (.inl ov)))]) (Wc := ([(kr, .inr (5, [.ref la, .ref ia, .ref na, .ref b4, .ref b6, .ref b8, .ref b10, .int (iI (((sh : Nat) : Int))), .int (iI (((it : Nat) : Int))), .int (iI (lc)), .int (iI (((dy : Nat) : Int))), .int (iI (pct)), .int (iI (lr)), .int (iI (sr))])), (la, arI cs 4 lf), (ia, arQ cs 2 5 (itq it IA)), (na, arQ cs 3 20 (lnq cr LA)), (b4, .inr (0, [.ref ulr])), (ulr, arI cs 1005 lrf), (b6, .inr (0, [.ref usr])), (usr, arI cs 1005 srf), (b8, .inr (2, [.ref ur, .int (iI (rv))])), (ur, arI cs 7 rse), (b10, .inr (4, [.ref uq, .ref ug, .int (iI (pn))])), (uq, arI cs 4 rq), (ug, arI cs 4 gv)] ++ (aW cs IA LA it cr IR LR))) hD) q h) (P_R (E := [(po, .inl (cs 4, 1, .inr (.inl ov)))]) (Wc := ([(kr, .inr (5, [.ref la, .ref ia, .ref na, .ref b4, .ref b6, .ref b8, .ref b10, .int (iI (((sh : Nat) : Int))), .int (iI (((it : Nat) : Int))), .int (iI (lc)), .int (iI (((dy : Nat) : Int))), .int (iI (pct)), .int (iI (lr)), .int (iI (sr))])), (la, arI cs 4 lf), (ia, arQ cs 2 5 (itq it IA)), (na, arQ cs 3 20 (lnq cr LA)), (b4, .inr (0, [.ref ulr])), (ulr, arI cs 1005 lrf), (b6, .inr (0, [.ref usr])), (usr, arI cs 1005 srf), (b8, .inr (2, [.ref ur, .int (iI (rv))])), (ur, arI cs 7 rse), (b10, .inr (4, [.ref uq, .ref ug, .int (iI (pn))])), (uq, arI cs 4 rq), (ug, arI cs 4 gv)] ++ (aW cs IA LA it cr IR LR))) hP) (D_R (E := [(po, .inl (cs 4, 1, .inr (.inl ov)))]) (Wc := ([(kr, .inr (5, [.ref la, .ref ia, .ref na, .ref b4, .ref b6, .ref b8, .ref b10, .int (iI (((sh : Nat) : Int))), .int (iI (((it : Nat) : Int))), .int (iI (lc)), .int (iI (((dy : Nat) : Int))), .int (iI (pct)), .int (iI (lr)), .int (iI (sr))])), (la, arI cs 4 lf), (ia, arQ cs 2 5 (itq it IA)), (na, arQ cs 3 20 (lnq cr LA)), (b4, .inr (0, [.ref ulr])), (ulr, arI cs 1005 lrf), (b6, .inr (0, [.ref usr])), (usr, arI cs 1005 srf), (b8, .inr (2, [.ref ur, .int (iI (rv))])), (ur, arI cs 7 rse), (b10, .inr (4, [.ref uq, .ref ug, .int (iI (pn))])), (uq, arI cs 4 rq), (ug, arI cs 4 gv)] ++ (aW cs IA LA it cr IR LR))) hD) rfl rfl) rfl rfl hl.1 rfl (lv_room (Nat.le_of_ble_eq_true rfl)) dL_night_3 ⟨Nat.le_of_ble_eq_true rfl, Nat.le_of_ble_eq_true rfl⟩) hS (fun q _ h => inW_suba (D_R (E := [(po, .inl (cs 4, 1, .inr (.inl ov)))]) (Wc := ([(kr, .inr (5, [.ref la, .ref ia, .ref na, .ref b4, .ref b6, .ref b8, .ref b10, .int (iI (((sh : Nat) : Int))), .int (iI (((it : Nat) : Int))), .int (iI (lc)), .int (iI (((dy : Nat) : Int))), .int (iI (pct)), .int (iI (lr)), .int (iI (sr))])), (la, arI cs 4 lf), (ia, arQ cs 2 5 (itq it IA)), (na, arQ cs 3 20 (lnq cr LA)), (b4, .inr (0, [.ref ulr])), (ulr, arI cs 1005 lrf), (b6, .inr (0, [.ref usr])), (usr, arI cs 1005 srf), (b8, .inr (2, [.ref ur, .int (iI (rv))])), (ur, arI cs 7 rse), (b10, .inr (4, [.ref uq, .ref ug, .int (iI (pn))])), (uq, arI cs 4 rq), (ug, arI cs 4 gv)] ++ (aW cs IA LA it cr IR LR))) hD) q h) (fun q h => inW_suba (D_R (E := [(po, .inl (cs 4, 1, .inr (.inl ov)))]) (Wc := ([(kr, .inr (5, [.ref la, .ref ia, .ref na, .ref b4, .ref b6, .ref b8, .ref b10, .int (iI (((sh : Nat) : Int))), .int (iI (((it : Nat) : Int))), .int (iI (lc)), .int (iI (((dy : Nat) : Int))), .int (iI (pct)), .int (iI (lr)), .int (iI (sr))])), (la, arI cs 4 lf), (ia, arQ cs 2 5 (itq it IA)), (na, arQ cs 3 20 (lnq cr LA)), (b4, .inr (0, [.ref ulr])), (ulr, arI cs 1005 lrf), (b6, .inr (0, [.ref usr])), (usr, arI cs 1005 srf), (b8, .inr (2, [.ref ur, .int (iI (rv))])), (ur, arI cs 7 rse), (b10, .inr (4, [.ref uq, .ref ug, .int (iI (pn))])), (uq, arI cs 4 rq), (ug, arI cs 4 gv)] ++ (aW cs IA LA it cr IR LR))) hD) q h) (fun q _ h => inW_suba (D_R (E := [(po, .inl (cs 4, 1, .inr (.inl ov)))]) (Wc := ([(kr, .inr (5, [.ref la, .ref ia, .ref na, .ref b4, .ref b6, .ref b8, .ref b10, .int (iI (((sh : Nat) : Int))), .int (iI (((it : Nat) : Int))), .int (iI (lc)), .int (iI (((dy : Nat) : Int))), .int (iI (pct)), .int (iI (lr)), .int (iI (sr))])), (la, arI cs 4 lf), (ia, arQ cs 2 5 (itq it IA)), (na, arQ cs 3 20 (lnq cr LA)), (b4, .inr (0, [.ref ulr])), (ulr, arI cs 1005 lrf), (b6, .inr (0, [.ref usr])), (usr, arI cs 1005 srf), (b8, .inr (2, [.ref ur, .int (iI (rv))])), (ur, arI cs 7 rse), (b10, .inr (4, [.ref uq, .ref ug, .int (iI (pn))])), (uq, arI cs 4 rq), (ug, arI cs 4 gv)] ++ (aW cs IA LA it cr IR LR))) hD) q h) (fun E ce q9 u t H1 locs1 ht hvm hpx hBX hz1 hk1 hS1 hce hcv hcl => ?_) (fun r u t H locs ht hvm hw hB hz1 hk1 hS => ?_)
  · exact absurd (hpx.1) hpx.2
  obtain ⟨hc2, hw⟩ := hw
  subst hw
  rw [ht] at hB
  obtain ⟨hP, hD⟩ := my_joinE (E := [(po, .inl (cs 4, 1, .inr (.inl ov)))]) (Wc := ([(kr, .inr (5, [.ref la, .ref ia, .ref na, .ref b4, .ref b6, .ref b8, .ref b10, .int (iI (((sh : Nat) : Int))), .int (iI (((it : Nat) : Int))), .int (iI (lc)), .int (iI (((dy : Nat) : Int))), .int (iI (pct)), .int (iI (lr)), .int (iI (sr))])), (la, arI cs 4 lf), (ia, arQ cs 2 5 (itq it IA)), (na, arQ cs 3 20 (lnq cr LA)), (b4, .inr (0, [.ref ulr])), (ulr, arI cs 1005 lrf), (b6, .inr (0, [.ref usr])), (usr, arI cs 1005 srf), (b8, .inr (2, [.ref ur, .int (iI (rv))])), (ur, arI cs 7 rse), (b10, .inr (4, [.ref uq, .ref ug, .int (iI (pn))])), (uq, arI cs 4 rq), (ug, arI cs 4 gv)] ++ (aW cs IA LA it cr IR LR))) (W2 := ([(kr, .inr (5, [.ref la, .ref ia, .ref na, .ref b4, .ref b6, .ref b8, .ref b10, .int (iI (((sh : Nat) : Int))), .int (iI (((it : Nat) : Int))), .int (iI (lc)), .int (iI ((((dy + 1) : Nat) : Int))), .int (iI (pct)), .int (iI (lr)), .int (iI (sr))])), (la, arI cs 4 lf), (ia, arQ cs 2 5 (itq it IA)), (na, arQ cs 3 20 (lnq cr LA)), (b4, .inr (0, [.ref ulr])), (ulr, arI cs 1005 (upI lrf dy (lrf dy + lr))), (b6, .inr (0, [.ref usr])), (usr, arI cs 1005 (upI srf dy (srf dy + sr))), (b8, .inr (2, [.ref ur, .int (iI (rv))])), (ur, arI cs 7 rse), (b10, .inr (4, [.ref uq, .ref ug, .int (iI ((ntS (dy + 1) pct cr sh (IR, (qS cr (rcvR (dy + 1)) (qS (cL cr IR dy) (lrnR dy lr sr) LR 20) 20), rq, pn, 0) it).2.2.2.1))])), (uq, arI cs 4 ((ntS (dy + 1) pct cr sh (IR, (qS cr (rcvR (dy + 1)) (qS (cL cr IR dy) (lrnR dy lr sr) LR 20) 20), rq, pn, 0) it).2.2.1)), (ug, arI cs 4 gv)] ++ (aW cs IA LA it cr ((ntS (dy + 1) pct cr sh (IR, (qS cr (rcvR (dy + 1)) (qS (cL cr IR dy) (lrnR dy lr sr) LR 20) 20), rq, pn, 0) it).1) ((ntS (dy + 1) pct cr sh (IR, (qS cr (rcvR (dy + 1)) (qS (cL cr IR dy) (lrnR dy lr sr) LR 20) 20), rq, pn, 0) it).2.1)))) hP hD (fst_ap rfl aW_fst) hk1 hB
  have hP : va_P D vwCl ([(po, .inl (cs 4, 1, .inr (.inl ov))), (kr, .inr (5, [.ref la, .ref ia, .ref na, .ref b4, .ref b6, .ref b8, .ref b10, .int (iI (((sh : Nat) : Int))), .int (iI (((it : Nat) : Int))), .int (iI (lc)), .int (iI ((((dy + 1) : Nat) : Int))), .int (iI (pct)), .int (iI (lr)), .int (iI (sr))])), (la, arI cs 4 lf), (ia, arQ cs 2 5 (itq it IA)), (na, arQ cs 3 20 (lnq cr LA)), (b4, .inr (0, [.ref ulr])), (ulr, arI cs 1005 (upI lrf dy (lrf dy + lr))), (b6, .inr (0, [.ref usr])), (usr, arI cs 1005 (upI srf dy (srf dy + sr))), (b8, .inr (2, [.ref ur, .int (iI (rv))])), (ur, arI cs 7 rse), (b10, .inr (4, [.ref uq, .ref ug, .int (iI ((ntS (dy + 1) pct cr sh (IR, (qS cr (rcvR (dy + 1)) (qS (cL cr IR dy) (lrnR dy lr sr) LR 20) 20), rq, pn, 0) it).2.2.2.1))])), (uq, arI cs 4 ((ntS (dy + 1) pct cr sh (IR, (qS cr (rcvR (dy + 1)) (qS (cL cr IR dy) (lrnR dy lr sr) LR 20) 20), rq, pn, 0) it).2.2.1)), (ug, arI cs 4 gv)] ++ (aW cs IA LA it cr ((ntS (dy + 1) pct cr sh (IR, (qS cr (rcvR (dy + 1)) (qS (cL cr IR dy) (lrnR dy lr sr) LR 20) 20), rq, pn, 0) it).1) ((ntS (dy + 1) pct cr sh (IR, (qS cr (rcvR (dy + 1)) (qS (cL cr IR dy) (lrnR dy lr sr) LR 20) 20), rq, pn, 0) it).2.1))) H := hP
  have hD : va_D A ([(po, .inl (cs 4, 1, .inr (.inl ov))), (kr, .inr (5, [.ref la, .ref ia, .ref na, .ref b4, .ref b6, .ref b8, .ref b10, .int (iI (((sh : Nat) : Int))), .int (iI (((it : Nat) : Int))), .int (iI (lc)), .int (iI ((((dy + 1) : Nat) : Int))), .int (iI (pct)), .int (iI (lr)), .int (iI (sr))])), (la, arI cs 4 lf), (ia, arQ cs 2 5 (itq it IA)), (na, arQ cs 3 20 (lnq cr LA)), (b4, .inr (0, [.ref ulr])), (ulr, arI cs 1005 (upI lrf dy (lrf dy + lr))), (b6, .inr (0, [.ref usr])), (usr, arI cs 1005 (upI srf dy (srf dy + sr))), (b8, .inr (2, [.ref ur, .int (iI (rv))])), (ur, arI cs 7 rse), (b10, .inr (4, [.ref uq, .ref ug, .int (iI ((ntS (dy + 1) pct cr sh (IR, (qS cr (rcvR (dy + 1)) (qS (cL cr IR dy) (lrnR dy lr sr) LR 20) 20), rq, pn, 0) it).2.2.2.1))])), (uq, arI cs 4 ((ntS (dy + 1) pct cr sh (IR, (qS cr (rcvR (dy + 1)) (qS (cL cr IR dy) (lrnR dy lr sr) LR 20) 20), rq, pn, 0) it).2.2.1)), (ug, arI cs 4 gv)] ++ (aW cs IA LA it cr ((ntS (dy + 1) pct cr sh (IR, (qS cr (rcvR (dy + 1)) (qS (cL cr IR dy) (lrnR dy lr sr) LR 20) 20), rq, pn, 0) it).1) ((ntS (dy + 1) pct cr sh (IR, (qS cr (rcvR (dy + 1)) (qS (cL cr IR dy) (lrnR dy lr sr) LR 20) 20), rq, pn, 0) it).2.1))) := hD
  refine my_i2l hx hb dL_night_6 (by omega) ?_
  refine my_last0 hx hb hK hP hD hS 0 rfl dL_night_7 (fun H locs hP hD hS => ?_)
  have hP : va_P D vwCl ([(po, .inl (cs 4, 1, .inr (.inl (vp_updL ov 0 (lI ((ntS (dy + 1) pct cr sh (IR, (qS cr (rcvR (dy + 1)) (qS (cL cr IR dy) (lrnR dy lr sr) LR 20) 20), rq, pn, 0) it).2.2.2.2)))))), (kr, .inr (5, [.ref la, .ref ia, .ref na, .ref b4, .ref b6, .ref b8, .ref b10, .int (iI (((sh : Nat) : Int))), .int (iI (((it : Nat) : Int))), .int (iI (lc)), .int (iI ((((dy + 1) : Nat) : Int))), .int (iI (pct)), .int (iI (lr)), .int (iI (sr))])), (la, arI cs 4 lf), (ia, arQ cs 2 5 (itq it IA)), (na, arQ cs 3 20 (lnq cr LA)), (b4, .inr (0, [.ref ulr])), (ulr, arI cs 1005 (upI lrf dy (lrf dy + lr))), (b6, .inr (0, [.ref usr])), (usr, arI cs 1005 (upI srf dy (srf dy + sr))), (b8, .inr (2, [.ref ur, .int (iI (rv))])), (ur, arI cs 7 rse), (b10, .inr (4, [.ref uq, .ref ug, .int (iI ((ntS (dy + 1) pct cr sh (IR, (qS cr (rcvR (dy + 1)) (qS (cL cr IR dy) (lrnR dy lr sr) LR 20) 20), rq, pn, 0) it).2.2.2.1))])), (uq, arI cs 4 ((ntS (dy + 1) pct cr sh (IR, (qS cr (rcvR (dy + 1)) (qS (cL cr IR dy) (lrnR dy lr sr) LR 20) 20), rq, pn, 0) it).2.2.1)), (ug, arI cs 4 gv)] ++ (aW cs IA LA it cr ((ntS (dy + 1) pct cr sh (IR, (qS cr (rcvR (dy + 1)) (qS (cL cr IR dy) (lrnR dy lr sr) LR 20) 20), rq, pn, 0) it).1) ((ntS (dy + 1) pct cr sh (IR, (qS cr (rcvR (dy + 1)) (qS (cL cr IR dy) (lrnR dy lr sr) LR 20) 20), rq, pn, 0) it).2.1))) H := hP
  have hD : va_D A ([(po, .inl (cs 4, 1, .inr (.inl (vp_updL ov 0 (lI ((ntS (dy + 1) pct cr sh (IR, (qS cr (rcvR (dy + 1)) (qS (cL cr IR dy) (lrnR dy lr sr) LR 20) 20), rq, pn, 0) it).2.2.2.2)))))), (kr, .inr (5, [.ref la, .ref ia, .ref na, .ref b4, .ref b6, .ref b8, .ref b10, .int (iI (((sh : Nat) : Int))), .int (iI (((it : Nat) : Int))), .int (iI (lc)), .int (iI ((((dy + 1) : Nat) : Int))), .int (iI (pct)), .int (iI (lr)), .int (iI (sr))])), (la, arI cs 4 lf), (ia, arQ cs 2 5 (itq it IA)), (na, arQ cs 3 20 (lnq cr LA)), (b4, .inr (0, [.ref ulr])), (ulr, arI cs 1005 (upI lrf dy (lrf dy + lr))), (b6, .inr (0, [.ref usr])), (usr, arI cs 1005 (upI srf dy (srf dy + sr))), (b8, .inr (2, [.ref ur, .int (iI (rv))])), (ur, arI cs 7 rse), (b10, .inr (4, [.ref uq, .ref ug, .int (iI ((ntS (dy + 1) pct cr sh (IR, (qS cr (rcvR (dy + 1)) (qS (cL cr IR dy) (lrnR dy lr sr) LR 20) 20), rq, pn, 0) it).2.2.2.1))])), (uq, arI cs 4 ((ntS (dy + 1) pct cr sh (IR, (qS cr (rcvR (dy + 1)) (qS (cL cr IR dy) (lrnR dy lr sr) LR 20) 20), rq, pn, 0) it).2.2.1)), (ug, arI cs 4 gv)] ++ (aW cs IA LA it cr ((ntS (dy + 1) pct cr sh (IR, (qS cr (rcvR (dy + 1)) (qS (cL cr IR dy) (lrnR dy lr sr) LR 20) 20), rq, pn, 0) it).1) ((ntS (dy + 1) pct cr sh (IR, (qS cr (rcvR (dy + 1)) (qS (cL cr IR dy) (lrnR dy lr sr) LR 20) 20), rq, pn, 0) it).2.1))) := hD
  refine lv_goto (tgt := 14) hx hb dL_night_8 (by decide) ?_
  refine lv_iconst (v := iI (0)) hx hb dL_night_14 rfl ?_
  subst hAe
  have hres : iI (0) = iI (0) := congrArg iI (by
      rfl)
  exact W.iret hx hb hr (fun t ht hW => ⟨⟨_, (), rfl, hres, by show va_P D vwCl _ t.heap; rw [ht]; exact hP⟩, hS.F ht⟩) hS.2.2 dL_night_15

abbrev ws_L_carries : List Cond := Cond.codeWith yL_carries cL_carries 5 (some .int) [(0, 17, 20, 25)] :: ALL
set_option maxHeartbeats 4000000 in
set_option maxRecDepth 100000 in
theorem m_L_carries_r (l : Launch) (hst : l.stackTraces = false) (D : va_G) (cs : Nat → ClassId) (kr la ia na b4 b6 b8 b10 sh it : Nat) (lc : Int) (dy : Nat) (pct lr sr : Int) (lf : Nat → Int) (itf : Nat → Option Nat) (lnf : Nat → Option Nat) (zs zi : Int) (po : Nat) (ov : Nat → Int64) (hsh : sh ≤ 4) (hit : it ≤ 5) (hitf : ∀ j, j < it → itf j ≠ none) (hzs : -2147483648 ≤ zs ∧ zs < 2147483648) (hzi : -2147483648 ≤ zi ∧ zi < 2147483648) (hz : (if (0 ≤ zs ∧ zs < (sh : Int)) ∧ (0 ≤ zi ∧ zi < (it : Int)) then 0 else 1) = 0) : Met l yL_carries ws_L_carries ({ frames := 8, cells := 2, slots := 12, locals := 126 }) (va_Pc [.ref kr, .int (iI (zs)), .int (iI (zi)), .ref po] (PE D cs [(po, .inl (cs 4, 1, .inr (.inl ov))), (kr, .inr (5, [.ref la, .ref ia, .ref na, .ref b4, .ref b6, .ref b8, .ref b10, .int (iI (((sh : Nat) : Int))), .int (iI (((it : Nat) : Int))), .int (iI (lc)), .int (iI (((dy : Nat) : Int))), .int (iI (pct)), .int (iI (lr)), .int (iI (sr))])), (la, arI cs 4 lf), (ia, arQ cs 2 5 itf), (na, arQ cs 3 20 lnf)] (inW [(po, .inl (cs 4, 1, .inr (.inl ov))), (kr, .inr (5, [.ref la, .ref ia, .ref na, .ref b4, .ref b6, .ref b8, .ref b10, .int (iI (((sh : Nat) : Int))), .int (iI (((it : Nat) : Int))), .int (iI (lc)), .int (iI (((dy : Nat) : Int))), .int (iI (pct)), .int (iI (lr)), .int (iI (sr))])), (la, arI cs 4 lf), (ia, arQ cs 2 5 itf), (na, arQ cs 3 20 lnf)]))) (va_Qi (fun r (_ : Unit) => r = iI (0)) (fun _ t => va_P D vwCl [(po, .inl (cs 4, 1, .inr (.inl (vp_updL ov 0 (lI (crI sh it lnf zs zi)))))), (kr, .inr (5, [.ref la, .ref ia, .ref na, .ref b4, .ref b6, .ref b8, .ref b10, .int (iI (((sh : Nat) : Int))), .int (iI (((it : Nat) : Int))), .int (iI (lc)), .int (iI (((dy : Nat) : Int))), .int (iI (pct)), .int (iI (lr)), .int (iI (sr))])), (la, arI cs 4 lf), (ia, arQ cs 2 5 itf), (na, arQ cs 3 20 lnf)] t.heap) (inW [(po, .inl (cs 4, 1, .inr (.inl ov))), (kr, .inr (5, [.ref la, .ref ia, .ref na, .ref b4, .ref b6, .ref b8, .ref b10, .int (iI (((sh : Nat) : Int))), .int (iI (((it : Nat) : Int))), .int (iI (lc)), .int (iI (((dy : Nat) : Int))), .int (iI (pct)), .int (iI (lr)), .int (iI (sr))])), (la, arI cs 4 lf), (ia, arQ cs 2 5 itf), (na, arQ cs 3 20 lnf)])) 2 12 (inW [(po, .inl (cs 4, 1, .inr (.inl ov))), (kr, .inr (5, [.ref la, .ref ia, .ref na, .ref b4, .ref b6, .ref b8, .ref b10, .int (iI (((sh : Nat) : Int))), .int (iI (((it : Nat) : Int))), .int (iI (lc)), .int (iI (((dy : Nat) : Int))), .int (iI (pct)), .int (iI (lr)), .int (iI (sr))])), (la, arI cs 4 lf), (ia, arQ cs 2 5 itf), (na, arQ cs 3 20 lnf)]) := by
  refine va_MetW (cc := cL_carries) (maxL := 5) (ret := some .int) (hh := [(0, 17, 20, 25)]) (by decide +kernel) rfl ?_
  intro p e s m args below meth c s₁ B hml hv
  obtain ⟨rfl, ⟨hP, hK, hD, hN⟩, hE⟩ := hv
  have hx := B.exec
  have hb := B.bytes
  have hr := B.returns
  have hts : ∀ w ∈ ALL, w.before _ s = true := fun w h => atoms_spec (ws := ws_L_carries) B.pre w (List.mem_cons_of_mem _ h)
  have hown : s.vm.findClass RL = some m.cls := findClass_of_methodNamed B.named
  have hlocks := B.notSynchronized
  have htab : c.exceptionTable.toList = tableOf [(0, 17, 20, 25)] := vx_table (x := yL_carries) B (atoms_spec (ws := ws_L_carries) B.pre _ List.mem_cons_self)
  generalize hAe : inW [(po, .inl (cs 4, 1, .inr (.inl ov))), (kr, .inr (5, [.ref la, .ref ia, .ref na, .ref b4, .ref b6, .ref b8, .ref b10, .int (iI (((sh : Nat) : Int))), .int (iI (((it : Nat) : Int))), .int (iI (lc)), .int (iI (((dy : Nat) : Int))), .int (iI (pct)), .int (iI (lr)), .int (iI (sr))])), (la, arI cs 4 lf), (ia, arQ cs 2 5 itf), (na, arQ cs 3 20 lnf)] = A at hD hE ⊢
  have hS : va_S A s.heap s.heap [] := va_S.rf
  have hl := lv_entry ([.ref kr, .int (iI (zs)), .int (iI (zi)), .ref po]) (n := 5) (Nat.le_of_ble_eq_true rfl)
  rw [lg_entry_eq]
  generalize (lg_sl ([.ref kr, .int (iI (zs)), .int (iI (zi)), .ref po]) ++ List.replicate (5 - (lg_sl ([.ref kr, .int (iI (zs)), .int (iI (zi)), .ref po])).length) Slot.unset).toArray = ls at hl ⊢
  have hl : lv_has ls 5 [(0, .ref kr), (1, .int (iI (zs))), (2, .int (iI (zi))), (3, .ref po)] := hl
  have hH := rfl (a := s.heap)
  refine lv_aload_n hx hb dL_carries_0 rfl (lv_at hl 3 rfl) ?_
  refine lv_iconst (v := iI (0)) hx hb dL_carries_1 rfl ?_
  refine lv_aload_n hx hb dL_carries_2 rfl (lv_at hl 0 rfl) ?_
  refine lv_iload_n hx hb dL_carries_3 rfl (lv_at hl 1 rfl) ?_
  refine lv_iload_n hx hb dL_carries_4 rfl (lv_at hl 2 rfl) ?_
  have pk1 : picks [(po, .inl (cs 4, 1, .inr (.inl ov))), (kr, .inr (5, [.ref la, .ref ia, .ref na, .ref b4, .ref b6, .ref b8, .ref b10, .int (iI (((sh : Nat) : Int))), .int (iI (((it : Nat) : Int))), .int (iI (lc)), .int (iI (((dy : Nat) : Int))), .int (iI (pct)), .int (iI (lr)), .int (iI (sr))])), (la, arI cs 4 lf), (ia, arQ cs 2 5 itf), (na, arQ cs 3 20 lnf)] [1, 2, 3, 4] [(kr, .inr (5, [.ref la, .ref ia, .ref na, .ref b4, .ref b6, .ref b8, .ref b10, .int (iI (((sh : Nat) : Int))), .int (iI (((it : Nat) : Int))), .int (iI (lc)), .int (iI (((dy : Nat) : Int))), .int (iI (pct)), .int (iI (lr)), .int (iI (sr))])), (la, arI cs 4 lf), (ia, arQ cs 2 5 itf), (na, arQ cs 3 20 lnf)] := ⟨rfl, rfl, rfl, rfl, trivial⟩
  refine vx_calli (vx_runV (As := [.int (iI (zs)), .int (iI (zi))]) (rest := [.int (iI (0)), .ref po]) ⟨hx, hb, hml, hown, hts⟩ (m_X5_carries l hst D cs kr la ia na b4 b6 b8 b10 sh it lc dy pct lr sr lf itf lnf zs zi (hsh) (hit) (hitf) (hzs) (hzi)) (cwV 2 hts (gV w_388 w_389 w_390 w_1 w_391) rfl rfl rfl (by decide +kernel) ⟨Nat.le_of_ble_eq_true rfl, Nat.le_of_ble_eq_true rfl⟩) (PE_V hK hN hE hS (fun _ h => False.elim h) hP hD [1, 2, 3, 4] rfl pk1 rfl rfl) rfl rfl hl.1 rfl (lv_room (Nat.le_of_ble_eq_true rfl)) dL_carries_5 ⟨Nat.le_of_ble_eq_true rfl, Nat.le_of_ble_eq_true rfl⟩) hS (fun _ _ h => False.elim h) (fun _ h => False.elim h) (fun _ _ h => False.elim h) (fun E ce q9 u t H1 locs1 ht hvm hpx hBX hz1 hk1 hS1 hce hcv hcl => ?_) (fun r u t H locs ht hvm hw hB hz1 hk1 hS => ?_)
  · exact absurd (hpx.1.trans hz) hpx.2
  obtain ⟨hc2, hw⟩ := hw
  subst hw
  have hP := P_kept hP hk1
  have hrz := (crI_rng sh it lnf zs zi)
  refine my_if_eq (tgt := 15) hx hb (by omega) dL_carries_8 (by decide) (fun bh3 => ?_) (fun bh3 => ?_)
  · refine lv_lconst (v := lI 0) hx hb dL_carries_15 (by decide) ?_
    refine my_last0 hx hb hK hP hD hS 0 rfl dL_carries_16 (fun H locs hP hD hS => ?_)
    have hP : va_P D vwCl [(po, .inl (cs 4, 1, .inr (.inl (vp_updL ov 0 (lI (0)))))), (kr, .inr (5, [.ref la, .ref ia, .ref na, .ref b4, .ref b6, .ref b8, .ref b10, .int (iI (((sh : Nat) : Int))), .int (iI (((it : Nat) : Int))), .int (iI (lc)), .int (iI (((dy : Nat) : Int))), .int (iI (pct)), .int (iI (lr)), .int (iI (sr))])), (la, arI cs 4 lf), (ia, arQ cs 2 5 itf), (na, arQ cs 3 20 lnf)] H := hP
    have hD : va_D A [(po, .inl (cs 4, 1, .inr (.inl (vp_updL ov 0 (lI (0)))))), (kr, .inr (5, [.ref la, .ref ia, .ref na, .ref b4, .ref b6, .ref b8, .ref b10, .int (iI (((sh : Nat) : Int))), .int (iI (((it : Nat) : Int))), .int (iI (lc)), .int (iI (((dy : Nat) : Int))), .int (iI (pct)), .int (iI (lr)), .int (iI (sr))])), (la, arI cs 4 lf), (ia, arQ cs 2 5 itf), (na, arQ cs 3 20 lnf)] := hD
    refine lv_goto (tgt := 24) hx hb dL_carries_17 (by decide) ?_
    refine lv_iconst (v := iI (0)) hx hb dL_carries_24 rfl ?_
    have hWe : ([(po, .inl (cs 4, 1, .inr (.inl (vp_updL ov 0 (lI (0)))))), (kr, .inr (5, [.ref la, .ref ia, .ref na, .ref b4, .ref b6, .ref b8, .ref b10, .int (iI (((sh : Nat) : Int))), .int (iI (((it : Nat) : Int))), .int (iI (lc)), .int (iI (((dy : Nat) : Int))), .int (iI (pct)), .int (iI (lr)), .int (iI (sr))])), (la, arI cs 4 lf), (ia, arQ cs 2 5 itf), (na, arQ cs 3 20 lnf)] : va_W) = [(po, .inl (cs 4, 1, .inr (.inl (vp_updL ov 0 (lI (crI sh it lnf zs zi)))))), (kr, .inr (5, [.ref la, .ref ia, .ref na, .ref b4, .ref b6, .ref b8, .ref b10, .int (iI (((sh : Nat) : Int))), .int (iI (((it : Nat) : Int))), .int (iI (lc)), .int (iI (((dy : Nat) : Int))), .int (iI (pct)), .int (iI (lr)), .int (iI (sr))])), (la, arI cs 4 lf), (ia, arQ cs 2 5 itf), (na, arQ cs 3 20 lnf)] := by
      have hrz := (crI_rng sh it lnf zs zi)
      have hr1 : crI sh it lnf zs zi = 0 := by omega
      rw [hr1]
    rw [hWe] at hP
    subst hAe
    refine W.widen (k := 2) (n := 12) (by omega) (by omega) ?_
    have hres : iI (0) = iI (0) := congrArg iI (by
        rfl)
    exact W.iret hx hb hr (fun t ht hW => ⟨⟨_, (), rfl, hres, by show va_P D vwCl _ t.heap; rw [ht]; exact hP⟩, hS.F ht⟩) hS.2.2 dL_carries_25
  · refine lv_lconst (v := lI 1) hx hb dL_carries_11 (by decide) ?_
    refine lv_goto (tgt := 16) hx hb dL_carries_12 (by decide) ?_
    refine my_last0 hx hb hK hP hD hS 0 rfl dL_carries_16 (fun H locs hP hD hS => ?_)
    have hP : va_P D vwCl [(po, .inl (cs 4, 1, .inr (.inl (vp_updL ov 0 (lI (1)))))), (kr, .inr (5, [.ref la, .ref ia, .ref na, .ref b4, .ref b6, .ref b8, .ref b10, .int (iI (((sh : Nat) : Int))), .int (iI (((it : Nat) : Int))), .int (iI (lc)), .int (iI (((dy : Nat) : Int))), .int (iI (pct)), .int (iI (lr)), .int (iI (sr))])), (la, arI cs 4 lf), (ia, arQ cs 2 5 itf), (na, arQ cs 3 20 lnf)] H := hP
    have hD : va_D A [(po, .inl (cs 4, 1, .inr (.inl (vp_updL ov 0 (lI (1)))))), (kr, .inr (5, [.ref la, .ref ia, .ref na, .ref b4, .ref b6, .ref b8, .ref b10, .int (iI (((sh : Nat) : Int))), .int (iI (((it : Nat) : Int))), .int (iI (lc)), .int (iI (((dy : Nat) : Int))), .int (iI (pct)), .int (iI (lr)), .int (iI (sr))])), (la, arI cs 4 lf), (ia, arQ cs 2 5 itf), (na, arQ cs 3 20 lnf)] := hD
    refine lv_goto (tgt := 24) hx hb dL_carries_17 (by decide) ?_
    refine lv_iconst (v := iI (0)) hx hb dL_carries_24 rfl ?_
    have hWe : ([(po, .inl (cs 4, 1, .inr (.inl (vp_updL ov 0 (lI (1)))))), (kr, .inr (5, [.ref la, .ref ia, .ref na, .ref b4, .ref b6, .ref b8, .ref b10, .int (iI (((sh : Nat) : Int))), .int (iI (((it : Nat) : Int))), .int (iI (lc)), .int (iI (((dy : Nat) : Int))), .int (iI (pct)), .int (iI (lr)), .int (iI (sr))])), (la, arI cs 4 lf), (ia, arQ cs 2 5 itf), (na, arQ cs 3 20 lnf)] : va_W) = [(po, .inl (cs 4, 1, .inr (.inl (vp_updL ov 0 (lI (crI sh it lnf zs zi)))))), (kr, .inr (5, [.ref la, .ref ia, .ref na, .ref b4, .ref b6, .ref b8, .ref b10, .int (iI (((sh : Nat) : Int))), .int (iI (((it : Nat) : Int))), .int (iI (lc)), .int (iI (((dy : Nat) : Int))), .int (iI (pct)), .int (iI (lr)), .int (iI (sr))])), (la, arI cs 4 lf), (ia, arQ cs 2 5 itf), (na, arQ cs 3 20 lnf)] := by
      have hrz := (crI_rng sh it lnf zs zi)
      have hr1 : crI sh it lnf zs zi = 1 := by omega
      rw [hr1]
    rw [hWe] at hP
    subst hAe
    refine W.widen (k := 2) (n := 12) (by omega) (by omega) ?_
    have hres : iI (0) = iI (0) := congrArg iI (by
        rfl)
    exact W.iret hx hb hr (fun t ht hW => ⟨⟨_, (), rfl, hres, by show va_P D vwCl _ t.heap; rw [ht]; exact hP⟩, hS.F ht⟩) hS.2.2 dL_carries_25

set_option maxHeartbeats 4000000 in
set_option maxRecDepth 100000 in
theorem m_L_carries_t (l : Launch) (hst : l.stackTraces = false) (D : va_G) (cs : Nat → ClassId) (kr la ia na b4 b6 b8 b10 sh it : Nat) (lc : Int) (dy : Nat) (pct lr sr : Int) (lf : Nat → Int) (itf : Nat → Option Nat) (lnf : Nat → Option Nat) (zs zi : Int) (po : Nat) (ov : Nat → Int64) (hsh : sh ≤ 4) (hit : it ≤ 5) (hitf : ∀ j, j < it → itf j ≠ none) (hzs : -2147483648 ≤ zs ∧ zs < 2147483648) (hzi : -2147483648 ≤ zi ∧ zi < 2147483648) (hne : (if (0 ≤ zs ∧ zs < (sh : Int)) ∧ (0 ≤ zi ∧ zi < (it : Int)) then 0 else 1) ≠ 0) : Met l yL_carries ws_L_carries ({ frames := 8, cells := 2, slots := 12, locals := 126 }) (va_Pc [.ref kr, .int (iI (zs)), .int (iI (zi)), .ref po] (PE D cs [(po, .inl (cs 4, 1, .inr (.inl ov))), (kr, .inr (5, [.ref la, .ref ia, .ref na, .ref b4, .ref b6, .ref b8, .ref b10, .int (iI (((sh : Nat) : Int))), .int (iI (((it : Nat) : Int))), .int (iI (lc)), .int (iI (((dy : Nat) : Int))), .int (iI (pct)), .int (iI (lr)), .int (iI (sr))])), (la, arI cs 4 lf), (ia, arQ cs 2 5 itf), (na, arQ cs 3 20 lnf)] noA)) (va_Qi (fun r (_ : Unit) => r = iI (hkI [1] (if (0 ≤ zs ∧ zs < (sh : Int)) ∧ (0 ≤ zi ∧ zi < (it : Int)) then 0 else 1))) (fun _ _ => True) noA) 2 12 noA := by
  refine va_MetW (cc := cL_carries) (maxL := 5) (ret := some .int) (hh := [(0, 17, 20, 25)]) (by decide +kernel) rfl ?_
  intro p e s m args below meth c s₁ B hml hv
  obtain ⟨rfl, ⟨hP, hK, hD, hN⟩, hE⟩ := hv
  have hx := B.exec
  have hb := B.bytes
  have hr := B.returns
  have hts : ∀ w ∈ ALL, w.before _ s = true := fun w h => atoms_spec (ws := ws_L_carries) B.pre w (List.mem_cons_of_mem _ h)
  have hown : s.vm.findClass RL = some m.cls := findClass_of_methodNamed B.named
  have hlocks := B.notSynchronized
  have htab : c.exceptionTable.toList = tableOf [(0, 17, 20, 25)] := vx_table (x := yL_carries) B (atoms_spec (ws := ws_L_carries) B.pre _ List.mem_cons_self)
  have hS : va_S noA s.heap s.heap [] := va_S.rf
  generalize inW [(po, .inl (cs 4, 1, .inr (.inl ov))), (kr, .inr (5, [.ref la, .ref ia, .ref na, .ref b4, .ref b6, .ref b8, .ref b10, .int (iI (((sh : Nat) : Int))), .int (iI (((it : Nat) : Int))), .int (iI (lc)), .int (iI (((dy : Nat) : Int))), .int (iI (pct)), .int (iI (lr)), .int (iI (sr))])), (la, arI cs 4 lf), (ia, arQ cs 2 5 itf), (na, arQ cs 3 20 lnf)] = A at hD
  have hl := lv_entry ([.ref kr, .int (iI (zs)), .int (iI (zi)), .ref po]) (n := 5) (Nat.le_of_ble_eq_true rfl)
  rw [lg_entry_eq]
  generalize (lg_sl ([.ref kr, .int (iI (zs)), .int (iI (zi)), .ref po]) ++ List.replicate (5 - (lg_sl ([.ref kr, .int (iI (zs)), .int (iI (zi)), .ref po])).length) Slot.unset).toArray = ls at hl ⊢
  have hl : lv_has ls 5 [(0, .ref kr), (1, .int (iI (zs))), (2, .int (iI (zi))), (3, .ref po)] := hl
  have hH := rfl (a := s.heap)
  refine lv_aload_n hx hb dL_carries_0 rfl (lv_at hl 3 rfl) ?_
  refine lv_iconst (v := iI (0)) hx hb dL_carries_1 rfl ?_
  refine lv_aload_n hx hb dL_carries_2 rfl (lv_at hl 0 rfl) ?_
  refine lv_iload_n hx hb dL_carries_3 rfl (lv_at hl 1 rfl) ?_
  refine lv_iload_n hx hb dL_carries_4 rfl (lv_at hl 2 rfl) ?_
  have pk1 : picks [(po, .inl (cs 4, 1, .inr (.inl ov))), (kr, .inr (5, [.ref la, .ref ia, .ref na, .ref b4, .ref b6, .ref b8, .ref b10, .int (iI (((sh : Nat) : Int))), .int (iI (((it : Nat) : Int))), .int (iI (lc)), .int (iI (((dy : Nat) : Int))), .int (iI (pct)), .int (iI (lr)), .int (iI (sr))])), (la, arI cs 4 lf), (ia, arQ cs 2 5 itf), (na, arQ cs 3 20 lnf)] [1, 2, 3, 4] [(kr, .inr (5, [.ref la, .ref ia, .ref na, .ref b4, .ref b6, .ref b8, .ref b10, .int (iI (((sh : Nat) : Int))), .int (iI (((it : Nat) : Int))), .int (iI (lc)), .int (iI (((dy : Nat) : Int))), .int (iI (pct)), .int (iI (lr)), .int (iI (sr))])), (la, arI cs 4 lf), (ia, arQ cs 2 5 itf), (na, arQ cs 3 20 lnf)] := ⟨rfl, rfl, rfl, rfl, trivial⟩
  refine vx_calli (vx_runV (As := [.int (iI (zs)), .int (iI (zi))]) (rest := [.int (iI (0)), .ref po]) ⟨hx, hb, hml, hown, hts⟩ (m_X5_carries l hst D cs kr la ia na b4 b6 b8 b10 sh it lc dy pct lr sr lf itf lnf zs zi (hsh) (hit) (hitf) (hzs) (hzi)) (cwV 2 hts (gV w_388 w_389 w_390 w_1 w_391) rfl rfl rfl (by decide +kernel) ⟨Nat.le_of_ble_eq_true rfl, Nat.le_of_ble_eq_true rfl⟩) (PE_V hK hN hE hS (fun _ h => False.elim h) hP hD [1, 2, 3, 4] rfl pk1 rfl rfl) rfl rfl hl.1 rfl (lv_room (Nat.le_of_ble_eq_true rfl)) dL_carries_5 ⟨Nat.le_of_ble_eq_true rfl, Nat.le_of_ble_eq_true rfl⟩) hS (fun _ _ h => False.elim h) (fun _ h => False.elim h) (fun _ _ h => False.elim h) (fun E ce q9 u t H1 locs1 ht hvm hpx hBX hz1 hk1 hS1 hce hcv hcl => ?_) (fun r u t H locs ht hvm hw hB hz1 hk1 hS => ?_)
  · have h9 : u = (if (0 ≤ zs ∧ zs < (sh : Int)) ∧ (0 ≤ zi ∧ zi < (it : Int)) then 0 else 1) := hpx.1
    have hS := hS1
    have hcd : (if (0 ≤ zs ∧ zs < (sh : Int)) ∧ (0 ≤ zi ∧ zi < (it : Int)) then 0 else 1) = 1 := by
      revert hne
      (try unfold cdL); (try unfold cdS); (try unfold cdC)
      (repeat' split) <;> simp
    have hEu := hBX
    have hP := P_kept hP hk1
    have hc3 := hcd
    have hE3 : E = "java/lang/IndexOutOfBoundsException" := by have h8 : E = exN u := hEu; rw [h8, h9, hc3]; rfl
    subst hE3
    refine vx_catch (name := "java/lang/IndexOutOfBoundsException") hown [] ⟨0, 17, 20, 25⟩ [] (htab.trans rfl) (fun z hz => by cases hz) rfl (by decide) (hts _ w_266) (hE.use _ (List.mem_append_right _ (List.mem_map.mpr ⟨_, List.mem_of_getElem? (i := 0) rfl, rfl⟩))) hce hcv hcl ?_
    refine lv_astore (lv' := [(4, .ref q9), (0, .ref kr), (1, .int (iI (zs))), (2, .int (iI (zi))), (3, .ref po)]) hx hb dL_carries_20 hl (by decide) rfl (fun ls hl => ?_)
    refine lv_iconst (v := iI (1)) hx hb dL_carries_22 rfl ?_
    refine W.widen (k := 2) (n := 12) (by omega) (by omega) ?_
    have hres : iI (1) = iI (hkI [1] (if (0 ≤ zs ∧ zs < (sh : Int)) ∧ (0 ≤ zi ∧ zi < (it : Int)) then 0 else 1)) := congrArg iI (by
        rw [hc3]; rfl)
    exact W.iret hx hb hr (fun t ht hW => ⟨⟨_, (), rfl, hres, trivial⟩, hS.F ht⟩) hS.2.2 dL_carries_23
  obtain ⟨hc2, hw⟩ := hw
  subst hw
  have hP := P_kept hP hk1
  exact absurd hc2 hne

abbrev ws_L_isMarked : List Cond := Cond.codeWith yL_isMarked cL_isMarked 5 (some .int) [(0, 17, 20, 25), (0, 17, 24, 13)] :: ALL
set_option maxHeartbeats 4000000 in
set_option maxRecDepth 100000 in
theorem m_L_isMarked_no_t (l : Launch) (hst : l.stackTraces = false) (D : va_G) (cs : Nat → ClassId) (kr la ia na b4 b6 b8 b10 sh it : Nat) (lc : Int) (dy : Nat) (pct lr sr : Int) (itf : Nat → Option Nat) (zi : Int) (z0 : Int) (po : Nat) (ov : Nat → Int64) (hit : it ≤ 5) (hitf : ∀ j, j < it → itf j ≠ none) (hzi : -2147483648 ≤ zi ∧ zi < 2147483648) (hno : cdS it zi ≠ 0) : Met l yL_isMarked ws_L_isMarked ({ frames := 8, cells := 1, slots := 6, locals := 127 }) (va_Pc [.ref kr, .int (iI (zi)), .int (iI (z0)), .ref po] (PE D cs [(po, .inl (cs 4, 1, .inr (.inl ov))), (kr, .inr (5, [.ref la, .ref ia, .ref na, .ref b4, .ref b6, .ref b8, .ref b10, .int (iI (((sh : Nat) : Int))), .int (iI (((it : Nat) : Int))), .int (iI (lc)), .int (iI (((dy : Nat) : Int))), .int (iI (pct)), .int (iI (lr)), .int (iI (sr))])), (ia, arQ cs 2 5 itf)] noA)) (va_Qi (fun r (_ : Unit) => r = iI (hkI [1, 3] (cdS it zi))) (fun _ _ => True) noA) 1 6 noA := by
  refine va_MetW (cc := cL_isMarked) (maxL := 5) (ret := some .int) (hh := [(0, 17, 20, 25), (0, 17, 24, 13)]) (by decide +kernel) rfl ?_
  intro p e s m args below meth c s₁ B hml hv
  obtain ⟨rfl, ⟨hP, hK, hD, hN⟩, hE⟩ := hv
  have hx := B.exec
  have hb := B.bytes
  have hr := B.returns
  have hts : ∀ w ∈ ALL, w.before _ s = true := fun w h => atoms_spec (ws := ws_L_isMarked) B.pre w (List.mem_cons_of_mem _ h)
  have hown : s.vm.findClass RL = some m.cls := findClass_of_methodNamed B.named
  have hlocks := B.notSynchronized
  have htab : c.exceptionTable.toList = tableOf [(0, 17, 20, 25), (0, 17, 24, 13)] := vx_table (x := yL_isMarked) B (atoms_spec (ws := ws_L_isMarked) B.pre _ List.mem_cons_self)
  have hS : va_S noA s.heap s.heap [] := va_S.rf
  generalize inW [(po, .inl (cs 4, 1, .inr (.inl ov))), (kr, .inr (5, [.ref la, .ref ia, .ref na, .ref b4, .ref b6, .ref b8, .ref b10, .int (iI (((sh : Nat) : Int))), .int (iI (((it : Nat) : Int))), .int (iI (lc)), .int (iI (((dy : Nat) : Int))), .int (iI (pct)), .int (iI (lr)), .int (iI (sr))])), (ia, arQ cs 2 5 itf)] = A at hD
  have hl := lv_entry ([.ref kr, .int (iI (zi)), .int (iI (z0)), .ref po]) (n := 5) (Nat.le_of_ble_eq_true rfl)
  rw [lg_entry_eq]
  generalize (lg_sl ([.ref kr, .int (iI (zi)), .int (iI (z0)), .ref po]) ++ List.replicate (5 - (lg_sl ([.ref kr, .int (iI (zi)), .int (iI (z0)), .ref po])).length) Slot.unset).toArray = ls at hl ⊢
  have hl : lv_has ls 5 [(0, .ref kr), (1, .int (iI (zi))), (2, .int (iI (z0))), (3, .ref po)] := hl
  have hH := rfl (a := s.heap)
  refine lv_aload_n hx hb dL_isMarked_0 rfl (lv_at hl 3 rfl) ?_
  refine lv_iconst (v := iI (0)) hx hb dL_isMarked_1 rfl ?_
  refine lv_aload_n hx hb dL_isMarked_2 rfl (lv_at hl 0 rfl) ?_
  refine lv_iload_n hx hb dL_isMarked_3 rfl (lv_at hl 1 rfl) ?_
  refine lv_iload_n hx hb dL_isMarked_4 rfl (lv_at hl 2 rfl) ?_
  have pk1 : picks [(po, .inl (cs 4, 1, .inr (.inl ov))), (kr, .inr (5, [.ref la, .ref ia, .ref na, .ref b4, .ref b6, .ref b8, .ref b10, .int (iI (((sh : Nat) : Int))), .int (iI (((it : Nat) : Int))), .int (iI (lc)), .int (iI (((dy : Nat) : Int))), .int (iI (pct)), .int (iI (lr)), .int (iI (sr))])), (ia, arQ cs 2 5 itf)] [1, 2] [(kr, .inr (5, [.ref la, .ref ia, .ref na, .ref b4, .ref b6, .ref b8, .ref b10, .int (iI (((sh : Nat) : Int))), .int (iI (((it : Nat) : Int))), .int (iI (lc)), .int (iI (((dy : Nat) : Int))), .int (iI (pct)), .int (iI (lr)), .int (iI (sr))])), (ia, arQ cs 2 5 itf)] := ⟨rfl, rfl, trivial⟩
  refine vx_calli (vx_runV (As := [.int (iI (zi)), .int (iI (z0))]) (rest := [.int (iI (0)), .ref po]) ⟨hx, hb, hml, hown, hts⟩ (m_X5_isMarked_no l hst D cs kr la ia na b4 b6 b8 b10 sh it lc dy pct lr sr itf zi z0 (hit) (hitf) (hzi) (hno)) (cwV 2 hts (gV w_447 w_448 w_449 w_1 w_450) rfl rfl rfl (by decide +kernel) ⟨Nat.le_of_ble_eq_true rfl, Nat.le_of_ble_eq_true rfl⟩) (PE_V hK hN hE hS (fun _ h => False.elim h) hP hD [1, 2] rfl pk1 rfl rfl) rfl rfl hl.1 rfl (lv_room (Nat.le_of_ble_eq_true rfl)) dL_isMarked_5 ⟨Nat.le_of_ble_eq_true rfl, Nat.le_of_ble_eq_true rfl⟩) hS (fun _ _ h => False.elim h) (fun _ h => False.elim h) (fun _ _ h => False.elim h) (fun E ce q9 u t H1 locs1 ht hvm hpx hBX hz1 hk1 hS1 hce hcv hcl => ?_) (fun r u t H locs ht hvm hw hB hz1 hk1 hS => ?_)
  · have h9 : u = cdS it zi := hpx.1
    have hS := hS1
    have hcd : cdS it zi = 1 := by
      revert hno
      (try unfold cdL); (try unfold cdS); (try unfold cdC)
      (repeat' split) <;> simp
    have hEu := hBX
    have hP := P_kept hP hk1
    have hc3 := hcd
    have hE3 : E = "java/lang/IndexOutOfBoundsException" := by have h8 : E = exN u := hEu; rw [h8, h9, hc3]; rfl
    subst hE3
    refine vx_catch (name := "java/lang/IndexOutOfBoundsException") hown [] ⟨0, 17, 20, 25⟩ [⟨0, 17, 24, 13⟩] (htab.trans rfl) (fun z hz => by cases hz) rfl (by decide) (hts _ w_266) (hE.use _ (List.mem_append_right _ (List.mem_map.mpr ⟨_, List.mem_of_getElem? (i := 0) rfl, rfl⟩))) hce hcv hcl ?_
    refine lv_astore (lv' := [(4, .ref q9), (0, .ref kr), (1, .int (iI (zi))), (2, .int (iI (z0))), (3, .ref po)]) hx hb dL_isMarked_20 hl (by decide) rfl (fun ls hl => ?_)
    refine lv_iconst (v := iI (1)) hx hb dL_isMarked_22 rfl ?_
    refine W.widen (k := 1) (n := 6) (by omega) (by omega) ?_
    have hres : iI (1) = iI (hkI [1, 3] (cdS it zi)) := congrArg iI (by
        rw [hc3]; rfl)
    exact W.iret hx hb hr (fun t ht hW => ⟨⟨_, (), rfl, hres, trivial⟩, hS.F ht⟩) hS.2.2 dL_isMarked_23
  obtain ⟨hc2, hw⟩ := hw
  subst hw
  have hP := P_kept hP hk1
  exact absurd hc2 hno

set_option maxHeartbeats 4000000 in
set_option maxRecDepth 100000 in
theorem m_L_isMarked_ok_r (l : Launch) (hst : l.stackTraces = false) (D : va_G) (cs : Nat → ClassId) (kr la ia na b4 b6 b8 b10 sh it : Nat) (lc : Int) (dy : Nat) (pct lr sr : Int) (itf : Nat → Option Nat) (tn : Nat) (hi ti go pr : Nat) (pk fs st : Int) (upr : Nat) (fpr : Nat → Int) (zd : Int) (po : Nat) (ov : Nat → Int64) (hit : it ≤ 5) (hitf : ∀ j, j < it → itf j ≠ none) (htn : tn < it) (hitn : itf tn = some hi) (hfp : ∀ j, 0 ≤ fpr j ∧ fpr j ≤ 1) (hzd : -2147483648 ≤ zd ∧ zd < 2147483648) (hz : (if zd < 0 ∨ 999 < zd then 3 else 0) = 0) : Met l yL_isMarked ws_L_isMarked ({ frames := 8, cells := 2, slots := 12, locals := 127 }) (va_Pc [.ref kr, .int (iI (((tn : Nat) : Int))), .int (iI (zd)), .ref po] (PE D cs [(po, .inl (cs 4, 1, .inr (.inl ov))), (kr, .inr (5, [.ref la, .ref ia, .ref na, .ref b4, .ref b6, .ref b8, .ref b10, .int (iI (((sh : Nat) : Int))), .int (iI (((it : Nat) : Int))), .int (iI (lc)), .int (iI (((dy : Nat) : Int))), .int (iI (pct)), .int (iI (lr)), .int (iI (sr))])), (ia, arQ cs 2 5 itf), (hi, .inr (1, [.int (iI (pk)), .int (iI (fs)), .ref ti, .ref go, .ref pr, .int (iI (st))])), (pr, .inr (0, [.ref upr])), (upr, arI cs 1005 fpr)] (inW [(po, .inl (cs 4, 1, .inr (.inl ov))), (kr, .inr (5, [.ref la, .ref ia, .ref na, .ref b4, .ref b6, .ref b8, .ref b10, .int (iI (((sh : Nat) : Int))), .int (iI (((it : Nat) : Int))), .int (iI (lc)), .int (iI (((dy : Nat) : Int))), .int (iI (pct)), .int (iI (lr)), .int (iI (sr))])), (ia, arQ cs 2 5 itf), (hi, .inr (1, [.int (iI (pk)), .int (iI (fs)), .ref ti, .ref go, .ref pr, .int (iI (st))])), (pr, .inr (0, [.ref upr])), (upr, arI cs 1005 fpr)]))) (va_Qi (fun r (_ : Unit) => r = iI (0)) (fun _ t => va_P D vwCl [(po, .inl (cs 4, 1, .inr (.inl (vp_updL ov 0 (lI (fpr zd.toNat)))))), (kr, .inr (5, [.ref la, .ref ia, .ref na, .ref b4, .ref b6, .ref b8, .ref b10, .int (iI (((sh : Nat) : Int))), .int (iI (((it : Nat) : Int))), .int (iI (lc)), .int (iI (((dy : Nat) : Int))), .int (iI (pct)), .int (iI (lr)), .int (iI (sr))])), (ia, arQ cs 2 5 itf), (hi, .inr (1, [.int (iI (pk)), .int (iI (fs)), .ref ti, .ref go, .ref pr, .int (iI (st))])), (pr, .inr (0, [.ref upr])), (upr, arI cs 1005 fpr)] t.heap) (inW [(po, .inl (cs 4, 1, .inr (.inl ov))), (kr, .inr (5, [.ref la, .ref ia, .ref na, .ref b4, .ref b6, .ref b8, .ref b10, .int (iI (((sh : Nat) : Int))), .int (iI (((it : Nat) : Int))), .int (iI (lc)), .int (iI (((dy : Nat) : Int))), .int (iI (pct)), .int (iI (lr)), .int (iI (sr))])), (ia, arQ cs 2 5 itf), (hi, .inr (1, [.int (iI (pk)), .int (iI (fs)), .ref ti, .ref go, .ref pr, .int (iI (st))])), (pr, .inr (0, [.ref upr])), (upr, arI cs 1005 fpr)])) 2 12 (inW [(po, .inl (cs 4, 1, .inr (.inl ov))), (kr, .inr (5, [.ref la, .ref ia, .ref na, .ref b4, .ref b6, .ref b8, .ref b10, .int (iI (((sh : Nat) : Int))), .int (iI (((it : Nat) : Int))), .int (iI (lc)), .int (iI (((dy : Nat) : Int))), .int (iI (pct)), .int (iI (lr)), .int (iI (sr))])), (ia, arQ cs 2 5 itf), (hi, .inr (1, [.int (iI (pk)), .int (iI (fs)), .ref ti, .ref go, .ref pr, .int (iI (st))])), (pr, .inr (0, [.ref upr])), (upr, arI cs 1005 fpr)]) := by
  refine va_MetW (cc := cL_isMarked) (maxL := 5) (ret := some .int) (hh := [(0, 17, 20, 25), (0, 17, 24, 13)]) (by decide +kernel) rfl ?_
  intro p e s m args below meth c s₁ B hml hv
  obtain ⟨rfl, ⟨hP, hK, hD, hN⟩, hE⟩ := hv
  have hx := B.exec
  have hb := B.bytes
  have hr := B.returns
  have hts : ∀ w ∈ ALL, w.before _ s = true := fun w h => atoms_spec (ws := ws_L_isMarked) B.pre w (List.mem_cons_of_mem _ h)
  have hown : s.vm.findClass RL = some m.cls := findClass_of_methodNamed B.named
  have hlocks := B.notSynchronized
  have htab : c.exceptionTable.toList = tableOf [(0, 17, 20, 25), (0, 17, 24, 13)] := vx_table (x := yL_isMarked) B (atoms_spec (ws := ws_L_isMarked) B.pre _ List.mem_cons_self)
  generalize hAe : inW [(po, .inl (cs 4, 1, .inr (.inl ov))), (kr, .inr (5, [.ref la, .ref ia, .ref na, .ref b4, .ref b6, .ref b8, .ref b10, .int (iI (((sh : Nat) : Int))), .int (iI (((it : Nat) : Int))), .int (iI (lc)), .int (iI (((dy : Nat) : Int))), .int (iI (pct)), .int (iI (lr)), .int (iI (sr))])), (ia, arQ cs 2 5 itf), (hi, .inr (1, [.int (iI (pk)), .int (iI (fs)), .ref ti, .ref go, .ref pr, .int (iI (st))])), (pr, .inr (0, [.ref upr])), (upr, arI cs 1005 fpr)] = A at hD hE ⊢
  have hS : va_S A s.heap s.heap [] := va_S.rf
  have hl := lv_entry ([.ref kr, .int (iI (((tn : Nat) : Int))), .int (iI (zd)), .ref po]) (n := 5) (Nat.le_of_ble_eq_true rfl)
  rw [lg_entry_eq]
  generalize (lg_sl ([.ref kr, .int (iI (((tn : Nat) : Int))), .int (iI (zd)), .ref po]) ++ List.replicate (5 - (lg_sl ([.ref kr, .int (iI (((tn : Nat) : Int))), .int (iI (zd)), .ref po])).length) Slot.unset).toArray = ls at hl ⊢
  have hl : lv_has ls 5 [(0, .ref kr), (1, .int (iI (((tn : Nat) : Int)))), (2, .int (iI (zd))), (3, .ref po)] := hl
  have hH := rfl (a := s.heap)
  refine lv_aload_n hx hb dL_isMarked_0 rfl (lv_at hl 3 rfl) ?_
  refine lv_iconst (v := iI (0)) hx hb dL_isMarked_1 rfl ?_
  refine lv_aload_n hx hb dL_isMarked_2 rfl (lv_at hl 0 rfl) ?_
  refine lv_iload_n hx hb dL_isMarked_3 rfl (lv_at hl 1 rfl) ?_
  refine lv_iload_n hx hb dL_isMarked_4 rfl (lv_at hl 2 rfl) ?_
  have pk1 : picks [(po, .inl (cs 4, 1, .inr (.inl ov))), (kr, .inr (5, [.ref la, .ref ia, .ref na, .ref b4, .ref b6, .ref b8, .ref b10, .int (iI (((sh : Nat) : Int))), .int (iI (((it : Nat) : Int))), .int (iI (lc)), .int (iI (((dy : Nat) : Int))), .int (iI (pct)), .int (iI (lr)), .int (iI (sr))])), (ia, arQ cs 2 5 itf), (hi, .inr (1, [.int (iI (pk)), .int (iI (fs)), .ref ti, .ref go, .ref pr, .int (iI (st))])), (pr, .inr (0, [.ref upr])), (upr, arI cs 1005 fpr)] [1, 2, 3, 4, 5] [(kr, .inr (5, [.ref la, .ref ia, .ref na, .ref b4, .ref b6, .ref b8, .ref b10, .int (iI (((sh : Nat) : Int))), .int (iI (((it : Nat) : Int))), .int (iI (lc)), .int (iI (((dy : Nat) : Int))), .int (iI (pct)), .int (iI (lr)), .int (iI (sr))])), (ia, arQ cs 2 5 itf), (hi, .inr (1, [.int (iI (pk)), .int (iI (fs)), .ref ti, .ref go, .ref pr, .int (iI (st))])), (pr, .inr (0, [.ref upr])), (upr, arI cs 1005 fpr)] := ⟨rfl, rfl, rfl, rfl, rfl, trivial⟩
  refine vx_calli (vx_runV (As := [.int (iI (((tn : Nat) : Int))), .int (iI (zd))]) (rest := [.int (iI (0)), .ref po]) ⟨hx, hb, hml, hown, hts⟩ (m_X5_isMarked_ok l hst D cs kr la ia na b4 b6 b8 b10 sh it lc dy pct lr sr itf tn hi ti go pr pk fs st upr fpr zd (hit) (hitf) (htn) (hitn) (hfp) (hzd)) (cwV 2 hts (gV w_447 w_448 w_449 w_1 w_450) rfl rfl rfl (by decide +kernel) ⟨Nat.le_of_ble_eq_true rfl, Nat.le_of_ble_eq_true rfl⟩) (PE_V hK hN hE hS (fun _ h => False.elim h) hP hD [1, 2, 3, 4, 5] rfl pk1 rfl rfl) rfl rfl hl.1 rfl (lv_room (Nat.le_of_ble_eq_true rfl)) dL_isMarked_5 ⟨Nat.le_of_ble_eq_true rfl, Nat.le_of_ble_eq_true rfl⟩) hS (fun _ _ h => False.elim h) (fun _ h => False.elim h) (fun _ _ h => False.elim h) (fun E ce q9 u t H1 locs1 ht hvm hpx hBX hz1 hk1 hS1 hce hcv hcl => ?_) (fun r u t H locs ht hvm hw hB hz1 hk1 hS => ?_)
  · exact absurd (hpx.1.trans hz) hpx.2
  obtain ⟨hc2, hw⟩ := hw
  subst hw
  have hP := P_kept hP hk1
  have hrz := hfp zd.toNat
  refine my_if_eq (tgt := 15) hx hb (by omega) dL_isMarked_8 (by decide) (fun bh3 => ?_) (fun bh3 => ?_)
  · refine lv_lconst (v := lI 0) hx hb dL_isMarked_15 (by decide) ?_
    refine my_last0 hx hb hK hP hD hS 0 rfl dL_isMarked_16 (fun H locs hP hD hS => ?_)
    have hP : va_P D vwCl [(po, .inl (cs 4, 1, .inr (.inl (vp_updL ov 0 (lI (0)))))), (kr, .inr (5, [.ref la, .ref ia, .ref na, .ref b4, .ref b6, .ref b8, .ref b10, .int (iI (((sh : Nat) : Int))), .int (iI (((it : Nat) : Int))), .int (iI (lc)), .int (iI (((dy : Nat) : Int))), .int (iI (pct)), .int (iI (lr)), .int (iI (sr))])), (ia, arQ cs 2 5 itf), (hi, .inr (1, [.int (iI (pk)), .int (iI (fs)), .ref ti, .ref go, .ref pr, .int (iI (st))])), (pr, .inr (0, [.ref upr])), (upr, arI cs 1005 fpr)] H := hP
    have hD : va_D A [(po, .inl (cs 4, 1, .inr (.inl (vp_updL ov 0 (lI (0)))))), (kr, .inr (5, [.ref la, .ref ia, .ref na, .ref b4, .ref b6, .ref b8, .ref b10, .int (iI (((sh : Nat) : Int))), .int (iI (((it : Nat) : Int))), .int (iI (lc)), .int (iI (((dy : Nat) : Int))), .int (iI (pct)), .int (iI (lr)), .int (iI (sr))])), (ia, arQ cs 2 5 itf), (hi, .inr (1, [.int (iI (pk)), .int (iI (fs)), .ref ti, .ref go, .ref pr, .int (iI (st))])), (pr, .inr (0, [.ref upr])), (upr, arI cs 1005 fpr)] := hD
    refine lv_goto (tgt := 28) hx hb dL_isMarked_17 (by decide) ?_
    refine lv_iconst (v := iI (0)) hx hb dL_isMarked_28 rfl ?_
    have hWe : ([(po, .inl (cs 4, 1, .inr (.inl (vp_updL ov 0 (lI (0)))))), (kr, .inr (5, [.ref la, .ref ia, .ref na, .ref b4, .ref b6, .ref b8, .ref b10, .int (iI (((sh : Nat) : Int))), .int (iI (((it : Nat) : Int))), .int (iI (lc)), .int (iI (((dy : Nat) : Int))), .int (iI (pct)), .int (iI (lr)), .int (iI (sr))])), (ia, arQ cs 2 5 itf), (hi, .inr (1, [.int (iI (pk)), .int (iI (fs)), .ref ti, .ref go, .ref pr, .int (iI (st))])), (pr, .inr (0, [.ref upr])), (upr, arI cs 1005 fpr)] : va_W) = [(po, .inl (cs 4, 1, .inr (.inl (vp_updL ov 0 (lI (fpr zd.toNat)))))), (kr, .inr (5, [.ref la, .ref ia, .ref na, .ref b4, .ref b6, .ref b8, .ref b10, .int (iI (((sh : Nat) : Int))), .int (iI (((it : Nat) : Int))), .int (iI (lc)), .int (iI (((dy : Nat) : Int))), .int (iI (pct)), .int (iI (lr)), .int (iI (sr))])), (ia, arQ cs 2 5 itf), (hi, .inr (1, [.int (iI (pk)), .int (iI (fs)), .ref ti, .ref go, .ref pr, .int (iI (st))])), (pr, .inr (0, [.ref upr])), (upr, arI cs 1005 fpr)] := by
      have hrz := hfp zd.toNat
      have hr1 : fpr zd.toNat = 0 := by omega
      rw [hr1]
    rw [hWe] at hP
    subst hAe
    refine W.widen (k := 2) (n := 12) (by omega) (by omega) ?_
    have hres : iI (0) = iI (0) := congrArg iI (by
        rfl)
    exact W.iret hx hb hr (fun t ht hW => ⟨⟨_, (), rfl, hres, by show va_P D vwCl _ t.heap; rw [ht]; exact hP⟩, hS.F ht⟩) hS.2.2 dL_isMarked_29
  · refine lv_lconst (v := lI 1) hx hb dL_isMarked_11 (by decide) ?_
    refine lv_goto (tgt := 16) hx hb dL_isMarked_12 (by decide) ?_
    refine my_last0 hx hb hK hP hD hS 0 rfl dL_isMarked_16 (fun H locs hP hD hS => ?_)
    have hP : va_P D vwCl [(po, .inl (cs 4, 1, .inr (.inl (vp_updL ov 0 (lI (1)))))), (kr, .inr (5, [.ref la, .ref ia, .ref na, .ref b4, .ref b6, .ref b8, .ref b10, .int (iI (((sh : Nat) : Int))), .int (iI (((it : Nat) : Int))), .int (iI (lc)), .int (iI (((dy : Nat) : Int))), .int (iI (pct)), .int (iI (lr)), .int (iI (sr))])), (ia, arQ cs 2 5 itf), (hi, .inr (1, [.int (iI (pk)), .int (iI (fs)), .ref ti, .ref go, .ref pr, .int (iI (st))])), (pr, .inr (0, [.ref upr])), (upr, arI cs 1005 fpr)] H := hP
    have hD : va_D A [(po, .inl (cs 4, 1, .inr (.inl (vp_updL ov 0 (lI (1)))))), (kr, .inr (5, [.ref la, .ref ia, .ref na, .ref b4, .ref b6, .ref b8, .ref b10, .int (iI (((sh : Nat) : Int))), .int (iI (((it : Nat) : Int))), .int (iI (lc)), .int (iI (((dy : Nat) : Int))), .int (iI (pct)), .int (iI (lr)), .int (iI (sr))])), (ia, arQ cs 2 5 itf), (hi, .inr (1, [.int (iI (pk)), .int (iI (fs)), .ref ti, .ref go, .ref pr, .int (iI (st))])), (pr, .inr (0, [.ref upr])), (upr, arI cs 1005 fpr)] := hD
    refine lv_goto (tgt := 28) hx hb dL_isMarked_17 (by decide) ?_
    refine lv_iconst (v := iI (0)) hx hb dL_isMarked_28 rfl ?_
    have hWe : ([(po, .inl (cs 4, 1, .inr (.inl (vp_updL ov 0 (lI (1)))))), (kr, .inr (5, [.ref la, .ref ia, .ref na, .ref b4, .ref b6, .ref b8, .ref b10, .int (iI (((sh : Nat) : Int))), .int (iI (((it : Nat) : Int))), .int (iI (lc)), .int (iI (((dy : Nat) : Int))), .int (iI (pct)), .int (iI (lr)), .int (iI (sr))])), (ia, arQ cs 2 5 itf), (hi, .inr (1, [.int (iI (pk)), .int (iI (fs)), .ref ti, .ref go, .ref pr, .int (iI (st))])), (pr, .inr (0, [.ref upr])), (upr, arI cs 1005 fpr)] : va_W) = [(po, .inl (cs 4, 1, .inr (.inl (vp_updL ov 0 (lI (fpr zd.toNat)))))), (kr, .inr (5, [.ref la, .ref ia, .ref na, .ref b4, .ref b6, .ref b8, .ref b10, .int (iI (((sh : Nat) : Int))), .int (iI (((it : Nat) : Int))), .int (iI (lc)), .int (iI (((dy : Nat) : Int))), .int (iI (pct)), .int (iI (lr)), .int (iI (sr))])), (ia, arQ cs 2 5 itf), (hi, .inr (1, [.int (iI (pk)), .int (iI (fs)), .ref ti, .ref go, .ref pr, .int (iI (st))])), (pr, .inr (0, [.ref upr])), (upr, arI cs 1005 fpr)] := by
      have hrz := hfp zd.toNat
      have hr1 : fpr zd.toNat = 1 := by omega
      rw [hr1]
    rw [hWe] at hP
    subst hAe
    refine W.widen (k := 2) (n := 12) (by omega) (by omega) ?_
    have hres : iI (0) = iI (0) := congrArg iI (by
        rfl)
    exact W.iret hx hb hr (fun t ht hW => ⟨⟨_, (), rfl, hres, by show va_P D vwCl _ t.heap; rw [ht]; exact hP⟩, hS.F ht⟩) hS.2.2 dL_isMarked_29

set_option maxHeartbeats 4000000 in
set_option maxRecDepth 100000 in
theorem m_L_isMarked_ok_t (l : Launch) (hst : l.stackTraces = false) (D : va_G) (cs : Nat → ClassId) (kr la ia na b4 b6 b8 b10 sh it : Nat) (lc : Int) (dy : Nat) (pct lr sr : Int) (itf : Nat → Option Nat) (tn : Nat) (hi ti go pr : Nat) (pk fs st : Int) (upr : Nat) (fpr : Nat → Int) (zd : Int) (po : Nat) (ov : Nat → Int64) (hit : it ≤ 5) (hitf : ∀ j, j < it → itf j ≠ none) (htn : tn < it) (hitn : itf tn = some hi) (hfp : ∀ j, 0 ≤ fpr j ∧ fpr j ≤ 1) (hzd : -2147483648 ≤ zd ∧ zd < 2147483648) (hne : (if zd < 0 ∨ 999 < zd then 3 else 0) ≠ 0) : Met l yL_isMarked ws_L_isMarked ({ frames := 8, cells := 2, slots := 12, locals := 127 }) (va_Pc [.ref kr, .int (iI (((tn : Nat) : Int))), .int (iI (zd)), .ref po] (PE D cs [(po, .inl (cs 4, 1, .inr (.inl ov))), (kr, .inr (5, [.ref la, .ref ia, .ref na, .ref b4, .ref b6, .ref b8, .ref b10, .int (iI (((sh : Nat) : Int))), .int (iI (((it : Nat) : Int))), .int (iI (lc)), .int (iI (((dy : Nat) : Int))), .int (iI (pct)), .int (iI (lr)), .int (iI (sr))])), (ia, arQ cs 2 5 itf), (hi, .inr (1, [.int (iI (pk)), .int (iI (fs)), .ref ti, .ref go, .ref pr, .int (iI (st))])), (pr, .inr (0, [.ref upr])), (upr, arI cs 1005 fpr)] noA)) (va_Qi (fun r (_ : Unit) => r = iI (hkI [1, 3] (if zd < 0 ∨ 999 < zd then 3 else 0))) (fun _ _ => True) noA) 2 12 noA := by
  refine va_MetW (cc := cL_isMarked) (maxL := 5) (ret := some .int) (hh := [(0, 17, 20, 25), (0, 17, 24, 13)]) (by decide +kernel) rfl ?_
  intro p e s m args below meth c s₁ B hml hv
  obtain ⟨rfl, ⟨hP, hK, hD, hN⟩, hE⟩ := hv
  have hx := B.exec
  have hb := B.bytes
  have hr := B.returns
  have hts : ∀ w ∈ ALL, w.before _ s = true := fun w h => atoms_spec (ws := ws_L_isMarked) B.pre w (List.mem_cons_of_mem _ h)
  have hown : s.vm.findClass RL = some m.cls := findClass_of_methodNamed B.named
  have hlocks := B.notSynchronized
  have htab : c.exceptionTable.toList = tableOf [(0, 17, 20, 25), (0, 17, 24, 13)] := vx_table (x := yL_isMarked) B (atoms_spec (ws := ws_L_isMarked) B.pre _ List.mem_cons_self)
  have hS : va_S noA s.heap s.heap [] := va_S.rf
  generalize inW [(po, .inl (cs 4, 1, .inr (.inl ov))), (kr, .inr (5, [.ref la, .ref ia, .ref na, .ref b4, .ref b6, .ref b8, .ref b10, .int (iI (((sh : Nat) : Int))), .int (iI (((it : Nat) : Int))), .int (iI (lc)), .int (iI (((dy : Nat) : Int))), .int (iI (pct)), .int (iI (lr)), .int (iI (sr))])), (ia, arQ cs 2 5 itf), (hi, .inr (1, [.int (iI (pk)), .int (iI (fs)), .ref ti, .ref go, .ref pr, .int (iI (st))])), (pr, .inr (0, [.ref upr])), (upr, arI cs 1005 fpr)] = A at hD
  have hl := lv_entry ([.ref kr, .int (iI (((tn : Nat) : Int))), .int (iI (zd)), .ref po]) (n := 5) (Nat.le_of_ble_eq_true rfl)
  rw [lg_entry_eq]
  generalize (lg_sl ([.ref kr, .int (iI (((tn : Nat) : Int))), .int (iI (zd)), .ref po]) ++ List.replicate (5 - (lg_sl ([.ref kr, .int (iI (((tn : Nat) : Int))), .int (iI (zd)), .ref po])).length) Slot.unset).toArray = ls at hl ⊢
  have hl : lv_has ls 5 [(0, .ref kr), (1, .int (iI (((tn : Nat) : Int)))), (2, .int (iI (zd))), (3, .ref po)] := hl
  have hH := rfl (a := s.heap)
  refine lv_aload_n hx hb dL_isMarked_0 rfl (lv_at hl 3 rfl) ?_
  refine lv_iconst (v := iI (0)) hx hb dL_isMarked_1 rfl ?_
  refine lv_aload_n hx hb dL_isMarked_2 rfl (lv_at hl 0 rfl) ?_
  refine lv_iload_n hx hb dL_isMarked_3 rfl (lv_at hl 1 rfl) ?_
  refine lv_iload_n hx hb dL_isMarked_4 rfl (lv_at hl 2 rfl) ?_
  have pk1 : picks [(po, .inl (cs 4, 1, .inr (.inl ov))), (kr, .inr (5, [.ref la, .ref ia, .ref na, .ref b4, .ref b6, .ref b8, .ref b10, .int (iI (((sh : Nat) : Int))), .int (iI (((it : Nat) : Int))), .int (iI (lc)), .int (iI (((dy : Nat) : Int))), .int (iI (pct)), .int (iI (lr)), .int (iI (sr))])), (ia, arQ cs 2 5 itf), (hi, .inr (1, [.int (iI (pk)), .int (iI (fs)), .ref ti, .ref go, .ref pr, .int (iI (st))])), (pr, .inr (0, [.ref upr])), (upr, arI cs 1005 fpr)] [1, 2, 3, 4, 5] [(kr, .inr (5, [.ref la, .ref ia, .ref na, .ref b4, .ref b6, .ref b8, .ref b10, .int (iI (((sh : Nat) : Int))), .int (iI (((it : Nat) : Int))), .int (iI (lc)), .int (iI (((dy : Nat) : Int))), .int (iI (pct)), .int (iI (lr)), .int (iI (sr))])), (ia, arQ cs 2 5 itf), (hi, .inr (1, [.int (iI (pk)), .int (iI (fs)), .ref ti, .ref go, .ref pr, .int (iI (st))])), (pr, .inr (0, [.ref upr])), (upr, arI cs 1005 fpr)] := ⟨rfl, rfl, rfl, rfl, rfl, trivial⟩
  refine vx_calli (vx_runV (As := [.int (iI (((tn : Nat) : Int))), .int (iI (zd))]) (rest := [.int (iI (0)), .ref po]) ⟨hx, hb, hml, hown, hts⟩ (m_X5_isMarked_ok l hst D cs kr la ia na b4 b6 b8 b10 sh it lc dy pct lr sr itf tn hi ti go pr pk fs st upr fpr zd (hit) (hitf) (htn) (hitn) (hfp) (hzd)) (cwV 2 hts (gV w_447 w_448 w_449 w_1 w_450) rfl rfl rfl (by decide +kernel) ⟨Nat.le_of_ble_eq_true rfl, Nat.le_of_ble_eq_true rfl⟩) (PE_V hK hN hE hS (fun _ h => False.elim h) hP hD [1, 2, 3, 4, 5] rfl pk1 rfl rfl) rfl rfl hl.1 rfl (lv_room (Nat.le_of_ble_eq_true rfl)) dL_isMarked_5 ⟨Nat.le_of_ble_eq_true rfl, Nat.le_of_ble_eq_true rfl⟩) hS (fun _ _ h => False.elim h) (fun _ h => False.elim h) (fun _ _ h => False.elim h) (fun E ce q9 u t H1 locs1 ht hvm hpx hBX hz1 hk1 hS1 hce hcv hcl => ?_) (fun r u t H locs ht hvm hw hB hz1 hk1 hS => ?_)
  · have h9 : u = (if zd < 0 ∨ 999 < zd then 3 else 0) := hpx.1
    have hS := hS1
    have hcd : (if zd < 0 ∨ 999 < zd then 3 else 0) = 3 := by
      revert hne
      (try unfold cdL); (try unfold cdS); (try unfold cdC)
      (repeat' split) <;> simp
    have hEu := hBX
    have hP := P_kept hP hk1
    have hc3 := hcd
    have hE3 : E = "java/lang/IllegalArgumentException" := by have h8 : E = exN u := hEu; rw [h8, h9, hc3]; rfl
    subst hE3
    refine vx_catch (name := "java/lang/IllegalArgumentException") hown [⟨0, 17, 20, 25⟩] ⟨0, 17, 24, 13⟩ [] (htab.trans rfl) (fun z hz => by
        simp only [List.mem_cons, List.not_mem_nil, or_false] at hz
        rcases hz with rfl
        · exact Or.inr ⟨by decide, "java/lang/IndexOutOfBoundsException", hts _ w_266, hE.2.2.2.2.2 _ (List.mem_of_getElem? (i := 8) rfl)⟩) rfl (by decide) (hts _ w_132) (hE.use _ (List.mem_append_right _ (List.mem_map.mpr ⟨_, List.mem_of_getElem? (i := 2) rfl, rfl⟩))) hce hcv hcl ?_
    refine lv_astore (lv' := [(4, .ref q9), (0, .ref kr), (1, .int (iI (((tn : Nat) : Int)))), (2, .int (iI (zd))), (3, .ref po)]) hx hb dL_isMarked_24 hl (by decide) rfl (fun ls hl => ?_)
    refine lv_iconst (v := iI (2)) hx hb dL_isMarked_26 rfl ?_
    refine W.widen (k := 2) (n := 12) (by omega) (by omega) ?_
    have hres : iI (2) = iI (hkI [1, 3] (if zd < 0 ∨ 999 < zd then 3 else 0)) := congrArg iI (by
        rw [hc3]; rfl)
    exact W.iret hx hb hr (fun t ht hW => ⟨⟨_, (), rfl, hres, trivial⟩, hS.F ht⟩) hS.2.2 dL_isMarked_27
  obtain ⟨hc2, hw⟩ := hw
  subst hw
  have hP := P_kept hP hk1
  exact absurd hc2 hne

abbrev ws_L_mark : List Cond := Cond.codeWith yL_mark cL_mark 5 (some .int) [(0, 17, 20, 25), (0, 17, 24, 13)] :: ALL
set_option maxHeartbeats 4000000 in
set_option maxRecDepth 100000 in
theorem m_L_mark_no_t (l : Launch) (hst : l.stackTraces = false) (D : va_G) (cs : Nat → ClassId) (kr la ia na b4 b6 b8 b10 sh it : Nat) (lc : Int) (dy : Nat) (pct lr sr : Int) (itf : Nat → Option Nat) (zi : Int) (z0 : Int) (po : Nat) (ov : Nat → Int64) (hit : it ≤ 5) (hitf : ∀ j, j < it → itf j ≠ none) (hzi : -2147483648 ≤ zi ∧ zi < 2147483648) (hno : cdS it zi ≠ 0) : Met l yL_mark ws_L_mark ({ frames := 8, cells := 1, slots := 6, locals := 128 }) (va_Pc [.ref kr, .int (iI (zi)), .int (iI (z0)), .ref po] (PE D cs [(po, .inl (cs 4, 1, .inr (.inl ov))), (kr, .inr (5, [.ref la, .ref ia, .ref na, .ref b4, .ref b6, .ref b8, .ref b10, .int (iI (((sh : Nat) : Int))), .int (iI (((it : Nat) : Int))), .int (iI (lc)), .int (iI (((dy : Nat) : Int))), .int (iI (pct)), .int (iI (lr)), .int (iI (sr))])), (ia, arQ cs 2 5 itf)] noA)) (va_Qi (fun r (_ : Unit) => r = iI (hkI [1, 3] (cdS it zi))) (fun _ _ => True) noA) 1 6 noA := by
  refine va_MetW (cc := cL_mark) (maxL := 5) (ret := some .int) (hh := [(0, 17, 20, 25), (0, 17, 24, 13)]) (by decide +kernel) rfl ?_
  intro p e s m args below meth c s₁ B hml hv
  obtain ⟨rfl, ⟨hP, hK, hD, hN⟩, hE⟩ := hv
  have hx := B.exec
  have hb := B.bytes
  have hr := B.returns
  have hts : ∀ w ∈ ALL, w.before _ s = true := fun w h => atoms_spec (ws := ws_L_mark) B.pre w (List.mem_cons_of_mem _ h)
  have hown : s.vm.findClass RL = some m.cls := findClass_of_methodNamed B.named
  have hlocks := B.notSynchronized
  have htab : c.exceptionTable.toList = tableOf [(0, 17, 20, 25), (0, 17, 24, 13)] := vx_table (x := yL_mark) B (atoms_spec (ws := ws_L_mark) B.pre _ List.mem_cons_self)
  have hS : va_S noA s.heap s.heap [] := va_S.rf
  generalize inW [(po, .inl (cs 4, 1, .inr (.inl ov))), (kr, .inr (5, [.ref la, .ref ia, .ref na, .ref b4, .ref b6, .ref b8, .ref b10, .int (iI (((sh : Nat) : Int))), .int (iI (((it : Nat) : Int))), .int (iI (lc)), .int (iI (((dy : Nat) : Int))), .int (iI (pct)), .int (iI (lr)), .int (iI (sr))])), (ia, arQ cs 2 5 itf)] = A at hD
  have hl := lv_entry ([.ref kr, .int (iI (zi)), .int (iI (z0)), .ref po]) (n := 5) (Nat.le_of_ble_eq_true rfl)
  rw [lg_entry_eq]
  generalize (lg_sl ([.ref kr, .int (iI (zi)), .int (iI (z0)), .ref po]) ++ List.replicate (5 - (lg_sl ([.ref kr, .int (iI (zi)), .int (iI (z0)), .ref po])).length) Slot.unset).toArray = ls at hl ⊢
  have hl : lv_has ls 5 [(0, .ref kr), (1, .int (iI (zi))), (2, .int (iI (z0))), (3, .ref po)] := hl
  have hH := rfl (a := s.heap)
  refine lv_aload_n hx hb dL_mark_0 rfl (lv_at hl 3 rfl) ?_
  refine lv_iconst (v := iI (0)) hx hb dL_mark_1 rfl ?_
  refine lv_aload_n hx hb dL_mark_2 rfl (lv_at hl 0 rfl) ?_
  refine lv_iload_n hx hb dL_mark_3 rfl (lv_at hl 1 rfl) ?_
  refine lv_iload_n hx hb dL_mark_4 rfl (lv_at hl 2 rfl) ?_
  have pk1 : picks [(po, .inl (cs 4, 1, .inr (.inl ov))), (kr, .inr (5, [.ref la, .ref ia, .ref na, .ref b4, .ref b6, .ref b8, .ref b10, .int (iI (((sh : Nat) : Int))), .int (iI (((it : Nat) : Int))), .int (iI (lc)), .int (iI (((dy : Nat) : Int))), .int (iI (pct)), .int (iI (lr)), .int (iI (sr))])), (ia, arQ cs 2 5 itf)] [1, 2] [(kr, .inr (5, [.ref la, .ref ia, .ref na, .ref b4, .ref b6, .ref b8, .ref b10, .int (iI (((sh : Nat) : Int))), .int (iI (((it : Nat) : Int))), .int (iI (lc)), .int (iI (((dy : Nat) : Int))), .int (iI (pct)), .int (iI (lr)), .int (iI (sr))])), (ia, arQ cs 2 5 itf)] := ⟨rfl, rfl, trivial⟩
  refine vx_calli (vx_runV (As := [.int (iI (zi)), .int (iI (z0))]) (rest := [.int (iI (0)), .ref po]) ⟨hx, hb, hml, hown, hts⟩ (m_X5_mark_no l hst D cs kr la ia na b4 b6 b8 b10 sh it lc dy pct lr sr itf zi z0 (hit) (hitf) (hzi) (hno)) (cwV 2 hts (gV w_433 w_434 w_435 w_1 w_436) rfl rfl rfl (by decide +kernel) ⟨Nat.le_of_ble_eq_true rfl, Nat.le_of_ble_eq_true rfl⟩) (PE_V hK hN hE hS (fun _ h => False.elim h) hP hD [1, 2] rfl pk1 rfl rfl) rfl rfl hl.1 rfl (lv_room (Nat.le_of_ble_eq_true rfl)) dL_mark_5 ⟨Nat.le_of_ble_eq_true rfl, Nat.le_of_ble_eq_true rfl⟩) hS (fun _ _ h => False.elim h) (fun _ h => False.elim h) (fun _ _ h => False.elim h) (fun E ce q9 u t H1 locs1 ht hvm hpx hBX hz1 hk1 hS1 hce hcv hcl => ?_) (fun r u t H locs ht hvm hw hB hz1 hk1 hS => ?_)
  · have h9 : u = cdS it zi := hpx.1
    have hS := hS1
    have hcd : cdS it zi = 1 := by
      revert hno
      (try unfold cdL); (try unfold cdS); (try unfold cdC)
      (repeat' split) <;> simp
    have hEu := hBX
    have hP := P_kept hP hk1
    have hc3 := hcd
    have hE3 : E = "java/lang/IndexOutOfBoundsException" := by have h8 : E = exN u := hEu; rw [h8, h9, hc3]; rfl
    subst hE3
    refine vx_catch (name := "java/lang/IndexOutOfBoundsException") hown [] ⟨0, 17, 20, 25⟩ [⟨0, 17, 24, 13⟩] (htab.trans rfl) (fun z hz => by cases hz) rfl (by decide) (hts _ w_266) (hE.use _ (List.mem_append_right _ (List.mem_map.mpr ⟨_, List.mem_of_getElem? (i := 0) rfl, rfl⟩))) hce hcv hcl ?_
    refine lv_astore (lv' := [(4, .ref q9), (0, .ref kr), (1, .int (iI (zi))), (2, .int (iI (z0))), (3, .ref po)]) hx hb dL_mark_20 hl (by decide) rfl (fun ls hl => ?_)
    refine lv_iconst (v := iI (1)) hx hb dL_mark_22 rfl ?_
    refine W.widen (k := 1) (n := 6) (by omega) (by omega) ?_
    have hres : iI (1) = iI (hkI [1, 3] (cdS it zi)) := congrArg iI (by
        rw [hc3]; rfl)
    exact W.iret hx hb hr (fun t ht hW => ⟨⟨_, (), rfl, hres, trivial⟩, hS.F ht⟩) hS.2.2 dL_mark_23
  obtain ⟨hc2, hw⟩ := hw
  subst hw
  have hP := P_kept hP hk1
  exact absurd hc2 hno

set_option maxHeartbeats 4000000 in
set_option maxRecDepth 100000 in
theorem m_L_mark_ok_r (l : Launch) (hst : l.stackTraces = false) (D : va_G) (cs : Nat → ClassId) (kr la ia na b4 b6 b8 b10 sh it : Nat) (lc : Int) (dy : Nat) (pct lr sr : Int) (itf : Nat → Option Nat) (tn : Nat) (hi ti go pr : Nat) (pk fs st : Int) (upr : Nat) (fpr : Nat → Int) (zd : Int) (po : Nat) (ov : Nat → Int64) (hit : it ≤ 5) (hitf : ∀ j, j < it → itf j ≠ none) (htn : tn < it) (hitn : itf tn = some hi) (hfp : ∀ j, 0 ≤ fpr j ∧ fpr j ≤ 1) (hd : dy < 1000) (hzd : -2147483648 ≤ zd ∧ zd < 2147483648) (hz : (if zd < (dy : Int) ∨ 999 < zd then 3 else 0) = 0) : Met l yL_mark ws_L_mark ({ frames := 8, cells := 2, slots := 12, locals := 128 }) (va_Pc [.ref kr, .int (iI (((tn : Nat) : Int))), .int (iI (zd)), .ref po] (PE D cs [(po, .inl (cs 4, 1, .inr (.inl ov))), (kr, .inr (5, [.ref la, .ref ia, .ref na, .ref b4, .ref b6, .ref b8, .ref b10, .int (iI (((sh : Nat) : Int))), .int (iI (((it : Nat) : Int))), .int (iI (lc)), .int (iI (((dy : Nat) : Int))), .int (iI (pct)), .int (iI (lr)), .int (iI (sr))])), (ia, arQ cs 2 5 itf), (hi, .inr (1, [.int (iI (pk)), .int (iI (fs)), .ref ti, .ref go, .ref pr, .int (iI (st))])), (pr, .inr (0, [.ref upr])), (upr, arI cs 1005 fpr)] (inW [(po, .inl (cs 4, 1, .inr (.inl ov))), (kr, .inr (5, [.ref la, .ref ia, .ref na, .ref b4, .ref b6, .ref b8, .ref b10, .int (iI (((sh : Nat) : Int))), .int (iI (((it : Nat) : Int))), .int (iI (lc)), .int (iI (((dy : Nat) : Int))), .int (iI (pct)), .int (iI (lr)), .int (iI (sr))])), (ia, arQ cs 2 5 itf), (hi, .inr (1, [.int (iI (pk)), .int (iI (fs)), .ref ti, .ref go, .ref pr, .int (iI (st))])), (pr, .inr (0, [.ref upr])), (upr, arI cs 1005 fpr)]))) (va_Qi (fun r (_ : Unit) => r = iI (0)) (fun _ t => va_P D vwCl [(po, .inl (cs 4, 1, .inr (.inl (vp_updL ov 0 (lI (fpr zd.toNat)))))), (kr, .inr (5, [.ref la, .ref ia, .ref na, .ref b4, .ref b6, .ref b8, .ref b10, .int (iI (((sh : Nat) : Int))), .int (iI (((it : Nat) : Int))), .int (iI (lc)), .int (iI (((dy : Nat) : Int))), .int (iI (pct)), .int (iI (lr)), .int (iI (sr))])), (ia, arQ cs 2 5 itf), (hi, .inr (1, [.int (iI (pk)), .int (iI (fs)), .ref ti, .ref go, .ref pr, .int (iI (st))])), (pr, .inr (0, [.ref upr])), (upr, arI cs 1005 (upI fpr zd.toNat 1))] t.heap) (inW [(po, .inl (cs 4, 1, .inr (.inl ov))), (kr, .inr (5, [.ref la, .ref ia, .ref na, .ref b4, .ref b6, .ref b8, .ref b10, .int (iI (((sh : Nat) : Int))), .int (iI (((it : Nat) : Int))), .int (iI (lc)), .int (iI (((dy : Nat) : Int))), .int (iI (pct)), .int (iI (lr)), .int (iI (sr))])), (ia, arQ cs 2 5 itf), (hi, .inr (1, [.int (iI (pk)), .int (iI (fs)), .ref ti, .ref go, .ref pr, .int (iI (st))])), (pr, .inr (0, [.ref upr])), (upr, arI cs 1005 fpr)])) 2 12 (inW [(po, .inl (cs 4, 1, .inr (.inl ov))), (kr, .inr (5, [.ref la, .ref ia, .ref na, .ref b4, .ref b6, .ref b8, .ref b10, .int (iI (((sh : Nat) : Int))), .int (iI (((it : Nat) : Int))), .int (iI (lc)), .int (iI (((dy : Nat) : Int))), .int (iI (pct)), .int (iI (lr)), .int (iI (sr))])), (ia, arQ cs 2 5 itf), (hi, .inr (1, [.int (iI (pk)), .int (iI (fs)), .ref ti, .ref go, .ref pr, .int (iI (st))])), (pr, .inr (0, [.ref upr])), (upr, arI cs 1005 fpr)]) := by
  refine va_MetW (cc := cL_mark) (maxL := 5) (ret := some .int) (hh := [(0, 17, 20, 25), (0, 17, 24, 13)]) (by decide +kernel) rfl ?_
  intro p e s m args below meth c s₁ B hml hv
  obtain ⟨rfl, ⟨hP, hK, hD, hN⟩, hE⟩ := hv
  have hx := B.exec
  have hb := B.bytes
  have hr := B.returns
  have hts : ∀ w ∈ ALL, w.before _ s = true := fun w h => atoms_spec (ws := ws_L_mark) B.pre w (List.mem_cons_of_mem _ h)
  have hown : s.vm.findClass RL = some m.cls := findClass_of_methodNamed B.named
  have hlocks := B.notSynchronized
  have htab : c.exceptionTable.toList = tableOf [(0, 17, 20, 25), (0, 17, 24, 13)] := vx_table (x := yL_mark) B (atoms_spec (ws := ws_L_mark) B.pre _ List.mem_cons_self)
  generalize hAe : inW [(po, .inl (cs 4, 1, .inr (.inl ov))), (kr, .inr (5, [.ref la, .ref ia, .ref na, .ref b4, .ref b6, .ref b8, .ref b10, .int (iI (((sh : Nat) : Int))), .int (iI (((it : Nat) : Int))), .int (iI (lc)), .int (iI (((dy : Nat) : Int))), .int (iI (pct)), .int (iI (lr)), .int (iI (sr))])), (ia, arQ cs 2 5 itf), (hi, .inr (1, [.int (iI (pk)), .int (iI (fs)), .ref ti, .ref go, .ref pr, .int (iI (st))])), (pr, .inr (0, [.ref upr])), (upr, arI cs 1005 fpr)] = A at hD hE ⊢
  have hS : va_S A s.heap s.heap [] := va_S.rf
  have hl := lv_entry ([.ref kr, .int (iI (((tn : Nat) : Int))), .int (iI (zd)), .ref po]) (n := 5) (Nat.le_of_ble_eq_true rfl)
  rw [lg_entry_eq]
  generalize (lg_sl ([.ref kr, .int (iI (((tn : Nat) : Int))), .int (iI (zd)), .ref po]) ++ List.replicate (5 - (lg_sl ([.ref kr, .int (iI (((tn : Nat) : Int))), .int (iI (zd)), .ref po])).length) Slot.unset).toArray = ls at hl ⊢
  have hl : lv_has ls 5 [(0, .ref kr), (1, .int (iI (((tn : Nat) : Int)))), (2, .int (iI (zd))), (3, .ref po)] := hl
  have hH := rfl (a := s.heap)
  refine lv_aload_n hx hb dL_mark_0 rfl (lv_at hl 3 rfl) ?_
  refine lv_iconst (v := iI (0)) hx hb dL_mark_1 rfl ?_
  refine lv_aload_n hx hb dL_mark_2 rfl (lv_at hl 0 rfl) ?_
  refine lv_iload_n hx hb dL_mark_3 rfl (lv_at hl 1 rfl) ?_
  refine lv_iload_n hx hb dL_mark_4 rfl (lv_at hl 2 rfl) ?_
  have pk1 : picks [(po, .inl (cs 4, 1, .inr (.inl ov))), (kr, .inr (5, [.ref la, .ref ia, .ref na, .ref b4, .ref b6, .ref b8, .ref b10, .int (iI (((sh : Nat) : Int))), .int (iI (((it : Nat) : Int))), .int (iI (lc)), .int (iI (((dy : Nat) : Int))), .int (iI (pct)), .int (iI (lr)), .int (iI (sr))])), (ia, arQ cs 2 5 itf), (hi, .inr (1, [.int (iI (pk)), .int (iI (fs)), .ref ti, .ref go, .ref pr, .int (iI (st))])), (pr, .inr (0, [.ref upr])), (upr, arI cs 1005 fpr)] [1, 2, 3, 4, 5] [(kr, .inr (5, [.ref la, .ref ia, .ref na, .ref b4, .ref b6, .ref b8, .ref b10, .int (iI (((sh : Nat) : Int))), .int (iI (((it : Nat) : Int))), .int (iI (lc)), .int (iI (((dy : Nat) : Int))), .int (iI (pct)), .int (iI (lr)), .int (iI (sr))])), (ia, arQ cs 2 5 itf), (hi, .inr (1, [.int (iI (pk)), .int (iI (fs)), .ref ti, .ref go, .ref pr, .int (iI (st))])), (pr, .inr (0, [.ref upr])), (upr, arI cs 1005 fpr)] := ⟨rfl, rfl, rfl, rfl, rfl, trivial⟩
  refine vx_calli (vx_runV (As := [.int (iI (((tn : Nat) : Int))), .int (iI (zd))]) (rest := [.int (iI (0)), .ref po]) ⟨hx, hb, hml, hown, hts⟩ (m_X5_mark_ok l hst D cs kr la ia na b4 b6 b8 b10 sh it lc dy pct lr sr itf tn hi ti go pr pk fs st upr fpr zd (hit) (hitf) (htn) (hitn) (hfp) (hd) (hzd)) (cwV 2 hts (gV w_433 w_434 w_435 w_1 w_436) rfl rfl rfl (by decide +kernel) ⟨Nat.le_of_ble_eq_true rfl, Nat.le_of_ble_eq_true rfl⟩) (PE_V hK hN hE hS (fun q h => inW_sub hD [1, 2, 3, 4, 5] pk1 q h) hP hD [1, 2, 3, 4, 5] rfl pk1 rfl rfl) rfl rfl hl.1 rfl (lv_room (Nat.le_of_ble_eq_true rfl)) dL_mark_5 ⟨Nat.le_of_ble_eq_true rfl, Nat.le_of_ble_eq_true rfl⟩) hS (fun q _ h => inW_sub hD [1, 2, 3, 4, 5] pk1 q h) (fun q h => inW_sub hD [1, 2, 3, 4, 5] pk1 q h) (fun q _ h => inW_sub hD [1, 2, 3, 4, 5] pk1 q h) (fun E ce q9 u t H1 locs1 ht hvm hpx hBX hz1 hk1 hS1 hce hcv hcl => ?_) (fun r u t H locs ht hvm hw hB hz1 hk1 hS => ?_)
  · exact absurd (hpx.1.trans hz) hpx.2
  obtain ⟨hc2, hw⟩ := hw
  subst hw
  rw [ht] at hB
  obtain ⟨hP, hD⟩ := my_join (W1 := [(kr, .inr (5, [.ref la, .ref ia, .ref na, .ref b4, .ref b6, .ref b8, .ref b10, .int (iI (((sh : Nat) : Int))), .int (iI (((it : Nat) : Int))), .int (iI (lc)), .int (iI (((dy : Nat) : Int))), .int (iI (pct)), .int (iI (lr)), .int (iI (sr))])), (ia, arQ cs 2 5 itf), (hi, .inr (1, [.int (iI (pk)), .int (iI (fs)), .ref ti, .ref go, .ref pr, .int (iI (st))])), (pr, .inr (0, [.ref upr])), (upr, arI cs 1005 (upI fpr zd.toNat 1))]) hP hD [1, 2, 3, 4, 5] rfl pk1 rfl hk1 hB
  have hP : va_P D vwCl [(po, .inl (cs 4, 1, .inr (.inl ov))), (kr, .inr (5, [.ref la, .ref ia, .ref na, .ref b4, .ref b6, .ref b8, .ref b10, .int (iI (((sh : Nat) : Int))), .int (iI (((it : Nat) : Int))), .int (iI (lc)), .int (iI (((dy : Nat) : Int))), .int (iI (pct)), .int (iI (lr)), .int (iI (sr))])), (ia, arQ cs 2 5 itf), (hi, .inr (1, [.int (iI (pk)), .int (iI (fs)), .ref ti, .ref go, .ref pr, .int (iI (st))])), (pr, .inr (0, [.ref upr])), (upr, arI cs 1005 (upI fpr zd.toNat 1))] H := hP
  have hD : va_D A [(po, .inl (cs 4, 1, .inr (.inl ov))), (kr, .inr (5, [.ref la, .ref ia, .ref na, .ref b4, .ref b6, .ref b8, .ref b10, .int (iI (((sh : Nat) : Int))), .int (iI (((it : Nat) : Int))), .int (iI (lc)), .int (iI (((dy : Nat) : Int))), .int (iI (pct)), .int (iI (lr)), .int (iI (sr))])), (ia, arQ cs 2 5 itf), (hi, .inr (1, [.int (iI (pk)), .int (iI (fs)), .ref ti, .ref go, .ref pr, .int (iI (st))])), (pr, .inr (0, [.ref upr])), (upr, arI cs 1005 (upI fpr zd.toNat 1))] := hD
  have hrz := hfp zd.toNat
  refine my_if_eq (tgt := 15) hx hb (by omega) dL_mark_8 (by decide) (fun bh3 => ?_) (fun bh3 => ?_)
  · refine lv_lconst (v := lI 0) hx hb dL_mark_15 (by decide) ?_
    refine my_last0 hx hb hK hP hD hS 0 rfl dL_mark_16 (fun H locs hP hD hS => ?_)
    have hP : va_P D vwCl [(po, .inl (cs 4, 1, .inr (.inl (vp_updL ov 0 (lI (0)))))), (kr, .inr (5, [.ref la, .ref ia, .ref na, .ref b4, .ref b6, .ref b8, .ref b10, .int (iI (((sh : Nat) : Int))), .int (iI (((it : Nat) : Int))), .int (iI (lc)), .int (iI (((dy : Nat) : Int))), .int (iI (pct)), .int (iI (lr)), .int (iI (sr))])), (ia, arQ cs 2 5 itf), (hi, .inr (1, [.int (iI (pk)), .int (iI (fs)), .ref ti, .ref go, .ref pr, .int (iI (st))])), (pr, .inr (0, [.ref upr])), (upr, arI cs 1005 (upI fpr zd.toNat 1))] H := hP
    have hD : va_D A [(po, .inl (cs 4, 1, .inr (.inl (vp_updL ov 0 (lI (0)))))), (kr, .inr (5, [.ref la, .ref ia, .ref na, .ref b4, .ref b6, .ref b8, .ref b10, .int (iI (((sh : Nat) : Int))), .int (iI (((it : Nat) : Int))), .int (iI (lc)), .int (iI (((dy : Nat) : Int))), .int (iI (pct)), .int (iI (lr)), .int (iI (sr))])), (ia, arQ cs 2 5 itf), (hi, .inr (1, [.int (iI (pk)), .int (iI (fs)), .ref ti, .ref go, .ref pr, .int (iI (st))])), (pr, .inr (0, [.ref upr])), (upr, arI cs 1005 (upI fpr zd.toNat 1))] := hD
    refine lv_goto (tgt := 28) hx hb dL_mark_17 (by decide) ?_
    refine lv_iconst (v := iI (0)) hx hb dL_mark_28 rfl ?_
    have hWe : ([(po, .inl (cs 4, 1, .inr (.inl (vp_updL ov 0 (lI (0)))))), (kr, .inr (5, [.ref la, .ref ia, .ref na, .ref b4, .ref b6, .ref b8, .ref b10, .int (iI (((sh : Nat) : Int))), .int (iI (((it : Nat) : Int))), .int (iI (lc)), .int (iI (((dy : Nat) : Int))), .int (iI (pct)), .int (iI (lr)), .int (iI (sr))])), (ia, arQ cs 2 5 itf), (hi, .inr (1, [.int (iI (pk)), .int (iI (fs)), .ref ti, .ref go, .ref pr, .int (iI (st))])), (pr, .inr (0, [.ref upr])), (upr, arI cs 1005 (upI fpr zd.toNat 1))] : va_W) = [(po, .inl (cs 4, 1, .inr (.inl (vp_updL ov 0 (lI (fpr zd.toNat)))))), (kr, .inr (5, [.ref la, .ref ia, .ref na, .ref b4, .ref b6, .ref b8, .ref b10, .int (iI (((sh : Nat) : Int))), .int (iI (((it : Nat) : Int))), .int (iI (lc)), .int (iI (((dy : Nat) : Int))), .int (iI (pct)), .int (iI (lr)), .int (iI (sr))])), (ia, arQ cs 2 5 itf), (hi, .inr (1, [.int (iI (pk)), .int (iI (fs)), .ref ti, .ref go, .ref pr, .int (iI (st))])), (pr, .inr (0, [.ref upr])), (upr, arI cs 1005 (upI fpr zd.toNat 1))] := by
      have hrz := hfp zd.toNat
      have hr1 : fpr zd.toNat = 0 := by omega
      rw [hr1]
    rw [hWe] at hP
    subst hAe
    refine W.widen (k := 2) (n := 12) (by omega) (by omega) ?_
    have hres : iI (0) = iI (0) := congrArg iI (by
        rfl)
    exact W.iret hx hb hr (fun t ht hW => ⟨⟨_, (), rfl, hres, by show va_P D vwCl _ t.heap; rw [ht]; exact hP⟩, hS.F ht⟩) hS.2.2 dL_mark_29
  · refine lv_lconst (v := lI 1) hx hb dL_mark_11 (by decide) ?_
    refine lv_goto (tgt := 16) hx hb dL_mark_12 (by decide) ?_
    refine my_last0 hx hb hK hP hD hS 0 rfl dL_mark_16 (fun H locs hP hD hS => ?_)
    have hP : va_P D vwCl [(po, .inl (cs 4, 1, .inr (.inl (vp_updL ov 0 (lI (1)))))), (kr, .inr (5, [.ref la, .ref ia, .ref na, .ref b4, .ref b6, .ref b8, .ref b10, .int (iI (((sh : Nat) : Int))), .int (iI (((it : Nat) : Int))), .int (iI (lc)), .int (iI (((dy : Nat) : Int))), .int (iI (pct)), .int (iI (lr)), .int (iI (sr))])), (ia, arQ cs 2 5 itf), (hi, .inr (1, [.int (iI (pk)), .int (iI (fs)), .ref ti, .ref go, .ref pr, .int (iI (st))])), (pr, .inr (0, [.ref upr])), (upr, arI cs 1005 (upI fpr zd.toNat 1))] H := hP
    have hD : va_D A [(po, .inl (cs 4, 1, .inr (.inl (vp_updL ov 0 (lI (1)))))), (kr, .inr (5, [.ref la, .ref ia, .ref na, .ref b4, .ref b6, .ref b8, .ref b10, .int (iI (((sh : Nat) : Int))), .int (iI (((it : Nat) : Int))), .int (iI (lc)), .int (iI (((dy : Nat) : Int))), .int (iI (pct)), .int (iI (lr)), .int (iI (sr))])), (ia, arQ cs 2 5 itf), (hi, .inr (1, [.int (iI (pk)), .int (iI (fs)), .ref ti, .ref go, .ref pr, .int (iI (st))])), (pr, .inr (0, [.ref upr])), (upr, arI cs 1005 (upI fpr zd.toNat 1))] := hD
    refine lv_goto (tgt := 28) hx hb dL_mark_17 (by decide) ?_
    refine lv_iconst (v := iI (0)) hx hb dL_mark_28 rfl ?_
    have hWe : ([(po, .inl (cs 4, 1, .inr (.inl (vp_updL ov 0 (lI (1)))))), (kr, .inr (5, [.ref la, .ref ia, .ref na, .ref b4, .ref b6, .ref b8, .ref b10, .int (iI (((sh : Nat) : Int))), .int (iI (((it : Nat) : Int))), .int (iI (lc)), .int (iI (((dy : Nat) : Int))), .int (iI (pct)), .int (iI (lr)), .int (iI (sr))])), (ia, arQ cs 2 5 itf), (hi, .inr (1, [.int (iI (pk)), .int (iI (fs)), .ref ti, .ref go, .ref pr, .int (iI (st))])), (pr, .inr (0, [.ref upr])), (upr, arI cs 1005 (upI fpr zd.toNat 1))] : va_W) = [(po, .inl (cs 4, 1, .inr (.inl (vp_updL ov 0 (lI (fpr zd.toNat)))))), (kr, .inr (5, [.ref la, .ref ia, .ref na, .ref b4, .ref b6, .ref b8, .ref b10, .int (iI (((sh : Nat) : Int))), .int (iI (((it : Nat) : Int))), .int (iI (lc)), .int (iI (((dy : Nat) : Int))), .int (iI (pct)), .int (iI (lr)), .int (iI (sr))])), (ia, arQ cs 2 5 itf), (hi, .inr (1, [.int (iI (pk)), .int (iI (fs)), .ref ti, .ref go, .ref pr, .int (iI (st))])), (pr, .inr (0, [.ref upr])), (upr, arI cs 1005 (upI fpr zd.toNat 1))] := by
      have hrz := hfp zd.toNat
      have hr1 : fpr zd.toNat = 1 := by omega
      rw [hr1]
    rw [hWe] at hP
    subst hAe
    refine W.widen (k := 2) (n := 12) (by omega) (by omega) ?_
    have hres : iI (0) = iI (0) := congrArg iI (by
        rfl)
    exact W.iret hx hb hr (fun t ht hW => ⟨⟨_, (), rfl, hres, by show va_P D vwCl _ t.heap; rw [ht]; exact hP⟩, hS.F ht⟩) hS.2.2 dL_mark_29

set_option maxHeartbeats 4000000 in
set_option maxRecDepth 100000 in
theorem m_L_mark_ok_t (l : Launch) (hst : l.stackTraces = false) (D : va_G) (cs : Nat → ClassId) (kr la ia na b4 b6 b8 b10 sh it : Nat) (lc : Int) (dy : Nat) (pct lr sr : Int) (itf : Nat → Option Nat) (tn : Nat) (hi ti go pr : Nat) (pk fs st : Int) (upr : Nat) (fpr : Nat → Int) (zd : Int) (po : Nat) (ov : Nat → Int64) (hit : it ≤ 5) (hitf : ∀ j, j < it → itf j ≠ none) (htn : tn < it) (hitn : itf tn = some hi) (hfp : ∀ j, 0 ≤ fpr j ∧ fpr j ≤ 1) (hd : dy < 1000) (hzd : -2147483648 ≤ zd ∧ zd < 2147483648) (hne : (if zd < (dy : Int) ∨ 999 < zd then 3 else 0) ≠ 0) : Met l yL_mark ws_L_mark ({ frames := 8, cells := 2, slots := 12, locals := 128 }) (va_Pc [.ref kr, .int (iI (((tn : Nat) : Int))), .int (iI (zd)), .ref po] (PE D cs [(po, .inl (cs 4, 1, .inr (.inl ov))), (kr, .inr (5, [.ref la, .ref ia, .ref na, .ref b4, .ref b6, .ref b8, .ref b10, .int (iI (((sh : Nat) : Int))), .int (iI (((it : Nat) : Int))), .int (iI (lc)), .int (iI (((dy : Nat) : Int))), .int (iI (pct)), .int (iI (lr)), .int (iI (sr))])), (ia, arQ cs 2 5 itf), (hi, .inr (1, [.int (iI (pk)), .int (iI (fs)), .ref ti, .ref go, .ref pr, .int (iI (st))])), (pr, .inr (0, [.ref upr])), (upr, arI cs 1005 fpr)] (inW [(po, .inl (cs 4, 1, .inr (.inl ov))), (kr, .inr (5, [.ref la, .ref ia, .ref na, .ref b4, .ref b6, .ref b8, .ref b10, .int (iI (((sh : Nat) : Int))), .int (iI (((it : Nat) : Int))), .int (iI (lc)), .int (iI (((dy : Nat) : Int))), .int (iI (pct)), .int (iI (lr)), .int (iI (sr))])), (ia, arQ cs 2 5 itf), (hi, .inr (1, [.int (iI (pk)), .int (iI (fs)), .ref ti, .ref go, .ref pr, .int (iI (st))])), (pr, .inr (0, [.ref upr])), (upr, arI cs 1005 fpr)]))) (va_Qi (fun r (_ : Unit) => r = iI (hkI [1, 3] (if zd < (dy : Int) ∨ 999 < zd then 3 else 0))) (fun _ t => va_P D vwCl [(po, .inl (cs 4, 1, .inr (.inl ov))), (kr, .inr (5, [.ref la, .ref ia, .ref na, .ref b4, .ref b6, .ref b8, .ref b10, .int (iI (((sh : Nat) : Int))), .int (iI (((it : Nat) : Int))), .int (iI (lc)), .int (iI (((dy : Nat) : Int))), .int (iI (pct)), .int (iI (lr)), .int (iI (sr))])), (ia, arQ cs 2 5 itf), (hi, .inr (1, [.int (iI (pk)), .int (iI (fs)), .ref ti, .ref go, .ref pr, .int (iI (st))])), (pr, .inr (0, [.ref upr])), (upr, arI cs 1005 fpr)] t.heap) (inW [(po, .inl (cs 4, 1, .inr (.inl ov))), (kr, .inr (5, [.ref la, .ref ia, .ref na, .ref b4, .ref b6, .ref b8, .ref b10, .int (iI (((sh : Nat) : Int))), .int (iI (((it : Nat) : Int))), .int (iI (lc)), .int (iI (((dy : Nat) : Int))), .int (iI (pct)), .int (iI (lr)), .int (iI (sr))])), (ia, arQ cs 2 5 itf), (hi, .inr (1, [.int (iI (pk)), .int (iI (fs)), .ref ti, .ref go, .ref pr, .int (iI (st))])), (pr, .inr (0, [.ref upr])), (upr, arI cs 1005 fpr)])) 2 12 (inW [(po, .inl (cs 4, 1, .inr (.inl ov))), (kr, .inr (5, [.ref la, .ref ia, .ref na, .ref b4, .ref b6, .ref b8, .ref b10, .int (iI (((sh : Nat) : Int))), .int (iI (((it : Nat) : Int))), .int (iI (lc)), .int (iI (((dy : Nat) : Int))), .int (iI (pct)), .int (iI (lr)), .int (iI (sr))])), (ia, arQ cs 2 5 itf), (hi, .inr (1, [.int (iI (pk)), .int (iI (fs)), .ref ti, .ref go, .ref pr, .int (iI (st))])), (pr, .inr (0, [.ref upr])), (upr, arI cs 1005 fpr)]) := by
  refine va_MetW (cc := cL_mark) (maxL := 5) (ret := some .int) (hh := [(0, 17, 20, 25), (0, 17, 24, 13)]) (by decide +kernel) rfl ?_
  intro p e s m args below meth c s₁ B hml hv
  obtain ⟨rfl, ⟨hP, hK, hD, hN⟩, hE⟩ := hv
  have hx := B.exec
  have hb := B.bytes
  have hr := B.returns
  have hts : ∀ w ∈ ALL, w.before _ s = true := fun w h => atoms_spec (ws := ws_L_mark) B.pre w (List.mem_cons_of_mem _ h)
  have hown : s.vm.findClass RL = some m.cls := findClass_of_methodNamed B.named
  have hlocks := B.notSynchronized
  have htab : c.exceptionTable.toList = tableOf [(0, 17, 20, 25), (0, 17, 24, 13)] := vx_table (x := yL_mark) B (atoms_spec (ws := ws_L_mark) B.pre _ List.mem_cons_self)
  generalize hAe : inW [(po, .inl (cs 4, 1, .inr (.inl ov))), (kr, .inr (5, [.ref la, .ref ia, .ref na, .ref b4, .ref b6, .ref b8, .ref b10, .int (iI (((sh : Nat) : Int))), .int (iI (((it : Nat) : Int))), .int (iI (lc)), .int (iI (((dy : Nat) : Int))), .int (iI (pct)), .int (iI (lr)), .int (iI (sr))])), (ia, arQ cs 2 5 itf), (hi, .inr (1, [.int (iI (pk)), .int (iI (fs)), .ref ti, .ref go, .ref pr, .int (iI (st))])), (pr, .inr (0, [.ref upr])), (upr, arI cs 1005 fpr)] = A at hD hE ⊢
  have hS : va_S A s.heap s.heap [] := va_S.rf
  have hl := lv_entry ([.ref kr, .int (iI (((tn : Nat) : Int))), .int (iI (zd)), .ref po]) (n := 5) (Nat.le_of_ble_eq_true rfl)
  rw [lg_entry_eq]
  generalize (lg_sl ([.ref kr, .int (iI (((tn : Nat) : Int))), .int (iI (zd)), .ref po]) ++ List.replicate (5 - (lg_sl ([.ref kr, .int (iI (((tn : Nat) : Int))), .int (iI (zd)), .ref po])).length) Slot.unset).toArray = ls at hl ⊢
  have hl : lv_has ls 5 [(0, .ref kr), (1, .int (iI (((tn : Nat) : Int)))), (2, .int (iI (zd))), (3, .ref po)] := hl
  have hH := rfl (a := s.heap)
  refine lv_aload_n hx hb dL_mark_0 rfl (lv_at hl 3 rfl) ?_
  refine lv_iconst (v := iI (0)) hx hb dL_mark_1 rfl ?_
  refine lv_aload_n hx hb dL_mark_2 rfl (lv_at hl 0 rfl) ?_
  refine lv_iload_n hx hb dL_mark_3 rfl (lv_at hl 1 rfl) ?_
  refine lv_iload_n hx hb dL_mark_4 rfl (lv_at hl 2 rfl) ?_
  have pk1 : picks [(po, .inl (cs 4, 1, .inr (.inl ov))), (kr, .inr (5, [.ref la, .ref ia, .ref na, .ref b4, .ref b6, .ref b8, .ref b10, .int (iI (((sh : Nat) : Int))), .int (iI (((it : Nat) : Int))), .int (iI (lc)), .int (iI (((dy : Nat) : Int))), .int (iI (pct)), .int (iI (lr)), .int (iI (sr))])), (ia, arQ cs 2 5 itf), (hi, .inr (1, [.int (iI (pk)), .int (iI (fs)), .ref ti, .ref go, .ref pr, .int (iI (st))])), (pr, .inr (0, [.ref upr])), (upr, arI cs 1005 fpr)] [1, 2, 3, 4, 5] [(kr, .inr (5, [.ref la, .ref ia, .ref na, .ref b4, .ref b6, .ref b8, .ref b10, .int (iI (((sh : Nat) : Int))), .int (iI (((it : Nat) : Int))), .int (iI (lc)), .int (iI (((dy : Nat) : Int))), .int (iI (pct)), .int (iI (lr)), .int (iI (sr))])), (ia, arQ cs 2 5 itf), (hi, .inr (1, [.int (iI (pk)), .int (iI (fs)), .ref ti, .ref go, .ref pr, .int (iI (st))])), (pr, .inr (0, [.ref upr])), (upr, arI cs 1005 fpr)] := ⟨rfl, rfl, rfl, rfl, rfl, trivial⟩
  refine vx_calli (vx_runV (As := [.int (iI (((tn : Nat) : Int))), .int (iI (zd))]) (rest := [.int (iI (0)), .ref po]) ⟨hx, hb, hml, hown, hts⟩ (m_X5_mark_ok l hst D cs kr la ia na b4 b6 b8 b10 sh it lc dy pct lr sr itf tn hi ti go pr pk fs st upr fpr zd (hit) (hitf) (htn) (hitn) (hfp) (hd) (hzd)) (cwV 2 hts (gV w_433 w_434 w_435 w_1 w_436) rfl rfl rfl (by decide +kernel) ⟨Nat.le_of_ble_eq_true rfl, Nat.le_of_ble_eq_true rfl⟩) (PE_V hK hN hE hS (fun q h => inW_sub hD [1, 2, 3, 4, 5] pk1 q h) hP hD [1, 2, 3, 4, 5] rfl pk1 rfl rfl) rfl rfl hl.1 rfl (lv_room (Nat.le_of_ble_eq_true rfl)) dL_mark_5 ⟨Nat.le_of_ble_eq_true rfl, Nat.le_of_ble_eq_true rfl⟩) hS (fun q _ h => inW_sub hD [1, 2, 3, 4, 5] pk1 q h) (fun q h => inW_sub hD [1, 2, 3, 4, 5] pk1 q h) (fun q _ h => inW_sub hD [1, 2, 3, 4, 5] pk1 q h) (fun E ce q9 u t H1 locs1 ht hvm hpx hBX hz1 hk1 hS1 hce hcv hcl => ?_) (fun r u t H locs ht hvm hw hB hz1 hk1 hS => ?_)
  · have h9 : u = (if zd < (dy : Int) ∨ 999 < zd then 3 else 0) := hpx.1
    have hS := hS1
    have hcd : (if zd < (dy : Int) ∨ 999 < zd then 3 else 0) = 3 := by
      revert hne
      (try unfold cdL); (try unfold cdS); (try unfold cdC)
      (repeat' split) <;> simp
    obtain ⟨hEu, hBX⟩ := hBX
    rw [ht] at hBX
    obtain ⟨hP, hD⟩ := my_join (Wc := [(kr, .inr (5, [.ref la, .ref ia, .ref na, .ref b4, .ref b6, .ref b8, .ref b10, .int (iI (((sh : Nat) : Int))), .int (iI (((it : Nat) : Int))), .int (iI (lc)), .int (iI (((dy : Nat) : Int))), .int (iI (pct)), .int (iI (lr)), .int (iI (sr))])), (ia, arQ cs 2 5 itf), (hi, .inr (1, [.int (iI (pk)), .int (iI (fs)), .ref ti, .ref go, .ref pr, .int (iI (st))])), (pr, .inr (0, [.ref upr])), (upr, arI cs 1005 fpr)]) (W1 := [(kr, .inr (5, [.ref la, .ref ia, .ref na, .ref b4, .ref b6, .ref b8, .ref b10, .int (iI (((sh : Nat) : Int))), .int (iI (((it : Nat) : Int))), .int (iI (lc)), .int (iI (((dy : Nat) : Int))), .int (iI (pct)), .int (iI (lr)), .int (iI (sr))])), (ia, arQ cs 2 5 itf), (hi, .inr (1, [.int (iI (pk)), .int (iI (fs)), .ref ti, .ref go, .ref pr, .int (iI (st))])), (pr, .inr (0, [.ref upr])), (upr, arI cs 1005 fpr)]) hP hD [1, 2, 3, 4, 5] rfl (⟨rfl, rfl, rfl, rfl, rfl, trivial⟩) rfl hk1 hBX
    have hP : va_P D vwCl [(po, .inl (cs 4, 1, .inr (.inl ov))), (kr, .inr (5, [.ref la, .ref ia, .ref na, .ref b4, .ref b6, .ref b8, .ref b10, .int (iI (((sh : Nat) : Int))), .int (iI (((it : Nat) : Int))), .int (iI (lc)), .int (iI (((dy : Nat) : Int))), .int (iI (pct)), .int (iI (lr)), .int (iI (sr))])), (ia, arQ cs 2 5 itf), (hi, .inr (1, [.int (iI (pk)), .int (iI (fs)), .ref ti, .ref go, .ref pr, .int (iI (st))])), (pr, .inr (0, [.ref upr])), (upr, arI cs 1005 fpr)] H1 := hP
    have hD : va_D A [(po, .inl (cs 4, 1, .inr (.inl ov))), (kr, .inr (5, [.ref la, .ref ia, .ref na, .ref b4, .ref b6, .ref b8, .ref b10, .int (iI (((sh : Nat) : Int))), .int (iI (((it : Nat) : Int))), .int (iI (lc)), .int (iI (((dy : Nat) : Int))), .int (iI (pct)), .int (iI (lr)), .int (iI (sr))])), (ia, arQ cs 2 5 itf), (hi, .inr (1, [.int (iI (pk)), .int (iI (fs)), .ref ti, .ref go, .ref pr, .int (iI (st))])), (pr, .inr (0, [.ref upr])), (upr, arI cs 1005 fpr)] := hD
    have hc3 := hcd
    have hE3 : E = "java/lang/IllegalArgumentException" := by have h8 : E = exN u := hEu; rw [h8, h9, hc3]; rfl
    subst hE3
    refine vx_catch (name := "java/lang/IllegalArgumentException") hown [⟨0, 17, 20, 25⟩] ⟨0, 17, 24, 13⟩ [] (htab.trans rfl) (fun z hz => by
        simp only [List.mem_cons, List.not_mem_nil, or_false] at hz
        rcases hz with rfl
        · exact Or.inr ⟨by decide, "java/lang/IndexOutOfBoundsException", hts _ w_266, hE.2.2.2.2.2 _ (List.mem_of_getElem? (i := 8) rfl)⟩) rfl (by decide) (hts _ w_132) (hE.use _ (List.mem_append_right _ (List.mem_map.mpr ⟨_, List.mem_of_getElem? (i := 2) rfl, rfl⟩))) hce hcv hcl ?_
    refine lv_astore (lv' := [(4, .ref q9), (0, .ref kr), (1, .int (iI (((tn : Nat) : Int)))), (2, .int (iI (zd))), (3, .ref po)]) hx hb dL_mark_24 hl (by decide) rfl (fun ls hl => ?_)
    refine lv_iconst (v := iI (2)) hx hb dL_mark_26 rfl ?_
    subst hAe
    refine W.widen (k := 2) (n := 12) (by omega) (by omega) ?_
    have hres : iI (2) = iI (hkI [1, 3] (if zd < (dy : Int) ∨ 999 < zd then 3 else 0)) := congrArg iI (by
        rw [hc3]; rfl)
    exact W.iret hx hb hr (fun t ht hW => ⟨⟨_, (), rfl, hres, by show va_P D vwCl _ t.heap; rw [ht]; exact hP⟩, hS.F ht⟩) hS.2.2 dL_mark_27
  obtain ⟨hc2, hw⟩ := hw
  subst hw
  rw [ht] at hB
  obtain ⟨hP, hD⟩ := my_join (W1 := [(kr, .inr (5, [.ref la, .ref ia, .ref na, .ref b4, .ref b6, .ref b8, .ref b10, .int (iI (((sh : Nat) : Int))), .int (iI (((it : Nat) : Int))), .int (iI (lc)), .int (iI (((dy : Nat) : Int))), .int (iI (pct)), .int (iI (lr)), .int (iI (sr))])), (ia, arQ cs 2 5 itf), (hi, .inr (1, [.int (iI (pk)), .int (iI (fs)), .ref ti, .ref go, .ref pr, .int (iI (st))])), (pr, .inr (0, [.ref upr])), (upr, arI cs 1005 (upI fpr zd.toNat 1))]) hP hD [1, 2, 3, 4, 5] rfl pk1 rfl hk1 hB
  have hP : va_P D vwCl [(po, .inl (cs 4, 1, .inr (.inl ov))), (kr, .inr (5, [.ref la, .ref ia, .ref na, .ref b4, .ref b6, .ref b8, .ref b10, .int (iI (((sh : Nat) : Int))), .int (iI (((it : Nat) : Int))), .int (iI (lc)), .int (iI (((dy : Nat) : Int))), .int (iI (pct)), .int (iI (lr)), .int (iI (sr))])), (ia, arQ cs 2 5 itf), (hi, .inr (1, [.int (iI (pk)), .int (iI (fs)), .ref ti, .ref go, .ref pr, .int (iI (st))])), (pr, .inr (0, [.ref upr])), (upr, arI cs 1005 (upI fpr zd.toNat 1))] H := hP
  have hD : va_D A [(po, .inl (cs 4, 1, .inr (.inl ov))), (kr, .inr (5, [.ref la, .ref ia, .ref na, .ref b4, .ref b6, .ref b8, .ref b10, .int (iI (((sh : Nat) : Int))), .int (iI (((it : Nat) : Int))), .int (iI (lc)), .int (iI (((dy : Nat) : Int))), .int (iI (pct)), .int (iI (lr)), .int (iI (sr))])), (ia, arQ cs 2 5 itf), (hi, .inr (1, [.int (iI (pk)), .int (iI (fs)), .ref ti, .ref go, .ref pr, .int (iI (st))])), (pr, .inr (0, [.ref upr])), (upr, arI cs 1005 (upI fpr zd.toNat 1))] := hD
  exact absurd hc2 hne

abbrev ws_L_service : List Cond := Cond.codeWith yL_service cL_service 4 (some .int) [(0, 9, 12, 25), (0, 9, 15, 50)] :: ALL
set_option maxHeartbeats 4000000 in
set_option maxRecDepth 100000 in
theorem m_L_service_no_t (l : Launch) (hst : l.stackTraces = false) (D : va_G) (cs : Nat → ClassId) (kr la ia na b4 b6 b8 b10 sh it : Nat) (lc : Int) (dy : Nat) (pct lr sr : Int) (lf : Nat → Int) (zs : Int) (po : Nat) (ov : Nat → UInt64) (hsh : sh ≤ 4) (hzs : -2147483648 ≤ zs ∧ zs < 2147483648) (hno : cdS sh zs ≠ 0) : Met l yL_service ws_L_service ({ frames := 8, cells := 1, slots := 6, locals := 128 }) (va_Pc [.ref kr, .int (iI (zs)), .ref po] (PE D cs [(po, .inl (cs 5, 1, .inr (.inr (.inr (.inl ov))))), (kr, .inr (5, [.ref la, .ref ia, .ref na, .ref b4, .ref b6, .ref b8, .ref b10, .int (iI (((sh : Nat) : Int))), .int (iI (((it : Nat) : Int))), .int (iI (lc)), .int (iI (((dy : Nat) : Int))), .int (iI (pct)), .int (iI (lr)), .int (iI (sr))])), (la, arI cs 4 lf)] noA)) (va_Qi (fun r (_ : Unit) => r = iI (hkI [1, 2] (cdS sh zs))) (fun _ _ => True) noA) 1 6 noA := by
  refine va_MetW (cc := cL_service) (maxL := 4) (ret := some .int) (hh := [(0, 9, 12, 25), (0, 9, 15, 50)]) (by decide +kernel) rfl ?_
  intro p e s m args below meth c s₁ B hml hv
  obtain ⟨rfl, ⟨hP, hK, hD, hN⟩, hE⟩ := hv
  have hx := B.exec
  have hb := B.bytes
  have hr := B.returns
  have hts : ∀ w ∈ ALL, w.before _ s = true := fun w h => atoms_spec (ws := ws_L_service) B.pre w (List.mem_cons_of_mem _ h)
  have hown : s.vm.findClass RL = some m.cls := findClass_of_methodNamed B.named
  have hlocks := B.notSynchronized
  have htab : c.exceptionTable.toList = tableOf [(0, 9, 12, 25), (0, 9, 15, 50)] := vx_table (x := yL_service) B (atoms_spec (ws := ws_L_service) B.pre _ List.mem_cons_self)
  have hS : va_S noA s.heap s.heap [] := va_S.rf
  generalize inW [(po, .inl (cs 5, 1, .inr (.inr (.inr (.inl ov))))), (kr, .inr (5, [.ref la, .ref ia, .ref na, .ref b4, .ref b6, .ref b8, .ref b10, .int (iI (((sh : Nat) : Int))), .int (iI (((it : Nat) : Int))), .int (iI (lc)), .int (iI (((dy : Nat) : Int))), .int (iI (pct)), .int (iI (lr)), .int (iI (sr))])), (la, arI cs 4 lf)] = A at hD
  have hl := lv_entry ([.ref kr, .int (iI (zs)), .ref po]) (n := 4) (Nat.le_of_ble_eq_true rfl)
  rw [lg_entry_eq]
  generalize (lg_sl ([.ref kr, .int (iI (zs)), .ref po]) ++ List.replicate (4 - (lg_sl ([.ref kr, .int (iI (zs)), .ref po])).length) Slot.unset).toArray = ls at hl ⊢
  have hl : lv_has ls 4 [(0, .ref kr), (1, .int (iI (zs))), (2, .ref po)] := hl
  have hH := rfl (a := s.heap)
  refine lv_aload_n hx hb dL_service_0 rfl (lv_at hl 2 rfl) ?_
  refine lv_iconst (v := iI (0)) hx hb dL_service_1 rfl ?_
  refine lv_aload_n hx hb dL_service_2 rfl (lv_at hl 0 rfl) ?_
  refine lv_iload_n hx hb dL_service_3 rfl (lv_at hl 1 rfl) ?_
  have pk1 : picks [(po, .inl (cs 5, 1, .inr (.inr (.inr (.inl ov))))), (kr, .inr (5, [.ref la, .ref ia, .ref na, .ref b4, .ref b6, .ref b8, .ref b10, .int (iI (((sh : Nat) : Int))), .int (iI (((it : Nat) : Int))), .int (iI (lc)), .int (iI (((dy : Nat) : Int))), .int (iI (pct)), .int (iI (lr)), .int (iI (sr))])), (la, arI cs 4 lf)] [1, 2] [(kr, .inr (5, [.ref la, .ref ia, .ref na, .ref b4, .ref b6, .ref b8, .ref b10, .int (iI (((sh : Nat) : Int))), .int (iI (((it : Nat) : Int))), .int (iI (lc)), .int (iI (((dy : Nat) : Int))), .int (iI (pct)), .int (iI (lr)), .int (iI (sr))])), (la, arI cs 4 lf)] := ⟨rfl, rfl, trivial⟩
  refine vx_callf (vx_runV (As := [.int (iI (zs))]) (rest := [.int (iI (0)), .ref po]) ⟨hx, hb, hml, hown, hts⟩ (m_X5_service_no l hst D cs kr la ia na b4 b6 b8 b10 sh it lc dy pct lr sr lf zs (hsh) (hzs) (hno)) (cwV 1 hts (gV w_790 w_791 w_792 w_1 w_793) rfl rfl rfl (by decide +kernel) ⟨Nat.le_of_ble_eq_true rfl, Nat.le_of_ble_eq_true rfl⟩) (PE_V hK hN hE hS (fun _ h => False.elim h) hP hD [1, 2] rfl pk1 rfl rfl) rfl rfl hl.1 rfl (lv_room (Nat.le_of_ble_eq_true rfl)) dL_service_4 ⟨Nat.le_of_ble_eq_true rfl, Nat.le_of_ble_eq_true rfl⟩) hS (fun _ _ h => False.elim h) (fun _ h => False.elim h) (fun _ _ h => False.elim h) (fun E ce q9 u t H1 locs1 ht hvm hpx hBX hz1 hk1 hS1 hce hcv hcl => ?_) (fun r u t H locs ht hvm hw hB hz1 hk1 hS => ?_)
  · have h9 : u = cdS sh zs := hpx.1
    have hS := hS1
    have hcd : cdS sh zs = 1 := by
      revert hno
      (try unfold cdL); (try unfold cdS); (try unfold cdC)
      (repeat' split) <;> simp
    have hEu := hBX
    have hP := P_kept hP hk1
    have hc3 := hcd
    have hE3 : E = "java/lang/IndexOutOfBoundsException" := by have h8 : E = exN u := hEu; rw [h8, h9, hc3]; rfl
    subst hE3
    refine vx_catch (name := "java/lang/IndexOutOfBoundsException") hown [] ⟨0, 9, 12, 25⟩ [⟨0, 9, 15, 50⟩] (htab.trans rfl) (fun z hz => by cases hz) rfl (by decide) (hts _ w_266) (hE.use _ (List.mem_append_right _ (List.mem_map.mpr ⟨_, List.mem_of_getElem? (i := 0) rfl, rfl⟩))) hce hcv hcl ?_
    refine lv_astore_n (lv' := [(3, .ref q9), (0, .ref kr), (1, .int (iI (zs))), (2, .ref po)]) hx hb dL_service_12 rfl hl (by decide) rfl (fun ls hl => ?_)
    refine lv_iconst (v := iI (1)) hx hb dL_service_13 rfl ?_
    refine W.widen (k := 1) (n := 6) (by omega) (by omega) ?_
    have hres : iI (1) = iI (hkI [1, 2] (cdS sh zs)) := congrArg iI (by
        rw [hc3]; rfl)
    exact W.iret hx hb hr (fun t ht hW => ⟨⟨_, (), rfl, hres, trivial⟩, hS.F ht⟩) hS.2.2 dL_service_14
  obtain ⟨hc2, hw⟩ := hw
  subst hw
  have hP := P_kept hP hk1
  exact absurd hc2 hno

set_option maxHeartbeats 4000000 in
set_option maxRecDepth 100000 in
theorem m_L_service_ok_r (l : Launch) (hst : l.stackTraces = false) (D : va_G) (cs : Nat → ClassId) (kr la ia na b4 b6 b8 b10 sh it : Nat) (lc : Int) (dy : Nat) (pct lr sr : Int) (ulr usr ur uq ug : Nat) (lf lrf srf rse rq gv : Nat → Int) (rv pn : Int) (IA LA : Nat → Nat → Nat) (cr : Nat → Bool) (IR : Nat → IT) (LR : Nat → LT) (sn : Nat) (po : Nat) (ov : Nat → UInt64) (hsh : sh ≤ 4) (hit : it ≤ 5) (hsn : sn < sh) (hso : ∀ a, 0 ≤ lso (LR a) ∧ lso (LR a) ≤ 1000000) (hlo : ∀ a, 0 ≤ llo (LR a) ∧ llo (LR a) ≤ 1000000) (hz : (if smI (svF cr LR lso sn) it + smI (svF cr LR llo sn) it = 0 then 2 else 0) = 0) : Met l yL_service ws_L_service ({ frames := 8, cells := 2, slots := 12, locals := 128 }) (va_Pc [.ref kr, .int (iI (((sn : Nat) : Int))), .ref po] (PE D cs ([(po, .inl (cs 5, 1, .inr (.inr (.inr (.inl ov))))), (kr, .inr (5, [.ref la, .ref ia, .ref na, .ref b4, .ref b6, .ref b8, .ref b10, .int (iI (((sh : Nat) : Int))), .int (iI (((it : Nat) : Int))), .int (iI (lc)), .int (iI (((dy : Nat) : Int))), .int (iI (pct)), .int (iI (lr)), .int (iI (sr))])), (la, arI cs 4 lf), (ia, arQ cs 2 5 (itq it IA)), (na, arQ cs 3 20 (lnq cr LA)), (b4, .inr (0, [.ref ulr])), (ulr, arI cs 1005 lrf), (b6, .inr (0, [.ref usr])), (usr, arI cs 1005 srf), (b8, .inr (2, [.ref ur, .int (iI (rv))])), (ur, arI cs 7 rse), (b10, .inr (4, [.ref uq, .ref ug, .int (iI (pn))])), (uq, arI cs 4 rq), (ug, arI cs 4 gv)] ++ (aW cs IA LA it cr IR LR)) (inW ([(po, .inl (cs 5, 1, .inr (.inr (.inr (.inl ov))))), (kr, .inr (5, [.ref la, .ref ia, .ref na, .ref b4, .ref b6, .ref b8, .ref b10, .int (iI (((sh : Nat) : Int))), .int (iI (((it : Nat) : Int))), .int (iI (lc)), .int (iI (((dy : Nat) : Int))), .int (iI (pct)), .int (iI (lr)), .int (iI (sr))])), (la, arI cs 4 lf), (ia, arQ cs 2 5 (itq it IA)), (na, arQ cs 3 20 (lnq cr LA)), (b4, .inr (0, [.ref ulr])), (ulr, arI cs 1005 lrf), (b6, .inr (0, [.ref usr])), (usr, arI cs 1005 srf), (b8, .inr (2, [.ref ur, .int (iI (rv))])), (ur, arI cs 7 rse), (b10, .inr (4, [.ref uq, .ref ug, .int (iI (pn))])), (uq, arI cs 4 rq), (ug, arI cs 4 gv)] ++ (aW cs IA LA it cr IR LR))))) (va_Qi (fun r (_ : Unit) => r = iI (0)) (fun _ t => va_P D vwCl ([(po, .inl (cs 5, 1, .inr (.inr (.inr (.inl (vf_upd ov 0 (FP.f2d (FP.fdiv (FP.i2f (iI (smI (svF cr LR lso sn) it))) (FP.i2f (iI (smI (svF cr LR lso sn) it + smI (svF cr LR llo sn) it))))))))))), (kr, .inr (5, [.ref la, .ref ia, .ref na, .ref b4, .ref b6, .ref b8, .ref b10, .int (iI (((sh : Nat) : Int))), .int (iI (((it : Nat) : Int))), .int (iI (lc)), .int (iI (((dy : Nat) : Int))), .int (iI (pct)), .int (iI (lr)), .int (iI (sr))])), (la, arI cs 4 lf), (ia, arQ cs 2 5 (itq it IA)), (na, arQ cs 3 20 (lnq cr LA)), (b4, .inr (0, [.ref ulr])), (ulr, arI cs 1005 lrf), (b6, .inr (0, [.ref usr])), (usr, arI cs 1005 srf), (b8, .inr (2, [.ref ur, .int (iI (rv))])), (ur, arI cs 7 rse), (b10, .inr (4, [.ref uq, .ref ug, .int (iI (pn))])), (uq, arI cs 4 rq), (ug, arI cs 4 gv)] ++ (aW cs IA LA it cr IR LR)) t.heap) (inW ([(po, .inl (cs 5, 1, .inr (.inr (.inr (.inl ov))))), (kr, .inr (5, [.ref la, .ref ia, .ref na, .ref b4, .ref b6, .ref b8, .ref b10, .int (iI (((sh : Nat) : Int))), .int (iI (((it : Nat) : Int))), .int (iI (lc)), .int (iI (((dy : Nat) : Int))), .int (iI (pct)), .int (iI (lr)), .int (iI (sr))])), (la, arI cs 4 lf), (ia, arQ cs 2 5 (itq it IA)), (na, arQ cs 3 20 (lnq cr LA)), (b4, .inr (0, [.ref ulr])), (ulr, arI cs 1005 lrf), (b6, .inr (0, [.ref usr])), (usr, arI cs 1005 srf), (b8, .inr (2, [.ref ur, .int (iI (rv))])), (ur, arI cs 7 rse), (b10, .inr (4, [.ref uq, .ref ug, .int (iI (pn))])), (uq, arI cs 4 rq), (ug, arI cs 4 gv)] ++ (aW cs IA LA it cr IR LR)))) 2 12 (inW ([(po, .inl (cs 5, 1, .inr (.inr (.inr (.inl ov))))), (kr, .inr (5, [.ref la, .ref ia, .ref na, .ref b4, .ref b6, .ref b8, .ref b10, .int (iI (((sh : Nat) : Int))), .int (iI (((it : Nat) : Int))), .int (iI (lc)), .int (iI (((dy : Nat) : Int))), .int (iI (pct)), .int (iI (lr)), .int (iI (sr))])), (la, arI cs 4 lf), (ia, arQ cs 2 5 (itq it IA)), (na, arQ cs 3 20 (lnq cr LA)), (b4, .inr (0, [.ref ulr])), (ulr, arI cs 1005 lrf), (b6, .inr (0, [.ref usr])), (usr, arI cs 1005 srf), (b8, .inr (2, [.ref ur, .int (iI (rv))])), (ur, arI cs 7 rse), (b10, .inr (4, [.ref uq, .ref ug, .int (iI (pn))])), (uq, arI cs 4 rq), (ug, arI cs 4 gv)] ++ (aW cs IA LA it cr IR LR))) := by
  refine va_MetW (cc := cL_service) (maxL := 4) (ret := some .int) (hh := [(0, 9, 12, 25), (0, 9, 15, 50)]) (by decide +kernel) rfl ?_
  intro p e s m args below meth c s₁ B hml hv
  obtain ⟨rfl, ⟨hP, hK, hD, hN⟩, hE⟩ := hv
  have hx := B.exec
  have hb := B.bytes
  have hr := B.returns
  have hts : ∀ w ∈ ALL, w.before _ s = true := fun w h => atoms_spec (ws := ws_L_service) B.pre w (List.mem_cons_of_mem _ h)
  have hown : s.vm.findClass RL = some m.cls := findClass_of_methodNamed B.named
  have hlocks := B.notSynchronized
  have htab : c.exceptionTable.toList = tableOf [(0, 9, 12, 25), (0, 9, 15, 50)] := vx_table (x := yL_service) B (atoms_spec (ws := ws_L_service) B.pre _ List.mem_cons_self)
  generalize hAe : inW ([(po, .inl (cs 5, 1, .inr (.inr (.inr (.inl ov))))), (kr, .inr (5, [.ref la, .ref ia, .ref na, .ref b4, .ref b6, .ref b8, .ref b10, .int (iI (((sh : Nat) : Int))), .int (iI (((it : Nat) : Int))), .int (iI (lc)), .int (iI (((dy : Nat) : Int))), .int (iI (pct)), .int (iI (lr)), .int (iI (sr))])), (la, arI cs 4 lf), (ia, arQ cs 2 5 (itq it IA)), (na, arQ cs 3 20 (lnq cr LA)), (b4, .inr (0, [.ref ulr])), (ulr, arI cs 1005 lrf), (b6, .inr (0, [.ref usr])), (usr, arI cs 1005 srf), (b8, .inr (2, [.ref ur, .int (iI (rv))])), (ur, arI cs 7 rse), (b10, .inr (4, [.ref uq, .ref ug, .int (iI (pn))])), (uq, arI cs 4 rq), (ug, arI cs 4 gv)] ++ (aW cs IA LA it cr IR LR)) = A at hD hE ⊢
  have hS : va_S A s.heap s.heap [] := va_S.rf
  have hl := lv_entry ([.ref kr, .int (iI (((sn : Nat) : Int))), .ref po]) (n := 4) (Nat.le_of_ble_eq_true rfl)
  rw [lg_entry_eq]
  generalize (lg_sl ([.ref kr, .int (iI (((sn : Nat) : Int))), .ref po]) ++ List.replicate (4 - (lg_sl ([.ref kr, .int (iI (((sn : Nat) : Int))), .ref po])).length) Slot.unset).toArray = ls at hl ⊢
  have hl : lv_has ls 4 [(0, .ref kr), (1, .int (iI (((sn : Nat) : Int)))), (2, .ref po)] := hl
  have hH := rfl (a := s.heap)
  refine lv_aload_n hx hb dL_service_0 rfl (lv_at hl 2 rfl) ?_
  refine lv_iconst (v := iI (0)) hx hb dL_service_1 rfl ?_
  refine lv_aload_n hx hb dL_service_2 rfl (lv_at hl 0 rfl) ?_
  refine lv_iload_n hx hb dL_service_3 rfl (lv_at hl 1 rfl) ?_
  refine vx_callf (vx_runV (As := [.int (iI (((sn : Nat) : Int)))]) (rest := [.int (iI (0)), .ref po]) ⟨hx, hb, hml, hown, hts⟩ (m_X5_service_ok l hst D cs kr la ia na b4 b6 b8 b10 sh it lc dy pct lr sr ulr usr ur uq ug lf lrf srf rse rq gv rv pn IA LA cr IR LR sn (hsh) (hit) (hsn) (hso) (hlo)) (cwV 1 hts (gV w_790 w_791 w_792 w_1 w_793) rfl rfl rfl (by decide +kernel) ⟨Nat.le_of_ble_eq_true rfl, Nat.le_of_ble_eq_true rfl⟩) (PE_Va hK hN hE hS (fun _ h => False.elim h) (P_R (E := [(po, .inl (cs 5, 1, .inr (.inr (.inr (.inl ov)))))]) (Wc := ([(kr, .inr (5, [.ref la, .ref ia, .ref na, .ref b4, .ref b6, .ref b8, .ref b10, .int (iI (((sh : Nat) : Int))), .int (iI (((it : Nat) : Int))), .int (iI (lc)), .int (iI (((dy : Nat) : Int))), .int (iI (pct)), .int (iI (lr)), .int (iI (sr))])), (la, arI cs 4 lf), (ia, arQ cs 2 5 (itq it IA)), (na, arQ cs 3 20 (lnq cr LA)), (b4, .inr (0, [.ref ulr])), (ulr, arI cs 1005 lrf), (b6, .inr (0, [.ref usr])), (usr, arI cs 1005 srf), (b8, .inr (2, [.ref ur, .int (iI (rv))])), (ur, arI cs 7 rse), (b10, .inr (4, [.ref uq, .ref ug, .int (iI (pn))])), (uq, arI cs 4 rq), (ug, arI cs 4 gv)] ++ (aW cs IA LA it cr IR LR))) hP) (D_R (E := [(po, .inl (cs 5, 1, .inr (.inr (.inr (.inl ov)))))]) (Wc := ([(kr, .inr (5, [.ref la, .ref ia, .ref na, .ref b4, .ref b6, .ref b8, .ref b10, .int (iI (((sh : Nat) : Int))), .int (iI (((it : Nat) : Int))), .int (iI (lc)), .int (iI (((dy : Nat) : Int))), .int (iI (pct)), .int (iI (lr)), .int (iI (sr))])), (la, arI cs 4 lf), (ia, arQ cs 2 5 (itq it IA)), (na, arQ cs 3 20 (lnq cr LA)), (b4, .inr (0, [.ref ulr])), (ulr, arI cs 1005 lrf), (b6, .inr (0, [.ref usr])), (usr, arI cs 1005 srf), (b8, .inr (2, [.ref ur, .int (iI (rv))])), (ur, arI cs 7 rse), (b10, .inr (4, [.ref uq, .ref ug, .int (iI (pn))])), (uq, arI cs 4 rq), (ug, arI cs 4 gv)] ++ (aW cs IA LA it cr IR LR))) hD) rfl rfl) rfl rfl hl.1 rfl (lv_room (Nat.le_of_ble_eq_true rfl)) dL_service_4 ⟨Nat.le_of_ble_eq_true rfl, Nat.le_of_ble_eq_true rfl⟩) hS (fun _ _ h => False.elim h) (fun _ h => False.elim h) (fun _ _ h => False.elim h) (fun E ce q9 u t H1 locs1 ht hvm hpx hBX hz1 hk1 hS1 hce hcv hcl => ?_) (fun r u t H locs ht hvm hw hB hz1 hk1 hS => ?_)
  · exact absurd (hpx.1.trans hz) hpx.2
  obtain ⟨hc2, hw⟩ := hw
  subst hw
  have hP := P_kept hP hk1
  have hb1 := smI_le (svF_rng (cr := cr) (sn := sn) hso) it
  have hb2 := smI_le (svF_rng (cr := cr) (sn := sn) hlo) it
  have hz9 : smI (svF cr LR lso sn) it + smI (svF cr LR llo sn) it ≠ 0 := fun h => by rw [if_pos h] at hz; omega
  refine lv_f2d hx hb dL_service_7 (fdv_ok64 (by omega)) ?_
  refine my_dast0 hx hb hK hP hD hS 0 rfl dL_service_8 (fun H locs hP hD hS => ?_)
  have hP : va_P D vwCl ([(po, .inl (cs 5, 1, .inr (.inr (.inr (.inl (vf_upd ov 0 (FP.f2d (FP.fdiv (FP.i2f (iI (smI (svF cr LR lso sn) it))) (FP.i2f (iI (smI (svF cr LR lso sn) it + smI (svF cr LR llo sn) it))))))))))), (kr, .inr (5, [.ref la, .ref ia, .ref na, .ref b4, .ref b6, .ref b8, .ref b10, .int (iI (((sh : Nat) : Int))), .int (iI (((it : Nat) : Int))), .int (iI (lc)), .int (iI (((dy : Nat) : Int))), .int (iI (pct)), .int (iI (lr)), .int (iI (sr))])), (la, arI cs 4 lf), (ia, arQ cs 2 5 (itq it IA)), (na, arQ cs 3 20 (lnq cr LA)), (b4, .inr (0, [.ref ulr])), (ulr, arI cs 1005 lrf), (b6, .inr (0, [.ref usr])), (usr, arI cs 1005 srf), (b8, .inr (2, [.ref ur, .int (iI (rv))])), (ur, arI cs 7 rse), (b10, .inr (4, [.ref uq, .ref ug, .int (iI (pn))])), (uq, arI cs 4 rq), (ug, arI cs 4 gv)] ++ (aW cs IA LA it cr IR LR)) H := hP
  have hD : va_D A ([(po, .inl (cs 5, 1, .inr (.inr (.inr (.inl (vf_upd ov 0 (FP.f2d (FP.fdiv (FP.i2f (iI (smI (svF cr LR lso sn) it))) (FP.i2f (iI (smI (svF cr LR lso sn) it + smI (svF cr LR llo sn) it))))))))))), (kr, .inr (5, [.ref la, .ref ia, .ref na, .ref b4, .ref b6, .ref b8, .ref b10, .int (iI (((sh : Nat) : Int))), .int (iI (((it : Nat) : Int))), .int (iI (lc)), .int (iI (((dy : Nat) : Int))), .int (iI (pct)), .int (iI (lr)), .int (iI (sr))])), (la, arI cs 4 lf), (ia, arQ cs 2 5 (itq it IA)), (na, arQ cs 3 20 (lnq cr LA)), (b4, .inr (0, [.ref ulr])), (ulr, arI cs 1005 lrf), (b6, .inr (0, [.ref usr])), (usr, arI cs 1005 srf), (b8, .inr (2, [.ref ur, .int (iI (rv))])), (ur, arI cs 7 rse), (b10, .inr (4, [.ref uq, .ref ug, .int (iI (pn))])), (uq, arI cs 4 rq), (ug, arI cs 4 gv)] ++ (aW cs IA LA it cr IR LR)) := hD
  refine lv_goto (tgt := 18) hx hb dL_service_9 (by decide) ?_
  refine lv_iconst (v := iI (0)) hx hb dL_service_18 rfl ?_
  subst hAe
  refine W.widen (k := 2) (n := 12) (by omega) (by omega) ?_
  have hres : iI (0) = iI (0) := congrArg iI (by
      rfl)
  exact W.iret hx hb hr (fun t ht hW => ⟨⟨_, (), rfl, hres, by show va_P D vwCl _ t.heap; rw [ht]; exact hP⟩, hS.F ht⟩) hS.2.2 dL_service_19

set_option maxHeartbeats 4000000 in
set_option maxRecDepth 100000 in
theorem m_L_service_ok_t (l : Launch) (hst : l.stackTraces = false) (D : va_G) (cs : Nat → ClassId) (kr la ia na b4 b6 b8 b10 sh it : Nat) (lc : Int) (dy : Nat) (pct lr sr : Int) (ulr usr ur uq ug : Nat) (lf lrf srf rse rq gv : Nat → Int) (rv pn : Int) (IA LA : Nat → Nat → Nat) (cr : Nat → Bool) (IR : Nat → IT) (LR : Nat → LT) (sn : Nat) (po : Nat) (ov : Nat → UInt64) (hsh : sh ≤ 4) (hit : it ≤ 5) (hsn : sn < sh) (hso : ∀ a, 0 ≤ lso (LR a) ∧ lso (LR a) ≤ 1000000) (hlo : ∀ a, 0 ≤ llo (LR a) ∧ llo (LR a) ≤ 1000000) (hne : (if smI (svF cr LR lso sn) it + smI (svF cr LR llo sn) it = 0 then 2 else 0) ≠ 0) : Met l yL_service ws_L_service ({ frames := 8, cells := 2, slots := 12, locals := 128 }) (va_Pc [.ref kr, .int (iI (((sn : Nat) : Int))), .ref po] (PE D cs ([(po, .inl (cs 5, 1, .inr (.inr (.inr (.inl ov))))), (kr, .inr (5, [.ref la, .ref ia, .ref na, .ref b4, .ref b6, .ref b8, .ref b10, .int (iI (((sh : Nat) : Int))), .int (iI (((it : Nat) : Int))), .int (iI (lc)), .int (iI (((dy : Nat) : Int))), .int (iI (pct)), .int (iI (lr)), .int (iI (sr))])), (la, arI cs 4 lf), (ia, arQ cs 2 5 (itq it IA)), (na, arQ cs 3 20 (lnq cr LA)), (b4, .inr (0, [.ref ulr])), (ulr, arI cs 1005 lrf), (b6, .inr (0, [.ref usr])), (usr, arI cs 1005 srf), (b8, .inr (2, [.ref ur, .int (iI (rv))])), (ur, arI cs 7 rse), (b10, .inr (4, [.ref uq, .ref ug, .int (iI (pn))])), (uq, arI cs 4 rq), (ug, arI cs 4 gv)] ++ (aW cs IA LA it cr IR LR)) noA)) (va_Qi (fun r (_ : Unit) => r = iI (hkI [1, 2] (if smI (svF cr LR lso sn) it + smI (svF cr LR llo sn) it = 0 then 2 else 0))) (fun _ _ => True) noA) 2 12 noA := by
  refine va_MetW (cc := cL_service) (maxL := 4) (ret := some .int) (hh := [(0, 9, 12, 25), (0, 9, 15, 50)]) (by decide +kernel) rfl ?_
  intro p e s m args below meth c s₁ B hml hv
  obtain ⟨rfl, ⟨hP, hK, hD, hN⟩, hE⟩ := hv
  have hx := B.exec
  have hb := B.bytes
  have hr := B.returns
  have hts : ∀ w ∈ ALL, w.before _ s = true := fun w h => atoms_spec (ws := ws_L_service) B.pre w (List.mem_cons_of_mem _ h)
  have hown : s.vm.findClass RL = some m.cls := findClass_of_methodNamed B.named
  have hlocks := B.notSynchronized
  have htab : c.exceptionTable.toList = tableOf [(0, 9, 12, 25), (0, 9, 15, 50)] := vx_table (x := yL_service) B (atoms_spec (ws := ws_L_service) B.pre _ List.mem_cons_self)
  have hS : va_S noA s.heap s.heap [] := va_S.rf
  generalize inW ([(po, .inl (cs 5, 1, .inr (.inr (.inr (.inl ov))))), (kr, .inr (5, [.ref la, .ref ia, .ref na, .ref b4, .ref b6, .ref b8, .ref b10, .int (iI (((sh : Nat) : Int))), .int (iI (((it : Nat) : Int))), .int (iI (lc)), .int (iI (((dy : Nat) : Int))), .int (iI (pct)), .int (iI (lr)), .int (iI (sr))])), (la, arI cs 4 lf), (ia, arQ cs 2 5 (itq it IA)), (na, arQ cs 3 20 (lnq cr LA)), (b4, .inr (0, [.ref ulr])), (ulr, arI cs 1005 lrf), (b6, .inr (0, [.ref usr])), (usr, arI cs 1005 srf), (b8, .inr (2, [.ref ur, .int (iI (rv))])), (ur, arI cs 7 rse), (b10, .inr (4, [.ref uq, .ref ug, .int (iI (pn))])), (uq, arI cs 4 rq), (ug, arI cs 4 gv)] ++ (aW cs IA LA it cr IR LR)) = A at hD
  have hl := lv_entry ([.ref kr, .int (iI (((sn : Nat) : Int))), .ref po]) (n := 4) (Nat.le_of_ble_eq_true rfl)
  rw [lg_entry_eq]
  generalize (lg_sl ([.ref kr, .int (iI (((sn : Nat) : Int))), .ref po]) ++ List.replicate (4 - (lg_sl ([.ref kr, .int (iI (((sn : Nat) : Int))), .ref po])).length) Slot.unset).toArray = ls at hl ⊢
  have hl : lv_has ls 4 [(0, .ref kr), (1, .int (iI (((sn : Nat) : Int)))), (2, .ref po)] := hl
  have hH := rfl (a := s.heap)
  refine lv_aload_n hx hb dL_service_0 rfl (lv_at hl 2 rfl) ?_
  refine lv_iconst (v := iI (0)) hx hb dL_service_1 rfl ?_
  refine lv_aload_n hx hb dL_service_2 rfl (lv_at hl 0 rfl) ?_
  refine lv_iload_n hx hb dL_service_3 rfl (lv_at hl 1 rfl) ?_
  refine vx_callf (vx_runV (As := [.int (iI (((sn : Nat) : Int)))]) (rest := [.int (iI (0)), .ref po]) ⟨hx, hb, hml, hown, hts⟩ (m_X5_service_ok l hst D cs kr la ia na b4 b6 b8 b10 sh it lc dy pct lr sr ulr usr ur uq ug lf lrf srf rse rq gv rv pn IA LA cr IR LR sn (hsh) (hit) (hsn) (hso) (hlo)) (cwV 1 hts (gV w_790 w_791 w_792 w_1 w_793) rfl rfl rfl (by decide +kernel) ⟨Nat.le_of_ble_eq_true rfl, Nat.le_of_ble_eq_true rfl⟩) (PE_Va hK hN hE hS (fun _ h => False.elim h) (P_R (E := [(po, .inl (cs 5, 1, .inr (.inr (.inr (.inl ov)))))]) (Wc := ([(kr, .inr (5, [.ref la, .ref ia, .ref na, .ref b4, .ref b6, .ref b8, .ref b10, .int (iI (((sh : Nat) : Int))), .int (iI (((it : Nat) : Int))), .int (iI (lc)), .int (iI (((dy : Nat) : Int))), .int (iI (pct)), .int (iI (lr)), .int (iI (sr))])), (la, arI cs 4 lf), (ia, arQ cs 2 5 (itq it IA)), (na, arQ cs 3 20 (lnq cr LA)), (b4, .inr (0, [.ref ulr])), (ulr, arI cs 1005 lrf), (b6, .inr (0, [.ref usr])), (usr, arI cs 1005 srf), (b8, .inr (2, [.ref ur, .int (iI (rv))])), (ur, arI cs 7 rse), (b10, .inr (4, [.ref uq, .ref ug, .int (iI (pn))])), (uq, arI cs 4 rq), (ug, arI cs 4 gv)] ++ (aW cs IA LA it cr IR LR))) hP) (D_R (E := [(po, .inl (cs 5, 1, .inr (.inr (.inr (.inl ov)))))]) (Wc := ([(kr, .inr (5, [.ref la, .ref ia, .ref na, .ref b4, .ref b6, .ref b8, .ref b10, .int (iI (((sh : Nat) : Int))), .int (iI (((it : Nat) : Int))), .int (iI (lc)), .int (iI (((dy : Nat) : Int))), .int (iI (pct)), .int (iI (lr)), .int (iI (sr))])), (la, arI cs 4 lf), (ia, arQ cs 2 5 (itq it IA)), (na, arQ cs 3 20 (lnq cr LA)), (b4, .inr (0, [.ref ulr])), (ulr, arI cs 1005 lrf), (b6, .inr (0, [.ref usr])), (usr, arI cs 1005 srf), (b8, .inr (2, [.ref ur, .int (iI (rv))])), (ur, arI cs 7 rse), (b10, .inr (4, [.ref uq, .ref ug, .int (iI (pn))])), (uq, arI cs 4 rq), (ug, arI cs 4 gv)] ++ (aW cs IA LA it cr IR LR))) hD) rfl rfl) rfl rfl hl.1 rfl (lv_room (Nat.le_of_ble_eq_true rfl)) dL_service_4 ⟨Nat.le_of_ble_eq_true rfl, Nat.le_of_ble_eq_true rfl⟩) hS (fun _ _ h => False.elim h) (fun _ h => False.elim h) (fun _ _ h => False.elim h) (fun E ce q9 u t H1 locs1 ht hvm hpx hBX hz1 hk1 hS1 hce hcv hcl => ?_) (fun r u t H locs ht hvm hw hB hz1 hk1 hS => ?_)
  · have h9 : u = (if smI (svF cr LR lso sn) it + smI (svF cr LR llo sn) it = 0 then 2 else 0) := hpx.1
    have hS := hS1
    have hcd : (if smI (svF cr LR lso sn) it + smI (svF cr LR llo sn) it = 0 then 2 else 0) = 2 := by
      revert hne
      (try unfold cdL); (try unfold cdS); (try unfold cdC)
      (repeat' split) <;> simp
    have hEu := hBX
    have hP := P_kept hP hk1
    have hc3 := hcd
    have hE3 : E = "java/util/NoSuchElementException" := by have h8 : E = exN u := hEu; rw [h8, h9, hc3]; rfl
    subst hE3
    refine vx_catch (name := "java/util/NoSuchElementException") hown [⟨0, 9, 12, 25⟩] ⟨0, 9, 15, 50⟩ [] (htab.trans rfl) (fun z hz => by
        simp only [List.mem_cons, List.not_mem_nil, or_false] at hz
        rcases hz with rfl
        · exact Or.inr ⟨by decide, "java/lang/IndexOutOfBoundsException", hts _ w_266, hE.2.2.2.2.2 _ (List.mem_of_getElem? (i := 10) rfl)⟩) rfl (by decide) (hts _ w_455) (hE.use _ (List.mem_append_right _ (List.mem_map.mpr ⟨_, List.mem_of_getElem? (i := 1) rfl, rfl⟩))) hce hcv hcl ?_
    refine lv_astore_n (lv' := [(3, .ref q9), (0, .ref kr), (1, .int (iI (((sn : Nat) : Int)))), (2, .ref po)]) hx hb dL_service_15 rfl hl (by decide) rfl (fun ls hl => ?_)
    refine lv_iconst (v := iI (2)) hx hb dL_service_16 rfl ?_
    refine W.widen (k := 2) (n := 12) (by omega) (by omega) ?_
    have hres : iI (2) = iI (hkI [1, 2] (if smI (svF cr LR lso sn) it + smI (svF cr LR llo sn) it = 0 then 2 else 0)) := congrArg iI (by
        rw [hc3]; rfl)
    exact W.iret hx hb hr (fun t ht hW => ⟨⟨_, (), rfl, hres, trivial⟩, hS.F ht⟩) hS.2.2 dL_service_17
  obtain ⟨hc2, hw⟩ := hw
  subst hw
  have hP := P_kept hP hk1
  exact absurd hc2 hne

abbrev ws_L_addItem : List Cond := Cond.codeWith yL_addItem cL_addItem 5 (some .int) [(0, 10, 13, 13), (0, 10, 17, 15)] :: ALL
set_option maxHeartbeats 4000000 in
set_option maxRecDepth 100000 in
theorem m_L_addItem_no_t (l : Launch) (hst : l.stackTraces = false) (D : va_G) (cs : Nat → ClassId) (kr la ia na b4 b6 b8 b10 sh it : Nat) (lc : Int) (dy : Nat) (pct lr sr : Int) (itf : Nat → Option Nat) (zp zs : Int) (po : Nat) (ov : Nat → Int64) (hit : it ≤ 5) (hzp : -2147483648 ≤ zp ∧ zp < 2147483648) (hzs : -2147483648 ≤ zs ∧ zs < 2147483648) (hno : (if (zp < 1 ∨ 50 < zp) ∨ (zs < 0 ∨ 9999 < zs) then 3 else if 5 ≤ it then 4 else 0) ≠ 0) : Met l yL_addItem ws_L_addItem ({ frames := 7, cells := 1, slots := 6, locals := 104 }) (va_Pc [.ref kr, .int (iI (zp)), .int (iI (zs)), .ref po] (PE D cs [(po, .inl (cs 4, 1, .inr (.inl ov))), (kr, .inr (5, [.ref la, .ref ia, .ref na, .ref b4, .ref b6, .ref b8, .ref b10, .int (iI (((sh : Nat) : Int))), .int (iI (((it : Nat) : Int))), .int (iI (lc)), .int (iI (((dy : Nat) : Int))), .int (iI (pct)), .int (iI (lr)), .int (iI (sr))])), (ia, arQ cs 2 5 itf)] noA)) (va_Qi (fun r (_ : Unit) => r = iI (hkI [3, 4] (if (zp < 1 ∨ 50 < zp) ∨ (zs < 0 ∨ 9999 < zs) then 3 else if 5 ≤ it then 4 else 0))) (fun _ _ => True) noA) 1 6 noA := by
  refine va_MetW (cc := cL_addItem) (maxL := 5) (ret := some .int) (hh := [(0, 10, 13, 13), (0, 10, 17, 15)]) (by decide +kernel) rfl ?_
  intro p e s m args below meth c s₁ B hml hv
  obtain ⟨rfl, ⟨hP, hK, hD, hN⟩, hE⟩ := hv
  have hx := B.exec
  have hb := B.bytes
  have hr := B.returns
  have hts : ∀ w ∈ ALL, w.before _ s = true := fun w h => atoms_spec (ws := ws_L_addItem) B.pre w (List.mem_cons_of_mem _ h)
  have hown : s.vm.findClass RL = some m.cls := findClass_of_methodNamed B.named
  have hlocks := B.notSynchronized
  have htab : c.exceptionTable.toList = tableOf [(0, 10, 13, 13), (0, 10, 17, 15)] := vx_table (x := yL_addItem) B (atoms_spec (ws := ws_L_addItem) B.pre _ List.mem_cons_self)
  have hS : va_S noA s.heap s.heap [] := va_S.rf
  generalize inW [(po, .inl (cs 4, 1, .inr (.inl ov))), (kr, .inr (5, [.ref la, .ref ia, .ref na, .ref b4, .ref b6, .ref b8, .ref b10, .int (iI (((sh : Nat) : Int))), .int (iI (((it : Nat) : Int))), .int (iI (lc)), .int (iI (((dy : Nat) : Int))), .int (iI (pct)), .int (iI (lr)), .int (iI (sr))])), (ia, arQ cs 2 5 itf)] = A at hD
  have hl := lv_entry ([.ref kr, .int (iI (zp)), .int (iI (zs)), .ref po]) (n := 5) (Nat.le_of_ble_eq_true rfl)
  rw [lg_entry_eq]
  generalize (lg_sl ([.ref kr, .int (iI (zp)), .int (iI (zs)), .ref po]) ++ List.replicate (5 - (lg_sl ([.ref kr, .int (iI (zp)), .int (iI (zs)), .ref po])).length) Slot.unset).toArray = ls at hl ⊢
  have hl : lv_has ls 5 [(0, .ref kr), (1, .int (iI (zp))), (2, .int (iI (zs))), (3, .ref po)] := hl
  have hH := rfl (a := s.heap)
  refine lv_aload_n hx hb dL_addItem_0 rfl (lv_at hl 3 rfl) ?_
  refine lv_iconst (v := iI (0)) hx hb dL_addItem_1 rfl ?_
  refine lv_aload_n hx hb dL_addItem_2 rfl (lv_at hl 0 rfl) ?_
  refine lv_iload_n hx hb dL_addItem_3 rfl (lv_at hl 1 rfl) ?_
  refine lv_iload_n hx hb dL_addItem_4 rfl (lv_at hl 2 rfl) ?_
  have pk1 : picks [(po, .inl (cs 4, 1, .inr (.inl ov))), (kr, .inr (5, [.ref la, .ref ia, .ref na, .ref b4, .ref b6, .ref b8, .ref b10, .int (iI (((sh : Nat) : Int))), .int (iI (((it : Nat) : Int))), .int (iI (lc)), .int (iI (((dy : Nat) : Int))), .int (iI (pct)), .int (iI (lr)), .int (iI (sr))])), (ia, arQ cs 2 5 itf)] [1, 2] [(kr, .inr (5, [.ref la, .ref ia, .ref na, .ref b4, .ref b6, .ref b8, .ref b10, .int (iI (((sh : Nat) : Int))), .int (iI (((it : Nat) : Int))), .int (iI (lc)), .int (iI (((dy : Nat) : Int))), .int (iI (pct)), .int (iI (lr)), .int (iI (sr))])), (ia, arQ cs 2 5 itf)] := ⟨rfl, rfl, trivial⟩
  refine vx_calli (vx_runV (As := [.int (iI (zp)), .int (iI (zs))]) (rest := [.int (iI (0)), .ref po]) ⟨hx, hb, hml, hown, hts⟩ (m_X5_addItem_no l hst D cs kr la ia na b4 b6 b8 b10 sh it lc dy pct lr sr itf zp zs (hit) (hzp) (hzs) (hno)) (cwV 2 hts (gV w_227 w_228 w_229 w_1 w_230) rfl rfl rfl (by decide +kernel) ⟨Nat.le_of_ble_eq_true rfl, Nat.le_of_ble_eq_true rfl⟩) (PE_V hK hN hE hS (fun _ h => False.elim h) hP hD [1, 2] rfl pk1 rfl rfl) rfl rfl hl.1 rfl (lv_room (Nat.le_of_ble_eq_true rfl)) dL_addItem_5 ⟨Nat.le_of_ble_eq_true rfl, Nat.le_of_ble_eq_true rfl⟩) hS (fun _ _ h => False.elim h) (fun _ h => False.elim h) (fun _ _ h => False.elim h) (fun E ce q9 u t H1 locs1 ht hvm hpx hBX hz1 hk1 hS1 hce hcv hcl => ?_) (fun r u t H locs ht hvm hw hB hz1 hk1 hS => ?_)
  · have h9 : u = (if (zp < 1 ∨ 50 < zp) ∨ (zs < 0 ∨ 9999 < zs) then 3 else if 5 ≤ it then 4 else 0) := hpx.1
    have hS := hS1
    have hcd : (if (zp < 1 ∨ 50 < zp) ∨ (zs < 0 ∨ 9999 < zs) then 3 else if 5 ≤ it then 4 else 0) = 3 ∨ (if (zp < 1 ∨ 50 < zp) ∨ (zs < 0 ∨ 9999 < zs) then 3 else if 5 ≤ it then 4 else 0) = 4 := by
      revert hno
      (try unfold cdL); (try unfold cdS); (try unfold cdC)
      (repeat' split) <;> simp
    have hEu := hBX
    have hP := P_kept hP hk1
    rcases hcd with hc3 | hcd
    · have hE3 : E = "java/lang/IllegalArgumentException" := by have h8 : E = exN u := hEu; rw [h8, h9, hc3]; rfl
      subst hE3
      refine vx_catch (name := "java/lang/IllegalArgumentException") hown [] ⟨0, 10, 13, 13⟩ [⟨0, 10, 17, 15⟩] (htab.trans rfl) (fun z hz => by cases hz) rfl (by decide) (hts _ w_132) (hE.use _ (List.mem_append_right _ (List.mem_map.mpr ⟨_, List.mem_of_getElem? (i := 2) rfl, rfl⟩))) hce hcv hcl ?_
      refine lv_astore (lv' := [(4, .ref q9), (0, .ref kr), (1, .int (iI (zp))), (2, .int (iI (zs))), (3, .ref po)]) hx hb dL_addItem_13 hl (by decide) rfl (fun ls hl => ?_)
      refine lv_iconst (v := iI (1)) hx hb dL_addItem_15 rfl ?_
      refine W.widen (k := 1) (n := 6) (by omega) (by omega) ?_
      have hres : iI (1) = iI (hkI [3, 4] (if (zp < 1 ∨ 50 < zp) ∨ (zs < 0 ∨ 9999 < zs) then 3 else if 5 ≤ it then 4 else 0)) := congrArg iI (by
          rw [hc3]; rfl)
      exact W.iret hx hb hr (fun t ht hW => ⟨⟨_, (), rfl, hres, trivial⟩, hS.F ht⟩) hS.2.2 dL_addItem_16
    have hc3 := hcd
    have hE3 : E = "java/lang/IllegalStateException" := by have h8 : E = exN u := hEu; rw [h8, h9, hc3]; rfl
    subst hE3
    refine vx_catch (name := "java/lang/IllegalStateException") hown [⟨0, 10, 13, 13⟩] ⟨0, 10, 17, 15⟩ [] (htab.trans rfl) (fun z hz => by
        simp only [List.mem_cons, List.not_mem_nil, or_false] at hz
        rcases hz with rfl
        · exact Or.inr ⟨by decide, "java/lang/IllegalArgumentException", hts _ w_132, hE.2.2.2.2.2 _ (List.mem_of_getElem? (i := 0) rfl)⟩) rfl (by decide) (hts _ w_133) (hE.use _ (List.mem_append_right _ (List.mem_map.mpr ⟨_, List.mem_of_getElem? (i := 3) rfl, rfl⟩))) hce hcv hcl ?_
    refine lv_astore (lv' := [(4, .ref q9), (0, .ref kr), (1, .int (iI (zp))), (2, .int (iI (zs))), (3, .ref po)]) hx hb dL_addItem_17 hl (by decide) rfl (fun ls hl => ?_)
    refine lv_iconst (v := iI (2)) hx hb dL_addItem_19 rfl ?_
    refine W.widen (k := 1) (n := 6) (by omega) (by omega) ?_
    have hres : iI (2) = iI (hkI [3, 4] (if (zp < 1 ∨ 50 < zp) ∨ (zs < 0 ∨ 9999 < zs) then 3 else if 5 ≤ it then 4 else 0)) := congrArg iI (by
        rw [hc3]; rfl)
    exact W.iret hx hb hr (fun t ht hW => ⟨⟨_, (), rfl, hres, trivial⟩, hS.F ht⟩) hS.2.2 dL_addItem_20
  obtain ⟨hc2, hw⟩ := hw
  subst hw
  have hP := P_kept hP hk1
  exact absurd hc2 hno

abbrev ws_L_carry : List Cond := Cond.codeWith yL_carry cL_carry 7 (some .int) [(0, 14, 17, 25), (0, 14, 21, 13), (0, 14, 25, 15)] :: ALL
set_option maxHeartbeats 4000000 in
set_option maxRecDepth 100000 in
theorem m_L_carry_no_t (l : Launch) (hst : l.stackTraces = false) (D : va_G) (cs : Nat → ClassId) (kr la ia na b4 b6 b8 b10 sh it : Nat) (lc : Int) (dy : Nat) (pct lr sr : Int) (lf : Nat → Int) (itf : Nat → Option Nat) (lnf : Nat → Option Nat) (zs zi zk zl : Int) (po : Nat) (ov : Nat → Int64) (hsh : sh ≤ 4) (hit : it ≤ 5) (hitf : ∀ j, j < it → itf j ≠ none) (hzs : -2147483648 ≤ zs ∧ zs < 2147483648) (hzi : -2147483648 ≤ zi ∧ zi < 2147483648) (hzk : -2147483648 ≤ zk ∧ zk < 2147483648) (hzl : -2147483648 ≤ zl ∧ zl < 2147483648) (hno : (cdC sh it lnf zs zi zk zl) ≠ 0) : Met l yL_carry ws_L_carry ({ frames := 8, cells := 3, slots := 18, locals := 130 }) (va_Pc [.ref kr, .int (iI (zs)), .int (iI (zi)), .int (iI (zk)), .int (iI (zl)), .ref po] (PE D cs [(po, .inl (cs 4, 1, .inr (.inl ov))), (kr, .inr (5, [.ref la, .ref ia, .ref na, .ref b4, .ref b6, .ref b8, .ref b10, .int (iI (((sh : Nat) : Int))), .int (iI (((it : Nat) : Int))), .int (iI (lc)), .int (iI (((dy : Nat) : Int))), .int (iI (pct)), .int (iI (lr)), .int (iI (sr))])), (la, arI cs 4 lf), (ia, arQ cs 2 5 itf), (na, arQ cs 3 20 lnf)] noA)) (va_Qi (fun r (_ : Unit) => r = iI (hkI [1, 3, 4] (cdC sh it lnf zs zi zk zl))) (fun _ _ => True) noA) 3 18 noA := by
  refine va_MetW (cc := cL_carry) (maxL := 7) (ret := some .int) (hh := [(0, 14, 17, 25), (0, 14, 21, 13), (0, 14, 25, 15)]) (by decide +kernel) rfl ?_
  intro p e s m args below meth c s₁ B hml hv
  obtain ⟨rfl, ⟨hP, hK, hD, hN⟩, hE⟩ := hv
  have hx := B.exec
  have hb := B.bytes
  have hr := B.returns
  have hts : ∀ w ∈ ALL, w.before _ s = true := fun w h => atoms_spec (ws := ws_L_carry) B.pre w (List.mem_cons_of_mem _ h)
  have hown : s.vm.findClass RL = some m.cls := findClass_of_methodNamed B.named
  have hlocks := B.notSynchronized
  have htab : c.exceptionTable.toList = tableOf [(0, 14, 17, 25), (0, 14, 21, 13), (0, 14, 25, 15)] := vx_table (x := yL_carry) B (atoms_spec (ws := ws_L_carry) B.pre _ List.mem_cons_self)
  have hS : va_S noA s.heap s.heap [] := va_S.rf
  generalize inW [(po, .inl (cs 4, 1, .inr (.inl ov))), (kr, .inr (5, [.ref la, .ref ia, .ref na, .ref b4, .ref b6, .ref b8, .ref b10, .int (iI (((sh : Nat) : Int))), .int (iI (((it : Nat) : Int))), .int (iI (lc)), .int (iI (((dy : Nat) : Int))), .int (iI (pct)), .int (iI (lr)), .int (iI (sr))])), (la, arI cs 4 lf), (ia, arQ cs 2 5 itf), (na, arQ cs 3 20 lnf)] = A at hD
  have hl := lv_entry ([.ref kr, .int (iI (zs)), .int (iI (zi)), .int (iI (zk)), .int (iI (zl)), .ref po]) (n := 7) (Nat.le_of_ble_eq_true rfl)
  rw [lg_entry_eq]
  generalize (lg_sl ([.ref kr, .int (iI (zs)), .int (iI (zi)), .int (iI (zk)), .int (iI (zl)), .ref po]) ++ List.replicate (7 - (lg_sl ([.ref kr, .int (iI (zs)), .int (iI (zi)), .int (iI (zk)), .int (iI (zl)), .ref po])).length) Slot.unset).toArray = ls at hl ⊢
  have hl : lv_has ls 7 [(0, .ref kr), (1, .int (iI (zs))), (2, .int (iI (zi))), (3, .int (iI (zk))), (4, .int (iI (zl))), (5, .ref po)] := hl
  have hH := rfl (a := s.heap)
  refine lv_aload hx hb dL_carry_0 (lv_at hl 5 rfl) ?_
  refine lv_iconst (v := iI (0)) hx hb dL_carry_2 rfl ?_
  refine lv_aload_n hx hb dL_carry_3 rfl (lv_at hl 0 rfl) ?_
  refine lv_iload_n hx hb dL_carry_4 rfl (lv_at hl 1 rfl) ?_
  refine lv_iload_n hx hb dL_carry_5 rfl (lv_at hl 2 rfl) ?_
  refine lv_iload_n hx hb dL_carry_6 rfl (lv_at hl 3 rfl) ?_
  refine lv_iload hx hb dL_carry_7 (lv_at hl 4 rfl) ?_
  have pk1 : picks [(po, .inl (cs 4, 1, .inr (.inl ov))), (kr, .inr (5, [.ref la, .ref ia, .ref na, .ref b4, .ref b6, .ref b8, .ref b10, .int (iI (((sh : Nat) : Int))), .int (iI (((it : Nat) : Int))), .int (iI (lc)), .int (iI (((dy : Nat) : Int))), .int (iI (pct)), .int (iI (lr)), .int (iI (sr))])), (la, arI cs 4 lf), (ia, arQ cs 2 5 itf), (na, arQ cs 3 20 lnf)] [1, 2, 3, 4] [(kr, .inr (5, [.ref la, .ref ia, .ref na, .ref b4, .ref b6, .ref b8, .ref b10, .int (iI (((sh : Nat) : Int))), .int (iI (((it : Nat) : Int))), .int (iI (lc)), .int (iI (((dy : Nat) : Int))), .int (iI (pct)), .int (iI (lr)), .int (iI (sr))])), (la, arI cs 4 lf), (ia, arQ cs 2 5 itf), (na, arQ cs 3 20 lnf)] := ⟨rfl, rfl, rfl, rfl, trivial⟩
  refine vx_calli (vx_runV (As := [.int (iI (zs)), .int (iI (zi)), .int (iI (zk)), .int (iI (zl))]) (rest := [.int (iI (0)), .ref po]) ⟨hx, hb, hml, hown, hts⟩ (m_X5_carry_no l hst D cs kr la ia na b4 b6 b8 b10 sh it lc dy pct lr sr lf itf lnf zs zi zk zl (hsh) (hit) (hitf) (hzs) (hzi) (hzk) (hzl) (hno)) (cwV 4 hts (gV w_267 w_268 w_269 w_1 w_270) rfl rfl rfl (by decide +kernel) ⟨Nat.le_of_ble_eq_true rfl, Nat.le_of_ble_eq_true rfl⟩) (PE_V hK hN hE hS (fun _ h => False.elim h) hP hD [1, 2, 3, 4] rfl pk1 rfl rfl) rfl rfl hl.1 rfl (lv_room (Nat.le_of_ble_eq_true rfl)) dL_carry_9 ⟨Nat.le_of_ble_eq_true rfl, Nat.le_of_ble_eq_true rfl⟩) hS (fun _ _ h => False.elim h) (fun _ h => False.elim h) (fun _ _ h => False.elim h) (fun E ce q9 u t H1 locs1 ht hvm hpx hBX hz1 hk1 hS1 hce hcv hcl => ?_) (fun r u t H locs ht hvm hw hB hz1 hk1 hS => ?_)
  · have h9 : u = (cdC sh it lnf zs zi zk zl) := hpx.1
    have hS := hS1
    have hcd : (cdC sh it lnf zs zi zk zl) = 1 ∨ (cdC sh it lnf zs zi zk zl) = 3 ∨ (cdC sh it lnf zs zi zk zl) = 4 := by
      revert hno
      (try unfold cdL); (try unfold cdS); (try unfold cdC)
      (repeat' split) <;> simp
    have hEu := hBX
    have hP := P_kept hP hk1
    rcases hcd with hc3 | hcd
    · have hE3 : E = "java/lang/IndexOutOfBoundsException" := by have h8 : E = exN u := hEu; rw [h8, h9, hc3]; rfl
      subst hE3
      refine vx_catch (name := "java/lang/IndexOutOfBoundsException") hown [] ⟨0, 14, 17, 25⟩ [⟨0, 14, 21, 13⟩, ⟨0, 14, 25, 15⟩] (htab.trans rfl) (fun z hz => by cases hz) rfl (by decide) (hts _ w_266) (hE.use _ (List.mem_append_right _ (List.mem_map.mpr ⟨_, List.mem_of_getElem? (i := 0) rfl, rfl⟩))) hce hcv hcl ?_
      refine lv_astore (lv' := [(6, .ref q9), (0, .ref kr), (1, .int (iI (zs))), (2, .int (iI (zi))), (3, .int (iI (zk))), (4, .int (iI (zl))), (5, .ref po)]) hx hb dL_carry_17 hl (by decide) rfl (fun ls hl => ?_)
      refine lv_iconst (v := iI (1)) hx hb dL_carry_19 rfl ?_
      refine W.widen (k := 3) (n := 18) (by omega) (by omega) ?_
      have hres : iI (1) = iI (hkI [1, 3, 4] (cdC sh it lnf zs zi zk zl)) := congrArg iI (by
          rw [hc3]; rfl)
      exact W.iret hx hb hr (fun t ht hW => ⟨⟨_, (), rfl, hres, trivial⟩, hS.F ht⟩) hS.2.2 dL_carry_20
    rcases hcd with hc3 | hcd
    · have hE3 : E = "java/lang/IllegalArgumentException" := by have h8 : E = exN u := hEu; rw [h8, h9, hc3]; rfl
      subst hE3
      refine vx_catch (name := "java/lang/IllegalArgumentException") hown [⟨0, 14, 17, 25⟩] ⟨0, 14, 21, 13⟩ [⟨0, 14, 25, 15⟩] (htab.trans rfl) (fun z hz => by
          simp only [List.mem_cons, List.not_mem_nil, or_false] at hz
          rcases hz with rfl
          · exact Or.inr ⟨by decide, "java/lang/IndexOutOfBoundsException", hts _ w_266, hE.2.2.2.2.2 _ (List.mem_of_getElem? (i := 8) rfl)⟩) rfl (by decide) (hts _ w_132) (hE.use _ (List.mem_append_right _ (List.mem_map.mpr ⟨_, List.mem_of_getElem? (i := 2) rfl, rfl⟩))) hce hcv hcl ?_
      refine lv_astore (lv' := [(6, .ref q9), (0, .ref kr), (1, .int (iI (zs))), (2, .int (iI (zi))), (3, .int (iI (zk))), (4, .int (iI (zl))), (5, .ref po)]) hx hb dL_carry_21 hl (by decide) rfl (fun ls hl => ?_)
      refine lv_iconst (v := iI (2)) hx hb dL_carry_23 rfl ?_
      refine W.widen (k := 3) (n := 18) (by omega) (by omega) ?_
      have hres : iI (2) = iI (hkI [1, 3, 4] (cdC sh it lnf zs zi zk zl)) := congrArg iI (by
          rw [hc3]; rfl)
      exact W.iret hx hb hr (fun t ht hW => ⟨⟨_, (), rfl, hres, trivial⟩, hS.F ht⟩) hS.2.2 dL_carry_24
    have hc3 := hcd
    have hE3 : E = "java/lang/IllegalStateException" := by have h8 : E = exN u := hEu; rw [h8, h9, hc3]; rfl
    subst hE3
    refine vx_catch (name := "java/lang/IllegalStateException") hown [⟨0, 14, 17, 25⟩, ⟨0, 14, 21, 13⟩] ⟨0, 14, 25, 15⟩ [] (htab.trans rfl) (fun z hz => by
        simp only [List.mem_cons, List.not_mem_nil, or_false] at hz
        rcases hz with rfl | rfl
        · exact Or.inr ⟨by decide, "java/lang/IndexOutOfBoundsException", hts _ w_266, hE.2.2.2.2.2 _ (List.mem_of_getElem? (i := 9) rfl)⟩
        · exact Or.inr ⟨by decide, "java/lang/IllegalArgumentException", hts _ w_132, hE.2.2.2.2.2 _ (List.mem_of_getElem? (i := 0) rfl)⟩) rfl (by decide) (hts _ w_133) (hE.use _ (List.mem_append_right _ (List.mem_map.mpr ⟨_, List.mem_of_getElem? (i := 3) rfl, rfl⟩))) hce hcv hcl ?_
    refine lv_astore (lv' := [(6, .ref q9), (0, .ref kr), (1, .int (iI (zs))), (2, .int (iI (zi))), (3, .int (iI (zk))), (4, .int (iI (zl))), (5, .ref po)]) hx hb dL_carry_25 hl (by decide) rfl (fun ls hl => ?_)
    refine lv_iconst (v := iI (3)) hx hb dL_carry_27 rfl ?_
    refine W.widen (k := 3) (n := 18) (by omega) (by omega) ?_
    have hres : iI (3) = iI (hkI [1, 3, 4] (cdC sh it lnf zs zi zk zl)) := congrArg iI (by
        rw [hc3]; rfl)
    exact W.iret hx hb hr (fun t ht hW => ⟨⟨_, (), rfl, hres, trivial⟩, hS.F ht⟩) hS.2.2 dL_carry_28
  obtain ⟨hc2, hw⟩ := hw
  subst hw
  have hP := P_kept hP hk1
  exact absurd hc2 hno

set_option maxHeartbeats 4000000 in
set_option maxRecDepth 100000 in
theorem m_L_addItem_ok_r (l : Launch) (hst : l.stackTraces = false) (D : va_G) (cs : Nat → ClassId) (kr la ia na b4 b6 b8 b10 sh it : Nat) (lc : Int) (dy : Nat) (pct lr sr : Int) (itf : Nat → Option Nat) (zp zs : Int) (po : Nat) (ov : Nat → Int64) (sz : Nat) (hzp : -2147483648 ≤ zp ∧ zp < 2147483648) (hzs : -2147483648 ≤ zs ∧ zs < 2147483648) (hok1 : 1 ≤ zp ∧ zp ≤ 50) (hok2 : 0 ≤ zs ∧ zs ≤ 9999) (hit : it < 5) (hrr : -2147483648 ≤ ((it : Nat) : Int) ∧ ((it : Nat) : Int) < 2147483648) : Met l yL_addItem ws_L_addItem ({ frames := 4, cells := 7, slots := 3024, locals := 76 }) (va_Pc [.ref kr, .int (iI (zp)), .int (iI (zs)), .ref po] (fun U => U.heap.size = sz ∧ PE D cs [(po, .inl (cs 4, 1, .inr (.inl ov))), (kr, .inr (5, [.ref la, .ref ia, .ref na, .ref b4, .ref b6, .ref b8, .ref b10, .int (iI (((sh : Nat) : Int))), .int (iI (((it : Nat) : Int))), .int (iI (lc)), .int (iI (((dy : Nat) : Int))), .int (iI (pct)), .int (iI (lr)), .int (iI (sr))])), (ia, arQ cs 2 5 itf)] (va_A [(po, .inl (cs 4, 1, .inr (.inl ov))), (kr, .inr (5, [.ref la, .ref ia, .ref na, .ref b4, .ref b6, .ref b8, .ref b10, .int (iI (((sh : Nat) : Int))), .int (iI (((it : Nat) : Int))), .int (iI (lc)), .int (iI (((dy : Nat) : Int))), .int (iI (pct)), .int (iI (lr)), .int (iI (sr))])), (ia, arQ cs 2 5 itf)] sz) U)) (va_Qi (fun r (_ : Nat → Nat) => r = iI (0)) (fun u t => va_P D vwCl [(po, .inl (cs 4, 1, .inr (.inl (vp_updL ov 0 (lI (((it : Nat) : Int))))))), (kr, .inr (5, [.ref la, .ref ia, .ref na, .ref b4, .ref b6, .ref b8, .ref b10, .int (iI (((sh : Nat) : Int))), .int (iI ((((it + 1) : Nat) : Int))), .int (iI (lc)), .int (iI (((dy : Nat) : Int))), .int (iI (pct)), .int (iI (lr)), .int (iI (sr))])), (ia, arQ cs 2 5 (va_up itf it (some (u 0)))), (u 0, .inr (1, [.int (iI (zp)), .int (iI (zs)), .ref (u 1), .ref (u 3), .ref (u 5), .int (iI (zs))])), (u 1, .inr (0, [.ref (u 2)])), (u 2, arI cs 1005 (fun _ => 0)), (u 3, .inr (0, [.ref (u 4)])), (u 4, arI cs 1005 (fun _ => 0)), (u 5, .inr (0, [.ref (u 6)])), (u 6, arI cs 1005 (fun _ => 0))] t.heap ∧ va_D (va_A [(po, .inl (cs 4, 1, .inr (.inl ov))), (kr, .inr (5, [.ref la, .ref ia, .ref na, .ref b4, .ref b6, .ref b8, .ref b10, .int (iI (((sh : Nat) : Int))), .int (iI (((it : Nat) : Int))), .int (iI (lc)), .int (iI (((dy : Nat) : Int))), .int (iI (pct)), .int (iI (lr)), .int (iI (sr))])), (ia, arQ cs 2 5 itf)] sz) [(po, .inl (cs 4, 1, .inr (.inl (vp_updL ov 0 (lI (((it : Nat) : Int))))))), (kr, .inr (5, [.ref la, .ref ia, .ref na, .ref b4, .ref b6, .ref b8, .ref b10, .int (iI (((sh : Nat) : Int))), .int (iI ((((it + 1) : Nat) : Int))), .int (iI (lc)), .int (iI (((dy : Nat) : Int))), .int (iI (pct)), .int (iI (lr)), .int (iI (sr))])), (ia, arQ cs 2 5 (va_up itf it (some (u 0)))), (u 0, .inr (1, [.int (iI (zp)), .int (iI (zs)), .ref (u 1), .ref (u 3), .ref (u 5), .int (iI (zs))])), (u 1, .inr (0, [.ref (u 2)])), (u 2, arI cs 1005 (fun _ => 0)), (u 3, .inr (0, [.ref (u 4)])), (u 4, arI cs 1005 (fun _ => 0)), (u 5, .inr (0, [.ref (u 6)])), (u 6, arI cs 1005 (fun _ => 0))]) (va_A [(po, .inl (cs 4, 1, .inr (.inl ov))), (kr, .inr (5, [.ref la, .ref ia, .ref na, .ref b4, .ref b6, .ref b8, .ref b10, .int (iI (((sh : Nat) : Int))), .int (iI (((it : Nat) : Int))), .int (iI (lc)), .int (iI (((dy : Nat) : Int))), .int (iI (pct)), .int (iI (lr)), .int (iI (sr))])), (ia, arQ cs 2 5 itf)] sz)) 7 3024 (va_A [(po, .inl (cs 4, 1, .inr (.inl ov))), (kr, .inr (5, [.ref la, .ref ia, .ref na, .ref b4, .ref b6, .ref b8, .ref b10, .int (iI (((sh : Nat) : Int))), .int (iI (((it : Nat) : Int))), .int (iI (lc)), .int (iI (((dy : Nat) : Int))), .int (iI (pct)), .int (iI (lr)), .int (iI (sr))])), (ia, arQ cs 2 5 itf)] sz) := by
  refine va_MetW (cc := cL_addItem) (maxL := 5) (ret := some .int) (hh := [(0, 10, 13, 13), (0, 10, 17, 15)]) (by decide +kernel) rfl ?_
  intro p e s m args below meth c s₁ B hml hv
  obtain ⟨rfl, hsz, ⟨hP, hK, hD, hN⟩, hE⟩ := hv
  subst hsz
  have hx := B.exec
  have hb := B.bytes
  have hr := B.returns
  have hts : ∀ w ∈ ALL, w.before _ s = true := fun w h => atoms_spec (ws := ws_L_addItem) B.pre w (List.mem_cons_of_mem _ h)
  have hown : s.vm.findClass RL = some m.cls := findClass_of_methodNamed B.named
  have hlocks := B.notSynchronized
  have htab : c.exceptionTable.toList = tableOf [(0, 10, 13, 13), (0, 10, 17, 15)] := vx_table (x := yL_addItem) B (atoms_spec (ws := ws_L_addItem) B.pre _ List.mem_cons_self)
  have hD := hD.self (sz := s.heap.size)
  generalize hAe : va_A [(po, .inl (cs 4, 1, .inr (.inl ov))), (kr, .inr (5, [.ref la, .ref ia, .ref na, .ref b4, .ref b6, .ref b8, .ref b10, .int (iI (((sh : Nat) : Int))), .int (iI (((it : Nat) : Int))), .int (iI (lc)), .int (iI (((dy : Nat) : Int))), .int (iI (pct)), .int (iI (lr)), .int (iI (sr))])), (ia, arQ cs 2 5 itf)] s.heap.size = A at hD hE ⊢
  have hA : ∀ q : Nat, s.heap.size ≤ q → A q := fun q h => by rw [← hAe]; exact Or.inr h
  have hS : va_S A s.heap s.heap [] := va_S.rf
  have hl := lv_entry ([.ref kr, .int (iI (zp)), .int (iI (zs)), .ref po]) (n := 5) (Nat.le_of_ble_eq_true rfl)
  rw [lg_entry_eq]
  generalize (lg_sl ([.ref kr, .int (iI (zp)), .int (iI (zs)), .ref po]) ++ List.replicate (5 - (lg_sl ([.ref kr, .int (iI (zp)), .int (iI (zs)), .ref po])).length) Slot.unset).toArray = ls at hl ⊢
  have hl : lv_has ls 5 [(0, .ref kr), (1, .int (iI (zp))), (2, .int (iI (zs))), (3, .ref po)] := hl
  have hH := rfl (a := s.heap)
  refine lv_aload_n hx hb dL_addItem_0 rfl (lv_at hl 3 rfl) ?_
  refine lv_iconst (v := iI (0)) hx hb dL_addItem_1 rfl ?_
  refine lv_aload_n hx hb dL_addItem_2 rfl (lv_at hl 0 rfl) ?_
  refine lv_iload_n hx hb dL_addItem_3 rfl (lv_at hl 1 rfl) ?_
  refine lv_iload_n hx hb dL_addItem_4 rfl (lv_at hl 2 rfl) ?_
  have pk1 : picks [(po, .inl (cs 4, 1, .inr (.inl ov))), (kr, .inr (5, [.ref la, .ref ia, .ref na, .ref b4, .ref b6, .ref b8, .ref b10, .int (iI (((sh : Nat) : Int))), .int (iI (((it : Nat) : Int))), .int (iI (lc)), .int (iI (((dy : Nat) : Int))), .int (iI (pct)), .int (iI (lr)), .int (iI (sr))])), (ia, arQ cs 2 5 itf)] [1, 2] [(kr, .inr (5, [.ref la, .ref ia, .ref na, .ref b4, .ref b6, .ref b8, .ref b10, .int (iI (((sh : Nat) : Int))), .int (iI (((it : Nat) : Int))), .int (iI (lc)), .int (iI (((dy : Nat) : Int))), .int (iI (pct)), .int (iI (lr)), .int (iI (sr))])), (ia, arQ cs 2 5 itf)] := ⟨rfl, rfl, trivial⟩
  have hFA := fA_sub hD [1, 2] pk1 hS hA
  refine vx_calli (vx_runV (As := [.int (iI (zp)), .int (iI (zs))]) (rest := [.int (iI (0)), .ref po]) ⟨hx, hb, hml, hown, hts⟩ (m_X5_addItem_ok l hst D cs kr la ia na b4 b6 b8 b10 sh it lc dy pct lr sr itf zp zs _ (hzp) (hzs) (hok1) (hok2) (hit)) (cwV 2 hts (gV w_227 w_228 w_229 w_1 w_230) rfl rfl rfl (by decide +kernel) ⟨Nat.le_of_ble_eq_true rfl, Nat.le_of_ble_eq_true rfl⟩) (PAE_V hK hN hE hS hFA hP hD [1, 2] rfl pk1 rfl rfl) rfl rfl hl.1 rfl (lv_room (Nat.le_of_ble_eq_true rfl)) dL_addItem_5 ⟨Nat.le_of_ble_eq_true rfl, Nat.le_of_ble_eq_true rfl⟩) hS (fun q _ h => hFA q h) hFA (fun q _ h => hFA q h) (fun E ce q9 u t H1 locs1 ht hvm hpx hBX hz1 hk1 hS1 hce hcv hcl => absurd hpx.1 hpx.2) (fun r u2 t H1 locs ht hvm hw hB hz1 hk1 hS => ?_)
  replace hw := hw.2
  subst hw
  rw [ht] at hB
  obtain ⟨hP, hD⟩ := my_joinA (W1 := [(kr, .inr (5, [.ref la, .ref ia, .ref na, .ref b4, .ref b6, .ref b8, .ref b10, .int (iI (((sh : Nat) : Int))), .int (iI ((((it + 1) : Nat) : Int))), .int (iI (lc)), .int (iI (((dy : Nat) : Int))), .int (iI (pct)), .int (iI (lr)), .int (iI (sr))])), (ia, arQ cs 2 5 (va_up itf it (some (u2 0))))]) (Wn := [(u2 0, .inr (1, [.int (iI (zp)), .int (iI (zs)), .ref (u2 1), .ref (u2 3), .ref (u2 5), .int (iI (zs))])), (u2 1, .inr (0, [.ref (u2 2)])), (u2 2, arI cs 1005 (fun _ => 0)), (u2 3, .inr (0, [.ref (u2 4)])), (u2 4, arI cs 1005 (fun _ => 0)), (u2 5, .inr (0, [.ref (u2 6)])), (u2 6, arI cs 1005 (fun _ => 0))]) hP hD [1, 2] rfl pk1 rfl hk1 hB hFA
  generalize H1 = H at hP hS ⊢
  have hP : va_P D vwCl [(po, .inl (cs 4, 1, .inr (.inl ov))), (kr, .inr (5, [.ref la, .ref ia, .ref na, .ref b4, .ref b6, .ref b8, .ref b10, .int (iI (((sh : Nat) : Int))), .int (iI ((((it + 1) : Nat) : Int))), .int (iI (lc)), .int (iI (((dy : Nat) : Int))), .int (iI (pct)), .int (iI (lr)), .int (iI (sr))])), (ia, arQ cs 2 5 (va_up itf it (some (u2 0)))), (u2 0, .inr (1, [.int (iI (zp)), .int (iI (zs)), .ref (u2 1), .ref (u2 3), .ref (u2 5), .int (iI (zs))])), (u2 1, .inr (0, [.ref (u2 2)])), (u2 2, arI cs 1005 (fun _ => 0)), (u2 3, .inr (0, [.ref (u2 4)])), (u2 4, arI cs 1005 (fun _ => 0)), (u2 5, .inr (0, [.ref (u2 6)])), (u2 6, arI cs 1005 (fun _ => 0))] H := hP
  have hD : va_D A [(po, .inl (cs 4, 1, .inr (.inl ov))), (kr, .inr (5, [.ref la, .ref ia, .ref na, .ref b4, .ref b6, .ref b8, .ref b10, .int (iI (((sh : Nat) : Int))), .int (iI ((((it + 1) : Nat) : Int))), .int (iI (lc)), .int (iI (((dy : Nat) : Int))), .int (iI (pct)), .int (iI (lr)), .int (iI (sr))])), (ia, arQ cs 2 5 (va_up itf it (some (u2 0)))), (u2 0, .inr (1, [.int (iI (zp)), .int (iI (zs)), .ref (u2 1), .ref (u2 3), .ref (u2 5), .int (iI (zs))])), (u2 1, .inr (0, [.ref (u2 2)])), (u2 2, arI cs 1005 (fun _ => 0)), (u2 3, .inr (0, [.ref (u2 4)])), (u2 4, arI cs 1005 (fun _ => 0)), (u2 5, .inr (0, [.ref (u2 6)])), (u2 6, arI cs 1005 (fun _ => 0))] := hD
  refine my_i2l hx hb dL_addItem_8 (by omega) ?_
  refine my_last0 hx hb hK hP hD hS 0 rfl dL_addItem_9 (fun H locs hP hD hS => ?_)
  have hP : va_P D vwCl [(po, .inl (cs 4, 1, .inr (.inl (vp_updL ov 0 (lI (((it : Nat) : Int))))))), (kr, .inr (5, [.ref la, .ref ia, .ref na, .ref b4, .ref b6, .ref b8, .ref b10, .int (iI (((sh : Nat) : Int))), .int (iI ((((it + 1) : Nat) : Int))), .int (iI (lc)), .int (iI (((dy : Nat) : Int))), .int (iI (pct)), .int (iI (lr)), .int (iI (sr))])), (ia, arQ cs 2 5 (va_up itf it (some (u2 0)))), (u2 0, .inr (1, [.int (iI (zp)), .int (iI (zs)), .ref (u2 1), .ref (u2 3), .ref (u2 5), .int (iI (zs))])), (u2 1, .inr (0, [.ref (u2 2)])), (u2 2, arI cs 1005 (fun _ => 0)), (u2 3, .inr (0, [.ref (u2 4)])), (u2 4, arI cs 1005 (fun _ => 0)), (u2 5, .inr (0, [.ref (u2 6)])), (u2 6, arI cs 1005 (fun _ => 0))] H := hP
  have hD : va_D A [(po, .inl (cs 4, 1, .inr (.inl (vp_updL ov 0 (lI (((it : Nat) : Int))))))), (kr, .inr (5, [.ref la, .ref ia, .ref na, .ref b4, .ref b6, .ref b8, .ref b10, .int (iI (((sh : Nat) : Int))), .int (iI ((((it + 1) : Nat) : Int))), .int (iI (lc)), .int (iI (((dy : Nat) : Int))), .int (iI (pct)), .int (iI (lr)), .int (iI (sr))])), (ia, arQ cs 2 5 (va_up itf it (some (u2 0)))), (u2 0, .inr (1, [.int (iI (zp)), .int (iI (zs)), .ref (u2 1), .ref (u2 3), .ref (u2 5), .int (iI (zs))])), (u2 1, .inr (0, [.ref (u2 2)])), (u2 2, arI cs 1005 (fun _ => 0)), (u2 3, .inr (0, [.ref (u2 4)])), (u2 4, arI cs 1005 (fun _ => 0)), (u2 5, .inr (0, [.ref (u2 6)])), (u2 6, arI cs 1005 (fun _ => 0))] := hD
  refine lv_goto (tgt := 21) hx hb dL_addItem_10 (by decide) ?_
  refine lv_iconst (v := iI (0)) hx hb dL_addItem_21 rfl ?_
  subst hAe
  refine W.widen (k := 7) (n := 3024) (by omega) (by omega) ?_
  have hres : iI (0) = iI (0) := congrArg iI (by
      rfl)
  exact W.iret hx hb hr (fun t ht hW => ⟨⟨_, (fun k => ([u2 0, u2 1, u2 2, u2 3, u2 4, u2 5, u2 6] : List Nat).getD k 0), rfl, hres, by show va_P D vwCl _ t.heap; rw [ht]; exact hP, hD⟩, hS.F ht⟩) hS.2.2 dL_addItem_22

set_option maxHeartbeats 4000000 in
set_option maxRecDepth 100000 in
theorem m_L_carry_ok_r (l : Launch) (hst : l.stackTraces = false) (D : va_G) (cs : Nat → ClassId) (kr la ia na b4 b6 b8 b10 sh it : Nat) (lc : Int) (dy : Nat) (pct lr sr : Int) (lf : Nat → Int) (itf : Nat → Option Nat) (lnf : Nat → Option Nat) (sn tn hi : Nat) (zk zl : Int) (po : Nat) (ov : Nat → Int64) (sz : Nat) (hsh : sh ≤ 4) (hit : it ≤ 5) (hitf : ∀ j, j < it → itf j ≠ none) (hsn : sn < sh) (htn : tn < it) (hitn : itf tn = some hi) (hln : lnf (sn * 5 + tn) = none) (hzk : 0 ≤ zk ∧ zk ≤ 999) (hzl : 0 ≤ zl ∧ zl ≤ 99999) (hrr : -2147483648 ≤ (lc + 1) ∧ (lc + 1) < 2147483648) : Met l yL_carry ws_L_carry ({ frames := 8, cells := 12, slots := 3074, locals := 130 }) (va_Pc [.ref kr, .int (iI (((sn : Nat) : Int))), .int (iI (((tn : Nat) : Int))), .int (iI (zk)), .int (iI (zl)), .ref po] (fun U => U.heap.size = sz ∧ PE D cs [(po, .inl (cs 4, 1, .inr (.inl ov))), (kr, .inr (5, [.ref la, .ref ia, .ref na, .ref b4, .ref b6, .ref b8, .ref b10, .int (iI (((sh : Nat) : Int))), .int (iI (((it : Nat) : Int))), .int (iI (lc)), .int (iI (((dy : Nat) : Int))), .int (iI (pct)), .int (iI (lr)), .int (iI (sr))])), (la, arI cs 4 lf), (ia, arQ cs 2 5 itf), (na, arQ cs 3 20 lnf)] (va_A [(po, .inl (cs 4, 1, .inr (.inl ov))), (kr, .inr (5, [.ref la, .ref ia, .ref na, .ref b4, .ref b6, .ref b8, .ref b10, .int (iI (((sh : Nat) : Int))), .int (iI (((it : Nat) : Int))), .int (iI (lc)), .int (iI (((dy : Nat) : Int))), .int (iI (pct)), .int (iI (lr)), .int (iI (sr))])), (la, arI cs 4 lf), (ia, arQ cs 2 5 itf), (na, arQ cs 3 20 lnf)] sz) U)) (va_Qi (fun r (_ : Nat → Nat) => r = iI (0)) (fun u t => va_P D vwCl [(po, .inl (cs 4, 1, .inr (.inl (vp_updL ov 0 (lI (lc + 1)))))), (kr, .inr (5, [.ref la, .ref ia, .ref na, .ref b4, .ref b6, .ref b8, .ref b10, .int (iI (((sh : Nat) : Int))), .int (iI (((it : Nat) : Int))), .int (iI (lc + 1)), .int (iI (((dy : Nat) : Int))), .int (iI (pct)), .int (iI (lr)), .int (iI (sr))])), (la, arI cs 4 lf), (ia, arQ cs 2 5 itf), (na, arQ cs 3 20 (va_up lnf (sn * 5 + tn) (some (u 0)))), (u 0, .inr (3, [.ref hi, .int (iI (lf sn)), .int (iI (((dy : Nat) : Int))), .int (iI (zk)), .int (iI (zl)), .ref (u 1), .ref (u 3), .ref (u 4), .ref (u 6), .ref (u 8), .int (iI (0)), .int (iI (zk)), .int (iI (0)), .int (iI (0))])), (u 1, .inr (2, [.ref (u 2), .int (iI (zl))])), (u 2, arI cs 7 (fun _ => 1000)), (u 3, arI cs 21 (fun _ => 0)), (u 4, .inr (0, [.ref (u 5)])), (u 5, arI cs 1005 (fun _ => 0)), (u 6, .inr (0, [.ref (u 7)])), (u 7, arI cs 1005 (fun _ => 0)), (u 8, .inr (0, [.ref (u 9)])), (u 9, arI cs 1005 (fun _ => 0))] t.heap ∧ va_D (va_A [(po, .inl (cs 4, 1, .inr (.inl ov))), (kr, .inr (5, [.ref la, .ref ia, .ref na, .ref b4, .ref b6, .ref b8, .ref b10, .int (iI (((sh : Nat) : Int))), .int (iI (((it : Nat) : Int))), .int (iI (lc)), .int (iI (((dy : Nat) : Int))), .int (iI (pct)), .int (iI (lr)), .int (iI (sr))])), (la, arI cs 4 lf), (ia, arQ cs 2 5 itf), (na, arQ cs 3 20 lnf)] sz) [(po, .inl (cs 4, 1, .inr (.inl (vp_updL ov 0 (lI (lc + 1)))))), (kr, .inr (5, [.ref la, .ref ia, .ref na, .ref b4, .ref b6, .ref b8, .ref b10, .int (iI (((sh : Nat) : Int))), .int (iI (((it : Nat) : Int))), .int (iI (lc + 1)), .int (iI (((dy : Nat) : Int))), .int (iI (pct)), .int (iI (lr)), .int (iI (sr))])), (la, arI cs 4 lf), (ia, arQ cs 2 5 itf), (na, arQ cs 3 20 (va_up lnf (sn * 5 + tn) (some (u 0)))), (u 0, .inr (3, [.ref hi, .int (iI (lf sn)), .int (iI (((dy : Nat) : Int))), .int (iI (zk)), .int (iI (zl)), .ref (u 1), .ref (u 3), .ref (u 4), .ref (u 6), .ref (u 8), .int (iI (0)), .int (iI (zk)), .int (iI (0)), .int (iI (0))])), (u 1, .inr (2, [.ref (u 2), .int (iI (zl))])), (u 2, arI cs 7 (fun _ => 1000)), (u 3, arI cs 21 (fun _ => 0)), (u 4, .inr (0, [.ref (u 5)])), (u 5, arI cs 1005 (fun _ => 0)), (u 6, .inr (0, [.ref (u 7)])), (u 7, arI cs 1005 (fun _ => 0)), (u 8, .inr (0, [.ref (u 9)])), (u 9, arI cs 1005 (fun _ => 0))]) (va_A [(po, .inl (cs 4, 1, .inr (.inl ov))), (kr, .inr (5, [.ref la, .ref ia, .ref na, .ref b4, .ref b6, .ref b8, .ref b10, .int (iI (((sh : Nat) : Int))), .int (iI (((it : Nat) : Int))), .int (iI (lc)), .int (iI (((dy : Nat) : Int))), .int (iI (pct)), .int (iI (lr)), .int (iI (sr))])), (la, arI cs 4 lf), (ia, arQ cs 2 5 itf), (na, arQ cs 3 20 lnf)] sz)) 12 3074 (va_A [(po, .inl (cs 4, 1, .inr (.inl ov))), (kr, .inr (5, [.ref la, .ref ia, .ref na, .ref b4, .ref b6, .ref b8, .ref b10, .int (iI (((sh : Nat) : Int))), .int (iI (((it : Nat) : Int))), .int (iI (lc)), .int (iI (((dy : Nat) : Int))), .int (iI (pct)), .int (iI (lr)), .int (iI (sr))])), (la, arI cs 4 lf), (ia, arQ cs 2 5 itf), (na, arQ cs 3 20 lnf)] sz) := by
  refine va_MetW (cc := cL_carry) (maxL := 7) (ret := some .int) (hh := [(0, 14, 17, 25), (0, 14, 21, 13), (0, 14, 25, 15)]) (by decide +kernel) rfl ?_
  intro p e s m args below meth c s₁ B hml hv
  obtain ⟨rfl, hsz, ⟨hP, hK, hD, hN⟩, hE⟩ := hv
  subst hsz
  have hx := B.exec
  have hb := B.bytes
  have hr := B.returns
  have hts : ∀ w ∈ ALL, w.before _ s = true := fun w h => atoms_spec (ws := ws_L_carry) B.pre w (List.mem_cons_of_mem _ h)
  have hown : s.vm.findClass RL = some m.cls := findClass_of_methodNamed B.named
  have hlocks := B.notSynchronized
  have htab : c.exceptionTable.toList = tableOf [(0, 14, 17, 25), (0, 14, 21, 13), (0, 14, 25, 15)] := vx_table (x := yL_carry) B (atoms_spec (ws := ws_L_carry) B.pre _ List.mem_cons_self)
  have hD := hD.self (sz := s.heap.size)
  generalize hAe : va_A [(po, .inl (cs 4, 1, .inr (.inl ov))), (kr, .inr (5, [.ref la, .ref ia, .ref na, .ref b4, .ref b6, .ref b8, .ref b10, .int (iI (((sh : Nat) : Int))), .int (iI (((it : Nat) : Int))), .int (iI (lc)), .int (iI (((dy : Nat) : Int))), .int (iI (pct)), .int (iI (lr)), .int (iI (sr))])), (la, arI cs 4 lf), (ia, arQ cs 2 5 itf), (na, arQ cs 3 20 lnf)] s.heap.size = A at hD hE ⊢
  have hA : ∀ q : Nat, s.heap.size ≤ q → A q := fun q h => by rw [← hAe]; exact Or.inr h
  have hS : va_S A s.heap s.heap [] := va_S.rf
  have hl := lv_entry ([.ref kr, .int (iI (((sn : Nat) : Int))), .int (iI (((tn : Nat) : Int))), .int (iI (zk)), .int (iI (zl)), .ref po]) (n := 7) (Nat.le_of_ble_eq_true rfl)
  rw [lg_entry_eq]
  generalize (lg_sl ([.ref kr, .int (iI (((sn : Nat) : Int))), .int (iI (((tn : Nat) : Int))), .int (iI (zk)), .int (iI (zl)), .ref po]) ++ List.replicate (7 - (lg_sl ([.ref kr, .int (iI (((sn : Nat) : Int))), .int (iI (((tn : Nat) : Int))), .int (iI (zk)), .int (iI (zl)), .ref po])).length) Slot.unset).toArray = ls at hl ⊢
  have hl : lv_has ls 7 [(0, .ref kr), (1, .int (iI (((sn : Nat) : Int)))), (2, .int (iI (((tn : Nat) : Int)))), (3, .int (iI (zk))), (4, .int (iI (zl))), (5, .ref po)] := hl
  have hH := rfl (a := s.heap)
  refine lv_aload hx hb dL_carry_0 (lv_at hl 5 rfl) ?_
  refine lv_iconst (v := iI (0)) hx hb dL_carry_2 rfl ?_
  refine lv_aload_n hx hb dL_carry_3 rfl (lv_at hl 0 rfl) ?_
  refine lv_iload_n hx hb dL_carry_4 rfl (lv_at hl 1 rfl) ?_
  refine lv_iload_n hx hb dL_carry_5 rfl (lv_at hl 2 rfl) ?_
  refine lv_iload_n hx hb dL_carry_6 rfl (lv_at hl 3 rfl) ?_
  refine lv_iload hx hb dL_carry_7 (lv_at hl 4 rfl) ?_
  have pk1 : picks [(po, .inl (cs 4, 1, .inr (.inl ov))), (kr, .inr (5, [.ref la, .ref ia, .ref na, .ref b4, .ref b6, .ref b8, .ref b10, .int (iI (((sh : Nat) : Int))), .int (iI (((it : Nat) : Int))), .int (iI (lc)), .int (iI (((dy : Nat) : Int))), .int (iI (pct)), .int (iI (lr)), .int (iI (sr))])), (la, arI cs 4 lf), (ia, arQ cs 2 5 itf), (na, arQ cs 3 20 lnf)] [1, 2, 3, 4] [(kr, .inr (5, [.ref la, .ref ia, .ref na, .ref b4, .ref b6, .ref b8, .ref b10, .int (iI (((sh : Nat) : Int))), .int (iI (((it : Nat) : Int))), .int (iI (lc)), .int (iI (((dy : Nat) : Int))), .int (iI (pct)), .int (iI (lr)), .int (iI (sr))])), (la, arI cs 4 lf), (ia, arQ cs 2 5 itf), (na, arQ cs 3 20 lnf)] := ⟨rfl, rfl, rfl, rfl, trivial⟩
  have hFA := fA_sub hD [1, 2, 3, 4] pk1 hS hA
  refine vx_calli (vx_runV (As := [.int (iI (((sn : Nat) : Int))), .int (iI (((tn : Nat) : Int))), .int (iI (zk)), .int (iI (zl))]) (rest := [.int (iI (0)), .ref po]) ⟨hx, hb, hml, hown, hts⟩ (m_X5_carry_ok l hst D cs kr la ia na b4 b6 b8 b10 sh it lc dy pct lr sr lf itf lnf sn tn hi zk zl _ (hsh) (hit) (hitf) (hsn) (htn) (hitn) (hln) (hzk) (hzl)) (cwV 4 hts (gV w_267 w_268 w_269 w_1 w_270) rfl rfl rfl (by decide +kernel) ⟨Nat.le_of_ble_eq_true rfl, Nat.le_of_ble_eq_true rfl⟩) (PAE_V hK hN hE hS hFA hP hD [1, 2, 3, 4] rfl pk1 rfl rfl) rfl rfl hl.1 rfl (lv_room (Nat.le_of_ble_eq_true rfl)) dL_carry_9 ⟨Nat.le_of_ble_eq_true rfl, Nat.le_of_ble_eq_true rfl⟩) hS (fun q _ h => hFA q h) hFA (fun q _ h => hFA q h) (fun E ce q9 u t H1 locs1 ht hvm hpx hBX hz1 hk1 hS1 hce hcv hcl => absurd hpx.1 hpx.2) (fun r u2 t H1 locs ht hvm hw hB hz1 hk1 hS => ?_)
  replace hw := hw.2
  subst hw
  rw [ht] at hB
  obtain ⟨hP, hD⟩ := my_joinA (W1 := [(kr, .inr (5, [.ref la, .ref ia, .ref na, .ref b4, .ref b6, .ref b8, .ref b10, .int (iI (((sh : Nat) : Int))), .int (iI (((it : Nat) : Int))), .int (iI (lc + 1)), .int (iI (((dy : Nat) : Int))), .int (iI (pct)), .int (iI (lr)), .int (iI (sr))])), (la, arI cs 4 lf), (ia, arQ cs 2 5 itf), (na, arQ cs 3 20 (va_up lnf (sn * 5 + tn) (some (u2 0))))]) (Wn := [(u2 0, .inr (3, [.ref hi, .int (iI (lf sn)), .int (iI (((dy : Nat) : Int))), .int (iI (zk)), .int (iI (zl)), .ref (u2 1), .ref (u2 3), .ref (u2 4), .ref (u2 6), .ref (u2 8), .int (iI (0)), .int (iI (zk)), .int (iI (0)), .int (iI (0))])), (u2 1, .inr (2, [.ref (u2 2), .int (iI (zl))])), (u2 2, arI cs 7 (fun _ => 1000)), (u2 3, arI cs 21 (fun _ => 0)), (u2 4, .inr (0, [.ref (u2 5)])), (u2 5, arI cs 1005 (fun _ => 0)), (u2 6, .inr (0, [.ref (u2 7)])), (u2 7, arI cs 1005 (fun _ => 0)), (u2 8, .inr (0, [.ref (u2 9)])), (u2 9, arI cs 1005 (fun _ => 0))]) hP hD [1, 2, 3, 4] rfl pk1 rfl hk1 hB hFA
  generalize H1 = H at hP hS ⊢
  have hP : va_P D vwCl [(po, .inl (cs 4, 1, .inr (.inl ov))), (kr, .inr (5, [.ref la, .ref ia, .ref na, .ref b4, .ref b6, .ref b8, .ref b10, .int (iI (((sh : Nat) : Int))), .int (iI (((it : Nat) : Int))), .int (iI (lc + 1)), .int (iI (((dy : Nat) : Int))), .int (iI (pct)), .int (iI (lr)), .int (iI (sr))])), (la, arI cs 4 lf), (ia, arQ cs 2 5 itf), (na, arQ cs 3 20 (va_up lnf (sn * 5 + tn) (some (u2 0)))), (u2 0, .inr (3, [.ref hi, .int (iI (lf sn)), .int (iI (((dy : Nat) : Int))), .int (iI (zk)), .int (iI (zl)), .ref (u2 1), .ref (u2 3), .ref (u2 4), .ref (u2 6), .ref (u2 8), .int (iI (0)), .int (iI (zk)), .int (iI (0)), .int (iI (0))])), (u2 1, .inr (2, [.ref (u2 2), .int (iI (zl))])), (u2 2, arI cs 7 (fun _ => 1000)), (u2 3, arI cs 21 (fun _ => 0)), (u2 4, .inr (0, [.ref (u2 5)])), (u2 5, arI cs 1005 (fun _ => 0)), (u2 6, .inr (0, [.ref (u2 7)])), (u2 7, arI cs 1005 (fun _ => 0)), (u2 8, .inr (0, [.ref (u2 9)])), (u2 9, arI cs 1005 (fun _ => 0))] H := hP
  have hD : va_D A [(po, .inl (cs 4, 1, .inr (.inl ov))), (kr, .inr (5, [.ref la, .ref ia, .ref na, .ref b4, .ref b6, .ref b8, .ref b10, .int (iI (((sh : Nat) : Int))), .int (iI (((it : Nat) : Int))), .int (iI (lc + 1)), .int (iI (((dy : Nat) : Int))), .int (iI (pct)), .int (iI (lr)), .int (iI (sr))])), (la, arI cs 4 lf), (ia, arQ cs 2 5 itf), (na, arQ cs 3 20 (va_up lnf (sn * 5 + tn) (some (u2 0)))), (u2 0, .inr (3, [.ref hi, .int (iI (lf sn)), .int (iI (((dy : Nat) : Int))), .int (iI (zk)), .int (iI (zl)), .ref (u2 1), .ref (u2 3), .ref (u2 4), .ref (u2 6), .ref (u2 8), .int (iI (0)), .int (iI (zk)), .int (iI (0)), .int (iI (0))])), (u2 1, .inr (2, [.ref (u2 2), .int (iI (zl))])), (u2 2, arI cs 7 (fun _ => 1000)), (u2 3, arI cs 21 (fun _ => 0)), (u2 4, .inr (0, [.ref (u2 5)])), (u2 5, arI cs 1005 (fun _ => 0)), (u2 6, .inr (0, [.ref (u2 7)])), (u2 7, arI cs 1005 (fun _ => 0)), (u2 8, .inr (0, [.ref (u2 9)])), (u2 9, arI cs 1005 (fun _ => 0))] := hD
  refine my_i2l hx hb dL_carry_12 (by omega) ?_
  refine my_last0 hx hb hK hP hD hS 0 rfl dL_carry_13 (fun H locs hP hD hS => ?_)
  have hP : va_P D vwCl [(po, .inl (cs 4, 1, .inr (.inl (vp_updL ov 0 (lI (lc + 1)))))), (kr, .inr (5, [.ref la, .ref ia, .ref na, .ref b4, .ref b6, .ref b8, .ref b10, .int (iI (((sh : Nat) : Int))), .int (iI (((it : Nat) : Int))), .int (iI (lc + 1)), .int (iI (((dy : Nat) : Int))), .int (iI (pct)), .int (iI (lr)), .int (iI (sr))])), (la, arI cs 4 lf), (ia, arQ cs 2 5 itf), (na, arQ cs 3 20 (va_up lnf (sn * 5 + tn) (some (u2 0)))), (u2 0, .inr (3, [.ref hi, .int (iI (lf sn)), .int (iI (((dy : Nat) : Int))), .int (iI (zk)), .int (iI (zl)), .ref (u2 1), .ref (u2 3), .ref (u2 4), .ref (u2 6), .ref (u2 8), .int (iI (0)), .int (iI (zk)), .int (iI (0)), .int (iI (0))])), (u2 1, .inr (2, [.ref (u2 2), .int (iI (zl))])), (u2 2, arI cs 7 (fun _ => 1000)), (u2 3, arI cs 21 (fun _ => 0)), (u2 4, .inr (0, [.ref (u2 5)])), (u2 5, arI cs 1005 (fun _ => 0)), (u2 6, .inr (0, [.ref (u2 7)])), (u2 7, arI cs 1005 (fun _ => 0)), (u2 8, .inr (0, [.ref (u2 9)])), (u2 9, arI cs 1005 (fun _ => 0))] H := hP
  have hD : va_D A [(po, .inl (cs 4, 1, .inr (.inl (vp_updL ov 0 (lI (lc + 1)))))), (kr, .inr (5, [.ref la, .ref ia, .ref na, .ref b4, .ref b6, .ref b8, .ref b10, .int (iI (((sh : Nat) : Int))), .int (iI (((it : Nat) : Int))), .int (iI (lc + 1)), .int (iI (((dy : Nat) : Int))), .int (iI (pct)), .int (iI (lr)), .int (iI (sr))])), (la, arI cs 4 lf), (ia, arQ cs 2 5 itf), (na, arQ cs 3 20 (va_up lnf (sn * 5 + tn) (some (u2 0)))), (u2 0, .inr (3, [.ref hi, .int (iI (lf sn)), .int (iI (((dy : Nat) : Int))), .int (iI (zk)), .int (iI (zl)), .ref (u2 1), .ref (u2 3), .ref (u2 4), .ref (u2 6), .ref (u2 8), .int (iI (0)), .int (iI (zk)), .int (iI (0)), .int (iI (0))])), (u2 1, .inr (2, [.ref (u2 2), .int (iI (zl))])), (u2 2, arI cs 7 (fun _ => 1000)), (u2 3, arI cs 21 (fun _ => 0)), (u2 4, .inr (0, [.ref (u2 5)])), (u2 5, arI cs 1005 (fun _ => 0)), (u2 6, .inr (0, [.ref (u2 7)])), (u2 7, arI cs 1005 (fun _ => 0)), (u2 8, .inr (0, [.ref (u2 9)])), (u2 9, arI cs 1005 (fun _ => 0))] := hD
  refine lv_goto (tgt := 29) hx hb dL_carry_14 (by decide) ?_
  refine lv_iconst (v := iI (0)) hx hb dL_carry_29 rfl ?_
  subst hAe
  refine W.widen (k := 12) (n := 3074) (by omega) (by omega) ?_
  have hres : iI (0) = iI (0) := congrArg iI (by
      rfl)
  exact W.iret hx hb hr (fun t ht hW => ⟨⟨_, (fun k => ([u2 0, u2 1, u2 2, u2 3, u2 4, u2 5, u2 6, u2 7, u2 8, u2 9] : List Nat).getD k 0), rfl, hres, by show va_P D vwCl _ t.heap; rw [ht]; exact hP, hD⟩, hS.F ht⟩) hS.2.2 dL_carry_30
